/-! BellTable: decode rows, links, walks from cut to cut (printed by wip/gen) -/
theorem dX11_isRinger_0 : decode cX11_isRinger 0 = .ok (.iload_n 1, 1) := by decide +kernel
theorem dX11_isRinger_1 : decode cX11_isRinger 1 = .ok (.ifCond .lt 15, 3) := by decide +kernel
theorem dX11_isRinger_4 : decode cX11_isRinger 4 = .ok (.iload_n 1, 1) := by decide +kernel
theorem dX11_isRinger_5 : decode cX11_isRinger 5 = .ok (.aload_n 0, 1) := by decide +kernel
theorem dX11_isRinger_6 : decode cX11_isRinger 6 = .ok (.getfield 93, 3) := by decide +kernel
theorem dX11_isRinger_9 : decode cX11_isRinger 9 = .ok (.if_icmp .ge 7, 3) := by decide +kernel
theorem dX11_isRinger_12 : decode cX11_isRinger 12 = .ok (.iconst 1, 1) := by decide +kernel
theorem dX11_isRinger_13 : decode cX11_isRinger 13 = .ok (.goto 4, 3) := by decide +kernel
theorem dX11_isRinger_16 : decode cX11_isRinger 16 = .ok (.iconst 0, 1) := by decide +kernel
theorem dX11_isRinger_17 : decode cX11_isRinger 17 = .ok (.ireturn, 1) := by decide +kernel
theorem dX11_canHelp_0 : decode cX11_canHelp 0 = .ok (.aload_n 0, 1) := by decide +kernel
theorem dX11_canHelp_1 : decode cX11_canHelp 1 = .ok (.iload_n 1, 1) := by decide +kernel
theorem dX11_canHelp_2 : decode cX11_canHelp 2 = .ok (.invokevirtual 167, 3) := by decide +kernel
theorem dX11_canHelp_5 : decode cX11_canHelp 5 = .ok (.ifCond .eq 16, 3) := by decide +kernel
theorem dX11_canHelp_8 : decode cX11_canHelp 8 = .ok (.aload_n 0, 1) := by decide +kernel
theorem dX11_canHelp_9 : decode cX11_canHelp 9 = .ok (.getfield 89, 3) := by decide +kernel
theorem dX11_canHelp_12 : decode cX11_canHelp 12 = .ok (.iload_n 1, 1) := by decide +kernel
theorem dX11_canHelp_13 : decode cX11_canHelp 13 = .ok (.baload, 1) := by decide +kernel
theorem dX11_canHelp_14 : decode cX11_canHelp 14 = .ok (.ifCond .ne 7, 3) := by decide +kernel
theorem dX11_canHelp_17 : decode cX11_canHelp 17 = .ok (.iconst 1, 1) := by decide +kernel
theorem dX11_canHelp_18 : decode cX11_canHelp 18 = .ok (.goto 4, 3) := by decide +kernel
theorem dX11_canHelp_21 : decode cX11_canHelp 21 = .ok (.iconst 0, 1) := by decide +kernel
theorem dX11_canHelp_22 : decode cX11_canHelp 22 = .ok (.ireturn, 1) := by decide +kernel
theorem dX11_standAllBut_0 : decode cX11_standAllBut 0 = .ok (.aload_n 0, 1) := by decide +kernel
theorem dX11_standAllBut_1 : decode cX11_standAllBut 1 = .ok (.getfield 53, 3) := by decide +kernel
theorem dX11_standAllBut_4 : decode cX11_standAllBut 4 = .ok (.iconst 0, 1) := by decide +kernel
theorem dX11_standAllBut_5 : decode cX11_standAllBut 5 = .ok (.putfield 308, 3) := by decide +kernel
theorem dX11_standAllBut_8 : decode cX11_standAllBut 8 = .ok (.iconst 0, 1) := by decide +kernel
theorem dX11_standAllBut_9 : decode cX11_standAllBut 9 = .ok (.istore_n 2, 1) := by decide +kernel
theorem dX11_standAllBut_10 : decode cX11_standAllBut 10 = .ok (.iload_n 2, 1) := by decide +kernel
theorem dX11_standAllBut_11 : decode cX11_standAllBut 11 = .ok (.aload_n 0, 1) := by decide +kernel
theorem dX11_standAllBut_12 : decode cX11_standAllBut 12 = .ok (.getfield 93, 3) := by decide +kernel
theorem dX11_standAllBut_15 : decode cX11_standAllBut 15 = .ok (.if_icmp .ge 31, 3) := by decide +kernel
theorem dX11_standAllBut_18 : decode cX11_standAllBut 18 = .ok (.aload_n 0, 1) := by decide +kernel
theorem dX11_standAllBut_19 : decode cX11_standAllBut 19 = .ok (.getfield 89, 3) := by decide +kernel
theorem dX11_standAllBut_22 : decode cX11_standAllBut 22 = .ok (.iload_n 2, 1) := by decide +kernel
theorem dX11_standAllBut_23 : decode cX11_standAllBut 23 = .ok (.baload, 1) := by decide +kernel
theorem dX11_standAllBut_24 : decode cX11_standAllBut 24 = .ok (.ifCond .ne 16, 3) := by decide +kernel
theorem dX11_standAllBut_27 : decode cX11_standAllBut 27 = .ok (.iload_n 2, 1) := by decide +kernel
theorem dX11_standAllBut_28 : decode cX11_standAllBut 28 = .ok (.iload_n 1, 1) := by decide +kernel
theorem dX11_standAllBut_29 : decode cX11_standAllBut 29 = .ok (.if_icmp .eq 11, 3) := by decide +kernel
theorem dX11_standAllBut_32 : decode cX11_standAllBut 32 = .ok (.aload_n 0, 1) := by decide +kernel
theorem dX11_standAllBut_33 : decode cX11_standAllBut 33 = .ok (.getfield 53, 3) := by decide +kernel
theorem dX11_standAllBut_36 : decode cX11_standAllBut 36 = .ok (.iload_n 2, 1) := by decide +kernel
theorem dX11_standAllBut_37 : decode cX11_standAllBut 37 = .ok (.invokevirtual 311, 3) := by decide +kernel
theorem dX11_standAllBut_40 : decode cX11_standAllBut 40 = .ok (.iinc 2 1, 3) := by decide +kernel
theorem dX11_standAllBut_43 : decode cX11_standAllBut 43 = .ok (.goto (-33), 3) := by decide +kernel
theorem dX11_standAllBut_46 : decode cX11_standAllBut 46 = .ok (.return_, 1) := by decide +kernel
theorem dX11_countMissing_0 : decode cX11_countMissing 0 = .ok (.iconst 0, 1) := by decide +kernel
theorem dX11_countMissing_1 : decode cX11_countMissing 1 = .ok (.istore_n 1, 1) := by decide +kernel
theorem dX11_countMissing_2 : decode cX11_countMissing 2 = .ok (.iconst 0, 1) := by decide +kernel
theorem dX11_countMissing_3 : decode cX11_countMissing 3 = .ok (.istore_n 2, 1) := by decide +kernel
theorem dX11_countMissing_4 : decode cX11_countMissing 4 = .ok (.iload_n 2, 1) := by decide +kernel
theorem dX11_countMissing_5 : decode cX11_countMissing 5 = .ok (.aload_n 0, 1) := by decide +kernel
theorem dX11_countMissing_6 : decode cX11_countMissing 6 = .ok (.getfield 93, 3) := by decide +kernel
theorem dX11_countMissing_9 : decode cX11_countMissing 9 = .ok (.if_icmp .ge 26, 3) := by decide +kernel
theorem dX11_countMissing_12 : decode cX11_countMissing 12 = .ok (.iload_n 1, 1) := by decide +kernel
theorem dX11_countMissing_13 : decode cX11_countMissing 13 = .ok (.aload_n 0, 1) := by decide +kernel
theorem dX11_countMissing_14 : decode cX11_countMissing 14 = .ok (.getfield 89, 3) := by decide +kernel
theorem dX11_countMissing_17 : decode cX11_countMissing 17 = .ok (.iload_n 2, 1) := by decide +kernel
theorem dX11_countMissing_18 : decode cX11_countMissing 18 = .ok (.baload, 1) := by decide +kernel
theorem dX11_countMissing_19 : decode cX11_countMissing 19 = .ok (.ifCond .eq 7, 3) := by decide +kernel
theorem dX11_countMissing_22 : decode cX11_countMissing 22 = .ok (.iconst 1, 1) := by decide +kernel
theorem dX11_countMissing_23 : decode cX11_countMissing 23 = .ok (.goto 4, 3) := by decide +kernel
theorem dX11_countMissing_26 : decode cX11_countMissing 26 = .ok (.iconst 0, 1) := by decide +kernel
theorem dX11_countMissing_27 : decode cX11_countMissing 27 = .ok (.iadd, 1) := by decide +kernel
theorem dX11_countMissing_28 : decode cX11_countMissing 28 = .ok (.istore_n 1, 1) := by decide +kernel
theorem dX11_countMissing_29 : decode cX11_countMissing 29 = .ok (.iinc 2 1, 3) := by decide +kernel
theorem dX11_countMissing_32 : decode cX11_countMissing 32 = .ok (.goto (-28), 3) := by decide +kernel
theorem dX11_countMissing_35 : decode cX11_countMissing 35 = .ok (.iload_n 1, 1) := by decide +kernel
theorem dX11_countMissing_36 : decode cX11_countMissing 36 = .ok (.ireturn, 1) := by decide +kernel
theorem dX11_countWithBell_0 : decode cX11_countWithBell 0 = .ok (.iconst 0, 1) := by decide +kernel
theorem dX11_countWithBell_1 : decode cX11_countWithBell 1 = .ok (.istore_n 1, 1) := by decide +kernel
theorem dX11_countWithBell_2 : decode cX11_countWithBell 2 = .ok (.iconst 0, 1) := by decide +kernel
theorem dX11_countWithBell_3 : decode cX11_countWithBell 3 = .ok (.istore_n 2, 1) := by decide +kernel
theorem dX11_countWithBell_4 : decode cX11_countWithBell 4 = .ok (.aload_n 0, 1) := by decide +kernel
theorem dX11_countWithBell_5 : decode cX11_countWithBell 5 = .ok (.getfield 53, 3) := by decide +kernel
theorem dX11_countWithBell_8 : decode cX11_countWithBell 8 = .ok (.getfield 199, 3) := by decide +kernel
theorem dX11_countWithBell_11 : decode cX11_countWithBell 11 = .ok (.ifCond .eq 38, 3) := by decide +kernel
theorem dX11_countWithBell_14 : decode cX11_countWithBell 14 = .ok (.iload_n 2, 1) := by decide +kernel
theorem dX11_countWithBell_15 : decode cX11_countWithBell 15 = .ok (.aload_n 0, 1) := by decide +kernel
theorem dX11_countWithBell_16 : decode cX11_countWithBell 16 = .ok (.getfield 93, 3) := by decide +kernel
theorem dX11_countWithBell_19 : decode cX11_countWithBell 19 = .ok (.if_icmp .ge 30, 3) := by decide +kernel
theorem dX11_countWithBell_22 : decode cX11_countWithBell 22 = .ok (.iload_n 1, 1) := by decide +kernel
theorem dX11_countWithBell_23 : decode cX11_countWithBell 23 = .ok (.aload_n 0, 1) := by decide +kernel
theorem dX11_countWithBell_24 : decode cX11_countWithBell 24 = .ok (.getfield 53, 3) := by decide +kernel
theorem dX11_countWithBell_27 : decode cX11_countWithBell 27 = .ok (.iload_n 2, 1) := by decide +kernel
theorem dX11_countWithBell_28 : decode cX11_countWithBell 28 = .ok (.invokevirtual 205, 3) := by decide +kernel
theorem dX11_countWithBell_31 : decode cX11_countWithBell 31 = .ok (.lconst 0, 1) := by decide +kernel
theorem dX11_countWithBell_32 : decode cX11_countWithBell 32 = .ok (.lcmp, 1) := by decide +kernel
theorem dX11_countWithBell_33 : decode cX11_countWithBell 33 = .ok (.ifCond .eq 7, 3) := by decide +kernel
theorem dX11_countWithBell_36 : decode cX11_countWithBell 36 = .ok (.iconst 1, 1) := by decide +kernel
theorem dX11_countWithBell_37 : decode cX11_countWithBell 37 = .ok (.goto 4, 3) := by decide +kernel
theorem dX11_countWithBell_40 : decode cX11_countWithBell 40 = .ok (.iconst 0, 1) := by decide +kernel
theorem dX11_countWithBell_41 : decode cX11_countWithBell 41 = .ok (.iadd, 1) := by decide +kernel
theorem dX11_countWithBell_42 : decode cX11_countWithBell 42 = .ok (.istore_n 1, 1) := by decide +kernel
theorem dX11_countWithBell_43 : decode cX11_countWithBell 43 = .ok (.iinc 2 1, 3) := by decide +kernel
theorem dX11_countWithBell_46 : decode cX11_countWithBell 46 = .ok (.goto (-42), 3) := by decide +kernel
theorem dX11_countWithBell_49 : decode cX11_countWithBell 49 = .ok (.iload_n 1, 1) := by decide +kernel
theorem dX11_countWithBell_50 : decode cX11_countWithBell 50 = .ok (.ireturn, 1) := by decide +kernel
theorem dX11_feed_0 : decode cX11_feed 0 = .ok (.aload_n 0, 1) := by decide +kernel
theorem dX11_feed_1 : decode cX11_feed 1 = .ok (.getfield 10, 3) := by decide +kernel
theorem dX11_feed_4 : decode cX11_feed 4 = .ok (.getfield 97, 3) := by decide +kernel
theorem dX11_feed_7 : decode cX11_feed 7 = .ok (.bipush 20, 2) := by decide +kernel
theorem dX11_feed_9 : decode cX11_feed 9 = .ok (.iadd, 1) := by decide +kernel
theorem dX11_feed_10 : decode cX11_feed 10 = .ok (.sipush 1200, 3) := by decide +kernel
theorem dX11_feed_13 : decode cX11_feed 13 = .ok (.if_icmp .le 6, 3) := by decide +kernel
theorem dX11_feed_16 : decode cX11_feed 16 = .ok (.bipush (-3), 2) := by decide +kernel
theorem dX11_feed_18 : decode cX11_feed 18 = .ok (.ireturn, 1) := by decide +kernel
theorem dX11_feed_19 : decode cX11_feed 19 = .ok (.aload_n 0, 1) := by decide +kernel
theorem dX11_feed_20 : decode cX11_feed 20 = .ok (.getfield 10, 3) := by decide +kernel
theorem dX11_feed_23 : decode cX11_feed 23 = .ok (.iload_n 1, 1) := by decide +kernel
theorem dX11_feed_24 : decode cX11_feed 24 = .ok (.invokevirtual 100, 3) := by decide +kernel
theorem dX11_feed_27 : decode cX11_feed 27 = .ok (.aload_n 0, 1) := by decide +kernel
theorem dX11_feed_28 : decode cX11_feed 28 = .ok (.getfield 10, 3) := by decide +kernel
theorem dX11_feed_31 : decode cX11_feed 31 = .ok (.iload_n 2, 1) := by decide +kernel
theorem dX11_feed_32 : decode cX11_feed 32 = .ok (.invokevirtual 100, 3) := by decide +kernel
theorem dX11_feed_35 : decode cX11_feed 35 = .ok (.aload_n 0, 1) := by decide +kernel
theorem dX11_feed_36 : decode cX11_feed 36 = .ok (.getfield 10, 3) := by decide +kernel
theorem dX11_feed_39 : decode cX11_feed 39 = .ok (.iload_n 3, 1) := by decide +kernel
theorem dX11_feed_40 : decode cX11_feed 40 = .ok (.invokevirtual 100, 3) := by decide +kernel
theorem dX11_feed_43 : decode cX11_feed 43 = .ok (.aload_n 0, 1) := by decide +kernel
theorem dX11_feed_44 : decode cX11_feed 44 = .ok (.getfield 10, 3) := by decide +kernel
theorem dX11_feed_47 : decode cX11_feed 47 = .ok (.iload 4, 2) := by decide +kernel
theorem dX11_feed_49 : decode cX11_feed 49 = .ok (.invokevirtual 100, 3) := by decide +kernel
theorem dX11_feed_52 : decode cX11_feed 52 = .ok (.aload_n 0, 1) := by decide +kernel
theorem dX11_feed_53 : decode cX11_feed 53 = .ok (.getfield 10, 3) := by decide +kernel
theorem dX11_feed_56 : decode cX11_feed 56 = .ok (.iload 5, 2) := by decide +kernel
theorem dX11_feed_58 : decode cX11_feed 58 = .ok (.invokevirtual 100, 3) := by decide +kernel
theorem dX11_feed_61 : decode cX11_feed 61 = .ok (.aload_n 0, 1) := by decide +kernel
theorem dX11_feed_62 : decode cX11_feed 62 = .ok (.getfield 10, 3) := by decide +kernel
theorem dX11_feed_65 : decode cX11_feed 65 = .ok (.getfield 97, 3) := by decide +kernel
theorem dX11_feed_68 : decode cX11_feed 68 = .ok (.ireturn, 1) := by decide +kernel
theorem dX11_end_0 : decode cX11_end 0 = .ok (.iload_n 1, 1) := by decide +kernel
theorem dX11_end_1 : decode cX11_end 1 = .ok (.ifCond .lt 14, 3) := by decide +kernel
theorem dX11_end_4 : decode cX11_end 4 = .ok (.iload_n 1, 1) := by decide +kernel
theorem dX11_end_5 : decode cX11_end 5 = .ok (.aload_n 0, 1) := by decide +kernel
theorem dX11_end_6 : decode cX11_end 6 = .ok (.getfield 10, 3) := by decide +kernel
theorem dX11_end_9 : decode cX11_end 9 = .ok (.getfield 97, 3) := by decide +kernel
theorem dX11_end_12 : decode cX11_end 12 = .ok (.if_icmp .le 5, 3) := by decide +kernel
theorem dX11_end_15 : decode cX11_end 15 = .ok (.iconst (-1), 1) := by decide +kernel
theorem dX11_end_16 : decode cX11_end 16 = .ok (.ireturn, 1) := by decide +kernel
theorem dX11_end_17 : decode cX11_end 17 = .ok (.aload_n 0, 1) := by decide +kernel
theorem dX11_end_18 : decode cX11_end 18 = .ok (.getfield 10, 3) := by decide +kernel
theorem dX11_end_21 : decode cX11_end 21 = .ok (.iload_n 1, 1) := by decide +kernel
theorem dX11_end_22 : decode cX11_end 22 = .ok (.putfield 97, 3) := by decide +kernel
theorem dX11_end_25 : decode cX11_end 25 = .ok (.iload_n 1, 1) := by decide +kernel
theorem dX11_end_26 : decode cX11_end 26 = .ok (.ireturn, 1) := by decide +kernel
theorem dX11_score_0 : decode cX11_score 0 = .ok (.aload_n 0, 1) := by decide +kernel
theorem dX11_score_1 : decode cX11_score 1 = .ok (.getfield 21, 3) := by decide +kernel
theorem dX11_score_4 : decode cX11_score 4 = .ok (.iconst 0, 1) := by decide +kernel
theorem dX11_score_5 : decode cX11_score 5 = .ok (.invokevirtual 104, 3) := by decide +kernel
theorem dX11_score_8 : decode cX11_score 8 = .ok (.istore_n 1, 1) := by decide +kernel
theorem dX11_score_9 : decode cX11_score 9 = .ok (.aload_n 0, 1) := by decide +kernel
theorem dX11_score_10 : decode cX11_score 10 = .ok (.getfield 10, 3) := by decide +kernel
theorem dX11_score_13 : decode cX11_score 13 = .ok (.iconst 0, 1) := by decide +kernel
theorem dX11_score_14 : decode cX11_score 14 = .ok (.putfield 97, 3) := by decide +kernel
theorem dX11_score_17 : decode cX11_score 17 = .ok (.iload_n 1, 1) := by decide +kernel
theorem dX11_score_18 : decode cX11_score 18 = .ok (.ifCond .ne 5, 3) := by decide +kernel
theorem dX11_score_21 : decode cX11_score 21 = .ok (.iconst (-1), 1) := by decide +kernel
theorem dX11_score_22 : decode cX11_score 22 = .ok (.ireturn, 1) := by decide +kernel
theorem dX11_score_23 : decode cX11_score 23 = .ok (.aload_n 0, 1) := by decide +kernel
theorem dX11_score_24 : decode cX11_score 24 = .ok (.getfield 28, 3) := by decide +kernel
theorem dX11_score_27 : decode cX11_score 27 = .ok (.aload_n 0, 1) := by decide +kernel
theorem dX11_score_28 : decode cX11_score 28 = .ok (.getfield 21, 3) := by decide +kernel
theorem dX11_score_31 : decode cX11_score 31 = .ok (.getfield 108, 3) := by decide +kernel
theorem dX11_score_34 : decode cX11_score 34 = .ok (.invokevirtual 111, 3) := by decide +kernel
theorem dX11_score_37 : decode cX11_score 37 = .ok (.aload_n 0, 1) := by decide +kernel
theorem dX11_score_38 : decode cX11_score 38 = .ok (.getfield 71, 3) := by decide +kernel
theorem dX11_score_41 : decode cX11_score 41 = .ok (.invokevirtual 114, 3) := by decide +kernel
theorem dX11_score_44 : decode cX11_score 44 = .ok (.aload_n 0, 1) := by decide +kernel
theorem dX11_score_45 : decode cX11_score 45 = .ok (.getfield 44, 3) := by decide +kernel
theorem dX11_score_48 : decode cX11_score 48 = .ok (.invokevirtual 117, 3) := by decide +kernel
theorem dX11_score_51 : decode cX11_score 51 = .ok (.aload_n 0, 1) := by decide +kernel
theorem dX11_score_52 : decode cX11_score 52 = .ok (.getfield 53, 3) := by decide +kernel
theorem dX11_score_55 : decode cX11_score 55 = .ok (.invokevirtual 120, 3) := by decide +kernel
theorem dX11_score_58 : decode cX11_score 58 = .ok (.aload_n 0, 1) := by decide +kernel
theorem dX11_score_59 : decode cX11_score 59 = .ok (.getfield 62, 3) := by decide +kernel
theorem dX11_score_62 : decode cX11_score 62 = .ok (.invokevirtual 123, 3) := by decide +kernel
theorem dX11_score_65 : decode cX11_score 65 = .ok (.aload_n 0, 1) := by decide +kernel
theorem dX11_score_66 : decode cX11_score 66 = .ok (.getfield 78, 3) := by decide +kernel
theorem dX11_score_69 : decode cX11_score 69 = .ok (.invokevirtual 124, 3) := by decide +kernel
theorem dX11_score_72 : decode cX11_score 72 = .ok (.aload_n 0, 1) := by decide +kernel
theorem dX11_score_73 : decode cX11_score 73 = .ok (.getfield 85, 3) := by decide +kernel
theorem dX11_score_76 : decode cX11_score 76 = .ok (.invokevirtual 125, 3) := by decide +kernel
theorem dX11_score_79 : decode cX11_score 79 = .ok (.aload_n 0, 1) := by decide +kernel
theorem dX11_score_80 : decode cX11_score 80 = .ok (.getfield 28, 3) := by decide +kernel
theorem dX11_score_83 : decode cX11_score 83 = .ok (.getfield 128, 3) := by decide +kernel
theorem dX11_score_86 : decode cX11_score 86 = .ok (.ireturn, 1) := by decide +kernel
theorem dX11_manners_0 : decode cX11_manners 0 = .ok (.aload_n 0, 1) := by decide +kernel
theorem dX11_manners_1 : decode cX11_manners 1 = .ok (.getfield 35, 3) := by decide +kernel
theorem dX11_manners_4 : decode cX11_manners 4 = .ok (.aload_n 0, 1) := by decide +kernel
theorem dX11_manners_5 : decode cX11_manners 5 = .ok (.getfield 10, 3) := by decide +kernel
theorem dX11_manners_8 : decode cX11_manners 8 = .ok (.invokevirtual 129, 3) := by decide +kernel
theorem dX11_manners_11 : decode cX11_manners 11 = .ok (.istore_n 1, 1) := by decide +kernel
theorem dX11_manners_12 : decode cX11_manners 12 = .ok (.aload_n 0, 1) := by decide +kernel
theorem dX11_manners_13 : decode cX11_manners 13 = .ok (.getfield 10, 3) := by decide +kernel
theorem dX11_manners_16 : decode cX11_manners 16 = .ok (.iconst 0, 1) := by decide +kernel
theorem dX11_manners_17 : decode cX11_manners 17 = .ok (.putfield 97, 3) := by decide +kernel
theorem dX11_manners_20 : decode cX11_manners 20 = .ok (.iload_n 1, 1) := by decide +kernel
theorem dX11_manners_21 : decode cX11_manners 21 = .ok (.iconst (-1), 1) := by decide +kernel
theorem dX11_manners_22 : decode cX11_manners 22 = .ok (.if_icmp .ne 5, 3) := by decide +kernel
theorem dX11_manners_25 : decode cX11_manners 25 = .ok (.iconst (-1), 1) := by decide +kernel
theorem dX11_manners_26 : decode cX11_manners 26 = .ok (.ireturn, 1) := by decide +kernel
theorem dX11_manners_27 : decode cX11_manners 27 = .ok (.aload_n 0, 1) := by decide +kernel
theorem dX11_manners_28 : decode cX11_manners 28 = .ok (.getfield 44, 3) := by decide +kernel
theorem dX11_manners_31 : decode cX11_manners 31 = .ok (.invokevirtual 117, 3) := by decide +kernel
theorem dX11_manners_34 : decode cX11_manners 34 = .ok (.aload_n 0, 1) := by decide +kernel
theorem dX11_manners_35 : decode cX11_manners 35 = .ok (.getfield 53, 3) := by decide +kernel
theorem dX11_manners_38 : decode cX11_manners 38 = .ok (.invokevirtual 132, 3) := by decide +kernel
theorem dX11_manners_41 : decode cX11_manners 41 = .ok (.iload_n 1, 1) := by decide +kernel
theorem dX11_manners_42 : decode cX11_manners 42 = .ok (.ireturn, 1) := by decide +kernel
theorem dX11_fault_0 : decode cX11_fault 0 = .ok (.iload_n 1, 1) := by decide +kernel
theorem dX11_fault_1 : decode cX11_fault 1 = .ok (.ifCond .ne 11, 3) := by decide +kernel
theorem dX11_fault_4 : decode cX11_fault 4 = .ok (.aload_n 0, 1) := by decide +kernel
theorem dX11_fault_5 : decode cX11_fault 5 = .ok (.getfield 10, 3) := by decide +kernel
theorem dX11_fault_8 : decode cX11_fault 8 = .ok (.getfield 135, 3) := by decide +kernel
theorem dX11_fault_11 : decode cX11_fault 11 = .ok (.ireturn, 1) := by decide +kernel
theorem dX11_fault_12 : decode cX11_fault 12 = .ok (.iload_n 1, 1) := by decide +kernel
theorem dX11_fault_13 : decode cX11_fault 13 = .ok (.iconst 1, 1) := by decide +kernel
theorem dX11_fault_14 : decode cX11_fault 14 = .ok (.if_icmp .ne 13, 3) := by decide +kernel
theorem dX11_fault_17 : decode cX11_fault 17 = .ok (.aload_n 0, 1) := by decide +kernel
theorem dX11_fault_18 : decode cX11_fault 18 = .ok (.getfield 10, 3) := by decide +kernel
theorem dX11_fault_21 : decode cX11_fault 21 = .ok (.getfield 138, 3) := by decide +kernel
theorem dX11_fault_24 : decode cX11_fault 24 = .ok (.goto 4, 3) := by decide +kernel
theorem dX11_fault_27 : decode cX11_fault 27 = .ok (.iconst (-1), 1) := by decide +kernel
theorem dX11_fault_28 : decode cX11_fault 28 = .ok (.ireturn, 1) := by decide +kernel
theorem dX11_rule_0 : decode cX11_rule 0 = .ok (.iload_n 1, 1) := by decide +kernel
theorem dX11_rule_1 : decode cX11_rule 1 = .ok (.ifCond .lt 8, 3) := by decide +kernel
theorem dX11_rule_4 : decode cX11_rule 4 = .ok (.iload_n 1, 1) := by decide +kernel
theorem dX11_rule_5 : decode cX11_rule 5 = .ok (.iconst 4, 1) := by decide +kernel
theorem dX11_rule_6 : decode cX11_rule 6 = .ok (.if_icmp .lt 5, 3) := by decide +kernel
theorem dX11_rule_9 : decode cX11_rule 9 = .ok (.iconst (-1), 1) := by decide +kernel
theorem dX11_rule_10 : decode cX11_rule 10 = .ok (.ireturn, 1) := by decide +kernel
theorem dX11_rule_11 : decode cX11_rule 11 = .ok (.aload_n 0, 1) := by decide +kernel
theorem dX11_rule_12 : decode cX11_rule 12 = .ok (.getfield 35, 3) := by decide +kernel
theorem dX11_rule_15 : decode cX11_rule 15 = .ok (.getfield 141, 3) := by decide +kernel
theorem dX11_rule_18 : decode cX11_rule 18 = .ok (.iload_n 1, 1) := by decide +kernel
theorem dX11_rule_19 : decode cX11_rule 19 = .ok (.iaload, 1) := by decide +kernel
theorem dX11_rule_20 : decode cX11_rule 20 = .ok (.ireturn, 1) := by decide +kernel
theorem dX11_stroke_0 : decode cX11_stroke 0 = .ok (.aload_n 0, 1) := by decide +kernel
theorem dX11_stroke_1 : decode cX11_stroke 1 = .ok (.getfield 28, 3) := by decide +kernel
theorem dX11_stroke_4 : decode cX11_stroke 4 = .ok (.iload_n 1, 1) := by decide +kernel
theorem dX11_stroke_5 : decode cX11_stroke 5 = .ok (.invokevirtual 145, 3) := by decide +kernel
theorem dX11_stroke_8 : decode cX11_stroke 8 = .ok (.ifCond .ne 5, 3) := by decide +kernel
theorem dX11_stroke_11 : decode cX11_stroke 11 = .ok (.iconst (-1), 1) := by decide +kernel
theorem dX11_stroke_12 : decode cX11_stroke 12 = .ok (.ireturn, 1) := by decide +kernel
theorem dX11_stroke_13 : decode cX11_stroke 13 = .ok (.iload_n 2, 1) := by decide +kernel
theorem dX11_stroke_14 : decode cX11_stroke 14 = .ok (.tableswitch 84 0 4 #[34, 44, 54, 64, 74], 34) := by decide +kernel
theorem dX11_stroke_48 : decode cX11_stroke 48 = .ok (.aload_n 0, 1) := by decide +kernel
theorem dX11_stroke_49 : decode cX11_stroke 49 = .ok (.getfield 28, 3) := by decide +kernel
theorem dX11_stroke_52 : decode cX11_stroke 52 = .ok (.getfield 149, 3) := by decide +kernel
theorem dX11_stroke_55 : decode cX11_stroke 55 = .ok (.iload_n 1, 1) := by decide +kernel
theorem dX11_stroke_56 : decode cX11_stroke 56 = .ok (.iaload, 1) := by decide +kernel
theorem dX11_stroke_57 : decode cX11_stroke 57 = .ok (.ireturn, 1) := by decide +kernel
theorem dX11_stroke_58 : decode cX11_stroke 58 = .ok (.aload_n 0, 1) := by decide +kernel
theorem dX11_stroke_59 : decode cX11_stroke 59 = .ok (.getfield 28, 3) := by decide +kernel
theorem dX11_stroke_62 : decode cX11_stroke 62 = .ok (.getfield 152, 3) := by decide +kernel
theorem dX11_stroke_65 : decode cX11_stroke 65 = .ok (.iload_n 1, 1) := by decide +kernel
theorem dX11_stroke_66 : decode cX11_stroke 66 = .ok (.iaload, 1) := by decide +kernel
theorem dX11_stroke_67 : decode cX11_stroke 67 = .ok (.ireturn, 1) := by decide +kernel
theorem dX11_stroke_68 : decode cX11_stroke 68 = .ok (.aload_n 0, 1) := by decide +kernel
theorem dX11_stroke_69 : decode cX11_stroke 69 = .ok (.getfield 28, 3) := by decide +kernel
theorem dX11_stroke_72 : decode cX11_stroke 72 = .ok (.getfield 155, 3) := by decide +kernel
theorem dX11_stroke_75 : decode cX11_stroke 75 = .ok (.iload_n 1, 1) := by decide +kernel
theorem dX11_stroke_76 : decode cX11_stroke 76 = .ok (.iaload, 1) := by decide +kernel
theorem dX11_stroke_77 : decode cX11_stroke 77 = .ok (.ireturn, 1) := by decide +kernel
theorem dX11_stroke_78 : decode cX11_stroke 78 = .ok (.aload_n 0, 1) := by decide +kernel
theorem dX11_stroke_79 : decode cX11_stroke 79 = .ok (.getfield 28, 3) := by decide +kernel
theorem dX11_stroke_82 : decode cX11_stroke 82 = .ok (.getfield 158, 3) := by decide +kernel
theorem dX11_stroke_85 : decode cX11_stroke 85 = .ok (.iload_n 1, 1) := by decide +kernel
theorem dX11_stroke_86 : decode cX11_stroke 86 = .ok (.iaload, 1) := by decide +kernel
theorem dX11_stroke_87 : decode cX11_stroke 87 = .ok (.ireturn, 1) := by decide +kernel
theorem dX11_stroke_88 : decode cX11_stroke 88 = .ok (.aload_n 0, 1) := by decide +kernel
theorem dX11_stroke_89 : decode cX11_stroke 89 = .ok (.getfield 71, 3) := by decide +kernel
theorem dX11_stroke_92 : decode cX11_stroke 92 = .ok (.getfield 161, 3) := by decide +kernel
theorem dX11_stroke_95 : decode cX11_stroke 95 = .ok (.iload_n 1, 1) := by decide +kernel
theorem dX11_stroke_96 : decode cX11_stroke 96 = .ok (.iaload, 1) := by decide +kernel
theorem dX11_stroke_97 : decode cX11_stroke 97 = .ok (.ireturn, 1) := by decide +kernel
theorem dX11_stroke_98 : decode cX11_stroke 98 = .ok (.iconst (-1), 1) := by decide +kernel
theorem dX11_stroke_99 : decode cX11_stroke 99 = .ok (.ireturn, 1) := by decide +kernel
theorem dX11_ringers_0 : decode cX11_ringers 0 = .ok (.iload_n 1, 1) := by decide +kernel
theorem dX11_ringers_1 : decode cX11_ringers 1 = .ok (.iconst 1, 1) := by decide +kernel
theorem dX11_ringers_2 : decode cX11_ringers 2 = .ok (.if_icmp .lt 9, 3) := by decide +kernel
theorem dX11_ringers_5 : decode cX11_ringers 5 = .ok (.iload_n 1, 1) := by decide +kernel
theorem dX11_ringers_6 : decode cX11_ringers 6 = .ok (.bipush 12, 2) := by decide +kernel
theorem dX11_ringers_8 : decode cX11_ringers 8 = .ok (.if_icmp .le 6, 3) := by decide +kernel
theorem dX11_ringers_11 : decode cX11_ringers 11 = .ok (.bipush (-2), 2) := by decide +kernel
theorem dX11_ringers_13 : decode cX11_ringers 13 = .ok (.ireturn, 1) := by decide +kernel
theorem dX11_ringers_14 : decode cX11_ringers 14 = .ok (.aload_n 0, 1) := by decide +kernel
theorem dX11_ringers_15 : decode cX11_ringers 15 = .ok (.getfield 93, 3) := by decide +kernel
theorem dX11_ringers_18 : decode cX11_ringers 18 = .ok (.istore_n 2, 1) := by decide +kernel
theorem dX11_ringers_19 : decode cX11_ringers 19 = .ok (.aload_n 0, 1) := by decide +kernel
theorem dX11_ringers_20 : decode cX11_ringers 20 = .ok (.iload_n 1, 1) := by decide +kernel
theorem dX11_ringers_21 : decode cX11_ringers 21 = .ok (.putfield 93, 3) := by decide +kernel
theorem dX11_ringers_24 : decode cX11_ringers 24 = .ok (.iconst 0, 1) := by decide +kernel
theorem dX11_ringers_25 : decode cX11_ringers 25 = .ok (.istore_n 3, 1) := by decide +kernel
theorem dX11_ringers_26 : decode cX11_ringers 26 = .ok (.iload_n 3, 1) := by decide +kernel
theorem dX11_ringers_27 : decode cX11_ringers 27 = .ok (.bipush 12, 2) := by decide +kernel
theorem dX11_ringers_29 : decode cX11_ringers 29 = .ok (.if_icmp .ge 16, 3) := by decide +kernel
theorem dX11_ringers_32 : decode cX11_ringers 32 = .ok (.aload_n 0, 1) := by decide +kernel
theorem dX11_ringers_33 : decode cX11_ringers 33 = .ok (.getfield 89, 3) := by decide +kernel
theorem dX11_ringers_36 : decode cX11_ringers 36 = .ok (.iload_n 3, 1) := by decide +kernel
theorem dX11_ringers_37 : decode cX11_ringers 37 = .ok (.iconst 0, 1) := by decide +kernel
theorem dX11_ringers_38 : decode cX11_ringers 38 = .ok (.bastore, 1) := by decide +kernel
theorem dX11_ringers_39 : decode cX11_ringers 39 = .ok (.iinc 3 1, 3) := by decide +kernel
theorem dX11_ringers_42 : decode cX11_ringers 42 = .ok (.goto (-16), 3) := by decide +kernel
theorem dX11_ringers_45 : decode cX11_ringers 45 = .ok (.aload_n 0, 1) := by decide +kernel
theorem dX11_ringers_46 : decode cX11_ringers 46 = .ok (.getfield 53, 3) := by decide +kernel
theorem dX11_ringers_49 : decode cX11_ringers 49 = .ok (.invokevirtual 164, 3) := by decide +kernel
theorem dX11_ringers_52 : decode cX11_ringers 52 = .ok (.iload_n 2, 1) := by decide +kernel
theorem dX11_ringers_53 : decode cX11_ringers 53 = .ok (.ireturn, 1) := by decide +kernel
theorem dX11_absent_0 : decode cX11_absent 0 = .ok (.aload_n 0, 1) := by decide +kernel
theorem dX11_absent_1 : decode cX11_absent 1 = .ok (.iload_n 1, 1) := by decide +kernel
theorem dX11_absent_2 : decode cX11_absent 2 = .ok (.invokevirtual 167, 3) := by decide +kernel
theorem dX11_absent_5 : decode cX11_absent 5 = .ok (.ifCond .ne 6, 3) := by decide +kernel
theorem dX11_absent_8 : decode cX11_absent 8 = .ok (.bipush (-2), 2) := by decide +kernel
theorem dX11_absent_10 : decode cX11_absent 10 = .ok (.ireturn, 1) := by decide +kernel
theorem dX11_absent_11 : decode cX11_absent 11 = .ok (.aload_n 0, 1) := by decide +kernel
theorem dX11_absent_12 : decode cX11_absent 12 = .ok (.getfield 89, 3) := by decide +kernel
theorem dX11_absent_15 : decode cX11_absent 15 = .ok (.iload_n 1, 1) := by decide +kernel
theorem dX11_absent_16 : decode cX11_absent 16 = .ok (.baload, 1) := by decide +kernel
theorem dX11_absent_17 : decode cX11_absent 17 = .ok (.iload_n 2, 1) := by decide +kernel
theorem dX11_absent_18 : decode cX11_absent 18 = .ok (.if_icmp .eq 7, 3) := by decide +kernel
theorem dX11_absent_21 : decode cX11_absent 21 = .ok (.iconst 1, 1) := by decide +kernel
theorem dX11_absent_22 : decode cX11_absent 22 = .ok (.goto 4, 3) := by decide +kernel
theorem dX11_absent_25 : decode cX11_absent 25 = .ok (.iconst 0, 1) := by decide +kernel
theorem dX11_absent_26 : decode cX11_absent 26 = .ok (.istore_n 3, 1) := by decide +kernel
theorem dX11_absent_27 : decode cX11_absent 27 = .ok (.aload_n 0, 1) := by decide +kernel
theorem dX11_absent_28 : decode cX11_absent 28 = .ok (.getfield 89, 3) := by decide +kernel
theorem dX11_absent_31 : decode cX11_absent 31 = .ok (.iload_n 1, 1) := by decide +kernel
theorem dX11_absent_32 : decode cX11_absent 32 = .ok (.iload_n 2, 1) := by decide +kernel
theorem dX11_absent_33 : decode cX11_absent 33 = .ok (.bastore, 1) := by decide +kernel
theorem dX11_absent_34 : decode cX11_absent 34 = .ok (.iload_n 3, 1) := by decide +kernel
theorem dX11_absent_35 : decode cX11_absent 35 = .ok (.ifCond .eq 7, 3) := by decide +kernel
theorem dX11_absent_38 : decode cX11_absent 38 = .ok (.iconst 1, 1) := by decide +kernel
theorem dX11_absent_39 : decode cX11_absent 39 = .ok (.goto 4, 3) := by decide +kernel
theorem dX11_absent_42 : decode cX11_absent 42 = .ok (.iconst 0, 1) := by decide +kernel
theorem dX11_absent_43 : decode cX11_absent 43 = .ok (.ireturn, 1) := by decide +kernel
theorem dX11_hands_0 : decode cX11_hands 0 = .ok (.lload_n 1, 1) := by decide +kernel
theorem dX11_hands_1 : decode cX11_hands 1 = .ok (.bipush 48, 2) := by decide +kernel
theorem dX11_hands_3 : decode cX11_hands 3 = .ok (.lushr, 1) := by decide +kernel
theorem dX11_hands_4 : decode cX11_hands 4 = .ok (.lconst 0, 1) := by decide +kernel
theorem dX11_hands_5 : decode cX11_hands 5 = .ok (.lcmp, 1) := by decide +kernel
theorem dX11_hands_6 : decode cX11_hands 6 = .ok (.ifCond .eq 6, 3) := by decide +kernel
theorem dX11_hands_9 : decode cX11_hands 9 = .ok (.bipush (-2), 2) := by decide +kernel
theorem dX11_hands_11 : decode cX11_hands 11 = .ok (.ireturn, 1) := by decide +kernel
theorem dX11_hands_12 : decode cX11_hands 12 = .ok (.aload_n 0, 1) := by decide +kernel
theorem dX11_hands_13 : decode cX11_hands 13 = .ok (.getfield 44, 3) := by decide +kernel
theorem dX11_hands_16 : decode cX11_hands 16 = .ok (.lload_n 1, 1) := by decide +kernel
theorem dX11_hands_17 : decode cX11_hands 17 = .ok (.invokevirtual 170, 3) := by decide +kernel
theorem dX11_hands_20 : decode cX11_hands 20 = .ok (.invokestatic 174, 3) := by decide +kernel
theorem dX11_hands_23 : decode cX11_hands 23 = .ok (.ireturn, 1) := by decide +kernel
theorem dX11_hand_0 : decode cX11_hand 0 = .ok (.aload_n 0, 1) := by decide +kernel
theorem dX11_hand_1 : decode cX11_hand 1 = .ok (.getfield 44, 3) := by decide +kernel
theorem dX11_hand_4 : decode cX11_hand 4 = .ok (.getfield 178, 3) := by decide +kernel
theorem dX11_hand_7 : decode cX11_hand 7 = .ok (.ifCond .eq 14, 3) := by decide +kernel
theorem dX11_hand_10 : decode cX11_hand 10 = .ok (.aload_n 0, 1) := by decide +kernel
theorem dX11_hand_11 : decode cX11_hand 11 = .ok (.getfield 28, 3) := by decide +kernel
theorem dX11_hand_14 : decode cX11_hand 14 = .ok (.iload_n 1, 1) := by decide +kernel
theorem dX11_hand_15 : decode cX11_hand 15 = .ok (.invokevirtual 145, 3) := by decide +kernel
theorem dX11_hand_18 : decode cX11_hand 18 = .ok (.ifCond .ne 5, 3) := by decide +kernel
theorem dX11_hand_21 : decode cX11_hand 21 = .ok (.iconst (-1), 1) := by decide +kernel
theorem dX11_hand_22 : decode cX11_hand 22 = .ok (.ireturn, 1) := by decide +kernel
theorem dX11_hand_23 : decode cX11_hand 23 = .ok (.aload_n 0, 1) := by decide +kernel
theorem dX11_hand_24 : decode cX11_hand 24 = .ok (.getfield 44, 3) := by decide +kernel
theorem dX11_hand_27 : decode cX11_hand 27 = .ok (.getfield 182, 3) := by decide +kernel
theorem dX11_hand_30 : decode cX11_hand 30 = .ok (.iload_n 1, 1) := by decide +kernel
theorem dX11_hand_31 : decode cX11_hand 31 = .ok (.iaload, 1) := by decide +kernel
theorem dX11_hand_32 : decode cX11_hand 32 = .ok (.ireturn, 1) := by decide +kernel
theorem dX11_part_0 : decode cX11_part 0 = .ok (.aload_n 0, 1) := by decide +kernel
theorem dX11_part_1 : decode cX11_part 1 = .ok (.iconst (-1), 1) := by decide +kernel
theorem dX11_part_2 : decode cX11_part 2 = .ok (.invokevirtual 185, 3) := by decide +kernel
theorem dX11_part_5 : decode cX11_part 5 = .ok (.aload_n 0, 1) := by decide +kernel
theorem dX11_part_6 : decode cX11_part 6 = .ok (.getfield 53, 3) := by decide +kernel
theorem dX11_part_9 : decode cX11_part 9 = .ok (.iconst 0, 1) := by decide +kernel
theorem dX11_part_10 : decode cX11_part 10 = .ok (.invokevirtual 188, 3) := by decide +kernel
theorem dX11_part_13 : decode cX11_part 13 = .ok (.istore_n 1, 1) := by decide +kernel
theorem dX11_part_14 : decode cX11_part 14 = .ok (.iload_n 1, 1) := by decide +kernel
theorem dX11_part_15 : decode cX11_part 15 = .ok (.ldc 192, 2) := by decide +kernel
theorem dX11_part_17 : decode cX11_part 17 = .ok (.if_icmp .lt 7, 3) := by decide +kernel
theorem dX11_part_20 : decode cX11_part 20 = .ok (.iconst (-1), 1) := by decide +kernel
theorem dX11_part_21 : decode cX11_part 21 = .ok (.goto 7, 3) := by decide +kernel
theorem dX11_part_24 : decode cX11_part 24 = .ok (.iload_n 1, 1) := by decide +kernel
theorem dX11_part_25 : decode cX11_part 25 = .ok (.invokestatic 193, 3) := by decide +kernel
theorem dX11_part_28 : decode cX11_part 28 = .ok (.ireturn, 1) := by decide +kernel
theorem dX11_give_0 : decode cX11_give 0 = .ok (.aload_n 0, 1) := by decide +kernel
theorem dX11_give_1 : decode cX11_give 1 = .ok (.iload_n 2, 1) := by decide +kernel
theorem dX11_give_2 : decode cX11_give 2 = .ok (.invokevirtual 167, 3) := by decide +kernel
theorem dX11_give_5 : decode cX11_give 5 = .ok (.ifCond .eq 14, 3) := by decide +kernel
theorem dX11_give_8 : decode cX11_give 8 = .ok (.aload_n 0, 1) := by decide +kernel
theorem dX11_give_9 : decode cX11_give 9 = .ok (.getfield 53, 3) := by decide +kernel
theorem dX11_give_12 : decode cX11_give 12 = .ok (.iload_n 1, 1) := by decide +kernel
theorem dX11_give_13 : decode cX11_give 13 = .ok (.invokevirtual 196, 3) := by decide +kernel
theorem dX11_give_16 : decode cX11_give 16 = .ok (.ifCond .ne 6, 3) := by decide +kernel
theorem dX11_give_19 : decode cX11_give 19 = .ok (.bipush (-2), 2) := by decide +kernel
theorem dX11_give_21 : decode cX11_give 21 = .ok (.ireturn, 1) := by decide +kernel
theorem dX11_give_22 : decode cX11_give 22 = .ok (.aload_n 0, 1) := by decide +kernel
theorem dX11_give_23 : decode cX11_give 23 = .ok (.getfield 53, 3) := by decide +kernel
theorem dX11_give_26 : decode cX11_give 26 = .ok (.getfield 199, 3) := by decide +kernel
theorem dX11_give_29 : decode cX11_give 29 = .ok (.ifCond .ne 6, 3) := by decide +kernel
theorem dX11_give_32 : decode cX11_give 32 = .ok (.bipush (-4), 2) := by decide +kernel
theorem dX11_give_34 : decode cX11_give 34 = .ok (.ireturn, 1) := by decide +kernel
theorem dX11_give_35 : decode cX11_give 35 = .ok (.aload_n 0, 1) := by decide +kernel
theorem dX11_give_36 : decode cX11_give 36 = .ok (.getfield 53, 3) := by decide +kernel
theorem dX11_give_39 : decode cX11_give 39 = .ok (.getfield 202, 3) := by decide +kernel
theorem dX11_give_42 : decode cX11_give 42 = .ok (.iload_n 1, 1) := by decide +kernel
theorem dX11_give_43 : decode cX11_give 43 = .ok (.iaload, 1) := by decide +kernel
theorem dX11_give_44 : decode cX11_give 44 = .ok (.istore_n 3, 1) := by decide +kernel
theorem dX11_give_45 : decode cX11_give 45 = .ok (.aload_n 0, 1) := by decide +kernel
theorem dX11_give_46 : decode cX11_give 46 = .ok (.getfield 53, 3) := by decide +kernel
theorem dX11_give_49 : decode cX11_give 49 = .ok (.getfield 202, 3) := by decide +kernel
theorem dX11_give_52 : decode cX11_give 52 = .ok (.iload_n 1, 1) := by decide +kernel
theorem dX11_give_53 : decode cX11_give 53 = .ok (.iload_n 2, 1) := by decide +kernel
theorem dX11_give_54 : decode cX11_give 54 = .ok (.iastore, 1) := by decide +kernel
theorem dX11_give_55 : decode cX11_give 55 = .ok (.iload_n 3, 1) := by decide +kernel
theorem dX11_give_56 : decode cX11_give 56 = .ok (.ireturn, 1) := by decide +kernel
theorem dX11_parted_0 : decode cX11_parted 0 = .ok (.aload_n 0, 1) := by decide +kernel
theorem dX11_parted_1 : decode cX11_parted 1 = .ok (.getfield 53, 3) := by decide +kernel
theorem dX11_parted_4 : decode cX11_parted 4 = .ok (.getfield 199, 3) := by decide +kernel
theorem dX11_parted_7 : decode cX11_parted 7 = .ok (.ifCond .eq 14, 3) := by decide +kernel
theorem dX11_parted_10 : decode cX11_parted 10 = .ok (.aload_n 0, 1) := by decide +kernel
theorem dX11_parted_11 : decode cX11_parted 11 = .ok (.getfield 53, 3) := by decide +kernel
theorem dX11_parted_14 : decode cX11_parted 14 = .ok (.iload_n 1, 1) := by decide +kernel
theorem dX11_parted_15 : decode cX11_parted 15 = .ok (.invokevirtual 196, 3) := by decide +kernel
theorem dX11_parted_18 : decode cX11_parted 18 = .ok (.ifCond .ne 5, 3) := by decide +kernel
theorem dX11_parted_21 : decode cX11_parted 21 = .ok (.iconst (-1), 1) := by decide +kernel
theorem dX11_parted_22 : decode cX11_parted 22 = .ok (.ireturn, 1) := by decide +kernel
theorem dX11_parted_23 : decode cX11_parted 23 = .ok (.aload_n 0, 1) := by decide +kernel
theorem dX11_parted_24 : decode cX11_parted 24 = .ok (.getfield 53, 3) := by decide +kernel
theorem dX11_parted_27 : decode cX11_parted 27 = .ok (.getfield 202, 3) := by decide +kernel
theorem dX11_parted_30 : decode cX11_parted 30 = .ok (.iload_n 1, 1) := by decide +kernel
theorem dX11_parted_31 : decode cX11_parted 31 = .ok (.iaload, 1) := by decide +kernel
theorem dX11_parted_32 : decode cX11_parted 32 = .ok (.ireturn, 1) := by decide +kernel
theorem dX11_load_0 : decode cX11_load 0 = .ok (.aload_n 0, 1) := by decide +kernel
theorem dX11_load_1 : decode cX11_load 1 = .ok (.iload_n 1, 1) := by decide +kernel
theorem dX11_load_2 : decode cX11_load 2 = .ok (.invokevirtual 167, 3) := by decide +kernel
theorem dX11_load_5 : decode cX11_load 5 = .ok (.ifCond .ne 6, 3) := by decide +kernel
theorem dX11_load_8 : decode cX11_load 8 = .ok (.bipush (-2), 2) := by decide +kernel
theorem dX11_load_10 : decode cX11_load 10 = .ok (.ireturn, 1) := by decide +kernel
theorem dX11_load_11 : decode cX11_load 11 = .ok (.aload_n 0, 1) := by decide +kernel
theorem dX11_load_12 : decode cX11_load 12 = .ok (.getfield 53, 3) := by decide +kernel
theorem dX11_load_15 : decode cX11_load 15 = .ok (.getfield 199, 3) := by decide +kernel
theorem dX11_load_18 : decode cX11_load 18 = .ok (.ifCond .ne 6, 3) := by decide +kernel
theorem dX11_load_21 : decode cX11_load 21 = .ok (.bipush (-4), 2) := by decide +kernel
theorem dX11_load_23 : decode cX11_load 23 = .ok (.ireturn, 1) := by decide +kernel
theorem dX11_load_24 : decode cX11_load 24 = .ok (.aload_n 0, 1) := by decide +kernel
theorem dX11_load_25 : decode cX11_load 25 = .ok (.getfield 44, 3) := by decide +kernel
theorem dX11_load_28 : decode cX11_load 28 = .ok (.aload_n 0, 1) := by decide +kernel
theorem dX11_load_29 : decode cX11_load 29 = .ok (.getfield 53, 3) := by decide +kernel
theorem dX11_load_32 : decode cX11_load 32 = .ok (.iload_n 1, 1) := by decide +kernel
theorem dX11_load_33 : decode cX11_load 33 = .ok (.invokevirtual 205, 3) := by decide +kernel
theorem dX11_load_36 : decode cX11_load 36 = .ok (.invokevirtual 209, 3) := by decide +kernel
theorem dX11_load_39 : decode cX11_load 39 = .ok (.invokestatic 174, 3) := by decide +kernel
theorem dX11_load_42 : decode cX11_load 42 = .ok (.ireturn, 1) := by decide +kernel
theorem dX11_cover_0 : decode cX11_cover 0 = .ok (.aload_n 0, 1) := by decide +kernel
theorem dX11_cover_1 : decode cX11_cover 1 = .ok (.iload_n 1, 1) := by decide +kernel
theorem dX11_cover_2 : decode cX11_cover 2 = .ok (.invokevirtual 167, 3) := by decide +kernel
theorem dX11_cover_5 : decode cX11_cover 5 = .ok (.ifCond .ne 6, 3) := by decide +kernel
theorem dX11_cover_8 : decode cX11_cover 8 = .ok (.bipush (-2), 2) := by decide +kernel
theorem dX11_cover_10 : decode cX11_cover 10 = .ok (.ireturn, 1) := by decide +kernel
theorem dX11_cover_11 : decode cX11_cover 11 = .ok (.aload_n 0, 1) := by decide +kernel
theorem dX11_cover_12 : decode cX11_cover 12 = .ok (.getfield 53, 3) := by decide +kernel
theorem dX11_cover_15 : decode cX11_cover 15 = .ok (.getfield 199, 3) := by decide +kernel
theorem dX11_cover_18 : decode cX11_cover 18 = .ok (.ifCond .ne 6, 3) := by decide +kernel
theorem dX11_cover_21 : decode cX11_cover 21 = .ok (.bipush (-4), 2) := by decide +kernel
theorem dX11_cover_23 : decode cX11_cover 23 = .ok (.ireturn, 1) := by decide +kernel
theorem dX11_cover_24 : decode cX11_cover 24 = .ok (.aload_n 0, 1) := by decide +kernel
theorem dX11_cover_25 : decode cX11_cover 25 = .ok (.iload_n 1, 1) := by decide +kernel
theorem dX11_cover_26 : decode cX11_cover 26 = .ok (.invokevirtual 185, 3) := by decide +kernel
theorem dX11_cover_29 : decode cX11_cover 29 = .ok (.aload_n 0, 1) := by decide +kernel
theorem dX11_cover_30 : decode cX11_cover 30 = .ok (.getfield 53, 3) := by decide +kernel
theorem dX11_cover_33 : decode cX11_cover 33 = .ok (.iconst 1, 1) := by decide +kernel
theorem dX11_cover_34 : decode cX11_cover 34 = .ok (.invokevirtual 188, 3) := by decide +kernel
theorem dX11_cover_37 : decode cX11_cover 37 = .ok (.istore_n 2, 1) := by decide +kernel
theorem dX11_cover_38 : decode cX11_cover 38 = .ok (.iload_n 2, 1) := by decide +kernel
theorem dX11_cover_39 : decode cX11_cover 39 = .ok (.ldc 192, 2) := by decide +kernel
theorem dX11_cover_41 : decode cX11_cover 41 = .ok (.if_icmp .lt 7, 3) := by decide +kernel
theorem dX11_cover_44 : decode cX11_cover 44 = .ok (.iconst (-1), 1) := by decide +kernel
theorem dX11_cover_45 : decode cX11_cover 45 = .ok (.goto 7, 3) := by decide +kernel
theorem dX11_cover_48 : decode cX11_cover 48 = .ok (.iload_n 2, 1) := by decide +kernel
theorem dX11_cover_49 : decode cX11_cover 49 = .ok (.invokestatic 212, 3) := by decide +kernel
theorem dX11_cover_52 : decode cX11_cover 52 = .ok (.ireturn, 1) := by decide +kernel
theorem dX11_help_0 : decode cX11_help 0 = .ok (.aload_n 0, 1) := by decide +kernel
theorem dX11_help_1 : decode cX11_help 1 = .ok (.iload_n 1, 1) := by decide +kernel
theorem dX11_help_2 : decode cX11_help 2 = .ok (.invokevirtual 167, 3) := by decide +kernel
theorem dX11_help_5 : decode cX11_help 5 = .ok (.ifCond .ne 6, 3) := by decide +kernel
theorem dX11_help_8 : decode cX11_help 8 = .ok (.bipush (-2), 2) := by decide +kernel
theorem dX11_help_10 : decode cX11_help 10 = .ok (.ireturn, 1) := by decide +kernel
theorem dX11_help_11 : decode cX11_help 11 = .ok (.aload_n 0, 1) := by decide +kernel
theorem dX11_help_12 : decode cX11_help 12 = .ok (.getfield 53, 3) := by decide +kernel
theorem dX11_help_15 : decode cX11_help 15 = .ok (.getfield 199, 3) := by decide +kernel
theorem dX11_help_18 : decode cX11_help 18 = .ok (.ifCond .ne 6, 3) := by decide +kernel
theorem dX11_help_21 : decode cX11_help 21 = .ok (.bipush (-4), 2) := by decide +kernel
theorem dX11_help_23 : decode cX11_help 23 = .ok (.ireturn, 1) := by decide +kernel
theorem dX11_help_24 : decode cX11_help 24 = .ok (.aload_n 0, 1) := by decide +kernel
theorem dX11_help_25 : decode cX11_help 25 = .ok (.iload_n 1, 1) := by decide +kernel
theorem dX11_help_26 : decode cX11_help 26 = .ok (.iconst 1, 1) := by decide +kernel
theorem dX11_help_27 : decode cX11_help 27 = .ok (.isub, 1) := by decide +kernel
theorem dX11_help_28 : decode cX11_help 28 = .ok (.invokevirtual 215, 3) := by decide +kernel
theorem dX11_help_31 : decode cX11_help 31 = .ok (.ifCond .eq 9, 3) := by decide +kernel
theorem dX11_help_34 : decode cX11_help 34 = .ok (.iload_n 1, 1) := by decide +kernel
theorem dX11_help_35 : decode cX11_help 35 = .ok (.iconst 1, 1) := by decide +kernel
theorem dX11_help_36 : decode cX11_help 36 = .ok (.isub, 1) := by decide +kernel
theorem dX11_help_37 : decode cX11_help 37 = .ok (.goto 4, 3) := by decide +kernel
theorem dX11_help_40 : decode cX11_help 40 = .ok (.iconst (-1), 1) := by decide +kernel
theorem dX11_help_41 : decode cX11_help 41 = .ok (.istore_n 2, 1) := by decide +kernel
theorem dX11_help_42 : decode cX11_help 42 = .ok (.aload_n 0, 1) := by decide +kernel
theorem dX11_help_43 : decode cX11_help 43 = .ok (.iload_n 1, 1) := by decide +kernel
theorem dX11_help_44 : decode cX11_help 44 = .ok (.iconst 1, 1) := by decide +kernel
theorem dX11_help_45 : decode cX11_help 45 = .ok (.iadd, 1) := by decide +kernel
theorem dX11_help_46 : decode cX11_help 46 = .ok (.invokevirtual 215, 3) := by decide +kernel
theorem dX11_help_49 : decode cX11_help 49 = .ok (.ifCond .eq 9, 3) := by decide +kernel
theorem dX11_help_52 : decode cX11_help 52 = .ok (.iload_n 1, 1) := by decide +kernel
theorem dX11_help_53 : decode cX11_help 53 = .ok (.iconst 1, 1) := by decide +kernel
theorem dX11_help_54 : decode cX11_help 54 = .ok (.iadd, 1) := by decide +kernel
theorem dX11_help_55 : decode cX11_help 55 = .ok (.goto 4, 3) := by decide +kernel
theorem dX11_help_58 : decode cX11_help 58 = .ok (.iconst (-1), 1) := by decide +kernel
theorem dX11_help_59 : decode cX11_help 59 = .ok (.istore_n 3, 1) := by decide +kernel
theorem dX11_help_60 : decode cX11_help 60 = .ok (.aload_n 0, 1) := by decide +kernel
theorem dX11_help_61 : decode cX11_help 61 = .ok (.getfield 62, 3) := by decide +kernel
theorem dX11_help_64 : decode cX11_help 64 = .ok (.iload_n 1, 1) := by decide +kernel
theorem dX11_help_65 : decode cX11_help 65 = .ok (.iload_n 2, 1) := by decide +kernel
theorem dX11_help_66 : decode cX11_help 66 = .ok (.iload_n 3, 1) := by decide +kernel
theorem dX11_help_67 : decode cX11_help 67 = .ok (.invokevirtual 218, 3) := by decide +kernel
theorem dX11_help_70 : decode cX11_help 70 = .ok (.invokestatic 174, 3) := by decide +kernel
theorem dX11_help_73 : decode cX11_help 73 = .ok (.ireturn, 1) := by decide +kernel
theorem dX11_helped_0 : decode cX11_helped 0 = .ok (.iload_n 1, 1) := by decide +kernel
theorem dX11_helped_1 : decode cX11_helped 1 = .ok (.ifCond .ne 11, 3) := by decide +kernel
theorem dX11_helped_4 : decode cX11_helped 4 = .ok (.aload_n 0, 1) := by decide +kernel
theorem dX11_helped_5 : decode cX11_helped 5 = .ok (.getfield 62, 3) := by decide +kernel
theorem dX11_helped_8 : decode cX11_helped 8 = .ok (.getfield 222, 3) := by decide +kernel
theorem dX11_helped_11 : decode cX11_helped 11 = .ok (.ireturn, 1) := by decide +kernel
theorem dX11_helped_12 : decode cX11_helped 12 = .ok (.iload_n 1, 1) := by decide +kernel
theorem dX11_helped_13 : decode cX11_helped 13 = .ok (.iconst 1, 1) := by decide +kernel
theorem dX11_helped_14 : decode cX11_helped 14 = .ok (.if_icmp .ne 13, 3) := by decide +kernel
theorem dX11_helped_17 : decode cX11_helped 17 = .ok (.aload_n 0, 1) := by decide +kernel
theorem dX11_helped_18 : decode cX11_helped 18 = .ok (.getfield 62, 3) := by decide +kernel
theorem dX11_helped_21 : decode cX11_helped 21 = .ok (.getfield 225, 3) := by decide +kernel
theorem dX11_helped_24 : decode cX11_helped 24 = .ok (.goto 4, 3) := by decide +kernel
theorem dX11_helped_27 : decode cX11_helped 27 = .ok (.iconst (-1), 1) := by decide +kernel
theorem dX11_helped_28 : decode cX11_helped 28 = .ok (.ireturn, 1) := by decide +kernel
theorem dX11_clashes_0 : decode cX11_clashes 0 = .ok (.aload_n 0, 1) := by decide +kernel
theorem dX11_clashes_1 : decode cX11_clashes 1 = .ok (.getfield 71, 3) := by decide +kernel
theorem dX11_clashes_4 : decode cX11_clashes 4 = .ok (.iconst (-1), 1) := by decide +kernel
theorem dX11_clashes_5 : decode cX11_clashes 5 = .ok (.invokevirtual 228, 3) := by decide +kernel
theorem dX11_clashes_8 : decode cX11_clashes 8 = .ok (.ireturn, 1) := by decide +kernel
theorem dX11_clash_0 : decode cX11_clash 0 = .ok (.iload_n 1, 1) := by decide +kernel
theorem dX11_clash_1 : decode cX11_clash 1 = .ok (.ifCond .lt 26, 3) := by decide +kernel
theorem dX11_clash_4 : decode cX11_clash 4 = .ok (.aload_n 0, 1) := by decide +kernel
theorem dX11_clash_5 : decode cX11_clash 5 = .ok (.getfield 71, 3) := by decide +kernel
theorem dX11_clash_8 : decode cX11_clash 8 = .ok (.iload_n 1, 1) := by decide +kernel
theorem dX11_clash_9 : decode cX11_clash 9 = .ok (.invokevirtual 228, 3) := by decide +kernel
theorem dX11_clash_12 : decode cX11_clash 12 = .ok (.iload_n 1, 1) := by decide +kernel
theorem dX11_clash_13 : decode cX11_clash 13 = .ok (.if_icmp .ne 14, 3) := by decide +kernel
theorem dX11_clash_16 : decode cX11_clash 16 = .ok (.aload_n 0, 1) := by decide +kernel
theorem dX11_clash_17 : decode cX11_clash 17 = .ok (.getfield 71, 3) := by decide +kernel
theorem dX11_clash_20 : decode cX11_clash 20 = .ok (.getfield 231, 3) := by decide +kernel
theorem dX11_clash_23 : decode cX11_clash 23 = .ok (.iconst (-1), 1) := by decide +kernel
theorem dX11_clash_24 : decode cX11_clash 24 = .ok (.if_icmp .ne 5, 3) := by decide +kernel
theorem dX11_clash_27 : decode cX11_clash 27 = .ok (.iconst (-1), 1) := by decide +kernel
theorem dX11_clash_28 : decode cX11_clash 28 = .ok (.ireturn, 1) := by decide +kernel
theorem dX11_clash_29 : decode cX11_clash 29 = .ok (.iload_n 2, 1) := by decide +kernel
theorem dX11_clash_30 : decode cX11_clash 30 = .ok (.tableswitch 50 0 2 #[26, 34, 42], 26) := by decide +kernel
theorem dX11_clash_56 : decode cX11_clash 56 = .ok (.aload_n 0, 1) := by decide +kernel
theorem dX11_clash_57 : decode cX11_clash 57 = .ok (.getfield 71, 3) := by decide +kernel
theorem dX11_clash_60 : decode cX11_clash 60 = .ok (.getfield 231, 3) := by decide +kernel
theorem dX11_clash_63 : decode cX11_clash 63 = .ok (.ireturn, 1) := by decide +kernel
theorem dX11_clash_64 : decode cX11_clash 64 = .ok (.aload_n 0, 1) := by decide +kernel
theorem dX11_clash_65 : decode cX11_clash 65 = .ok (.getfield 71, 3) := by decide +kernel
theorem dX11_clash_68 : decode cX11_clash 68 = .ok (.getfield 234, 3) := by decide +kernel
theorem dX11_clash_71 : decode cX11_clash 71 = .ok (.ireturn, 1) := by decide +kernel
theorem dX11_clash_72 : decode cX11_clash 72 = .ok (.aload_n 0, 1) := by decide +kernel
theorem dX11_clash_73 : decode cX11_clash 73 = .ok (.getfield 71, 3) := by decide +kernel
theorem dX11_clash_76 : decode cX11_clash 76 = .ok (.invokevirtual 237, 3) := by decide +kernel
theorem dX11_clash_79 : decode cX11_clash 79 = .ok (.ireturn, 1) := by decide +kernel
theorem dX11_clash_80 : decode cX11_clash 80 = .ok (.iconst (-1), 1) := by decide +kernel
theorem dX11_clash_81 : decode cX11_clash 81 = .ok (.ireturn, 1) := by decide +kernel
theorem dX11_damp_0 : decode cX11_damp 0 = .ok (.aload_n 0, 1) := by decide +kernel
theorem dX11_damp_1 : decode cX11_damp 1 = .ok (.getfield 71, 3) := by decide +kernel
theorem dX11_damp_4 : decode cX11_damp 4 = .ok (.invokevirtual 241, 3) := by decide +kernel
theorem dX11_damp_7 : decode cX11_damp 7 = .ok (.istore_n 1, 1) := by decide +kernel
theorem dX11_damp_8 : decode cX11_damp 8 = .ok (.aload_n 0, 1) := by decide +kernel
theorem dX11_damp_9 : decode cX11_damp 9 = .ok (.getfield 44, 3) := by decide +kernel
theorem dX11_damp_12 : decode cX11_damp 12 = .ok (.invokevirtual 117, 3) := by decide +kernel
theorem dX11_damp_15 : decode cX11_damp 15 = .ok (.aload_n 0, 1) := by decide +kernel
theorem dX11_damp_16 : decode cX11_damp 16 = .ok (.getfield 53, 3) := by decide +kernel
theorem dX11_damp_19 : decode cX11_damp 19 = .ok (.invokevirtual 132, 3) := by decide +kernel
theorem dX11_damp_22 : decode cX11_damp 22 = .ok (.iload_n 1, 1) := by decide +kernel
theorem dX11_damp_23 : decode cX11_damp 23 = .ok (.ireturn, 1) := by decide +kernel
theorem dX11_heard_0 : decode cX11_heard 0 = .ok (.aload_n 0, 1) := by decide +kernel
theorem dX11_heard_1 : decode cX11_heard 1 = .ok (.getfield 21, 3) := by decide +kernel
theorem dX11_heard_4 : decode cX11_heard 4 = .ok (.iconst 1, 1) := by decide +kernel
theorem dX11_heard_5 : decode cX11_heard 5 = .ok (.invokevirtual 104, 3) := by decide +kernel
theorem dX11_heard_8 : decode cX11_heard 8 = .ok (.istore_n 1, 1) := by decide +kernel
theorem dX11_heard_9 : decode cX11_heard 9 = .ok (.aload_n 0, 1) := by decide +kernel
theorem dX11_heard_10 : decode cX11_heard 10 = .ok (.getfield 10, 3) := by decide +kernel
theorem dX11_heard_13 : decode cX11_heard 13 = .ok (.iconst 0, 1) := by decide +kernel
theorem dX11_heard_14 : decode cX11_heard 14 = .ok (.putfield 97, 3) := by decide +kernel
theorem dX11_heard_17 : decode cX11_heard 17 = .ok (.iload_n 1, 1) := by decide +kernel
theorem dX11_heard_18 : decode cX11_heard 18 = .ok (.ifCond .eq 20, 3) := by decide +kernel
theorem dX11_heard_21 : decode cX11_heard 21 = .ok (.aload_n 0, 1) := by decide +kernel
theorem dX11_heard_22 : decode cX11_heard 22 = .ok (.getfield 78, 3) := by decide +kernel
theorem dX11_heard_25 : decode cX11_heard 25 = .ok (.aload_n 0, 1) := by decide +kernel
theorem dX11_heard_26 : decode cX11_heard 26 = .ok (.getfield 21, 3) := by decide +kernel
theorem dX11_heard_29 : decode cX11_heard 29 = .ok (.getfield 108, 3) := by decide +kernel
theorem dX11_heard_32 : decode cX11_heard 32 = .ok (.invokevirtual 244, 3) := by decide +kernel
theorem dX11_heard_35 : decode cX11_heard 35 = .ok (.goto 4, 3) := by decide +kernel
theorem dX11_heard_38 : decode cX11_heard 38 = .ok (.iconst (-1), 1) := by decide +kernel
theorem dX11_heard_39 : decode cX11_heard 39 = .ok (.ireturn, 1) := by decide +kernel
theorem dX11_laid_0 : decode cX11_laid 0 = .ok (.aload_n 0, 1) := by decide +kernel
theorem dX11_laid_1 : decode cX11_laid 1 = .ok (.getfield 78, 3) := by decide +kernel
theorem dX11_laid_4 : decode cX11_laid 4 = .ok (.getfield 248, 3) := by decide +kernel
theorem dX11_laid_7 : decode cX11_laid 7 = .ok (.ifCond .eq 14, 3) := by decide +kernel
theorem dX11_laid_10 : decode cX11_laid 10 = .ok (.aload_n 0, 1) := by decide +kernel
theorem dX11_laid_11 : decode cX11_laid 11 = .ok (.getfield 28, 3) := by decide +kernel
theorem dX11_laid_14 : decode cX11_laid 14 = .ok (.iload_n 1, 1) := by decide +kernel
theorem dX11_laid_15 : decode cX11_laid 15 = .ok (.invokevirtual 145, 3) := by decide +kernel
theorem dX11_laid_18 : decode cX11_laid 18 = .ok (.ifCond .ne 6, 3) := by decide +kernel
theorem dX11_laid_21 : decode cX11_laid 21 = .ok (.bipush (-9), 2) := by decide +kernel
theorem dX11_laid_23 : decode cX11_laid 23 = .ok (.ireturn, 1) := by decide +kernel
theorem dX11_laid_24 : decode cX11_laid 24 = .ok (.iload_n 2, 1) := by decide +kernel
theorem dX11_laid_25 : decode cX11_laid 25 = .ok (.tableswitch 66 0 2 #[27, 46, 56], 27) := by decide +kernel
theorem dX11_laid_52 : decode cX11_laid 52 = .ok (.aload_n 0, 1) := by decide +kernel
theorem dX11_laid_53 : decode cX11_laid 53 = .ok (.getfield 78, 3) := by decide +kernel
theorem dX11_laid_56 : decode cX11_laid 56 = .ok (.getfield 250, 3) := by decide +kernel
theorem dX11_laid_59 : decode cX11_laid 59 = .ok (.iload_n 1, 1) := by decide +kernel
theorem dX11_laid_60 : decode cX11_laid 60 = .ok (.iaload, 1) := by decide +kernel
theorem dX11_laid_61 : decode cX11_laid 61 = .ok (.iconst (-1), 1) := by decide +kernel
theorem dX11_laid_62 : decode cX11_laid 62 = .ok (.if_icmp .ne 7, 3) := by decide +kernel
theorem dX11_laid_65 : decode cX11_laid 65 = .ok (.iconst 0, 1) := by decide +kernel
theorem dX11_laid_66 : decode cX11_laid 66 = .ok (.goto 4, 3) := by decide +kernel
theorem dX11_laid_69 : decode cX11_laid 69 = .ok (.iconst 1, 1) := by decide +kernel
theorem dX11_laid_70 : decode cX11_laid 70 = .ok (.ireturn, 1) := by decide +kernel
theorem dX11_laid_71 : decode cX11_laid 71 = .ok (.aload_n 0, 1) := by decide +kernel
theorem dX11_laid_72 : decode cX11_laid 72 = .ok (.getfield 78, 3) := by decide +kernel
theorem dX11_laid_75 : decode cX11_laid 75 = .ok (.getfield 253, 3) := by decide +kernel
theorem dX11_laid_78 : decode cX11_laid 78 = .ok (.iload_n 1, 1) := by decide +kernel
theorem dX11_laid_79 : decode cX11_laid 79 = .ok (.iaload, 1) := by decide +kernel
theorem dX11_laid_80 : decode cX11_laid 80 = .ok (.ireturn, 1) := by decide +kernel
theorem dX11_laid_81 : decode cX11_laid 81 = .ok (.aload_n 0, 1) := by decide +kernel
theorem dX11_laid_82 : decode cX11_laid 82 = .ok (.getfield 78, 3) := by decide +kernel
theorem dX11_laid_85 : decode cX11_laid 85 = .ok (.getfield 250, 3) := by decide +kernel
theorem dX11_laid_88 : decode cX11_laid 88 = .ok (.iload_n 1, 1) := by decide +kernel
theorem dX11_laid_89 : decode cX11_laid 89 = .ok (.iaload, 1) := by decide +kernel
theorem dX11_laid_90 : decode cX11_laid 90 = .ok (.ireturn, 1) := by decide +kernel
theorem dX11_laid_91 : decode cX11_laid 91 = .ok (.bipush (-9), 2) := by decide +kernel
theorem dX11_laid_93 : decode cX11_laid 93 = .ok (.ireturn, 1) := by decide +kernel
theorem dX11_more_0 : decode cX11_more 0 = .ok (.aload_n 0, 1) := by decide +kernel
theorem dX11_more_1 : decode cX11_more 1 = .ok (.getfield 78, 3) := by decide +kernel
theorem dX11_more_4 : decode cX11_more 4 = .ok (.getfield 248, 3) := by decide +kernel
theorem dX11_more_7 : decode cX11_more 7 = .ok (.ifCond .eq 13, 3) := by decide +kernel
theorem dX11_more_10 : decode cX11_more 10 = .ok (.aload_n 0, 1) := by decide +kernel
theorem dX11_more_11 : decode cX11_more 11 = .ok (.getfield 78, 3) := by decide +kernel
theorem dX11_more_14 : decode cX11_more 14 = .ok (.getfield 256, 3) := by decide +kernel
theorem dX11_more_17 : decode cX11_more 17 = .ok (.goto 4, 3) := by decide +kernel
theorem dX11_more_20 : decode cX11_more 20 = .ok (.iconst (-1), 1) := by decide +kernel
theorem dX11_more_21 : decode cX11_more 21 = .ok (.ireturn, 1) := by decide +kernel
theorem dX11_blame_0 : decode cX11_blame 0 = .ok (.aload_n 0, 1) := by decide +kernel
theorem dX11_blame_1 : decode cX11_blame 1 = .ok (.iload_n 1, 1) := by decide +kernel
theorem dX11_blame_2 : decode cX11_blame 2 = .ok (.invokevirtual 167, 3) := by decide +kernel
theorem dX11_blame_5 : decode cX11_blame 5 = .ok (.ifCond .ne 6, 3) := by decide +kernel
theorem dX11_blame_8 : decode cX11_blame 8 = .ok (.bipush (-2), 2) := by decide +kernel
theorem dX11_blame_10 : decode cX11_blame 10 = .ok (.ireturn, 1) := by decide +kernel
theorem dX11_blame_11 : decode cX11_blame 11 = .ok (.aload_n 0, 1) := by decide +kernel
theorem dX11_blame_12 : decode cX11_blame 12 = .ok (.getfield 53, 3) := by decide +kernel
theorem dX11_blame_15 : decode cX11_blame 15 = .ok (.getfield 199, 3) := by decide +kernel
theorem dX11_blame_18 : decode cX11_blame 18 = .ok (.ifCond .eq 13, 3) := by decide +kernel
theorem dX11_blame_21 : decode cX11_blame 21 = .ok (.aload_n 0, 1) := by decide +kernel
theorem dX11_blame_22 : decode cX11_blame 22 = .ok (.getfield 78, 3) := by decide +kernel
theorem dX11_blame_25 : decode cX11_blame 25 = .ok (.getfield 248, 3) := by decide +kernel
theorem dX11_blame_28 : decode cX11_blame 28 = .ok (.ifCond .ne 6, 3) := by decide +kernel
theorem dX11_blame_31 : decode cX11_blame 31 = .ok (.bipush (-4), 2) := by decide +kernel
theorem dX11_blame_33 : decode cX11_blame 33 = .ok (.ireturn, 1) := by decide +kernel
theorem dX11_blame_34 : decode cX11_blame 34 = .ok (.aload_n 0, 1) := by decide +kernel
theorem dX11_blame_35 : decode cX11_blame 35 = .ok (.getfield 78, 3) := by decide +kernel
theorem dX11_blame_38 : decode cX11_blame 38 = .ok (.aload_n 0, 1) := by decide +kernel
theorem dX11_blame_39 : decode cX11_blame 39 = .ok (.getfield 53, 3) := by decide +kernel
theorem dX11_blame_42 : decode cX11_blame 42 = .ok (.iload_n 1, 1) := by decide +kernel
theorem dX11_blame_43 : decode cX11_blame 43 = .ok (.invokevirtual 205, 3) := by decide +kernel
theorem dX11_blame_46 : decode cX11_blame 46 = .ok (.invokevirtual 259, 3) := by decide +kernel
theorem dX11_blame_49 : decode cX11_blame 49 = .ok (.ireturn, 1) := by decide +kernel
theorem dX11_pass_0 : decode cX11_pass 0 = .ok (.iload_n 1, 1) := by decide +kernel
theorem dX11_pass_1 : decode cX11_pass 1 = .ok (.iconst 1, 1) := by decide +kernel
theorem dX11_pass_2 : decode cX11_pass 2 = .ok (.if_icmp .lt 25, 3) := by decide +kernel
theorem dX11_pass_5 : decode cX11_pass 5 = .ok (.iload_n 1, 1) := by decide +kernel
theorem dX11_pass_6 : decode cX11_pass 6 = .ok (.sipush 500, 3) := by decide +kernel
theorem dX11_pass_9 : decode cX11_pass 9 = .ok (.if_icmp .gt 18, 3) := by decide +kernel
theorem dX11_pass_12 : decode cX11_pass 12 = .ok (.aload_n 0, 1) := by decide +kernel
theorem dX11_pass_13 : decode cX11_pass 13 = .ok (.getfield 85, 3) := by decide +kernel
theorem dX11_pass_16 : decode cX11_pass 16 = .ok (.getfield 262, 3) := by decide +kernel
theorem dX11_pass_19 : decode cX11_pass 19 = .ok (.iload_n 1, 1) := by decide +kernel
theorem dX11_pass_20 : decode cX11_pass 20 = .ok (.iadd, 1) := by decide +kernel
theorem dX11_pass_21 : decode cX11_pass 21 = .ok (.invokestatic 265, 3) := by decide +kernel
theorem dX11_pass_24 : decode cX11_pass 24 = .ok (.ifCond .ne 6, 3) := by decide +kernel
theorem dX11_pass_27 : decode cX11_pass 27 = .ok (.bipush (-2), 2) := by decide +kernel
theorem dX11_pass_29 : decode cX11_pass 29 = .ok (.ireturn, 1) := by decide +kernel
theorem dX11_pass_30 : decode cX11_pass 30 = .ok (.aload_n 0, 1) := by decide +kernel
theorem dX11_pass_31 : decode cX11_pass 31 = .ok (.getfield 85, 3) := by decide +kernel
theorem dX11_pass_34 : decode cX11_pass 34 = .ok (.dup, 1) := by decide +kernel
theorem dX11_pass_35 : decode cX11_pass 35 = .ok (.getfield 262, 3) := by decide +kernel
theorem dX11_pass_38 : decode cX11_pass 38 = .ok (.iload_n 1, 1) := by decide +kernel
theorem dX11_pass_39 : decode cX11_pass 39 = .ok (.iadd, 1) := by decide +kernel
theorem dX11_pass_40 : decode cX11_pass 40 = .ok (.putfield 262, 3) := by decide +kernel
theorem dX11_pass_43 : decode cX11_pass 43 = .ok (.aload_n 0, 1) := by decide +kernel
theorem dX11_pass_44 : decode cX11_pass 44 = .ok (.getfield 85, 3) := by decide +kernel
theorem dX11_pass_47 : decode cX11_pass 47 = .ok (.getfield 262, 3) := by decide +kernel
theorem dX11_pass_50 : decode cX11_pass 50 = .ok (.ireturn, 1) := by decide +kernel
theorem dX11_away_0 : decode cX11_away 0 = .ok (.iload_n 1, 1) := by decide +kernel
theorem dX11_away_1 : decode cX11_away 1 = .ok (.invokestatic 268, 3) := by decide +kernel
theorem dX11_away_4 : decode cX11_away 4 = .ok (.ifCond .eq 22, 3) := by decide +kernel
theorem dX11_away_7 : decode cX11_away 7 = .ok (.iload_n 2, 1) := by decide +kernel
theorem dX11_away_8 : decode cX11_away 8 = .ok (.invokestatic 265, 3) := by decide +kernel
theorem dX11_away_11 : decode cX11_away 11 = .ok (.ifCond .eq 15, 3) := by decide +kernel
theorem dX11_away_14 : decode cX11_away 14 = .ok (.iload_n 3, 1) := by decide +kernel
theorem dX11_away_15 : decode cX11_away 15 = .ok (.invokestatic 265, 3) := by decide +kernel
theorem dX11_away_18 : decode cX11_away 18 = .ok (.ifCond .eq 8, 3) := by decide +kernel
theorem dX11_away_21 : decode cX11_away 21 = .ok (.iload_n 3, 1) := by decide +kernel
theorem dX11_away_22 : decode cX11_away 22 = .ok (.iload_n 2, 1) := by decide +kernel
theorem dX11_away_23 : decode cX11_away 23 = .ok (.if_icmp .ge 6, 3) := by decide +kernel
theorem dX11_away_26 : decode cX11_away 26 = .ok (.bipush (-2), 2) := by decide +kernel
theorem dX11_away_28 : decode cX11_away 28 = .ok (.ireturn, 1) := by decide +kernel
theorem dX11_away_29 : decode cX11_away 29 = .ok (.aload_n 0, 1) := by decide +kernel
theorem dX11_away_30 : decode cX11_away 30 = .ok (.getfield 85, 3) := by decide +kernel
theorem dX11_away_33 : decode cX11_away 33 = .ok (.getfield 271, 3) := by decide +kernel
theorem dX11_away_36 : decode cX11_away 36 = .ok (.bipush 60, 2) := by decide +kernel
theorem dX11_away_38 : decode cX11_away 38 = .ok (.if_icmp .lt 8, 3) := by decide +kernel
theorem dX11_away_41 : decode cX11_away 41 = .ok (.bipush (-3), 2) := by decide +kernel
theorem dX11_away_43 : decode cX11_away 43 = .ok (.goto 13, 3) := by decide +kernel
theorem dX11_away_46 : decode cX11_away 46 = .ok (.aload_n 0, 1) := by decide +kernel
theorem dX11_away_47 : decode cX11_away 47 = .ok (.getfield 85, 3) := by decide +kernel
theorem dX11_away_50 : decode cX11_away 50 = .ok (.iload_n 1, 1) := by decide +kernel
theorem dX11_away_51 : decode cX11_away 51 = .ok (.iload_n 2, 1) := by decide +kernel
theorem dX11_away_52 : decode cX11_away 52 = .ok (.iload_n 3, 1) := by decide +kernel
theorem dX11_away_53 : decode cX11_away 53 = .ok (.invokevirtual 272, 3) := by decide +kernel
theorem dX11_away_56 : decode cX11_away 56 = .ok (.ireturn, 1) := by decide +kernel
theorem dX11_back_0 : decode cX11_back 0 = .ok (.iload_n 1, 1) := by decide +kernel
theorem dX11_back_1 : decode cX11_back 1 = .ok (.ifCond .lt 21, 3) := by decide +kernel
theorem dX11_back_4 : decode cX11_back 4 = .ok (.iload_n 1, 1) := by decide +kernel
theorem dX11_back_5 : decode cX11_back 5 = .ok (.aload_n 0, 1) := by decide +kernel
theorem dX11_back_6 : decode cX11_back 6 = .ok (.getfield 85, 3) := by decide +kernel
theorem dX11_back_9 : decode cX11_back 9 = .ok (.getfield 271, 3) := by decide +kernel
theorem dX11_back_12 : decode cX11_back 12 = .ok (.if_icmp .ge 10, 3) := by decide +kernel
theorem dX11_back_15 : decode cX11_back 15 = .ok (.iload_n 2, 1) := by decide +kernel
theorem dX11_back_16 : decode cX11_back 16 = .ok (.invokestatic 265, 3) := by decide +kernel
theorem dX11_back_19 : decode cX11_back 19 = .ok (.ifCond .ne 6, 3) := by decide +kernel
theorem dX11_back_22 : decode cX11_back 22 = .ok (.bipush (-2), 2) := by decide +kernel
theorem dX11_back_24 : decode cX11_back 24 = .ok (.ireturn, 1) := by decide +kernel
theorem dX11_back_25 : decode cX11_back 25 = .ok (.aload_n 0, 1) := by decide +kernel
theorem dX11_back_26 : decode cX11_back 26 = .ok (.getfield 85, 3) := by decide +kernel
theorem dX11_back_29 : decode cX11_back 29 = .ok (.iload_n 1, 1) := by decide +kernel
theorem dX11_back_30 : decode cX11_back 30 = .ok (.iload_n 2, 1) := by decide +kernel
theorem dX11_back_31 : decode cX11_back 31 = .ok (.invokevirtual 275, 3) := by decide +kernel
theorem dX11_back_34 : decode cX11_back 34 = .ok (.ifCond .eq 7, 3) := by decide +kernel
theorem dX11_back_37 : decode cX11_back 37 = .ok (.iconst 1, 1) := by decide +kernel
theorem dX11_back_38 : decode cX11_back 38 = .ok (.goto 5, 3) := by decide +kernel
theorem dX11_back_41 : decode cX11_back 41 = .ok (.bipush (-4), 2) := by decide +kernel
theorem dX11_back_43 : decode cX11_back 43 = .ok (.ireturn, 1) := by decide +kernel
theorem dX11_there_0 : decode cX11_there 0 = .ok (.iload_n 1, 1) := by decide +kernel
theorem dX11_there_1 : decode cX11_there 1 = .ok (.invokestatic 268, 3) := by decide +kernel
theorem dX11_there_4 : decode cX11_there 4 = .ok (.ifCond .eq 17, 3) := by decide +kernel
theorem dX11_there_7 : decode cX11_there 7 = .ok (.iload_n 2, 1) := by decide +kernel
theorem dX11_there_8 : decode cX11_there 8 = .ok (.invokestatic 265, 3) := by decide +kernel
theorem dX11_there_11 : decode cX11_there 11 = .ok (.ifCond .eq 10, 3) := by decide +kernel
theorem dX11_there_14 : decode cX11_there 14 = .ok (.iload_n 3, 1) := by decide +kernel
theorem dX11_there_15 : decode cX11_there 15 = .ok (.invokestatic 265, 3) := by decide +kernel
theorem dX11_there_18 : decode cX11_there 18 = .ok (.ifCond .ne 6, 3) := by decide +kernel
theorem dX11_there_21 : decode cX11_there 21 = .ok (.bipush (-2), 2) := by decide +kernel
theorem dX11_there_23 : decode cX11_there 23 = .ok (.ireturn, 1) := by decide +kernel
theorem dX11_there_24 : decode cX11_there 24 = .ok (.aload_n 0, 1) := by decide +kernel
theorem dX11_there_25 : decode cX11_there 25 = .ok (.getfield 85, 3) := by decide +kernel
theorem dX11_there_28 : decode cX11_there 28 = .ok (.iload_n 1, 1) := by decide +kernel
theorem dX11_there_29 : decode cX11_there 29 = .ok (.iload_n 2, 1) := by decide +kernel
theorem dX11_there_30 : decode cX11_there 30 = .ok (.iload_n 3, 1) := by decide +kernel
theorem dX11_there_31 : decode cX11_there 31 = .ok (.invokevirtual 279, 3) := by decide +kernel
theorem dX11_there_34 : decode cX11_there 34 = .ok (.ifCond .eq 7, 3) := by decide +kernel
theorem dX11_there_37 : decode cX11_there 37 = .ok (.iconst 1, 1) := by decide +kernel
theorem dX11_there_38 : decode cX11_there 38 = .ok (.goto 4, 3) := by decide +kernel
theorem dX11_there_41 : decode cX11_there 41 = .ok (.iconst 0, 1) := by decide +kernel
theorem dX11_there_42 : decode cX11_there 42 = .ok (.ireturn, 1) := by decide +kernel
theorem dX11_key_0 : decode cX11_key 0 = .ok (.iload_n 1, 1) := by decide +kernel
theorem dX11_key_1 : decode cX11_key 1 = .ok (.invokestatic 265, 3) := by decide +kernel
theorem dX11_key_4 : decode cX11_key 4 = .ok (.ifCond .eq 10, 3) := by decide +kernel
theorem dX11_key_7 : decode cX11_key 7 = .ok (.iload_n 2, 1) := by decide +kernel
theorem dX11_key_8 : decode cX11_key 8 = .ok (.invokestatic 265, 3) := by decide +kernel
theorem dX11_key_11 : decode cX11_key 11 = .ok (.ifCond .ne 6, 3) := by decide +kernel
theorem dX11_key_14 : decode cX11_key 14 = .ok (.bipush (-2), 2) := by decide +kernel
theorem dX11_key_16 : decode cX11_key 16 = .ok (.ireturn, 1) := by decide +kernel
theorem dX11_key_17 : decode cX11_key 17 = .ok (.aload_n 0, 1) := by decide +kernel
theorem dX11_key_18 : decode cX11_key 18 = .ok (.getfield 85, 3) := by decide +kernel
theorem dX11_key_21 : decode cX11_key 21 = .ok (.iload_n 1, 1) := by decide +kernel
theorem dX11_key_22 : decode cX11_key 22 = .ok (.iload_n 2, 1) := by decide +kernel
theorem dX11_key_23 : decode cX11_key 23 = .ok (.invokevirtual 283, 3) := by decide +kernel
theorem dX11_key_26 : decode cX11_key 26 = .ok (.ireturn, 1) := by decide +kernel
theorem dX11_keyed_0 : decode cX11_keyed 0 = .ok (.aload_n 0, 1) := by decide +kernel
theorem dX11_keyed_1 : decode cX11_keyed 1 = .ok (.getfield 85, 3) := by decide +kernel
theorem dX11_keyed_4 : decode cX11_keyed 4 = .ok (.getfield 287, 3) := by decide +kernel
theorem dX11_keyed_7 : decode cX11_keyed 7 = .ok (.ifCond .ne 6, 3) := by decide +kernel
theorem dX11_keyed_10 : decode cX11_keyed 10 = .ok (.bipush (-99), 2) := by decide +kernel
theorem dX11_keyed_12 : decode cX11_keyed 12 = .ok (.ireturn, 1) := by decide +kernel
theorem dX11_keyed_13 : decode cX11_keyed 13 = .ok (.iload_n 1, 1) := by decide +kernel
theorem dX11_keyed_14 : decode cX11_keyed 14 = .ok (.tableswitch 50 0 2 #[26, 34, 42], 26) := by decide +kernel
theorem dX11_keyed_40 : decode cX11_keyed 40 = .ok (.aload_n 0, 1) := by decide +kernel
theorem dX11_keyed_41 : decode cX11_keyed 41 = .ok (.getfield 85, 3) := by decide +kernel
theorem dX11_keyed_44 : decode cX11_keyed 44 = .ok (.getfield 290, 3) := by decide +kernel
theorem dX11_keyed_47 : decode cX11_keyed 47 = .ok (.ireturn, 1) := by decide +kernel
theorem dX11_keyed_48 : decode cX11_keyed 48 = .ok (.aload_n 0, 1) := by decide +kernel
theorem dX11_keyed_49 : decode cX11_keyed 49 = .ok (.getfield 85, 3) := by decide +kernel
theorem dX11_keyed_52 : decode cX11_keyed 52 = .ok (.getfield 293, 3) := by decide +kernel
theorem dX11_keyed_55 : decode cX11_keyed 55 = .ok (.ireturn, 1) := by decide +kernel
theorem dX11_keyed_56 : decode cX11_keyed 56 = .ok (.aload_n 0, 1) := by decide +kernel
theorem dX11_keyed_57 : decode cX11_keyed 57 = .ok (.getfield 85, 3) := by decide +kernel
theorem dX11_keyed_60 : decode cX11_keyed 60 = .ok (.getfield 296, 3) := by decide +kernel
theorem dX11_keyed_63 : decode cX11_keyed 63 = .ok (.ireturn, 1) := by decide +kernel
theorem dX11_keyed_64 : decode cX11_keyed 64 = .ok (.bipush (-99), 2) := by decide +kernel
theorem dX11_keyed_66 : decode cX11_keyed 66 = .ok (.ireturn, 1) := by decide +kernel
theorem dX11_count_0 : decode cX11_count 0 = .ok (.iload_n 1, 1) := by decide +kernel
theorem dX11_count_1 : decode cX11_count 1 = .ok (.tableswitch 122 0 8 #[51, 59, 67, 72, 77, 93, 98, 106, 114], 51) := by decide +kernel
theorem dX11_count_52 : decode cX11_count 52 = .ok (.aload_n 0, 1) := by decide +kernel
theorem dX11_count_53 : decode cX11_count 53 = .ok (.getfield 28, 3) := by decide +kernel
theorem dX11_count_56 : decode cX11_count 56 = .ok (.getfield 128, 3) := by decide +kernel
theorem dX11_count_59 : decode cX11_count 59 = .ok (.ireturn, 1) := by decide +kernel
theorem dX11_count_60 : decode cX11_count 60 = .ok (.aload_n 0, 1) := by decide +kernel
theorem dX11_count_61 : decode cX11_count 61 = .ok (.getfield 53, 3) := by decide +kernel
theorem dX11_count_64 : decode cX11_count 64 = .ok (.getfield 299, 3) := by decide +kernel
theorem dX11_count_67 : decode cX11_count 67 = .ok (.ireturn, 1) := by decide +kernel
theorem dX11_count_68 : decode cX11_count 68 = .ok (.aload_n 0, 1) := by decide +kernel
theorem dX11_count_69 : decode cX11_count 69 = .ok (.getfield 93, 3) := by decide +kernel
theorem dX11_count_72 : decode cX11_count 72 = .ok (.ireturn, 1) := by decide +kernel
theorem dX11_count_73 : decode cX11_count 73 = .ok (.aload_n 0, 1) := by decide +kernel
theorem dX11_count_74 : decode cX11_count 74 = .ok (.invokevirtual 302, 3) := by decide +kernel
theorem dX11_count_77 : decode cX11_count 77 = .ok (.ireturn, 1) := by decide +kernel
theorem dX11_count_78 : decode cX11_count 78 = .ok (.aload_n 0, 1) := by decide +kernel
theorem dX11_count_79 : decode cX11_count 79 = .ok (.getfield 53, 3) := by decide +kernel
theorem dX11_count_82 : decode cX11_count 82 = .ok (.getfield 199, 3) := by decide +kernel
theorem dX11_count_85 : decode cX11_count 85 = .ok (.ifCond .eq 7, 3) := by decide +kernel
theorem dX11_count_88 : decode cX11_count 88 = .ok (.iconst 1, 1) := by decide +kernel
theorem dX11_count_89 : decode cX11_count 89 = .ok (.goto 4, 3) := by decide +kernel
theorem dX11_count_92 : decode cX11_count 92 = .ok (.iconst 0, 1) := by decide +kernel
theorem dX11_count_93 : decode cX11_count 93 = .ok (.ireturn, 1) := by decide +kernel
theorem dX11_count_94 : decode cX11_count 94 = .ok (.aload_n 0, 1) := by decide +kernel
theorem dX11_count_95 : decode cX11_count 95 = .ok (.invokevirtual 305, 3) := by decide +kernel
theorem dX11_count_98 : decode cX11_count 98 = .ok (.ireturn, 1) := by decide +kernel
theorem dX11_count_99 : decode cX11_count 99 = .ok (.aload_n 0, 1) := by decide +kernel
theorem dX11_count_100 : decode cX11_count 100 = .ok (.getfield 85, 3) := by decide +kernel
theorem dX11_count_103 : decode cX11_count 103 = .ok (.getfield 262, 3) := by decide +kernel
theorem dX11_count_106 : decode cX11_count 106 = .ok (.ireturn, 1) := by decide +kernel
theorem dX11_count_107 : decode cX11_count 107 = .ok (.aload_n 0, 1) := by decide +kernel
theorem dX11_count_108 : decode cX11_count 108 = .ok (.getfield 85, 3) := by decide +kernel
theorem dX11_count_111 : decode cX11_count 111 = .ok (.getfield 271, 3) := by decide +kernel
theorem dX11_count_114 : decode cX11_count 114 = .ok (.ireturn, 1) := by decide +kernel
theorem dX11_count_115 : decode cX11_count 115 = .ok (.aload_n 0, 1) := by decide +kernel
theorem dX11_count_116 : decode cX11_count 116 = .ok (.getfield 10, 3) := by decide +kernel
theorem dX11_count_119 : decode cX11_count 119 = .ok (.getfield 97, 3) := by decide +kernel
theorem dX11_count_122 : decode cX11_count 122 = .ok (.ireturn, 1) := by decide +kernel
theorem dX11_count_123 : decode cX11_count 123 = .ok (.iconst (-1), 1) := by decide +kernel
theorem dX11_count_124 : decode cX11_count 124 = .ok (.ireturn, 1) := by decide +kernel
abbrev mX11_isRinger : MI := (yX11_isRinger, cX11_isRinger, 2, some .boolean, 1, 21, [])
abbrev mX11_canHelp : MI := (yX11_canHelp, cX11_canHelp, 2, some .boolean, 2, 42, [])
abbrev mX11_standAllBut : MI := (yX11_standAllBut, cX11_standAllBut, 3, none, 2, 42, [])
abbrev mX11_countMissing : MI := (yX11_countMissing, cX11_countMissing, 3, some .int, 1, 21, [])
abbrev mX11_countWithBell : MI := (yX11_countWithBell, cX11_countWithBell, 3, some .int, 2, 45, [])
abbrev mX11_feed : MI := (yX11_feed, cX11_feed, 6, some .int, 2, 43, [])
abbrev mX11_end : MI := (yX11_end, cX11_end, 2, some .int, 1, 21, [])
abbrev mX11_score : MI := (yX11_score, cX11_score, 2, some .int, 9, 194, [])
abbrev mX11_manners : MI := (yX11_manners, cX11_manners, 2, some .int, 10, 214, [])
abbrev mX11_fault : MI := (yX11_fault, cX11_fault, 2, some .int, 1, 21, [])
abbrev mX11_rule : MI := (yX11_rule, cX11_rule, 2, some .int, 1, 21, [])
abbrev mX11_stroke : MI := (yX11_stroke, cX11_stroke, 3, some .int, 2, 42, [])
abbrev mX11_ringers : MI := (yX11_ringers, cX11_ringers, 4, some .int, 2, 41, [])
abbrev mX11_absent : MI := (yX11_absent, cX11_absent, 4, some .int, 2, 42, [])
abbrev mX11_hands : MI := (yX11_hands, cX11_hands, 3, some .int, 6, 146, [])
abbrev mX11_hand : MI := (yX11_hand, cX11_hand, 2, some .int, 2, 42, [])
abbrev mX11_part : MI := (yX11_part, cX11_part, 2, some .int, 7, 172, [])
abbrev mX11_give : MI := (yX11_give, cX11_give, 4, some .int, 3, 62, [])
abbrev mX11_parted : MI := (yX11_parted, cX11_parted, 2, some .int, 3, 62, [])
abbrev mX11_load : MI := (yX11_load, cX11_load, 2, some .int, 5, 123, [])
abbrev mX11_cover : MI := (yX11_cover, cX11_cover, 3, some .int, 7, 172, [])
abbrev mX11_help : MI := (yX11_help, cX11_help, 4, some .int, 7, 179, [])
abbrev mX11_helped : MI := (yX11_helped, cX11_helped, 2, some .int, 1, 21, [])
abbrev mX11_clashes : MI := (yX11_clashes, cX11_clashes, 1, some .int, 3, 68, [])
abbrev mX11_clash : MI := (yX11_clash, cX11_clash, 3, some .int, 3, 68, [])
abbrev mX11_damp : MI := (yX11_damp, cX11_damp, 2, some .int, 4, 89, [])
abbrev mX11_heard : MI := (yX11_heard, cX11_heard, 2, some .int, 9, 194, [])
abbrev mX11_laid : MI := (yX11_laid, cX11_laid, 3, some .int, 2, 42, [])
abbrev mX11_more : MI := (yX11_more, cX11_more, 1, some .int, 1, 21, [])
abbrev mX11_blame : MI := (yX11_blame, cX11_blame, 2, some .int, 3, 68, [])
abbrev mX11_pass : MI := (yX11_pass, cX11_pass, 2, some .int, 2, 41, [])
abbrev mX11_away : MI := (yX11_away, cX11_away, 4, some .int, 2, 45, [])
abbrev mX11_back : MI := (yX11_back, cX11_back, 3, some .int, 2, 43, [])
abbrev mX11_there : MI := (yX11_there, cX11_there, 4, some .int, 3, 70, [])
abbrev mX11_key : MI := (yX11_key, cX11_key, 3, some .int, 5, 113, [])
abbrev mX11_keyed : MI := (yX11_keyed, cX11_keyed, 2, some .int, 1, 21, [])
abbrev mX11_count : MI := (yX11_count, cX11_count, 2, some .int, 3, 67, [])
theorem kB_m99 : (Int8.ofInt (-99)).toInt32 = (-99) := by decide
theorem kB_m9 : (Int8.ofInt (-9)).toInt32 = (-9) := by decide
theorem kB_m4 : (Int8.ofInt (-4)).toInt32 = (-4) := by decide
theorem kB_m3 : (Int8.ofInt (-3)).toInt32 = (-3) := by decide
theorem kB_m2 : (Int8.ofInt (-2)).toInt32 = (-2) := by decide
theorem kB_20 : (Int8.ofInt 20).toInt32 = 20 := by decide
theorem kB_60 : (Int8.ofInt 60).toInt32 = 60 := by decide
theorem kS_500 : (Int16.ofInt 500).toInt32 = 500 := by decide
theorem fk_X11_10 : Fk RX11 10 11 0 := ⟨RX11, TX11, 12, tyX11, rfl, inX11, by decide, lw_in (i := 427) (by decide +kernel) (by decide +kernel), tyX11_ok, nmX11⟩
theorem fk_X11_21 : Fk RX11 21 11 1 := ⟨RX11, TX11, 12, tyX11, rfl, inX11, by decide, lw_in (i := 428) (by decide +kernel) (by decide +kernel), tyX11_ok, nmX11⟩
theorem fk_X11_28 : Fk RX11 28 11 2 := ⟨RX11, TX11, 12, tyX11, rfl, inX11, by decide, lw_in (i := 429) (by decide +kernel) (by decide +kernel), tyX11_ok, nmX11⟩
theorem fk_X11_35 : Fk RX11 35 11 3 := ⟨RX11, TX11, 12, tyX11, rfl, inX11, by decide, lw_in (i := 430) (by decide +kernel) (by decide +kernel), tyX11_ok, nmX11⟩
theorem fk_X11_44 : Fk RX11 44 11 4 := ⟨RX11, TX11, 12, tyX11, rfl, inX11, by decide, lw_in (i := 431) (by decide +kernel) (by decide +kernel), tyX11_ok, nmX11⟩
theorem fk_X11_53 : Fk RX11 53 11 5 := ⟨RX11, TX11, 12, tyX11, rfl, inX11, by decide, lw_in (i := 432) (by decide +kernel) (by decide +kernel), tyX11_ok, nmX11⟩
theorem fk_X11_62 : Fk RX11 62 11 6 := ⟨RX11, TX11, 12, tyX11, rfl, inX11, by decide, lw_in (i := 433) (by decide +kernel) (by decide +kernel), tyX11_ok, nmX11⟩
theorem fk_X11_71 : Fk RX11 71 11 7 := ⟨RX11, TX11, 12, tyX11, rfl, inX11, by decide, lw_in (i := 434) (by decide +kernel) (by decide +kernel), tyX11_ok, nmX11⟩
theorem fk_X11_78 : Fk RX11 78 11 8 := ⟨RX11, TX11, 12, tyX11, rfl, inX11, by decide, lw_in (i := 435) (by decide +kernel) (by decide +kernel), tyX11_ok, nmX11⟩
theorem fk_X11_85 : Fk RX11 85 11 9 := ⟨RX11, TX11, 12, tyX11, rfl, inX11, by decide, lw_in (i := 436) (by decide +kernel) (by decide +kernel), tyX11_ok, nmX11⟩
theorem fk_X11_89 : Fk RX11 89 11 10 := ⟨RX11, TX11, 12, tyX11, rfl, inX11, by decide, lw_in (i := 437) (by decide +kernel) (by decide +kernel), tyX11_ok, nmX11⟩
theorem fk_X11_93 : Fk RX11 93 11 11 := ⟨RX11, TX11, 12, tyX11, rfl, inX11, by decide, lw_in (i := 438) (by decide +kernel) (by decide +kernel), tyX11_ok, nmX11⟩
theorem fk_X11_97 : Fk RX11 97 10 0 := ⟨RX10, TX10, 8, tyX10, rfl, inX10, by decide, lw_in (i := 37) (by decide +kernel) (by decide +kernel), tyX10_ok, nmX10⟩
theorem fk_X11_108 : Fk RX11 108 0 1 := ⟨RX0, TX0, 5, tyX0, rfl, inX0, by decide, lw_in (i := 128) (by decide +kernel) (by decide +kernel), tyX0_ok, nmX0⟩
theorem fk_X11_128 : Fk RX11 128 9 4 := ⟨RX9, TX9, 5, tyX9, rfl, inX9, by decide, lw_in (i := 111) (by decide +kernel) (by decide +kernel), tyX9_ok, nmX9⟩
theorem fk_X11_135 : Fk RX11 135 10 3 := ⟨RX10, TX10, 8, tyX10, rfl, inX10, by decide, lw_in (i := 48) (by decide +kernel) (by decide +kernel), tyX10_ok, nmX10⟩
theorem fk_X11_138 : Fk RX11 138 10 4 := ⟨RX10, TX10, 8, tyX10, rfl, inX10, by decide, lw_in (i := 50) (by decide +kernel) (by decide +kernel), tyX10_ok, nmX10⟩
theorem fk_X11_141 : Fk RX11 141 6 0 := ⟨RX6, TX6, 5, tyX6, rfl, inX6, by decide, lw_in (i := 157) (by decide +kernel) (by decide +kernel), tyX6_ok, nmX6⟩
theorem fk_X11_149 : Fk RX11 149 9 0 := ⟨RX9, TX9, 5, tyX9, rfl, inX9, by decide, lw_in (i := 87) (by decide +kernel) (by decide +kernel), tyX9_ok, nmX9⟩
theorem fk_X11_152 : Fk RX11 152 9 1 := ⟨RX9, TX9, 5, tyX9, rfl, inX9, by decide, lw_in (i := 94) (by decide +kernel) (by decide +kernel), tyX9_ok, nmX9⟩
theorem fk_X11_155 : Fk RX11 155 9 2 := ⟨RX9, TX9, 5, tyX9, rfl, inX9, by decide, lw_in (i := 99) (by decide +kernel) (by decide +kernel), tyX9_ok, nmX9⟩
theorem fk_X11_158 : Fk RX11 158 9 3 := ⟨RX9, TX9, 5, tyX9, rfl, inX9, by decide, lw_in (i := 103) (by decide +kernel) (by decide +kernel), tyX9_ok, nmX9⟩
theorem fk_X11_161 : Fk RX11 161 8 1 := ⟨RX8, TX8, 5, tyX8, rfl, inX8, by decide, lw_in (i := 305) (by decide +kernel) (by decide +kernel), tyX8_ok, nmX8⟩
theorem fk_X11_178 : Fk RX11 178 3 3 := ⟨RX3, TX3, 9, tyX3, rfl, inX3, by decide, lw_in (i := 186) (by decide +kernel) (by decide +kernel), tyX3_ok, nmX3⟩
theorem fk_X11_182 : Fk RX11 182 3 2 := ⟨RX3, TX3, 9, tyX3, rfl, inX3, by decide, lw_in (i := 184) (by decide +kernel) (by decide +kernel), tyX3_ok, nmX3⟩
theorem fk_X11_199 : Fk RX11 199 7 4 := ⟨RX7, TX7, 13, tyX7, rfl, inX7, by decide, lw_in (i := 223) (by decide +kernel) (by decide +kernel), tyX7_ok, nmX7⟩
theorem fk_X11_202 : Fk RX11 202 7 3 := ⟨RX7, TX7, 13, tyX7, rfl, inX7, by decide, lw_in (i := 221) (by decide +kernel) (by decide +kernel), tyX7_ok, nmX7⟩
theorem fk_X11_222 : Fk RX11 222 4 3 := ⟨RX4, TX4, 9, tyX4, rfl, inX4, by decide, lw_in (i := 271) (by decide +kernel) (by decide +kernel), tyX4_ok, nmX4⟩
theorem fk_X11_225 : Fk RX11 225 4 4 := ⟨RX4, TX4, 9, tyX4, rfl, inX4, by decide, lw_in (i := 273) (by decide +kernel) (by decide +kernel), tyX4_ok, nmX4⟩
theorem fk_X11_231 : Fk RX11 231 8 2 := ⟨RX8, TX8, 5, tyX8, rfl, inX8, by decide, lw_in (i := 307) (by decide +kernel) (by decide +kernel), tyX8_ok, nmX8⟩
theorem fk_X11_234 : Fk RX11 234 8 3 := ⟨RX8, TX8, 5, tyX8, rfl, inX8, by decide, lw_in (i := 309) (by decide +kernel) (by decide +kernel), tyX8_ok, nmX8⟩
theorem fk_X11_248 : Fk RX11 248 5 4 := ⟨RX5, TX5, 9, tyX5, rfl, inX5, by decide, lw_in (i := 347) (by decide +kernel) (by decide +kernel), tyX5_ok, nmX5⟩
theorem fk_X11_250 : Fk RX11 250 5 2 := ⟨RX5, TX5, 9, tyX5, rfl, inX5, by decide, lw_in (i := 343) (by decide +kernel) (by decide +kernel), tyX5_ok, nmX5⟩
theorem fk_X11_253 : Fk RX11 253 5 1 := ⟨RX5, TX5, 9, tyX5, rfl, inX5, by decide, lw_in (i := 341) (by decide +kernel) (by decide +kernel), tyX5_ok, nmX5⟩
theorem fk_X11_256 : Fk RX11 256 5 3 := ⟨RX5, TX5, 9, tyX5, rfl, inX5, by decide, lw_in (i := 345) (by decide +kernel) (by decide +kernel), tyX5_ok, nmX5⟩
theorem fk_X11_262 : Fk RX11 262 2 1 := ⟨RX2, TX2, 14, tyX2, rfl, inX2, by decide, lw_in (i := 379) (by decide +kernel) (by decide +kernel), tyX2_ok, nmX2⟩
theorem fk_X11_271 : Fk RX11 271 2 2 := ⟨RX2, TX2, 14, tyX2, rfl, inX2, by decide, lw_in (i := 381) (by decide +kernel) (by decide +kernel), tyX2_ok, nmX2⟩
theorem fk_X11_287 : Fk RX11 287 2 3 := ⟨RX2, TX2, 14, tyX2, rfl, inX2, by decide, lw_in (i := 383) (by decide +kernel) (by decide +kernel), tyX2_ok, nmX2⟩
theorem fk_X11_290 : Fk RX11 290 2 4 := ⟨RX2, TX2, 14, tyX2, rfl, inX2, by decide, lw_in (i := 385) (by decide +kernel) (by decide +kernel), tyX2_ok, nmX2⟩
theorem fk_X11_293 : Fk RX11 293 2 5 := ⟨RX2, TX2, 14, tyX2, rfl, inX2, by decide, lw_in (i := 387) (by decide +kernel) (by decide +kernel), tyX2_ok, nmX2⟩
theorem fk_X11_296 : Fk RX11 296 2 6 := ⟨RX2, TX2, 14, tyX2, rfl, inX2, by decide, lw_in (i := 389) (by decide +kernel) (by decide +kernel), tyX2_ok, nmX2⟩
theorem fk_X11_299 : Fk RX11 299 7 5 := ⟨RX7, TX7, 13, tyX7, rfl, inX7, by decide, lw_in (i := 225) (by decide +kernel) (by decide +kernel), tyX7_ok, nmX7⟩
theorem fk_X11_308 : Fk RX11 308 7 6 := ⟨RX7, TX7, 13, tyX7, rfl, inX7, by decide, lw_in (i := 227) (by decide +kernel) (by decide +kernel), tyX7_ok, nmX7⟩
theorem fp_X11_11 : Fp 11 11 .int := ⟨RX11, TX11, 12, rfl, rfl, by decide +kernel⟩
theorem fp_X2_1 : Fp 2 1 .int := ⟨RX2, TX2, 14, rfl, rfl, by decide +kernel⟩
theorem ms_X11_isDay : Cond.static mX11_isDay.y ∈ lw_w := lw_in (i := 1010) (by decide +kernel) (by decide +kernel)
theorem ms_X11_orNone : Cond.static mX11_orNone.y ∈ lw_w := lw_in (i := 779) (by decide +kernel) (by decide +kernel)
theorem ms_X7_changesIn : Cond.static mX7_changesIn.y ∈ lw_w := lw_in (i := 856) (by decide +kernel) (by decide +kernel)
theorem ms_X7_takesIn : Cond.static mX7_takesIn.y ∈ lw_w := lw_in (i := 831) (by decide +kernel) (by decide +kernel)
theorem mv_X0_readAll : MkV mX0_readAll := ⟨lw_in (i := 481) (by decide +kernel) (by decide +kernel), lw_in (i := 482) (by decide +kernel) (by decide +kernel)⟩
theorem mv_X10_addFour : MkV mX10_addFour := ⟨lw_in (i := 469) (by decide +kernel) (by decide +kernel), lw_in (i := 470) (by decide +kernel) (by decide +kernel)⟩
theorem mv_X11_canHelp : MkV mX11_canHelp := ⟨lw_in (i := 864) (by decide +kernel) (by decide +kernel), lw_se (i := 30) (by decide +kernel) (by decide +kernel)⟩
theorem mv_X11_countMissing : MkV mX11_countMissing := ⟨lw_in (i := 1070) (by decide +kernel) (by decide +kernel), lw_se (i := 46) (by decide +kernel) (by decide +kernel)⟩
theorem mv_X11_countWithBell : MkV mX11_countWithBell := ⟨lw_in (i := 1074) (by decide +kernel) (by decide +kernel), lw_se (i := 47) (by decide +kernel) (by decide +kernel)⟩
theorem mv_X11_isRinger : MkV mX11_isRinger := ⟨lw_in (i := 715) (by decide +kernel) (by decide +kernel), lw_se (i := 12) (by decide +kernel) (by decide +kernel)⟩
theorem mv_X11_standAllBut : MkV mX11_standAllBut := ⟨lw_in (i := 792) (by decide +kernel) (by decide +kernel), lw_se (i := 23) (by decide +kernel) (by decide +kernel)⟩
theorem mv_X2_add : MkV mX2_add := ⟨lw_in (i := 1018) (by decide +kernel) (by decide +kernel), lw_in (i := 1019) (by decide +kernel) (by decide +kernel)⟩
theorem mv_X2_addBack : MkV mX2_addBack := ⟨lw_in (i := 1026) (by decide +kernel) (by decide +kernel), lw_in (i := 1027) (by decide +kernel) (by decide +kernel)⟩
theorem mv_X2_forgetKey : MkV mX2_forgetKey := ⟨lw_in (i := 643) (by decide +kernel) (by decide +kernel), lw_in (i := 644) (by decide +kernel) (by decide +kernel)⟩
theorem mv_X2_seekKey : MkV mX2_seekKey := ⟨lw_in (i := 1046) (by decide +kernel) (by decide +kernel), lw_in (i := 1047) (by decide +kernel) (by decide +kernel)⟩
theorem mv_X3_choose : MkV mX3_choose := ⟨lw_in (i := 722) (by decide +kernel) (by decide +kernel), lw_in (i := 723) (by decide +kernel) (by decide +kernel)⟩
theorem mv_X3_forget : MkV mX3_forget := ⟨lw_in (i := 622) (by decide +kernel) (by decide +kernel), lw_in (i := 623) (by decide +kernel) (by decide +kernel)⟩
theorem mv_X4_forget : MkV mX4_forget := ⟨lw_in (i := 635) (by decide +kernel) (by decide +kernel), lw_in (i := 636) (by decide +kernel) (by decide +kernel)⟩
theorem mv_X4_seek : MkV mX4_seek := ⟨lw_in (i := 867) (by decide +kernel) (by decide +kernel), lw_in (i := 868) (by decide +kernel) (by decide +kernel)⟩
theorem mv_X5_forget : MkV mX5_forget := ⟨lw_in (i := 639) (by decide +kernel) (by decide +kernel), lw_in (i := 640) (by decide +kernel) (by decide +kernel)⟩
theorem mv_X5_lay : MkV mX5_lay := ⟨lw_in (i := 957) (by decide +kernel) (by decide +kernel), lw_in (i := 958) (by decide +kernel) (by decide +kernel)⟩
theorem mv_X5_pointsOn : MkV mX5_pointsOn := ⟨lw_in (i := 997) (by decide +kernel) (by decide +kernel), lw_in (i := 998) (by decide +kernel) (by decide +kernel)⟩
theorem mv_X6_readAll : MkV mX6_readAll := ⟨lw_in (i := 651) (by decide +kernel) (by decide +kernel), lw_in (i := 652) (by decide +kernel) (by decide +kernel)⟩
theorem mv_X7_dropParting : MkV mX7_dropParting := ⟨lw_in (i := 706) (by decide +kernel) (by decide +kernel), lw_in (i := 707) (by decide +kernel) (by decide +kernel)⟩
theorem mv_X7_settle : MkV mX7_settle := ⟨lw_in (i := 799) (by decide +kernel) (by decide +kernel), lw_in (i := 800) (by decide +kernel) (by decide +kernel)⟩
theorem mv_X7_stand : MkV mX7_stand := ⟨lw_in (i := 795) (by decide +kernel) (by decide +kernel), lw_in (i := 796) (by decide +kernel) (by decide +kernel)⟩
theorem mv_X7_takeScore : MkV mX7_takeScore := ⟨lw_in (i := 626) (by decide +kernel) (by decide +kernel), lw_in (i := 627) (by decide +kernel) (by decide +kernel)⟩
theorem mv_X7_weighAnew : MkV mX7_weighAnew := ⟨lw_in (i := 682) (by decide +kernel) (by decide +kernel), lw_in (i := 683) (by decide +kernel) (by decide +kernel)⟩
theorem mv_X8_beatsOfBoth : MkV mX8_beatsOfBoth := ⟨lw_in (i := 935) (by decide +kernel) (by decide +kernel), lw_in (i := 936) (by decide +kernel) (by decide +kernel)⟩
theorem mv_X8_cutDown : MkV mX8_cutDown := ⟨lw_in (i := 944) (by decide +kernel) (by decide +kernel), lw_in (i := 945) (by decide +kernel) (by decide +kernel)⟩
theorem mv_X8_walkTo : MkV mX8_walkTo := ⟨lw_in (i := 920) (by decide +kernel) (by decide +kernel), lw_in (i := 921) (by decide +kernel) (by decide +kernel)⟩
theorem mv_X9_copyFrom : MkV mX9_copyFrom := ⟨lw_in (i := 609) (by decide +kernel) (by decide +kernel), lw_in (i := 610) (by decide +kernel) (by decide +kernel)⟩
theorem mk_X11_100 : Mk RX11 100 mX10_addFour 1 := ⟨lw_in (i := 468) (by decide +kernel) (by decide +kernel), lw_in (i := 2) (by decide +kernel) (by decide +kernel), lw_in (i := 471) (by decide +kernel) (by decide +kernel), by decide +kernel⟩
theorem mk_X11_104 : Mk RX11 104 mX0_readAll 1 := ⟨lw_in (i := 480) (by decide +kernel) (by decide +kernel), lw_in (i := 3) (by decide +kernel) (by decide +kernel), lw_in (i := 483) (by decide +kernel) (by decide +kernel), by decide +kernel⟩
theorem mk_X11_111 : Mk RX11 111 mX9_copyFrom 1 := ⟨lw_in (i := 608) (by decide +kernel) (by decide +kernel), lw_in (i := 4) (by decide +kernel) (by decide +kernel), lw_in (i := 611) (by decide +kernel) (by decide +kernel), by decide +kernel⟩
theorem mk_X11_114 : Mk RX11 114 mX8_measure 0 := ⟨lw_in (i := 613) (by decide +kernel) (by decide +kernel), lw_in (i := 10) (by decide +kernel) (by decide +kernel), lw_in (i := 616) (by decide +kernel) (by decide +kernel), by decide +kernel⟩
theorem mk_X11_117 : Mk RX11 117 mX3_forget 0 := ⟨lw_in (i := 621) (by decide +kernel) (by decide +kernel), lw_in (i := 7) (by decide +kernel) (by decide +kernel), lw_in (i := 624) (by decide +kernel) (by decide +kernel), by decide +kernel⟩
theorem mk_X11_120 : Mk RX11 120 mX7_takeScore 0 := ⟨lw_in (i := 625) (by decide +kernel) (by decide +kernel), lw_in (i := 8) (by decide +kernel) (by decide +kernel), lw_in (i := 628) (by decide +kernel) (by decide +kernel), by decide +kernel⟩
theorem mk_X11_123 : Mk RX11 123 mX4_forget 0 := ⟨lw_in (i := 634) (by decide +kernel) (by decide +kernel), lw_in (i := 9) (by decide +kernel) (by decide +kernel), lw_in (i := 637) (by decide +kernel) (by decide +kernel), by decide +kernel⟩
theorem mk_X11_124 : Mk RX11 124 mX5_forget 0 := ⟨lw_in (i := 638) (by decide +kernel) (by decide +kernel), lw_in (i := 11) (by decide +kernel) (by decide +kernel), lw_in (i := 641) (by decide +kernel) (by decide +kernel), by decide +kernel⟩
theorem mk_X11_125 : Mk RX11 125 mX2_forgetKey 0 := ⟨lw_in (i := 642) (by decide +kernel) (by decide +kernel), lw_in (i := 13) (by decide +kernel) (by decide +kernel), lw_in (i := 645) (by decide +kernel) (by decide +kernel), by decide +kernel⟩
theorem mk_X11_129 : Mk RX11 129 mX6_readAll 1 := ⟨lw_in (i := 650) (by decide +kernel) (by decide +kernel), lw_in (i := 5) (by decide +kernel) (by decide +kernel), lw_in (i := 653) (by decide +kernel) (by decide +kernel), by decide +kernel⟩
theorem mk_X11_132 : Mk RX11 132 mX7_weighAnew 0 := ⟨lw_in (i := 681) (by decide +kernel) (by decide +kernel), lw_in (i := 8) (by decide +kernel) (by decide +kernel), lw_in (i := 684) (by decide +kernel) (by decide +kernel), by decide +kernel⟩
theorem mk_X11_145 : Mk RX11 145 mX9_hasNumber 1 := ⟨lw_in (i := 697) (by decide +kernel) (by decide +kernel), lw_in (i := 4) (by decide +kernel) (by decide +kernel), lw_in (i := 700) (by decide +kernel) (by decide +kernel), by decide +kernel⟩
theorem mk_X11_164 : Mk RX11 164 mX7_dropParting 0 := ⟨lw_in (i := 705) (by decide +kernel) (by decide +kernel), lw_in (i := 8) (by decide +kernel) (by decide +kernel), lw_in (i := 708) (by decide +kernel) (by decide +kernel), by decide +kernel⟩
theorem mk_X11_167 : Mk RX11 167 mX11_isRinger 1 := ⟨lw_in (i := 713) (by decide +kernel) (by decide +kernel), lw_in (i := 1) (by decide +kernel) (by decide +kernel), lw_in (i := 716) (by decide +kernel) (by decide +kernel), by decide +kernel⟩
theorem mk_X11_170 : Mk RX11 170 mX3_choose 1 := ⟨lw_in (i := 721) (by decide +kernel) (by decide +kernel), lw_in (i := 7) (by decide +kernel) (by decide +kernel), lw_in (i := 724) (by decide +kernel) (by decide +kernel), by decide +kernel⟩
theorem mk_X11_174 : Mk RX11 174 mX11_orNone 1 := ⟨lw_in (i := 778) (by decide +kernel) (by decide +kernel), lw_in (i := 1) (by decide +kernel) (by decide +kernel), lw_in (i := 780) (by decide +kernel) (by decide +kernel), by decide +kernel⟩
theorem mk_X11_185 : Mk RX11 185 mX11_standAllBut 1 := ⟨lw_in (i := 790) (by decide +kernel) (by decide +kernel), lw_in (i := 1) (by decide +kernel) (by decide +kernel), lw_in (i := 793) (by decide +kernel) (by decide +kernel), by decide +kernel⟩
theorem mk_X11_188 : Mk RX11 188 mX7_settle 1 := ⟨lw_in (i := 798) (by decide +kernel) (by decide +kernel), lw_in (i := 8) (by decide +kernel) (by decide +kernel), lw_in (i := 801) (by decide +kernel) (by decide +kernel), by decide +kernel⟩
theorem mk_X11_193 : Mk RX11 193 mX7_takesIn 1 := ⟨lw_in (i := 830) (by decide +kernel) (by decide +kernel), lw_in (i := 8) (by decide +kernel) (by decide +kernel), lw_in (i := 832) (by decide +kernel) (by decide +kernel), by decide +kernel⟩
theorem mk_X11_196 : Mk RX11 196 mX7_uses 1 := ⟨lw_in (i := 837) (by decide +kernel) (by decide +kernel), lw_in (i := 8) (by decide +kernel) (by decide +kernel), lw_in (i := 632) (by decide +kernel) (by decide +kernel), by decide +kernel⟩
theorem mk_X11_205 : Mk RX11 205 mX7_bellsOf 1 := ⟨lw_in (i := 846) (by decide +kernel) (by decide +kernel), lw_in (i := 8) (by decide +kernel) (by decide +kernel), lw_in (i := 849) (by decide +kernel) (by decide +kernel), by decide +kernel⟩
theorem mk_X11_209 : Mk RX11 209 mX3_takesOf 1 := ⟨lw_in (i := 850) (by decide +kernel) (by decide +kernel), lw_in (i := 7) (by decide +kernel) (by decide +kernel), lw_in (i := 728) (by decide +kernel) (by decide +kernel), by decide +kernel⟩
theorem mk_X11_212 : Mk RX11 212 mX7_changesIn 1 := ⟨lw_in (i := 855) (by decide +kernel) (by decide +kernel), lw_in (i := 8) (by decide +kernel) (by decide +kernel), lw_in (i := 857) (by decide +kernel) (by decide +kernel), by decide +kernel⟩
theorem mk_X11_215 : Mk RX11 215 mX11_canHelp 1 := ⟨lw_in (i := 862) (by decide +kernel) (by decide +kernel), lw_in (i := 1) (by decide +kernel) (by decide +kernel), lw_in (i := 865) (by decide +kernel) (by decide +kernel), by decide +kernel⟩
theorem mk_X11_218 : Mk RX11 218 mX4_seek 3 := ⟨lw_in (i := 866) (by decide +kernel) (by decide +kernel), lw_in (i := 9) (by decide +kernel) (by decide +kernel), lw_in (i := 869) (by decide +kernel) (by decide +kernel), by decide +kernel⟩
theorem mk_X11_228 : Mk RX11 228 mX8_walkTo 1 := ⟨lw_in (i := 919) (by decide +kernel) (by decide +kernel), lw_in (i := 10) (by decide +kernel) (by decide +kernel), lw_in (i := 922) (by decide +kernel) (by decide +kernel), by decide +kernel⟩
theorem mk_X11_237 : Mk RX11 237 mX8_beatsOfBoth 0 := ⟨lw_in (i := 934) (by decide +kernel) (by decide +kernel), lw_in (i := 10) (by decide +kernel) (by decide +kernel), lw_in (i := 937) (by decide +kernel) (by decide +kernel), by decide +kernel⟩
theorem mk_X11_241 : Mk RX11 241 mX8_cutDown 0 := ⟨lw_in (i := 943) (by decide +kernel) (by decide +kernel), lw_in (i := 10) (by decide +kernel) (by decide +kernel), lw_in (i := 946) (by decide +kernel) (by decide +kernel), by decide +kernel⟩
theorem mk_X11_244 : Mk RX11 244 mX5_lay 1 := ⟨lw_in (i := 956) (by decide +kernel) (by decide +kernel), lw_in (i := 11) (by decide +kernel) (by decide +kernel), lw_in (i := 959) (by decide +kernel) (by decide +kernel), by decide +kernel⟩
theorem mk_X11_259 : Mk RX11 259 mX5_pointsOn 1 := ⟨lw_in (i := 996) (by decide +kernel) (by decide +kernel), lw_in (i := 11) (by decide +kernel) (by decide +kernel), lw_in (i := 999) (by decide +kernel) (by decide +kernel), by decide +kernel⟩
theorem mk_X11_265 : Mk RX11 265 mX11_isDay 1 := ⟨lw_in (i := 1009) (by decide +kernel) (by decide +kernel), lw_in (i := 1) (by decide +kernel) (by decide +kernel), lw_in (i := 1011) (by decide +kernel) (by decide +kernel), by decide +kernel⟩
theorem mk_X11_268 : Mk RX11 268 mX11_isBell 1 := ⟨lw_in (i := 1016) (by decide +kernel) (by decide +kernel), lw_in (i := 1) (by decide +kernel) (by decide +kernel), lw_in (i := 592) (by decide +kernel) (by decide +kernel), by decide +kernel⟩
theorem mk_X11_272 : Mk RX11 272 mX2_add 3 := ⟨lw_in (i := 1017) (by decide +kernel) (by decide +kernel), lw_in (i := 13) (by decide +kernel) (by decide +kernel), lw_in (i := 1020) (by decide +kernel) (by decide +kernel), by decide +kernel⟩
theorem mk_X11_275 : Mk RX11 275 mX2_addBack 2 := ⟨lw_in (i := 1025) (by decide +kernel) (by decide +kernel), lw_in (i := 13) (by decide +kernel) (by decide +kernel), lw_in (i := 1028) (by decide +kernel) (by decide +kernel), by decide +kernel⟩
theorem mk_X11_279 : Mk RX11 279 mX2_lies 3 := ⟨lw_in (i := 1033) (by decide +kernel) (by decide +kernel), lw_in (i := 13) (by decide +kernel) (by decide +kernel), lw_in (i := 1036) (by decide +kernel) (by decide +kernel), by decide +kernel⟩
theorem mk_X11_283 : Mk RX11 283 mX2_seekKey 2 := ⟨lw_in (i := 1045) (by decide +kernel) (by decide +kernel), lw_in (i := 13) (by decide +kernel) (by decide +kernel), lw_in (i := 1048) (by decide +kernel) (by decide +kernel), by decide +kernel⟩
theorem mk_X11_302 : Mk RX11 302 mX11_countMissing 0 := ⟨lw_in (i := 1068) (by decide +kernel) (by decide +kernel), lw_in (i := 1) (by decide +kernel) (by decide +kernel), lw_in (i := 1071) (by decide +kernel) (by decide +kernel), by decide +kernel⟩
theorem mk_X11_305 : Mk RX11 305 mX11_countWithBell 0 := ⟨lw_in (i := 1072) (by decide +kernel) (by decide +kernel), lw_in (i := 1) (by decide +kernel) (by decide +kernel), lw_in (i := 1075) (by decide +kernel) (by decide +kernel), by decide +kernel⟩
theorem mk_X11_311 : Mk RX11 311 mX7_stand 1 := ⟨lw_in (i := 794) (by decide +kernel) (by decide +kernel), lw_in (i := 8) (by decide +kernel) (by decide +kernel), lw_in (i := 797) (by decide +kernel) (by decide +kernel), by decide +kernel⟩
theorem rm_X11_absent_X11_isRinger : Rm mX11_absent mX11_isRinger := ⟨by decide, by decide⟩
theorem rm_X11_away_X11_isBell : Rm mX11_away mX11_isBell := ⟨by decide, by decide⟩
theorem rm_X11_away_X11_isDay : Rm mX11_away mX11_isDay := ⟨by decide, by decide⟩
theorem rm_X11_away_X2_add : Rm mX11_away mX2_add := ⟨by decide, by decide⟩
theorem rm_X11_back_X11_isDay : Rm mX11_back mX11_isDay := ⟨by decide, by decide⟩
theorem rm_X11_back_X2_addBack : Rm mX11_back mX2_addBack := ⟨by decide, by decide⟩
theorem rm_X11_blame_X11_isRinger : Rm mX11_blame mX11_isRinger := ⟨by decide, by decide⟩
theorem rm_X11_blame_X5_pointsOn : Rm mX11_blame mX5_pointsOn := ⟨by decide, by decide⟩
theorem rm_X11_blame_X7_bellsOf : Rm mX11_blame mX7_bellsOf := ⟨by decide, by decide⟩
theorem rm_X11_canHelp_X11_isRinger : Rm mX11_canHelp mX11_isRinger := ⟨by decide, by decide⟩
theorem rm_X11_clash_X8_beatsOfBoth : Rm mX11_clash mX8_beatsOfBoth := ⟨by decide, by decide⟩
theorem rm_X11_clash_X8_walkTo : Rm mX11_clash mX8_walkTo := ⟨by decide, by decide⟩
theorem rm_X11_clashes_X8_walkTo : Rm mX11_clashes mX8_walkTo := ⟨by decide, by decide⟩
theorem rm_X11_count_X11_countMissing : Rm mX11_count mX11_countMissing := ⟨by decide, by decide⟩
theorem rm_X11_count_X11_countWithBell : Rm mX11_count mX11_countWithBell := ⟨by decide, by decide⟩
theorem rm_X11_countWithBell_X7_bellsOf : Rm mX11_countWithBell mX7_bellsOf := ⟨by decide, by decide⟩
theorem rm_X11_cover_X11_isRinger : Rm mX11_cover mX11_isRinger := ⟨by decide, by decide⟩
theorem rm_X11_cover_X11_standAllBut : Rm mX11_cover mX11_standAllBut := ⟨by decide, by decide⟩
theorem rm_X11_cover_X7_changesIn : Rm mX11_cover mX7_changesIn := ⟨by decide, by decide⟩
theorem rm_X11_cover_X7_settle : Rm mX11_cover mX7_settle := ⟨by decide, by decide⟩
theorem rm_X11_damp_X3_forget : Rm mX11_damp mX3_forget := ⟨by decide, by decide⟩
theorem rm_X11_damp_X7_weighAnew : Rm mX11_damp mX7_weighAnew := ⟨by decide, by decide⟩
theorem rm_X11_damp_X8_cutDown : Rm mX11_damp mX8_cutDown := ⟨by decide, by decide⟩
theorem rm_X11_feed_X10_addFour : Rm mX11_feed mX10_addFour := ⟨by decide, by decide⟩
theorem rm_X11_give_X11_isRinger : Rm mX11_give mX11_isRinger := ⟨by decide, by decide⟩
theorem rm_X11_give_X7_uses : Rm mX11_give mX7_uses := ⟨by decide, by decide⟩
theorem rm_X11_hand_X9_hasNumber : Rm mX11_hand mX9_hasNumber := ⟨by decide, by decide⟩
theorem rm_X11_hands_X11_orNone : Rm mX11_hands mX11_orNone := ⟨by decide, by decide⟩
theorem rm_X11_hands_X3_choose : Rm mX11_hands mX3_choose := ⟨by decide, by decide⟩
theorem rm_X11_heard_X0_readAll : Rm mX11_heard mX0_readAll := ⟨by decide, by decide⟩
theorem rm_X11_heard_X5_lay : Rm mX11_heard mX5_lay := ⟨by decide, by decide⟩
theorem rm_X11_help_X11_canHelp : Rm mX11_help mX11_canHelp := ⟨by decide, by decide⟩
theorem rm_X11_help_X11_isRinger : Rm mX11_help mX11_isRinger := ⟨by decide, by decide⟩
theorem rm_X11_help_X11_orNone : Rm mX11_help mX11_orNone := ⟨by decide, by decide⟩
theorem rm_X11_help_X4_seek : Rm mX11_help mX4_seek := ⟨by decide, by decide⟩
theorem rm_X11_key_X11_isDay : Rm mX11_key mX11_isDay := ⟨by decide, by decide⟩
theorem rm_X11_key_X2_seekKey : Rm mX11_key mX2_seekKey := ⟨by decide, by decide⟩
theorem rm_X11_laid_X9_hasNumber : Rm mX11_laid mX9_hasNumber := ⟨by decide, by decide⟩
theorem rm_X11_load_X11_isRinger : Rm mX11_load mX11_isRinger := ⟨by decide, by decide⟩
theorem rm_X11_load_X11_orNone : Rm mX11_load mX11_orNone := ⟨by decide, by decide⟩
theorem rm_X11_load_X3_takesOf : Rm mX11_load mX3_takesOf := ⟨by decide, by decide⟩
theorem rm_X11_load_X7_bellsOf : Rm mX11_load mX7_bellsOf := ⟨by decide, by decide⟩
theorem rm_X11_manners_X3_forget : Rm mX11_manners mX3_forget := ⟨by decide, by decide⟩
theorem rm_X11_manners_X6_readAll : Rm mX11_manners mX6_readAll := ⟨by decide, by decide⟩
theorem rm_X11_manners_X7_weighAnew : Rm mX11_manners mX7_weighAnew := ⟨by decide, by decide⟩
theorem rm_X11_part_X11_standAllBut : Rm mX11_part mX11_standAllBut := ⟨by decide, by decide⟩
theorem rm_X11_part_X7_settle : Rm mX11_part mX7_settle := ⟨by decide, by decide⟩
theorem rm_X11_part_X7_takesIn : Rm mX11_part mX7_takesIn := ⟨by decide, by decide⟩
theorem rm_X11_parted_X7_uses : Rm mX11_parted mX7_uses := ⟨by decide, by decide⟩
theorem rm_X11_pass_X11_isDay : Rm mX11_pass mX11_isDay := ⟨by decide, by decide⟩
theorem rm_X11_ringers_X7_dropParting : Rm mX11_ringers mX7_dropParting := ⟨by decide, by decide⟩
theorem rm_X11_score_X0_readAll : Rm mX11_score mX0_readAll := ⟨by decide, by decide⟩
theorem rm_X11_score_X2_forgetKey : Rm mX11_score mX2_forgetKey := ⟨by decide, by decide⟩
theorem rm_X11_score_X3_forget : Rm mX11_score mX3_forget := ⟨by decide, by decide⟩
theorem rm_X11_score_X4_forget : Rm mX11_score mX4_forget := ⟨by decide, by decide⟩
theorem rm_X11_score_X5_forget : Rm mX11_score mX5_forget := ⟨by decide, by decide⟩
theorem rm_X11_score_X7_takeScore : Rm mX11_score mX7_takeScore := ⟨by decide, by decide⟩
theorem rm_X11_score_X8_measure : Rm mX11_score mX8_measure := ⟨by decide, by decide⟩
theorem rm_X11_score_X9_copyFrom : Rm mX11_score mX9_copyFrom := ⟨by decide, by decide⟩
theorem rm_X11_standAllBut_X7_stand : Rm mX11_standAllBut mX7_stand := ⟨by decide, by decide⟩
theorem rm_X11_stroke_X9_hasNumber : Rm mX11_stroke mX9_hasNumber := ⟨by decide, by decide⟩
theorem rm_X11_there_X11_isBell : Rm mX11_there mX11_isBell := ⟨by decide, by decide⟩
theorem rm_X11_there_X11_isDay : Rm mX11_there mX11_isDay := ⟨by decide, by decide⟩
theorem rm_X11_there_X2_lies : Rm mX11_there mX2_lies := ⟨by decide, by decide⟩
section W_top
variable {l : Launch} {D : va_G} {ad : Nat → Nat} {kA : Nat → ClassId} {M : Mem} {Q : Outcome → Mem → Prop}
def v_X11_isRinger (M : Mem) (x1 : Int32) : Int32 := if x1 < 0 then 0 else if (gI M 0 11) ≤ x1 then 0 else 1
theorem ct_X11_isRinger {x1 : Int32}  (h : Q (.returned (some (.int (v_X11_isRinger M x1)))) M) : Cal l D ad kA mX11_isRinger [.ref (ad 0), .int x1] M Q := by
  refine Cal.of (lo := [some (.ref (ad 0)), some (.int x1)]) (by decide) rfl rfl (Nat.le_of_ble_eq_true rfl) ?_
  refine r_iload_n dX11_isRinger_0 rfl ?_
  suffices hJ1 : Fw l D ad kA mX11_isRinger 17 [none, none] [.int (if x1 < 0 then 0 else if (gI M 0 11) ≤ x1 then 0 else 1)] M Q by
    refine r_if_lt (tgt := 16) dX11_isRinger_1 (by decide) (fun c1 => ?_) (fun c1 => ?_)
    · skip
      refine r_iconst (v := 0) dX11_isRinger_16 kI_0 ?_
      exact q_weak (lo' := [none, none]) trivial (by have h9 := hJ1; simp only [if_pos c1] at h9; first | exact h9 | (simp only [if_pos c1]; exact h9))
    · skip
      refine r_iload_n dX11_isRinger_4 rfl ?_
      refine r_aload_n dX11_isRinger_5 rfl ?_
      refine r_getI dX11_isRinger_6 fs_0_11 fk_X11_93 ?_
      refine r_icmp_ge (tgt := 16) dX11_isRinger_9 (by decide) (fun c2 => ?_) (fun c2 => ?_)
      · skip
        refine r_iconst (v := 0) dX11_isRinger_16 kI_0 ?_
        exact q_weak (lo' := [none, none]) trivial (by have h9 := hJ1; simp only [if_neg c1, if_pos c2] at h9; first | exact h9 | (simp only [if_neg c1, if_pos c2]; exact h9))
      · skip
        refine r_iconst (v := 1) dX11_isRinger_12 kI_1 ?_
        refine r_goto (tgt := 17) dX11_isRinger_13 (by decide) ?_
        exact q_weak (lo' := [none, none]) trivial (by have h9 := hJ1; simp only [if_neg c1, if_neg c2] at h9; first | exact h9 | (simp only [if_neg c1, if_neg c2]; exact h9))
  exact r_zret dX11_isRinger_17 rfl (nar_z (ite01 (Or.inl rfl) (ite01 (Or.inl rfl) (Or.inr rfl)))).1 h
theorem z_X11_isRinger {M : Mem} {x1 : Int32} : v_X11_isRinger M x1 = 0 ∨ v_X11_isRinger M x1 = 1 := (ite01 (Or.inl rfl) (ite01 (Or.inl rfl) (Or.inr rfl)))
def v_X11_canHelp (M : Mem) (x1 : Int32) : Int32 := if (v_X11_isRinger M x1) = 0 then 0 else if (gI M 52 x1.toNatClampNeg) = 0 then 1 else 0
def g_X11_canHelp (M : Mem) (x1 : Int32) : Prop := ((¬ ((v_X11_isRinger M x1) = 0)) → vp_in x1 12)
theorem ct_X11_canHelp {x1 : Int32}  (g : g_X11_canHelp M x1) (h : Q (.returned (some (.int (v_X11_canHelp M x1)))) M) : Cal l D ad kA mX11_canHelp [.ref (ad 0), .int x1] M Q := by
  refine Cal.of (lo := [some (.ref (ad 0)), some (.int x1)]) (by decide) rfl rfl (Nat.le_of_ble_eq_true rfl) ?_
  have g1 := g
  refine r_aload_n dX11_canHelp_0 rfl ?_
  refine r_iload_n dX11_canHelp_1 rfl ?_
  refine r_callV (x := 0) (As := [.int x1]) (rest := []) dX11_canHelp_2 mk_X11_167 mv_X11_isRinger rm_X11_canHelp_X11_isRinger rfl rfl (by decide +kernel) (Nat.le_of_ble_eq_true rfl) (ct_X11_isRinger (⟨_, rfl, ?_⟩))
  suffices hJ1 : Fw l D ad kA mX11_canHelp 22 [none, none] [.int (if (v_X11_isRinger M x1) = 0 then 0 else if (gI M 52 x1.toNatClampNeg) = 0 then 1 else 0)] M Q by
    refine r_if_eq (tgt := 21) dX11_canHelp_5 (by decide) (fun c1 => ?_) (fun c1 => ?_)
    · skip
      refine r_iconst (v := 0) dX11_canHelp_21 kI_0 ?_
      exact q_weak (lo' := [none, none]) trivial (by have h9 := hJ1; simp only [if_pos c1] at h9; first | exact h9 | (simp only [if_pos c1]; exact h9))
    · skip
      refine r_aload_n dX11_canHelp_8 rfl ?_
      refine r_getR dX11_canHelp_9 fs_0_10 fk_X11_89 ?_
      refine r_iload_n dX11_canHelp_12 rfl ?_
      refine r_zald dX11_canHelp_13 as_52 (g1 c1) ?_
      refine r_if_ne (tgt := 21) dX11_canHelp_14 (by decide) (fun c2 => ?_) (fun c2 => ?_)
      · skip
        refine r_iconst (v := 0) dX11_canHelp_21 kI_0 ?_
        exact q_weak (lo' := [none, none]) trivial (by have h9 := hJ1; simp only [if_neg c1, if_neg c2] at h9; first | exact h9 | (simp only [if_neg c1, if_neg c2]; exact h9))
      · skip
        refine r_iconst (v := 1) dX11_canHelp_17 kI_1 ?_
        refine r_goto (tgt := 22) dX11_canHelp_18 (by decide) ?_
        exact q_weak (lo' := [none, none]) trivial (by have h9 := hJ1; simp only [if_neg c1, if_pos c2] at h9; first | exact h9 | (simp only [if_neg c1, if_pos c2]; exact h9))
  exact r_zret dX11_canHelp_22 rfl (nar_z (ite01 (Or.inl rfl) (ite01 (Or.inr rfl) (Or.inl rfl)))).1 h
theorem z_X11_canHelp {M : Mem} {x1 : Int32} : v_X11_canHelp M x1 = 0 ∨ v_X11_canHelp M x1 = 1 := (ite01 (Or.inl rfl) (ite01 (Or.inr rfl) (Or.inl rfl)))
theorem t_X11_standAllBut_0 {x1 : Int32} 
    (K1 : Fw l D ad kA mX11_standAllBut 10 [some (.ref (ad 0)), some (.int x1), some (.int 0)] [] (sI M 22 6 0) Q) : Fw l D ad kA mX11_standAllBut 0 [some (.ref (ad 0)), some (.int x1), none] [] M Q := by
  refine r_aload_n dX11_standAllBut_0 rfl ?_
  refine r_getR dX11_standAllBut_1 fs_0_5 fk_X11_53 ?_
  refine r_iconst (v := 0) dX11_standAllBut_4 kI_0 ?_
  refine r_putI dX11_standAllBut_5 fs_22_6 fk_X11_308 fp_X7_6 ?_
  refine r_iconst (v := 0) dX11_standAllBut_8 kI_0 ?_
  refine q_istore_n (lo' := [some (.ref (ad 0)), some (.int x1), some (.int 0)]) dX11_standAllBut_9 (by decide) rfl ?_
  exact K1
theorem t_X11_standAllBut_10 {x1 : Int32} {x2 : Int32} 
    (g1 : (¬ ((gI M 0 11) ≤ x2)) → vp_in x2 12)
    (K1 : ((gI M 0 11) ≤ x2) → Q (.returned none) M)
    (K2 : (¬ ((gI M 0 11) ≤ x2)) → (¬ ((gI M 52 x2.toNatClampNeg) = 0)) → Fw l D ad kA mX11_standAllBut 10 [some (.ref (ad 0)), some (.int x1), some (.int (x2 + 1))] [] M Q)
    (K3 : (¬ ((gI M 0 11) ≤ x2)) → ((gI M 52 x2.toNatClampNeg) = 0) → (x2 = x1) → Fw l D ad kA mX11_standAllBut 10 [some (.ref (ad 0)), some (.int x1), some (.int (x2 + 1))] [] M Q)
    (K4 : (¬ ((gI M 0 11) ≤ x2)) → ((gI M 52 x2.toNatClampNeg) = 0) → (¬ (x2 = x1)) → Cal l D ad kA mX7_stand [.ref (ad 22), .int x2] M (fun oc M2 => oc = .returned none ∧ Fw l D ad kA mX11_standAllBut 40 [some (.ref (ad 0)), some (.int x1), some (.int x2)] [] M2 Q)) : Fw l D ad kA mX11_standAllBut 10 [some (.ref (ad 0)), some (.int x1), some (.int x2)] [] M Q := by
  refine r_iload_n dX11_standAllBut_10 rfl ?_
  refine r_aload_n dX11_standAllBut_11 rfl ?_
  refine r_getI dX11_standAllBut_12 fs_0_11 fk_X11_93 ?_
  refine r_icmp_ge (tgt := 46) dX11_standAllBut_15 (by decide) (fun c1 => ?_) (fun c1 => ?_)
  · skip
    exact r_vret dX11_standAllBut_46 rfl (K1 c1)
  · skip
    refine r_aload_n dX11_standAllBut_18 rfl ?_
    refine r_getR dX11_standAllBut_19 fs_0_10 fk_X11_89 ?_
    refine r_iload_n dX11_standAllBut_22 rfl ?_
    refine r_zald dX11_standAllBut_23 as_52 (g1 c1) ?_
    refine r_if_ne (tgt := 40) dX11_standAllBut_24 (by decide) (fun c2 => ?_) (fun c2 => ?_)
    · skip
      refine q_iinc (v := x2 + 1) (lo' := [some (.ref (ad 0)), some (.int x1), some (.int (x2 + 1))]) dX11_standAllBut_40 rfl (congrArg (fun q => x2 + q) kI_1) (by decide) rfl ?_
      refine r_goto (tgt := 10) dX11_standAllBut_43 (by decide) ?_
      exact (K2 c1 c2)
    · skip
      refine r_iload_n dX11_standAllBut_27 rfl ?_
      refine r_iload_n dX11_standAllBut_28 rfl ?_
      refine r_icmp_eq (tgt := 40) dX11_standAllBut_29 (by decide) (fun c3 => ?_) (fun c3 => ?_)
      · skip
        refine q_iinc (v := x2 + 1) (lo' := [some (.ref (ad 0)), some (.int x1), some (.int (x2 + 1))]) dX11_standAllBut_40 rfl (congrArg (fun q => x2 + q) kI_1) (by decide) rfl ?_
        refine r_goto (tgt := 10) dX11_standAllBut_43 (by decide) ?_
        exact (K3 c1 c2 c3)
      · skip
        refine r_aload_n dX11_standAllBut_32 rfl ?_
        refine r_getR dX11_standAllBut_33 fs_0_5 fk_X11_53 ?_
        refine r_iload_n dX11_standAllBut_36 rfl ?_
        exact r_callV (x := 22) (As := [.int x2]) (rest := []) dX11_standAllBut_37 mk_X11_311 mv_X7_stand rm_X11_standAllBut_X7_stand rfl rfl (by decide +kernel) (Nat.le_of_ble_eq_true rfl) (cal_v (lo' := [some (.ref (ad 0)), some (.int x1), some (.int x2)]) ⟨rfl, rfl, rfl, trivial⟩ (K4 c1 c2 c3))
theorem t_X11_standAllBut_40 {x1 : Int32} {x2 : Int32} 
    (K1 : Fw l D ad kA mX11_standAllBut 10 [some (.ref (ad 0)), some (.int x1), some (.int (x2 + 1))] [] M Q) : Fw l D ad kA mX11_standAllBut 40 [some (.ref (ad 0)), some (.int x1), some (.int x2)] [] M Q := by
  refine q_iinc (v := x2 + 1) (lo' := [some (.ref (ad 0)), some (.int x1), some (.int (x2 + 1))]) dX11_standAllBut_40 rfl (congrArg (fun q => x2 + q) kI_1) (by decide) rfl ?_
  refine r_goto (tgt := 10) dX11_standAllBut_43 (by decide) ?_
  exact K1
theorem en_X11_standAllBut {x1 : Int32} (K : Fw l D ad kA mX11_standAllBut 0 [some (.ref (ad 0)), some (.int x1), none] [] M Q) : Cal l D ad kA mX11_standAllBut [.ref (ad 0), .int x1] M Q := Cal.of (by decide) rfl rfl (Nat.le_of_ble_eq_true rfl) K
theorem t_X11_countMissing_0  
    (K1 : Fw l D ad kA mX11_countMissing 4 [some (.ref (ad 0)), some (.int 0), some (.int 0)] [] M Q) : Fw l D ad kA mX11_countMissing 0 [some (.ref (ad 0)), none, none] [] M Q := by
  refine r_iconst (v := 0) dX11_countMissing_0 kI_0 ?_
  refine q_istore_n (lo' := [some (.ref (ad 0)), some (.int 0), none]) dX11_countMissing_1 (by decide) rfl ?_
  refine r_iconst (v := 0) dX11_countMissing_2 kI_0 ?_
  refine q_istore_n (lo' := [some (.ref (ad 0)), some (.int 0), some (.int 0)]) dX11_countMissing_3 (by decide) rfl ?_
  exact K1
theorem t_X11_countMissing_4 {x1 : Int32} {x2 : Int32} 
    (g1 : (¬ ((gI M 0 11) ≤ x2)) → vp_in x2 12)
    (K1 : ((gI M 0 11) ≤ x2) → Q (.returned (some (.int x1))) M)
    (K2 : (¬ ((gI M 0 11) ≤ x2)) → Fw l D ad kA mX11_countMissing 4 [some (.ref (ad 0)), some (.int (x1 + (if (gI M 52 x2.toNatClampNeg) = 0 then 0 else 1))), some (.int (x2 + 1))] [] M Q) : Fw l D ad kA mX11_countMissing 4 [some (.ref (ad 0)), some (.int x1), some (.int x2)] [] M Q := by
  refine r_iload_n dX11_countMissing_4 rfl ?_
  refine r_aload_n dX11_countMissing_5 rfl ?_
  refine r_getI dX11_countMissing_6 fs_0_11 fk_X11_93 ?_
  refine r_icmp_ge (tgt := 35) dX11_countMissing_9 (by decide) (fun c1 => ?_) (fun c1 => ?_)
  · skip
    refine r_iload_n dX11_countMissing_35 rfl ?_
    exact r_iret dX11_countMissing_36 rfl (K1 c1)
  · skip
    refine r_iload_n dX11_countMissing_12 rfl ?_
    refine r_aload_n dX11_countMissing_13 rfl ?_
    refine r_getR dX11_countMissing_14 fs_0_10 fk_X11_89 ?_
    refine r_iload_n dX11_countMissing_17 rfl ?_
    refine r_zald dX11_countMissing_18 as_52 (g1 c1) ?_
    suffices hJ1 : Fw l D ad kA mX11_countMissing 27 [some (.ref (ad 0)), none, some (.int x2)] [.int (if (gI M 52 x2.toNatClampNeg) = 0 then 0 else 1), .int x1] M Q by
      refine r_if_eq (tgt := 26) dX11_countMissing_19 (by decide) (fun c2 => ?_) (fun c2 => ?_)
      · skip
        refine r_iconst (v := 0) dX11_countMissing_26 kI_0 ?_
        exact q_weak (lo' := [some (.ref (ad 0)), none, some (.int x2)]) ⟨rfl, rfl, trivial⟩ (by have h9 := hJ1; simp only [if_pos c2] at h9; first | exact h9 | (simp only [if_pos c2]; exact h9))
      · skip
        refine r_iconst (v := 1) dX11_countMissing_22 kI_1 ?_
        refine r_goto (tgt := 27) dX11_countMissing_23 (by decide) ?_
        exact q_weak (lo' := [some (.ref (ad 0)), none, some (.int x2)]) ⟨rfl, rfl, trivial⟩ (by have h9 := hJ1; simp only [if_neg c2] at h9; first | exact h9 | (simp only [if_neg c2]; exact h9))
    refine r_iadd dX11_countMissing_27 ?_
    refine q_istore_n (lo' := [some (.ref (ad 0)), some (.int (x1 + (if (gI M 52 x2.toNatClampNeg) = 0 then 0 else 1))), some (.int x2)]) dX11_countMissing_28 (by decide) rfl ?_
    refine q_iinc (v := x2 + 1) (lo' := [some (.ref (ad 0)), some (.int (x1 + (if (gI M 52 x2.toNatClampNeg) = 0 then 0 else 1))), some (.int (x2 + 1))]) dX11_countMissing_29 rfl (congrArg (fun q => x2 + q) kI_1) (by decide) rfl ?_
    refine r_goto (tgt := 4) dX11_countMissing_32 (by decide) ?_
    exact (K2 c1)
theorem en_X11_countMissing  (K : Fw l D ad kA mX11_countMissing 0 [some (.ref (ad 0)), none, none] [] M Q) : Cal l D ad kA mX11_countMissing [.ref (ad 0)] M Q := Cal.of (by decide) rfl rfl (Nat.le_of_ble_eq_true rfl) K
theorem t_X11_countWithBell_0  
    (K1 : Fw l D ad kA mX11_countWithBell 4 [some (.ref (ad 0)), some (.int 0), some (.int 0)] [] M Q) : Fw l D ad kA mX11_countWithBell 0 [some (.ref (ad 0)), none, none] [] M Q := by
  refine r_iconst (v := 0) dX11_countWithBell_0 kI_0 ?_
  refine q_istore_n (lo' := [some (.ref (ad 0)), some (.int 0), none]) dX11_countWithBell_1 (by decide) rfl ?_
  refine r_iconst (v := 0) dX11_countWithBell_2 kI_0 ?_
  refine q_istore_n (lo' := [some (.ref (ad 0)), some (.int 0), some (.int 0)]) dX11_countWithBell_3 (by decide) rfl ?_
  exact K1
theorem t_X11_countWithBell_4 {x1 : Int32} {x2 : Int32} 
    (K1 : ((gI M 22 4) = 0) → Q (.returned (some (.int x1))) M)
    (K2 : (¬ ((gI M 22 4) = 0)) → ((gI M 0 11) ≤ x2) → Q (.returned (some (.int x1))) M)
    (K3 : (¬ ((gI M 22 4) = 0)) → (¬ ((gI M 0 11) ≤ x2)) → Cal l D ad kA mX7_bellsOf [.ref (ad 22), .int x2] M (fun oc M2 => ∃ r : Int64, oc = .returned (some (.long r)) ∧ Fw l D ad kA mX11_countWithBell 31 [some (.ref (ad 0)), none, some (.int x2)] [.long r, .int x1] M2 Q)) : Fw l D ad kA mX11_countWithBell 4 [some (.ref (ad 0)), some (.int x1), some (.int x2)] [] M Q := by
  refine r_aload_n dX11_countWithBell_4 rfl ?_
  refine r_getR dX11_countWithBell_5 fs_0_5 fk_X11_53 ?_
  refine r_getI dX11_countWithBell_8 fs_22_4 fk_X11_199 ?_
  refine r_if_eq (tgt := 49) dX11_countWithBell_11 (by decide) (fun c1 => ?_) (fun c1 => ?_)
  · skip
    refine r_iload_n dX11_countWithBell_49 rfl ?_
    exact r_iret dX11_countWithBell_50 rfl (K1 c1)
  · skip
    refine r_iload_n dX11_countWithBell_14 rfl ?_
    refine r_aload_n dX11_countWithBell_15 rfl ?_
    refine r_getI dX11_countWithBell_16 fs_0_11 fk_X11_93 ?_
    refine r_icmp_ge (tgt := 49) dX11_countWithBell_19 (by decide) (fun c2 => ?_) (fun c2 => ?_)
    · skip
      refine r_iload_n dX11_countWithBell_49 rfl ?_
      exact r_iret dX11_countWithBell_50 rfl (K2 c1 c2)
    · skip
      refine r_iload_n dX11_countWithBell_22 rfl ?_
      refine r_aload_n dX11_countWithBell_23 rfl ?_
      refine r_getR dX11_countWithBell_24 fs_0_5 fk_X11_53 ?_
      refine r_iload_n dX11_countWithBell_27 rfl ?_
      exact r_callV (x := 22) (As := [.int x2]) (rest := [.int x1]) dX11_countWithBell_28 mk_X11_205 mv_X7_bellsOf rm_X11_countWithBell_X7_bellsOf rfl rfl (by decide +kernel) (Nat.le_of_ble_eq_true rfl) (cal_l (lo' := [some (.ref (ad 0)), none, some (.int x2)]) ⟨rfl, rfl, trivial⟩ (K3 c1 c2))
theorem t_X11_countWithBell_31 {x2 : Int32} {t2 : Int64} {s1 : Int32} 
    (K1 : Fw l D ad kA mX11_countWithBell 4 [some (.ref (ad 0)), some (.int (s1 + (if (lg_cmp t2 0) = 0 then 0 else 1))), some (.int (x2 + 1))] [] M Q) : Fw l D ad kA mX11_countWithBell 31 [some (.ref (ad 0)), none, some (.int x2)] [.long t2, .int s1] M Q := by
  refine r_lconst (v := 0) dX11_countWithBell_31 kL_0 ?_
  refine r_lcmp dX11_countWithBell_32 ?_
  suffices hJ1 : Fw l D ad kA mX11_countWithBell 41 [some (.ref (ad 0)), none, some (.int x2)] [.int (if (lg_cmp t2 0) = 0 then 0 else 1), .int s1] M Q by
    refine r_if_eq (tgt := 40) dX11_countWithBell_33 (by decide) (fun c1 => ?_) (fun c1 => ?_)
    · skip
      refine r_iconst (v := 0) dX11_countWithBell_40 kI_0 ?_
      exact q_weak (lo' := [some (.ref (ad 0)), none, some (.int x2)]) ⟨rfl, rfl, trivial⟩ (by have h9 := hJ1; simp only [if_pos c1] at h9; first | exact h9 | (simp only [if_pos c1]; exact h9))
    · skip
      refine r_iconst (v := 1) dX11_countWithBell_36 kI_1 ?_
      refine r_goto (tgt := 41) dX11_countWithBell_37 (by decide) ?_
      exact q_weak (lo' := [some (.ref (ad 0)), none, some (.int x2)]) ⟨rfl, rfl, trivial⟩ (by have h9 := hJ1; simp only [if_neg c1] at h9; first | exact h9 | (simp only [if_neg c1]; exact h9))
  refine r_iadd dX11_countWithBell_41 ?_
  refine q_istore_n (lo' := [some (.ref (ad 0)), some (.int (s1 + (if (lg_cmp t2 0) = 0 then 0 else 1))), some (.int x2)]) dX11_countWithBell_42 (by decide) rfl ?_
  refine q_iinc (v := x2 + 1) (lo' := [some (.ref (ad 0)), some (.int (s1 + (if (lg_cmp t2 0) = 0 then 0 else 1))), some (.int (x2 + 1))]) dX11_countWithBell_43 rfl (congrArg (fun q => x2 + q) kI_1) (by decide) rfl ?_
  refine r_goto (tgt := 4) dX11_countWithBell_46 (by decide) ?_
  exact K1
theorem en_X11_countWithBell  (K : Fw l D ad kA mX11_countWithBell 0 [some (.ref (ad 0)), none, none] [] M Q) : Cal l D ad kA mX11_countWithBell [.ref (ad 0)] M Q := Cal.of (by decide) rfl rfl (Nat.le_of_ble_eq_true rfl) K
theorem t_X11_feed_0 {x1 : Int32} {x2 : Int32} {x3 : Int32} {x4 : Int32} {x5 : Int32} 
    (K1 : (((gI M 1 0) + 20) ≤ 1200) → Cal l D ad kA mX10_addFour [.ref (ad 1), .int x1] M (fun oc M2 => oc = .returned none ∧ Fw l D ad kA mX11_feed 27 [some (.ref (ad 0)), none, some (.int x2), some (.int x3), some (.int x4), some (.int x5)] [] M2 Q))
    (K2 : (¬ (((gI M 1 0) + 20) ≤ 1200)) → Q (.returned (some (.int (-3)))) M) : Fw l D ad kA mX11_feed 0 [some (.ref (ad 0)), some (.int x1), some (.int x2), some (.int x3), some (.int x4), some (.int x5)] [] M Q := by
  refine r_aload_n dX11_feed_0 rfl ?_
  refine r_getR dX11_feed_1 fs_0_0 fk_X11_10 ?_
  refine r_getI dX11_feed_4 fs_1_0 fk_X11_97 ?_
  refine r_bipush (v := 20) dX11_feed_7 kB_20 ?_
  refine r_iadd dX11_feed_9 ?_
  refine r_sipush (v := 1200) dX11_feed_10 kS_1200 ?_
  refine r_icmp_le (tgt := 19) dX11_feed_13 (by decide) (fun c1 => ?_) (fun c1 => ?_)
  · skip
    refine r_aload_n dX11_feed_19 rfl ?_
    refine r_getR dX11_feed_20 fs_0_0 fk_X11_10 ?_
    refine r_iload_n dX11_feed_23 rfl ?_
    exact r_callV (x := 1) (As := [.int x1]) (rest := []) dX11_feed_24 mk_X11_100 mv_X10_addFour rm_X11_feed_X10_addFour rfl rfl (by decide +kernel) (Nat.le_of_ble_eq_true rfl) (cal_v (lo' := [some (.ref (ad 0)), none, some (.int x2), some (.int x3), some (.int x4), some (.int x5)]) ⟨rfl, rfl, rfl, rfl, rfl, trivial⟩ (K1 c1))
  · skip
    refine r_bipush (v := (-3)) dX11_feed_16 kB_m3 ?_
    exact r_iret dX11_feed_18 rfl (K2 c1)
theorem t_X11_feed_27 {x2 : Int32} {x3 : Int32} {x4 : Int32} {x5 : Int32} 
    (K1 : Cal l D ad kA mX10_addFour [.ref (ad 1), .int x2] M (fun oc M2 => oc = .returned none ∧ Fw l D ad kA mX11_feed 35 [some (.ref (ad 0)), none, none, some (.int x3), some (.int x4), some (.int x5)] [] M2 Q)) : Fw l D ad kA mX11_feed 27 [some (.ref (ad 0)), none, some (.int x2), some (.int x3), some (.int x4), some (.int x5)] [] M Q := by
  refine r_aload_n dX11_feed_27 rfl ?_
  refine r_getR dX11_feed_28 fs_0_0 fk_X11_10 ?_
  refine r_iload_n dX11_feed_31 rfl ?_
  exact r_callV (x := 1) (As := [.int x2]) (rest := []) dX11_feed_32 mk_X11_100 mv_X10_addFour rm_X11_feed_X10_addFour rfl rfl (by decide +kernel) (Nat.le_of_ble_eq_true rfl) (cal_v (lo' := [some (.ref (ad 0)), none, none, some (.int x3), some (.int x4), some (.int x5)]) ⟨rfl, rfl, rfl, rfl, trivial⟩ K1)
theorem t_X11_feed_35 {x3 : Int32} {x4 : Int32} {x5 : Int32} 
    (K1 : Cal l D ad kA mX10_addFour [.ref (ad 1), .int x3] M (fun oc M2 => oc = .returned none ∧ Fw l D ad kA mX11_feed 43 [some (.ref (ad 0)), none, none, none, some (.int x4), some (.int x5)] [] M2 Q)) : Fw l D ad kA mX11_feed 35 [some (.ref (ad 0)), none, none, some (.int x3), some (.int x4), some (.int x5)] [] M Q := by
  refine r_aload_n dX11_feed_35 rfl ?_
  refine r_getR dX11_feed_36 fs_0_0 fk_X11_10 ?_
  refine r_iload_n dX11_feed_39 rfl ?_
  exact r_callV (x := 1) (As := [.int x3]) (rest := []) dX11_feed_40 mk_X11_100 mv_X10_addFour rm_X11_feed_X10_addFour rfl rfl (by decide +kernel) (Nat.le_of_ble_eq_true rfl) (cal_v (lo' := [some (.ref (ad 0)), none, none, none, some (.int x4), some (.int x5)]) ⟨rfl, rfl, rfl, trivial⟩ K1)
theorem t_X11_feed_43 {x4 : Int32} {x5 : Int32} 
    (K1 : Cal l D ad kA mX10_addFour [.ref (ad 1), .int x4] M (fun oc M2 => oc = .returned none ∧ Fw l D ad kA mX11_feed 52 [some (.ref (ad 0)), none, none, none, none, some (.int x5)] [] M2 Q)) : Fw l D ad kA mX11_feed 43 [some (.ref (ad 0)), none, none, none, some (.int x4), some (.int x5)] [] M Q := by
  refine r_aload_n dX11_feed_43 rfl ?_
  refine r_getR dX11_feed_44 fs_0_0 fk_X11_10 ?_
  refine r_iload dX11_feed_47 rfl ?_
  exact r_callV (x := 1) (As := [.int x4]) (rest := []) dX11_feed_49 mk_X11_100 mv_X10_addFour rm_X11_feed_X10_addFour rfl rfl (by decide +kernel) (Nat.le_of_ble_eq_true rfl) (cal_v (lo' := [some (.ref (ad 0)), none, none, none, none, some (.int x5)]) ⟨rfl, rfl, trivial⟩ K1)
theorem t_X11_feed_52 {x5 : Int32} 
    (K1 : Cal l D ad kA mX10_addFour [.ref (ad 1), .int x5] M (fun oc M2 => oc = .returned none ∧ Fw l D ad kA mX11_feed 61 [some (.ref (ad 0)), none, none, none, none, none] [] M2 Q)) : Fw l D ad kA mX11_feed 52 [some (.ref (ad 0)), none, none, none, none, some (.int x5)] [] M Q := by
  refine r_aload_n dX11_feed_52 rfl ?_
  refine r_getR dX11_feed_53 fs_0_0 fk_X11_10 ?_
  refine r_iload dX11_feed_56 rfl ?_
  exact r_callV (x := 1) (As := [.int x5]) (rest := []) dX11_feed_58 mk_X11_100 mv_X10_addFour rm_X11_feed_X10_addFour rfl rfl (by decide +kernel) (Nat.le_of_ble_eq_true rfl) (cal_v (lo' := [some (.ref (ad 0)), none, none, none, none, none]) ⟨rfl, trivial⟩ K1)
theorem t_X11_feed_61  
    (K1 : Q (.returned (some (.int (gI M 1 0)))) M) : Fw l D ad kA mX11_feed 61 [some (.ref (ad 0)), none, none, none, none, none] [] M Q := by
  refine r_aload_n dX11_feed_61 rfl ?_
  refine r_getR dX11_feed_62 fs_0_0 fk_X11_10 ?_
  refine r_getI dX11_feed_65 fs_1_0 fk_X11_97 ?_
  exact r_iret dX11_feed_68 rfl K1
theorem en_X11_feed {x1 : Int32} {x2 : Int32} {x3 : Int32} {x4 : Int32} {x5 : Int32} (K : Fw l D ad kA mX11_feed 0 [some (.ref (ad 0)), some (.int x1), some (.int x2), some (.int x3), some (.int x4), some (.int x5)] [] M Q) : Cal l D ad kA mX11_feed [.ref (ad 0), .int x1, .int x2, .int x3, .int x4, .int x5] M Q := Cal.of (by decide) rfl rfl (Nat.le_of_ble_eq_true rfl) K
theorem t_X11_end_0 {x1 : Int32} 
    (K1 : (x1 < 0) → Q (.returned (some (.int (-1)))) M)
    (K2 : (¬ (x1 < 0)) → (x1 ≤ (gI M 1 0)) → Q (.returned (some (.int x1))) (sI M 1 0 x1))
    (K3 : (¬ (x1 < 0)) → (¬ (x1 ≤ (gI M 1 0))) → Q (.returned (some (.int (-1)))) M) : Fw l D ad kA mX11_end 0 [some (.ref (ad 0)), some (.int x1)] [] M Q := by
  refine r_iload_n dX11_end_0 rfl ?_
  refine r_if_lt (tgt := 15) dX11_end_1 (by decide) (fun c1 => ?_) (fun c1 => ?_)
  · skip
    refine r_iconst (v := (-1)) dX11_end_15 kI_m1 ?_
    exact r_iret dX11_end_16 rfl (K1 c1)
  · skip
    refine r_iload_n dX11_end_4 rfl ?_
    refine r_aload_n dX11_end_5 rfl ?_
    refine r_getR dX11_end_6 fs_0_0 fk_X11_10 ?_
    refine r_getI dX11_end_9 fs_1_0 fk_X11_97 ?_
    refine r_icmp_le (tgt := 17) dX11_end_12 (by decide) (fun c2 => ?_) (fun c2 => ?_)
    · skip
      refine r_aload_n dX11_end_17 rfl ?_
      refine r_getR dX11_end_18 fs_0_0 fk_X11_10 ?_
      refine r_iload_n dX11_end_21 rfl ?_
      refine r_putI dX11_end_22 fs_1_0 fk_X11_97 fp_X10_0 ?_
      refine r_iload_n dX11_end_25 rfl ?_
      exact r_iret dX11_end_26 rfl (K2 c1 c2)
    · skip
      refine r_iconst (v := (-1)) dX11_end_15 kI_m1 ?_
      exact r_iret dX11_end_16 rfl (K3 c1 c2)
theorem en_X11_end {x1 : Int32} (K : Fw l D ad kA mX11_end 0 [some (.ref (ad 0)), some (.int x1)] [] M Q) : Cal l D ad kA mX11_end [.ref (ad 0), .int x1] M Q := Cal.of (by decide) rfl rfl (Nat.le_of_ble_eq_true rfl) K
theorem t_X11_score_0  
    (K1 : Cal l D ad kA mX0_readAll [.ref (ad 3), .int 0] M (fun oc M2 => ∃ r : Int32, oc = .returned (some (.int r)) ∧ Fw l D ad kA mX11_score 8 [some (.ref (ad 0)), none] [.int r] M2 Q)) : Fw l D ad kA mX11_score 0 [some (.ref (ad 0)), none] [] M Q := by
  refine r_aload_n dX11_score_0 rfl ?_
  refine r_getR dX11_score_1 fs_0_1 fk_X11_21 ?_
  refine r_iconst (v := 0) dX11_score_4 kI_0 ?_
  exact r_callV (x := 3) (As := [.int 0]) (rest := []) dX11_score_5 mk_X11_104 mv_X0_readAll rm_X11_score_X0_readAll rfl rfl (by decide +kernel) (Nat.le_of_ble_eq_true rfl) (cal_i (lo' := [some (.ref (ad 0)), none]) ⟨rfl, trivial⟩ K1)
theorem t_X11_score_8 {s1 : Int32} 
    (K1 : (¬ (s1 = 0)) → Cal l D ad kA mX9_copyFrom [.ref (ad 9), .ref (ad 4)] (sI M 1 0 0) (fun oc M2 => oc = .returned none ∧ Fw l D ad kA mX11_score 37 [some (.ref (ad 0)), none] [] M2 Q))
    (K2 : (s1 = 0) → Q (.returned (some (.int (-1)))) (sI M 1 0 0)) : Fw l D ad kA mX11_score 8 [some (.ref (ad 0)), none] [.int s1] M Q := by
  refine q_istore_n (lo' := [some (.ref (ad 0)), some (.int s1)]) dX11_score_8 (by decide) rfl ?_
  refine r_aload_n dX11_score_9 rfl ?_
  refine r_getR dX11_score_10 fs_0_0 fk_X11_10 ?_
  refine r_iconst (v := 0) dX11_score_13 kI_0 ?_
  refine r_putI dX11_score_14 fs_1_0 fk_X11_97 fp_X10_0 ?_
  refine r_iload_n dX11_score_17 rfl ?_
  refine r_if_ne (tgt := 23) dX11_score_18 (by decide) (fun c1 => ?_) (fun c1 => ?_)
  · skip
    refine r_aload_n dX11_score_23 rfl ?_
    refine r_getR dX11_score_24 fs_0_2 fk_X11_28 ?_
    refine r_aload_n dX11_score_27 rfl ?_
    refine r_getR dX11_score_28 fs_0_1 fk_X11_21 ?_
    refine r_getR dX11_score_31 fs_3_1 fk_X11_108 ?_
    exact r_callV (x := 9) (As := [.ref (ad 4)]) (rest := []) dX11_score_34 mk_X11_111 mv_X9_copyFrom rm_X11_score_X9_copyFrom rfl rfl (by decide +kernel) (Nat.le_of_ble_eq_true rfl) (cal_v (lo' := [some (.ref (ad 0)), none]) ⟨rfl, trivial⟩ (K1 c1))
  · skip
    refine r_iconst (v := (-1)) dX11_score_21 kI_m1 ?_
    exact r_iret dX11_score_22 rfl (K2 c1)
theorem t_X11_score_37  
    (K1 : Cal l D ad kA mX8_measure [.ref (ad 32)] M (fun oc M2 => oc = .returned none ∧ Fw l D ad kA mX11_score 44 [some (.ref (ad 0)), none] [] M2 Q)) : Fw l D ad kA mX11_score 37 [some (.ref (ad 0)), none] [] M Q := by
  refine r_aload_n dX11_score_37 rfl ?_
  refine r_getR dX11_score_38 fs_0_7 fk_X11_71 ?_
  exact r_callV (x := 32) (As := []) (rest := []) dX11_score_41 mk_X11_114 mv_X8_measure rm_X11_score_X8_measure rfl rfl (by decide +kernel) (Nat.le_of_ble_eq_true rfl) (cal_v (lo' := [some (.ref (ad 0)), none]) ⟨rfl, trivial⟩ K1)
theorem t_X11_score_44  
    (K1 : Cal l D ad kA mX3_forget [.ref (ad 17)] M (fun oc M2 => oc = .returned none ∧ Fw l D ad kA mX11_score 51 [some (.ref (ad 0)), none] [] M2 Q)) : Fw l D ad kA mX11_score 44 [some (.ref (ad 0)), none] [] M Q := by
  refine r_aload_n dX11_score_44 rfl ?_
  refine r_getR dX11_score_45 fs_0_4 fk_X11_44 ?_
  exact r_callV (x := 17) (As := []) (rest := []) dX11_score_48 mk_X11_117 mv_X3_forget rm_X11_score_X3_forget rfl rfl (by decide +kernel) (Nat.le_of_ble_eq_true rfl) (cal_v (lo' := [some (.ref (ad 0)), none]) ⟨rfl, trivial⟩ K1)
theorem t_X11_score_51  
    (K1 : Cal l D ad kA mX7_takeScore [.ref (ad 22)] M (fun oc M2 => oc = .returned none ∧ Fw l D ad kA mX11_score 58 [some (.ref (ad 0)), none] [] M2 Q)) : Fw l D ad kA mX11_score 51 [some (.ref (ad 0)), none] [] M Q := by
  refine r_aload_n dX11_score_51 rfl ?_
  refine r_getR dX11_score_52 fs_0_5 fk_X11_53 ?_
  exact r_callV (x := 22) (As := []) (rest := []) dX11_score_55 mk_X11_120 mv_X7_takeScore rm_X11_score_X7_takeScore rfl rfl (by decide +kernel) (Nat.le_of_ble_eq_true rfl) (cal_v (lo' := [some (.ref (ad 0)), none]) ⟨rfl, trivial⟩ K1)
theorem t_X11_score_58  
    (K1 : Cal l D ad kA mX4_forget [.ref (ad 28)] M (fun oc M2 => oc = .returned none ∧ Fw l D ad kA mX11_score 65 [some (.ref (ad 0)), none] [] M2 Q)) : Fw l D ad kA mX11_score 58 [some (.ref (ad 0)), none] [] M Q := by
  refine r_aload_n dX11_score_58 rfl ?_
  refine r_getR dX11_score_59 fs_0_6 fk_X11_62 ?_
  exact r_callV (x := 28) (As := []) (rest := []) dX11_score_62 mk_X11_123 mv_X4_forget rm_X11_score_X4_forget rfl rfl (by decide +kernel) (Nat.le_of_ble_eq_true rfl) (cal_v (lo' := [some (.ref (ad 0)), none]) ⟨rfl, trivial⟩ K1)
theorem t_X11_score_65  
    (K1 : Cal l D ad kA mX5_forget [.ref (ad 35)] M (fun oc M2 => oc = .returned none ∧ Fw l D ad kA mX11_score 72 [some (.ref (ad 0)), none] [] M2 Q)) : Fw l D ad kA mX11_score 65 [some (.ref (ad 0)), none] [] M Q := by
  refine r_aload_n dX11_score_65 rfl ?_
  refine r_getR dX11_score_66 fs_0_8 fk_X11_78 ?_
  exact r_callV (x := 35) (As := []) (rest := []) dX11_score_69 mk_X11_124 mv_X5_forget rm_X11_score_X5_forget rfl rfl (by decide +kernel) (Nat.le_of_ble_eq_true rfl) (cal_v (lo' := [some (.ref (ad 0)), none]) ⟨rfl, trivial⟩ K1)
theorem t_X11_score_72  
    (K1 : Cal l D ad kA mX2_forgetKey [.ref (ad 44)] M (fun oc M2 => oc = .returned none ∧ Fw l D ad kA mX11_score 79 [some (.ref (ad 0)), none] [] M2 Q)) : Fw l D ad kA mX11_score 72 [some (.ref (ad 0)), none] [] M Q := by
  refine r_aload_n dX11_score_72 rfl ?_
  refine r_getR dX11_score_73 fs_0_9 fk_X11_85 ?_
  exact r_callV (x := 44) (As := []) (rest := []) dX11_score_76 mk_X11_125 mv_X2_forgetKey rm_X11_score_X2_forgetKey rfl rfl (by decide +kernel) (Nat.le_of_ble_eq_true rfl) (cal_v (lo' := [some (.ref (ad 0)), none]) ⟨rfl, trivial⟩ K1)
theorem t_X11_score_79  
    (K1 : Q (.returned (some (.int (gI M 9 4)))) M) : Fw l D ad kA mX11_score 79 [some (.ref (ad 0)), none] [] M Q := by
  refine r_aload_n dX11_score_79 rfl ?_
  refine r_getR dX11_score_80 fs_0_2 fk_X11_28 ?_
  refine r_getI dX11_score_83 fs_9_4 fk_X11_128 ?_
  exact r_iret dX11_score_86 rfl K1
theorem en_X11_score  (K : Fw l D ad kA mX11_score 0 [some (.ref (ad 0)), none] [] M Q) : Cal l D ad kA mX11_score [.ref (ad 0)] M Q := Cal.of (by decide) rfl rfl (Nat.le_of_ble_eq_true rfl) K
theorem t_X11_manners_0  
    (K1 : Cal l D ad kA mX6_readAll [.ref (ad 14), .ref (ad 1)] M (fun oc M2 => ∃ r : Int32, oc = .returned (some (.int r)) ∧ Fw l D ad kA mX11_manners 11 [some (.ref (ad 0)), none] [.int r] M2 Q)) : Fw l D ad kA mX11_manners 0 [some (.ref (ad 0)), none] [] M Q := by
  refine r_aload_n dX11_manners_0 rfl ?_
  refine r_getR dX11_manners_1 fs_0_3 fk_X11_35 ?_
  refine r_aload_n dX11_manners_4 rfl ?_
  refine r_getR dX11_manners_5 fs_0_0 fk_X11_10 ?_
  exact r_callV (x := 14) (As := [.ref (ad 1)]) (rest := []) dX11_manners_8 mk_X11_129 mv_X6_readAll rm_X11_manners_X6_readAll rfl rfl (by decide +kernel) (Nat.le_of_ble_eq_true rfl) (cal_i (lo' := [some (.ref (ad 0)), none]) ⟨rfl, trivial⟩ K1)
theorem t_X11_manners_11 {s1 : Int32} 
    (K1 : (¬ (s1 = (-1))) → Cal l D ad kA mX3_forget [.ref (ad 17)] (sI M 1 0 0) (fun oc M2 => oc = .returned none ∧ Fw l D ad kA mX11_manners 34 [some (.ref (ad 0)), some (.int s1)] [] M2 Q))
    (K2 : (s1 = (-1)) → Q (.returned (some (.int (-1)))) (sI M 1 0 0)) : Fw l D ad kA mX11_manners 11 [some (.ref (ad 0)), none] [.int s1] M Q := by
  refine q_istore_n (lo' := [some (.ref (ad 0)), some (.int s1)]) dX11_manners_11 (by decide) rfl ?_
  refine r_aload_n dX11_manners_12 rfl ?_
  refine r_getR dX11_manners_13 fs_0_0 fk_X11_10 ?_
  refine r_iconst (v := 0) dX11_manners_16 kI_0 ?_
  refine r_putI dX11_manners_17 fs_1_0 fk_X11_97 fp_X10_0 ?_
  refine r_iload_n dX11_manners_20 rfl ?_
  refine r_iconst (v := (-1)) dX11_manners_21 kI_m1 ?_
  refine r_icmp_ne (tgt := 27) dX11_manners_22 (by decide) (fun c1 => ?_) (fun c1 => ?_)
  · skip
    refine r_aload_n dX11_manners_27 rfl ?_
    refine r_getR dX11_manners_28 fs_0_4 fk_X11_44 ?_
    exact r_callV (x := 17) (As := []) (rest := []) dX11_manners_31 mk_X11_117 mv_X3_forget rm_X11_manners_X3_forget rfl rfl (by decide +kernel) (Nat.le_of_ble_eq_true rfl) (cal_v (lo' := [some (.ref (ad 0)), some (.int s1)]) ⟨rfl, rfl, trivial⟩ (K1 c1))
  · skip
    refine r_iconst (v := (-1)) dX11_manners_25 kI_m1 ?_
    exact r_iret dX11_manners_26 rfl (K2 c1)
theorem t_X11_manners_34 {x1 : Int32} 
    (K1 : Cal l D ad kA mX7_weighAnew [.ref (ad 22)] M (fun oc M2 => oc = .returned none ∧ Fw l D ad kA mX11_manners 41 [none, some (.int x1)] [] M2 Q)) : Fw l D ad kA mX11_manners 34 [some (.ref (ad 0)), some (.int x1)] [] M Q := by
  refine r_aload_n dX11_manners_34 rfl ?_
  refine r_getR dX11_manners_35 fs_0_5 fk_X11_53 ?_
  exact r_callV (x := 22) (As := []) (rest := []) dX11_manners_38 mk_X11_132 mv_X7_weighAnew rm_X11_manners_X7_weighAnew rfl rfl (by decide +kernel) (Nat.le_of_ble_eq_true rfl) (cal_v (lo' := [none, some (.int x1)]) ⟨rfl, trivial⟩ K1)
theorem t_X11_manners_41 {x1 : Int32} 
    (K1 : Q (.returned (some (.int x1))) M) : Fw l D ad kA mX11_manners 41 [none, some (.int x1)] [] M Q := by
  refine r_iload_n dX11_manners_41 rfl ?_
  exact r_iret dX11_manners_42 rfl K1
theorem en_X11_manners  (K : Fw l D ad kA mX11_manners 0 [some (.ref (ad 0)), none] [] M Q) : Cal l D ad kA mX11_manners [.ref (ad 0)] M Q := Cal.of (by decide) rfl rfl (Nat.le_of_ble_eq_true rfl) K
def v_X11_fault (M : Mem) (x1 : Int32) : Int32 := if x1 = 0 then gI M 1 3 else if x1 = 1 then gI M 1 4 else (-1)
theorem ct_X11_fault {x1 : Int32}  (h : Q (.returned (some (.int (v_X11_fault M x1)))) M) : Cal l D ad kA mX11_fault [.ref (ad 0), .int x1] M Q := by
  refine Cal.of (lo := [some (.ref (ad 0)), some (.int x1)]) (by decide) rfl rfl (Nat.le_of_ble_eq_true rfl) ?_
  refine r_iload_n dX11_fault_0 rfl ?_
  refine r_if_ne (tgt := 12) dX11_fault_1 (by decide) (fun c1 => ?_) (fun c1 => ?_)
  · skip
    refine r_iload_n dX11_fault_12 rfl ?_
    refine r_iconst (v := 1) dX11_fault_13 kI_1 ?_
    suffices hJ1 : Fw l D ad kA mX11_fault 28 [none, none] [.int (if x1 = 1 then gI M 1 4 else (-1))] M Q by
      refine r_icmp_ne (tgt := 27) dX11_fault_14 (by decide) (fun c2 => ?_) (fun c2 => ?_)
      · skip
        refine r_iconst (v := (-1)) dX11_fault_27 kI_m1 ?_
        exact q_weak (lo' := [none, none]) trivial (by have h9 := hJ1; simp only [if_neg c2] at h9; first | exact h9 | (simp only [if_neg c2]; exact h9))
      · skip
        refine r_aload_n dX11_fault_17 rfl ?_
        refine r_getR dX11_fault_18 fs_0_0 fk_X11_10 ?_
        refine r_getI dX11_fault_21 fs_1_4 fk_X11_138 ?_
        refine r_goto (tgt := 28) dX11_fault_24 (by decide) ?_
        exact q_weak (lo' := [none, none]) trivial (by have h9 := hJ1; simp only [if_pos c2] at h9; first | exact h9 | (simp only [if_pos c2]; exact h9))
    exact r_iret dX11_fault_28 rfl (by have h9 := h; simp only [v_X11_fault, if_neg c1] at h9; first | exact h9 | (simp only [if_neg c1]; exact h9))
  · skip
    refine r_aload_n dX11_fault_4 rfl ?_
    refine r_getR dX11_fault_5 fs_0_0 fk_X11_10 ?_
    refine r_getI dX11_fault_8 fs_1_3 fk_X11_135 ?_
    exact r_iret dX11_fault_11 rfl (by have h9 := h; simp only [v_X11_fault, if_pos c1] at h9; first | exact h9 | (simp only [if_pos c1]; exact h9))
def v_X11_rule (M : Mem) (x1 : Int32) : Int32 := if x1 < 0 then (-1) else if x1 < 4 then gI M 15 x1.toNatClampNeg else (-1)
def g_X11_rule (M : Mem) (x1 : Int32) : Prop := ((¬ (x1 < 0)) → (x1 < 4) → vp_in x1 4)
theorem ct_X11_rule {x1 : Int32}  (g : g_X11_rule M x1) (h : Q (.returned (some (.int (v_X11_rule M x1)))) M) : Cal l D ad kA mX11_rule [.ref (ad 0), .int x1] M Q := by
  refine Cal.of (lo := [some (.ref (ad 0)), some (.int x1)]) (by decide) rfl rfl (Nat.le_of_ble_eq_true rfl) ?_
  have g1 := g
  refine r_iload_n dX11_rule_0 rfl ?_
  refine r_if_lt (tgt := 9) dX11_rule_1 (by decide) (fun c1 => ?_) (fun c1 => ?_)
  · skip
    refine r_iconst (v := (-1)) dX11_rule_9 kI_m1 ?_
    exact r_iret dX11_rule_10 rfl (by have h9 := h; simp only [v_X11_rule, if_pos c1] at h9; first | exact h9 | (simp only [if_pos c1]; exact h9))
  · skip
    refine r_iload_n dX11_rule_4 rfl ?_
    refine r_iconst (v := 4) dX11_rule_5 kI_4 ?_
    refine r_icmp_lt (tgt := 11) dX11_rule_6 (by decide) (fun c2 => ?_) (fun c2 => ?_)
    · skip
      refine r_aload_n dX11_rule_11 rfl ?_
      refine r_getR dX11_rule_12 fs_0_3 fk_X11_35 ?_
      refine r_getR dX11_rule_15 fs_14_0 fk_X11_141 ?_
      refine r_iload_n dX11_rule_18 rfl ?_
      refine r_iald dX11_rule_19 as_15 (g1 c1 c2) ?_
      exact r_iret dX11_rule_20 rfl (by have h9 := h; simp only [v_X11_rule, if_neg c1, if_pos c2] at h9; first | exact h9 | (simp only [if_neg c1, if_pos c2]; exact h9))
    · skip
      refine r_iconst (v := (-1)) dX11_rule_9 kI_m1 ?_
      exact r_iret dX11_rule_10 rfl (by have h9 := h; simp only [v_X11_rule, if_neg c1, if_neg c2] at h9; first | exact h9 | (simp only [if_neg c1, if_neg c2]; exact h9))
def v_X11_stroke (M : Mem) (x1 : Int32) (x2 : Int32) : Int32 := if (v_X9_hasNumber M x1) = 0 then (-1) else if x2 = 0 then gI M 10 x1.toNatClampNeg else if x2 = 1 then gI M 11 x1.toNatClampNeg else if x2 = 2 then gI M 12 x1.toNatClampNeg else if x2 = 3 then gI M 13 x1.toNatClampNeg else if x2 = 4 then gI M 33 x1.toNatClampNeg else (-1)
def g_X11_stroke (M : Mem) (x1 : Int32) (x2 : Int32) : Prop := ((¬ ((v_X9_hasNumber M x1) = 0)) → (x2 = 0) → vp_in x1 160) ∧ ((¬ ((v_X9_hasNumber M x1) = 0)) → (¬ (x2 = 0)) → (x2 = 1) → vp_in x1 160) ∧ ((¬ ((v_X9_hasNumber M x1) = 0)) → (¬ (x2 = 0)) → (¬ (x2 = 1)) → (x2 = 2) → vp_in x1 160) ∧ ((¬ ((v_X9_hasNumber M x1) = 0)) → (¬ (x2 = 0)) → (¬ (x2 = 1)) → (¬ (x2 = 2)) → (x2 = 3) → vp_in x1 160) ∧ ((¬ ((v_X9_hasNumber M x1) = 0)) → (¬ (x2 = 0)) → (¬ (x2 = 1)) → (¬ (x2 = 2)) → (¬ (x2 = 3)) → (x2 = 4) → vp_in x1 160)
theorem ct_X11_stroke {x1 : Int32} {x2 : Int32}  (g : g_X11_stroke M x1 x2) (h : Q (.returned (some (.int (v_X11_stroke M x1 x2)))) M) : Cal l D ad kA mX11_stroke [.ref (ad 0), .int x1, .int x2] M Q := by
  refine Cal.of (lo := [some (.ref (ad 0)), some (.int x1), some (.int x2)]) (by decide) rfl rfl (Nat.le_of_ble_eq_true rfl) ?_
  obtain ⟨g1, g2, g3, g4, g5⟩ := g
  refine r_aload_n dX11_stroke_0 rfl ?_
  refine r_getR dX11_stroke_1 fs_0_2 fk_X11_28 ?_
  refine r_iload_n dX11_stroke_4 rfl ?_
  refine r_callV (x := 9) (As := [.int x1]) (rest := []) dX11_stroke_5 mk_X11_145 mv_X9_hasNumber rm_X11_stroke_X9_hasNumber rfl rfl (by decide +kernel) (Nat.le_of_ble_eq_true rfl) (ct_X9_hasNumber (⟨_, rfl, ?_⟩))
  refine r_if_ne (tgt := 13) dX11_stroke_8 (by decide) (fun c1 => ?_) (fun c1 => ?_)
  · skip
    refine r_iload_n dX11_stroke_13 rfl ?_
    by_cases c2 : x2 = 0
    · refine r_tableIn (off := 34) (tgt := 48) dX11_stroke_14 (by rw [c2]; decide) (by rw [c2]; decide) (by rw [c2]; decide) (by decide) ?_
      refine r_aload_n dX11_stroke_48 rfl ?_
      refine r_getR dX11_stroke_49 fs_0_2 fk_X11_28 ?_
      refine r_getR dX11_stroke_52 fs_9_0 fk_X11_149 ?_
      refine r_iload_n dX11_stroke_55 rfl ?_
      refine r_iald dX11_stroke_56 as_10 (g1 c1 c2) ?_
      exact r_iret dX11_stroke_57 rfl (by have h9 := h; simp only [v_X11_stroke, if_neg c1, if_pos c2] at h9; first | exact h9 | (simp only [if_neg c1, if_pos c2]; exact h9))
    by_cases c3 : x2 = 1
    · refine r_tableIn (off := 44) (tgt := 58) dX11_stroke_14 (by rw [c3]; decide) (by rw [c3]; decide) (by rw [c3]; decide) (by decide) ?_
      refine r_aload_n dX11_stroke_58 rfl ?_
      refine r_getR dX11_stroke_59 fs_0_2 fk_X11_28 ?_
      refine r_getR dX11_stroke_62 fs_9_1 fk_X11_152 ?_
      refine r_iload_n dX11_stroke_65 rfl ?_
      refine r_iald dX11_stroke_66 as_11 (g2 c1 c2 c3) ?_
      exact r_iret dX11_stroke_67 rfl (by have h9 := h; simp only [v_X11_stroke, if_neg c1, if_neg c2, if_pos c3] at h9; first | exact h9 | (simp only [if_neg c1, if_neg c2, if_pos c3]; exact h9))
    by_cases c4 : x2 = 2
    · refine r_tableIn (off := 54) (tgt := 68) dX11_stroke_14 (by rw [c4]; decide) (by rw [c4]; decide) (by rw [c4]; decide) (by decide) ?_
      refine r_aload_n dX11_stroke_68 rfl ?_
      refine r_getR dX11_stroke_69 fs_0_2 fk_X11_28 ?_
      refine r_getR dX11_stroke_72 fs_9_2 fk_X11_155 ?_
      refine r_iload_n dX11_stroke_75 rfl ?_
      refine r_iald dX11_stroke_76 as_12 (g3 c1 c2 c3 c4) ?_
      exact r_iret dX11_stroke_77 rfl (by have h9 := h; simp only [v_X11_stroke, if_neg c1, if_neg c2, if_neg c3, if_pos c4] at h9; first | exact h9 | (simp only [if_neg c1, if_neg c2, if_neg c3, if_pos c4]; exact h9))
    by_cases c5 : x2 = 3
    · refine r_tableIn (off := 64) (tgt := 78) dX11_stroke_14 (by rw [c5]; decide) (by rw [c5]; decide) (by rw [c5]; decide) (by decide) ?_
      refine r_aload_n dX11_stroke_78 rfl ?_
      refine r_getR dX11_stroke_79 fs_0_2 fk_X11_28 ?_
      refine r_getR dX11_stroke_82 fs_9_3 fk_X11_158 ?_
      refine r_iload_n dX11_stroke_85 rfl ?_
      refine r_iald dX11_stroke_86 as_13 (g4 c1 c2 c3 c4 c5) ?_
      exact r_iret dX11_stroke_87 rfl (by have h9 := h; simp only [v_X11_stroke, if_neg c1, if_neg c2, if_neg c3, if_neg c4, if_pos c5] at h9; first | exact h9 | (simp only [if_neg c1, if_neg c2, if_neg c3, if_neg c4, if_pos c5]; exact h9))
    by_cases c6 : x2 = 4
    · refine r_tableIn (off := 74) (tgt := 88) dX11_stroke_14 (by rw [c6]; decide) (by rw [c6]; decide) (by rw [c6]; decide) (by decide) ?_
      refine r_aload_n dX11_stroke_88 rfl ?_
      refine r_getR dX11_stroke_89 fs_0_7 fk_X11_71 ?_
      refine r_getR dX11_stroke_92 fs_32_1 fk_X11_161 ?_
      refine r_iload_n dX11_stroke_95 rfl ?_
      refine r_iald dX11_stroke_96 as_33 (g5 c1 c2 c3 c4 c5 c6) ?_
      exact r_iret dX11_stroke_97 rfl (by have h9 := h; simp only [v_X11_stroke, if_neg c1, if_neg c2, if_neg c3, if_neg c4, if_neg c5, if_pos c6] at h9; first | exact h9 | (simp only [if_neg c1, if_neg c2, if_neg c3, if_neg c4, if_neg c5, if_pos c6]; exact h9))
    refine r_tableOut (tgt := 98) dX11_stroke_14 (sw_out 5 (fun q hq => (by match q, hq with
      | 0, _ => exact c2
      | 1, _ => exact c3
      | 2, _ => exact c4
      | 3, _ => exact c5
      | 4, _ => exact c6))) (by decide) ?_
    refine r_iconst (v := (-1)) dX11_stroke_98 kI_m1 ?_
    exact r_iret dX11_stroke_99 rfl (by have h9 := h; simp only [v_X11_stroke, if_neg c1, if_neg c2, if_neg c3, if_neg c4, if_neg c5, if_neg c6] at h9; first | exact h9 | (simp only [if_neg c1, if_neg c2, if_neg c3, if_neg c4, if_neg c5, if_neg c6]; exact h9))
  · skip
    refine r_iconst (v := (-1)) dX11_stroke_11 kI_m1 ?_
    exact r_iret dX11_stroke_12 rfl (by have h9 := h; simp only [v_X11_stroke, if_pos c1] at h9; first | exact h9 | (simp only [if_pos c1]; exact h9))
theorem t_X11_ringers_0 {x1 : Int32} 
    (K1 : (x1 < 1) → Q (.returned (some (.int (-2)))) M)
    (K2 : (¬ (x1 < 1)) → (x1 ≤ 12) → Fw l D ad kA mX11_ringers 26 [some (.ref (ad 0)), none, some (.int (gI M 0 11)), some (.int 0)] [] (sI M 0 11 x1) Q)
    (K3 : (¬ (x1 < 1)) → (¬ (x1 ≤ 12)) → Q (.returned (some (.int (-2)))) M) : Fw l D ad kA mX11_ringers 0 [some (.ref (ad 0)), some (.int x1), none, none] [] M Q := by
  refine r_iload_n dX11_ringers_0 rfl ?_
  refine r_iconst (v := 1) dX11_ringers_1 kI_1 ?_
  refine r_icmp_lt (tgt := 11) dX11_ringers_2 (by decide) (fun c1 => ?_) (fun c1 => ?_)
  · skip
    refine r_bipush (v := (-2)) dX11_ringers_11 kB_m2 ?_
    exact r_iret dX11_ringers_13 rfl (K1 c1)
  · skip
    refine r_iload_n dX11_ringers_5 rfl ?_
    refine r_bipush (v := 12) dX11_ringers_6 kB_12 ?_
    refine r_icmp_le (tgt := 14) dX11_ringers_8 (by decide) (fun c2 => ?_) (fun c2 => ?_)
    · skip
      refine r_aload_n dX11_ringers_14 rfl ?_
      refine r_getI dX11_ringers_15 fs_0_11 fk_X11_93 ?_
      refine q_istore_n (lo' := [some (.ref (ad 0)), some (.int x1), some (.int (gI M 0 11)), none]) dX11_ringers_18 (by decide) rfl ?_
      refine r_aload_n dX11_ringers_19 rfl ?_
      refine r_iload_n dX11_ringers_20 rfl ?_
      refine r_putI dX11_ringers_21 fs_0_11 fk_X11_93 fp_X11_11 ?_
      refine r_iconst (v := 0) dX11_ringers_24 kI_0 ?_
      refine q_istore_n (lo' := [some (.ref (ad 0)), some (.int x1), some (.int (gI M 0 11)), some (.int 0)]) dX11_ringers_25 (by decide) rfl ?_
      exact q_weak (lo' := [some (.ref (ad 0)), none, some (.int (gI M 0 11)), some (.int 0)]) ⟨rfl, rfl, rfl, trivial⟩ (K2 c1 c2)
    · skip
      refine r_bipush (v := (-2)) dX11_ringers_11 kB_m2 ?_
      exact r_iret dX11_ringers_13 rfl (K3 c1 c2)
theorem t_X11_ringers_26 {x2 : Int32} {x3 : Int32} 
    (g1 : (¬ (12 ≤ x3)) → vp_in x3 12)
    (K1 : (12 ≤ x3) → Cal l D ad kA mX7_dropParting [.ref (ad 22)] M (fun oc M2 => oc = .returned none ∧ Fw l D ad kA mX11_ringers 52 [none, none, some (.int x2), none] [] M2 Q))
    (K2 : (¬ (12 ≤ x3)) → Fw l D ad kA mX11_ringers 26 [some (.ref (ad 0)), none, some (.int x2), some (.int (x3 + 1))] [] (sI M 52 x3.toNatClampNeg 0) Q) : Fw l D ad kA mX11_ringers 26 [some (.ref (ad 0)), none, some (.int x2), some (.int x3)] [] M Q := by
  refine r_iload_n dX11_ringers_26 rfl ?_
  refine r_bipush (v := 12) dX11_ringers_27 kB_12 ?_
  refine r_icmp_ge (tgt := 45) dX11_ringers_29 (by decide) (fun c1 => ?_) (fun c1 => ?_)
  · skip
    refine r_aload_n dX11_ringers_45 rfl ?_
    refine r_getR dX11_ringers_46 fs_0_5 fk_X11_53 ?_
    exact r_callV (x := 22) (As := []) (rest := []) dX11_ringers_49 mk_X11_164 mv_X7_dropParting rm_X11_ringers_X7_dropParting rfl rfl (by decide +kernel) (Nat.le_of_ble_eq_true rfl) (cal_v (lo' := [none, none, some (.int x2), none]) ⟨rfl, trivial⟩ (K1 c1))
  · skip
    refine r_aload_n dX11_ringers_32 rfl ?_
    refine r_getR dX11_ringers_33 fs_0_10 fk_X11_89 ?_
    refine r_iload_n dX11_ringers_36 rfl ?_
    refine r_iconst (v := 0) dX11_ringers_37 kI_0 ?_
    refine q_zast dX11_ringers_38 as_52 (g1 c1) (Or.inl rfl) ?_
    refine q_iinc (v := x3 + 1) (lo' := [some (.ref (ad 0)), none, some (.int x2), some (.int (x3 + 1))]) dX11_ringers_39 rfl (congrArg (fun q => x3 + q) kI_1) (by decide) rfl ?_
    refine r_goto (tgt := 26) dX11_ringers_42 (by decide) ?_
    exact (K2 c1)
theorem t_X11_ringers_52 {x2 : Int32} 
    (K1 : Q (.returned (some (.int x2))) M) : Fw l D ad kA mX11_ringers 52 [none, none, some (.int x2), none] [] M Q := by
  refine r_iload_n dX11_ringers_52 rfl ?_
  exact r_iret dX11_ringers_53 rfl K1
theorem en_X11_ringers {x1 : Int32} (K : Fw l D ad kA mX11_ringers 0 [some (.ref (ad 0)), some (.int x1), none, none] [] M Q) : Cal l D ad kA mX11_ringers [.ref (ad 0), .int x1] M Q := Cal.of (by decide) rfl rfl (Nat.le_of_ble_eq_true rfl) K
theorem t_X11_absent_0 {x1 : Int32} {x2 : Int32} 
    (g1 : (¬ ((v_X11_isRinger M x1) = 0)) → vp_in x1 12)
    (g2 : (¬ ((v_X11_isRinger M x1) = 0)) → x2 = 0 ∨ x2 = 1)
    (K1 : (¬ ((v_X11_isRinger M x1) = 0)) → Q (.returned (some (.int (if (if (gI M 52 x1.toNatClampNeg) = x2 then 0 else 1 : Int32) = 0 then 0 else 1)))) (sI M 52 x1.toNatClampNeg x2))
    (K2 : ((v_X11_isRinger M x1) = 0) → Q (.returned (some (.int (-2)))) M) : Fw l D ad kA mX11_absent 0 [some (.ref (ad 0)), some (.int x1), some (.int x2), none] [] M Q := by
  refine r_aload_n dX11_absent_0 rfl ?_
  refine r_iload_n dX11_absent_1 rfl ?_
  refine r_callV (x := 0) (As := [.int x1]) (rest := []) dX11_absent_2 mk_X11_167 mv_X11_isRinger rm_X11_absent_X11_isRinger rfl rfl (by decide +kernel) (Nat.le_of_ble_eq_true rfl) (ct_X11_isRinger (⟨_, rfl, ?_⟩))
  refine r_if_ne (tgt := 11) dX11_absent_5 (by decide) (fun c1 => ?_) (fun c1 => ?_)
  · skip
    refine r_aload_n dX11_absent_11 rfl ?_
    refine r_getR dX11_absent_12 fs_0_10 fk_X11_89 ?_
    refine r_iload_n dX11_absent_15 rfl ?_
    refine r_zald dX11_absent_16 as_52 (g1 c1) ?_
    refine r_iload_n dX11_absent_17 rfl ?_
    suffices hJ1 : Fw l D ad kA mX11_absent 26 [some (.ref (ad 0)), some (.int x1), some (.int x2), none] [.int (if (gI M 52 x1.toNatClampNeg) = x2 then 0 else 1)] M Q by
      refine r_icmp_eq (tgt := 25) dX11_absent_18 (by decide) (fun c2 => ?_) (fun c2 => ?_)
      · skip
        refine r_iconst (v := 0) dX11_absent_25 kI_0 ?_
        exact q_weak (lo' := [some (.ref (ad 0)), some (.int x1), some (.int x2), none]) ⟨rfl, rfl, rfl, trivial⟩ (by have h9 := hJ1; simp only [if_pos c2] at h9; first | exact h9 | (simp only [if_pos c2]; exact h9))
      · skip
        refine r_iconst (v := 1) dX11_absent_21 kI_1 ?_
        refine r_goto (tgt := 26) dX11_absent_22 (by decide) ?_
        exact q_weak (lo' := [some (.ref (ad 0)), some (.int x1), some (.int x2), none]) ⟨rfl, rfl, rfl, trivial⟩ (by have h9 := hJ1; simp only [if_neg c2] at h9; first | exact h9 | (simp only [if_neg c2]; exact h9))
    refine q_istore_n (lo' := [some (.ref (ad 0)), some (.int x1), some (.int x2), some (.int (if (gI M 52 x1.toNatClampNeg) = x2 then 0 else 1))]) dX11_absent_26 (by decide) rfl ?_
    refine r_aload_n dX11_absent_27 rfl ?_
    refine r_getR dX11_absent_28 fs_0_10 fk_X11_89 ?_
    refine r_iload_n dX11_absent_31 rfl ?_
    refine r_iload_n dX11_absent_32 rfl ?_
    refine q_zast dX11_absent_33 as_52 (g1 c1) (g2 c1) ?_
    refine r_iload_n dX11_absent_34 rfl ?_
    suffices hJ2 : Fw l D ad kA mX11_absent 43 [none, none, none, none] [.int (if (if (gI M 52 x1.toNatClampNeg) = x2 then 0 else 1 : Int32) = 0 then 0 else 1)] (sI M 52 x1.toNatClampNeg x2) Q by
      refine r_if_eq (tgt := 42) dX11_absent_35 (by decide) (fun c3 => ?_) (fun c3 => ?_)
      · skip
        refine r_iconst (v := 0) dX11_absent_42 kI_0 ?_
        exact q_weak (lo' := [none, none, none, none]) trivial (by have h9 := hJ2; simp only [if_pos c3] at h9; first | exact h9 | (simp only [if_pos c3]; exact h9))
      · skip
        refine r_iconst (v := 1) dX11_absent_38 kI_1 ?_
        refine r_goto (tgt := 43) dX11_absent_39 (by decide) ?_
        exact q_weak (lo' := [none, none, none, none]) trivial (by have h9 := hJ2; simp only [if_neg c3] at h9; first | exact h9 | (simp only [if_neg c3]; exact h9))
    exact r_iret dX11_absent_43 rfl (K1 c1)
  · skip
    refine r_bipush (v := (-2)) dX11_absent_8 kB_m2 ?_
    exact r_iret dX11_absent_10 rfl (K2 c1)
theorem en_X11_absent {x1 : Int32} {x2 : Int32} (K : Fw l D ad kA mX11_absent 0 [some (.ref (ad 0)), some (.int x1), some (.int x2), none] [] M Q) : Cal l D ad kA mX11_absent [.ref (ad 0), .int x1, .int x2] M Q := Cal.of (by decide) rfl rfl (Nat.le_of_ble_eq_true rfl) K
theorem t_X11_hands_0 {z1 : Int64} 
    (K1 : ((lg_cmp (lushr z1 48) 0) = 0) → Cal l D ad kA mX3_choose [.ref (ad 17), .long z1] M (fun oc M2 => ∃ r : Int32, oc = .returned (some (.int r)) ∧ Fw l D ad kA mX11_hands 20 [none, none, none] [.int r] M2 Q))
    (K2 : (¬ ((lg_cmp (lushr z1 48) 0) = 0)) → Q (.returned (some (.int (-2)))) M) : Fw l D ad kA mX11_hands 0 [some (.ref (ad 0)), some (.long z1), none] [] M Q := by
  refine r_lload_n dX11_hands_0 rfl ?_
  refine r_bipush (v := 48) dX11_hands_1 kB_48 ?_
  refine q_lushr dX11_hands_3 ?_
  refine r_lconst (v := 0) dX11_hands_4 kL_0 ?_
  refine r_lcmp dX11_hands_5 ?_
  refine r_if_eq (tgt := 12) dX11_hands_6 (by decide) (fun c1 => ?_) (fun c1 => ?_)
  · skip
    refine r_aload_n dX11_hands_12 rfl ?_
    refine r_getR dX11_hands_13 fs_0_4 fk_X11_44 ?_
    refine r_lload_n dX11_hands_16 rfl ?_
    exact r_callV (x := 17) (As := [.long z1]) (rest := []) dX11_hands_17 mk_X11_170 mv_X3_choose rm_X11_hands_X3_choose rfl rfl (by decide +kernel) (Nat.le_of_ble_eq_true rfl) (cal_i (lo' := [none, none, none]) trivial (K1 c1))
  · skip
    refine r_bipush (v := (-2)) dX11_hands_9 kB_m2 ?_
    exact r_iret dX11_hands_11 rfl (K2 c1)
theorem t_X11_hands_20 {s1 : Int32} 
    (K1 : Q (.returned (some (.int (v_X11_orNone s1)))) M) : Fw l D ad kA mX11_hands 20 [none, none, none] [.int s1] M Q := by
  refine r_callS (As := [.int s1]) (rest := []) dX11_hands_20 mk_X11_174 ms_X11_orNone rm_X11_hands_X11_orNone rfl rfl (Nat.le_of_ble_eq_true rfl) (ct_X11_orNone (⟨_, rfl, ?_⟩))
  exact r_iret dX11_hands_23 rfl K1
theorem en_X11_hands {z1 : Int64} (K : Fw l D ad kA mX11_hands 0 [some (.ref (ad 0)), some (.long z1), none] [] M Q) : Cal l D ad kA mX11_hands [.ref (ad 0), .long z1] M Q := Cal.of (by decide) rfl rfl (Nat.le_of_ble_eq_true rfl) K
def v_X11_hand (M : Mem) (x1 : Int32) : Int32 := if (gI M 17 3) = 0 then (-1) else if (v_X9_hasNumber M x1) = 0 then (-1) else gI M 18 x1.toNatClampNeg
def g_X11_hand (M : Mem) (x1 : Int32) : Prop := ((¬ ((gI M 17 3) = 0)) → (¬ ((v_X9_hasNumber M x1) = 0)) → vp_in x1 160)
theorem ct_X11_hand {x1 : Int32}  (g : g_X11_hand M x1) (h : Q (.returned (some (.int (v_X11_hand M x1)))) M) : Cal l D ad kA mX11_hand [.ref (ad 0), .int x1] M Q := by
  refine Cal.of (lo := [some (.ref (ad 0)), some (.int x1)]) (by decide) rfl rfl (Nat.le_of_ble_eq_true rfl) ?_
  have g1 := g
  refine r_aload_n dX11_hand_0 rfl ?_
  refine r_getR dX11_hand_1 fs_0_4 fk_X11_44 ?_
  refine r_getI dX11_hand_4 fs_17_3 fk_X11_178 ?_
  refine r_if_eq (tgt := 21) dX11_hand_7 (by decide) (fun c1 => ?_) (fun c1 => ?_)
  · skip
    refine r_iconst (v := (-1)) dX11_hand_21 kI_m1 ?_
    exact r_iret dX11_hand_22 rfl (by have h9 := h; simp only [v_X11_hand, if_pos c1] at h9; first | exact h9 | (simp only [if_pos c1]; exact h9))
  · skip
    refine r_aload_n dX11_hand_10 rfl ?_
    refine r_getR dX11_hand_11 fs_0_2 fk_X11_28 ?_
    refine r_iload_n dX11_hand_14 rfl ?_
    refine r_callV (x := 9) (As := [.int x1]) (rest := []) dX11_hand_15 mk_X11_145 mv_X9_hasNumber rm_X11_hand_X9_hasNumber rfl rfl (by decide +kernel) (Nat.le_of_ble_eq_true rfl) (ct_X9_hasNumber (⟨_, rfl, ?_⟩))
    refine r_if_ne (tgt := 23) dX11_hand_18 (by decide) (fun c2 => ?_) (fun c2 => ?_)
    · skip
      refine r_aload_n dX11_hand_23 rfl ?_
      refine r_getR dX11_hand_24 fs_0_4 fk_X11_44 ?_
      refine r_getR dX11_hand_27 fs_17_2 fk_X11_182 ?_
      refine r_iload_n dX11_hand_30 rfl ?_
      refine r_iald dX11_hand_31 as_18 (g1 c1 c2) ?_
      exact r_iret dX11_hand_32 rfl (by have h9 := h; simp only [v_X11_hand, if_neg c1, if_neg c2] at h9; first | exact h9 | (simp only [if_neg c1, if_neg c2]; exact h9))
    · skip
      refine r_iconst (v := (-1)) dX11_hand_21 kI_m1 ?_
      exact r_iret dX11_hand_22 rfl (by have h9 := h; simp only [v_X11_hand, if_neg c1, if_pos c2] at h9; first | exact h9 | (simp only [if_neg c1, if_pos c2]; exact h9))
theorem t_X11_part_0  
    (K1 : Cal l D ad kA mX11_standAllBut [.ref (ad 0), .int (-1)] M (fun oc M2 => oc = .returned none ∧ Fw l D ad kA mX11_part 5 [some (.ref (ad 0)), none] [] M2 Q)) : Fw l D ad kA mX11_part 0 [some (.ref (ad 0)), none] [] M Q := by
  refine r_aload_n dX11_part_0 rfl ?_
  refine r_iconst (v := (-1)) dX11_part_1 kI_m1 ?_
  exact r_callV (x := 0) (As := [.int (-1)]) (rest := []) dX11_part_2 mk_X11_185 mv_X11_standAllBut rm_X11_part_X11_standAllBut rfl rfl (by decide +kernel) (Nat.le_of_ble_eq_true rfl) (cal_v (lo' := [some (.ref (ad 0)), none]) ⟨rfl, trivial⟩ K1)
theorem t_X11_part_5  
    (K1 : Cal l D ad kA mX7_settle [.ref (ad 22), .int 0] M (fun oc M2 => ∃ r : Int32, oc = .returned (some (.int r)) ∧ Fw l D ad kA mX11_part 13 [none, none] [.int r] M2 Q)) : Fw l D ad kA mX11_part 5 [some (.ref (ad 0)), none] [] M Q := by
  refine r_aload_n dX11_part_5 rfl ?_
  refine r_getR dX11_part_6 fs_0_5 fk_X11_53 ?_
  refine r_iconst (v := 0) dX11_part_9 kI_0 ?_
  exact r_callV (x := 22) (As := [.int 0]) (rest := []) dX11_part_10 mk_X11_188 mv_X7_settle rm_X11_part_X7_settle rfl rfl (by decide +kernel) (Nat.le_of_ble_eq_true rfl) (cal_i (lo' := [none, none]) trivial K1)
theorem t_X11_part_13 {s1 : Int32} 
    (K1 : Q (.returned (some (.int (if s1 < 16777216 then v_X7_takesIn s1 else (-1))))) M) : Fw l D ad kA mX11_part 13 [none, none] [.int s1] M Q := by
  refine q_istore_n (lo' := [none, some (.int s1)]) dX11_part_13 (by decide) rfl ?_
  refine r_iload_n dX11_part_14 rfl ?_
  refine r_ldc (v := 16777216) dX11_part_15 co_X11_192 ?_
  suffices hJ1 : Fw l D ad kA mX11_part 28 [none, none] [.int (if s1 < 16777216 then v_X7_takesIn s1 else (-1))] M Q by
    refine r_icmp_lt (tgt := 24) dX11_part_17 (by decide) (fun c1 => ?_) (fun c1 => ?_)
    · skip
      refine r_iload_n dX11_part_24 rfl ?_
      refine r_callS (As := [.int s1]) (rest := []) dX11_part_25 mk_X11_193 ms_X7_takesIn rm_X11_part_X7_takesIn rfl rfl (Nat.le_of_ble_eq_true rfl) (ct_X7_takesIn (⟨_, rfl, ?_⟩))
      exact q_weak (lo' := [none, none]) trivial (by have h9 := hJ1; simp only [if_pos c1] at h9; first | exact h9 | (simp only [if_pos c1]; exact h9))
    · skip
      refine r_iconst (v := (-1)) dX11_part_20 kI_m1 ?_
      refine r_goto (tgt := 28) dX11_part_21 (by decide) ?_
      exact q_weak (lo' := [none, none]) trivial (by have h9 := hJ1; simp only [if_neg c1] at h9; first | exact h9 | (simp only [if_neg c1]; exact h9))
  exact r_iret dX11_part_28 rfl K1
theorem en_X11_part  (K : Fw l D ad kA mX11_part 0 [some (.ref (ad 0)), none] [] M Q) : Cal l D ad kA mX11_part [.ref (ad 0)] M Q := Cal.of (by decide) rfl rfl (Nat.le_of_ble_eq_true rfl) K
theorem t_X11_give_0 {x1 : Int32} {x2 : Int32} 
    (g1 : (¬ ((v_X11_isRinger M x2) = 0)) → (¬ ((v_X7_uses M x1) = 0)) → (¬ ((gI M 22 4) = 0)) → vp_in x1 48)
    (K1 : ((v_X11_isRinger M x2) = 0) → Q (.returned (some (.int (-2)))) M)
    (K2 : (¬ ((v_X11_isRinger M x2) = 0)) → (¬ ((v_X7_uses M x1) = 0)) → (¬ ((gI M 22 4) = 0)) → Q (.returned (some (.int (gI M 23 x1.toNatClampNeg)))) (sI M 23 x1.toNatClampNeg x2))
    (K3 : (¬ ((v_X11_isRinger M x2) = 0)) → (¬ ((v_X7_uses M x1) = 0)) → ((gI M 22 4) = 0) → Q (.returned (some (.int (-4)))) M)
    (K4 : (¬ ((v_X11_isRinger M x2) = 0)) → ((v_X7_uses M x1) = 0) → Q (.returned (some (.int (-2)))) M) : Fw l D ad kA mX11_give 0 [some (.ref (ad 0)), some (.int x1), some (.int x2), none] [] M Q := by
  refine r_aload_n dX11_give_0 rfl ?_
  refine r_iload_n dX11_give_1 rfl ?_
  refine r_callV (x := 0) (As := [.int x2]) (rest := []) dX11_give_2 mk_X11_167 mv_X11_isRinger rm_X11_give_X11_isRinger rfl rfl (by decide +kernel) (Nat.le_of_ble_eq_true rfl) (ct_X11_isRinger (⟨_, rfl, ?_⟩))
  refine r_if_eq (tgt := 19) dX11_give_5 (by decide) (fun c1 => ?_) (fun c1 => ?_)
  · skip
    refine r_bipush (v := (-2)) dX11_give_19 kB_m2 ?_
    exact r_iret dX11_give_21 rfl (K1 c1)
  · skip
    refine r_aload_n dX11_give_8 rfl ?_
    refine r_getR dX11_give_9 fs_0_5 fk_X11_53 ?_
    refine r_iload_n dX11_give_12 rfl ?_
    refine r_callV (x := 22) (As := [.int x1]) (rest := []) dX11_give_13 mk_X11_196 mv_X7_uses rm_X11_give_X7_uses rfl rfl (by decide +kernel) (Nat.le_of_ble_eq_true rfl) (ct_X7_uses (⟨_, rfl, ?_⟩))
    refine r_if_ne (tgt := 22) dX11_give_16 (by decide) (fun c2 => ?_) (fun c2 => ?_)
    · skip
      refine r_aload_n dX11_give_22 rfl ?_
      refine r_getR dX11_give_23 fs_0_5 fk_X11_53 ?_
      refine r_getI dX11_give_26 fs_22_4 fk_X11_199 ?_
      refine r_if_ne (tgt := 35) dX11_give_29 (by decide) (fun c3 => ?_) (fun c3 => ?_)
      · skip
        refine r_aload_n dX11_give_35 rfl ?_
        refine r_getR dX11_give_36 fs_0_5 fk_X11_53 ?_
        refine r_getR dX11_give_39 fs_22_3 fk_X11_202 ?_
        refine r_iload_n dX11_give_42 rfl ?_
        refine r_iald dX11_give_43 as_23 (g1 c1 c2 c3) ?_
        refine q_istore_n (lo' := [some (.ref (ad 0)), some (.int x1), some (.int x2), some (.int (gI M 23 x1.toNatClampNeg))]) dX11_give_44 (by decide) rfl ?_
        refine r_aload_n dX11_give_45 rfl ?_
        refine r_getR dX11_give_46 fs_0_5 fk_X11_53 ?_
        refine r_getR dX11_give_49 fs_22_3 fk_X11_202 ?_
        refine r_iload_n dX11_give_52 rfl ?_
        refine r_iload_n dX11_give_53 rfl ?_
        refine r_iast dX11_give_54 as_23 (g1 c1 c2 c3) ?_
        refine r_iload_n dX11_give_55 rfl ?_
        exact r_iret dX11_give_56 rfl (K2 c1 c2 c3)
      · skip
        refine r_bipush (v := (-4)) dX11_give_32 kB_m4 ?_
        exact r_iret dX11_give_34 rfl (K3 c1 c2 c3)
    · skip
      refine r_bipush (v := (-2)) dX11_give_19 kB_m2 ?_
      exact r_iret dX11_give_21 rfl (K4 c1 c2)
theorem en_X11_give {x1 : Int32} {x2 : Int32} (K : Fw l D ad kA mX11_give 0 [some (.ref (ad 0)), some (.int x1), some (.int x2), none] [] M Q) : Cal l D ad kA mX11_give [.ref (ad 0), .int x1, .int x2] M Q := Cal.of (by decide) rfl rfl (Nat.le_of_ble_eq_true rfl) K
def v_X11_parted (M : Mem) (x1 : Int32) : Int32 := if (gI M 22 4) = 0 then (-1) else if (v_X7_uses M x1) = 0 then (-1) else gI M 23 x1.toNatClampNeg
def g_X11_parted (M : Mem) (x1 : Int32) : Prop := ((¬ ((gI M 22 4) = 0)) → (¬ ((v_X7_uses M x1) = 0)) → vp_in x1 48)
theorem ct_X11_parted {x1 : Int32}  (g : g_X11_parted M x1) (h : Q (.returned (some (.int (v_X11_parted M x1)))) M) : Cal l D ad kA mX11_parted [.ref (ad 0), .int x1] M Q := by
  refine Cal.of (lo := [some (.ref (ad 0)), some (.int x1)]) (by decide) rfl rfl (Nat.le_of_ble_eq_true rfl) ?_
  have g1 := g
  refine r_aload_n dX11_parted_0 rfl ?_
  refine r_getR dX11_parted_1 fs_0_5 fk_X11_53 ?_
  refine r_getI dX11_parted_4 fs_22_4 fk_X11_199 ?_
  refine r_if_eq (tgt := 21) dX11_parted_7 (by decide) (fun c1 => ?_) (fun c1 => ?_)
  · skip
    refine r_iconst (v := (-1)) dX11_parted_21 kI_m1 ?_
    exact r_iret dX11_parted_22 rfl (by have h9 := h; simp only [v_X11_parted, if_pos c1] at h9; first | exact h9 | (simp only [if_pos c1]; exact h9))
  · skip
    refine r_aload_n dX11_parted_10 rfl ?_
    refine r_getR dX11_parted_11 fs_0_5 fk_X11_53 ?_
    refine r_iload_n dX11_parted_14 rfl ?_
    refine r_callV (x := 22) (As := [.int x1]) (rest := []) dX11_parted_15 mk_X11_196 mv_X7_uses rm_X11_parted_X7_uses rfl rfl (by decide +kernel) (Nat.le_of_ble_eq_true rfl) (ct_X7_uses (⟨_, rfl, ?_⟩))
    refine r_if_ne (tgt := 23) dX11_parted_18 (by decide) (fun c2 => ?_) (fun c2 => ?_)
    · skip
      refine r_aload_n dX11_parted_23 rfl ?_
      refine r_getR dX11_parted_24 fs_0_5 fk_X11_53 ?_
      refine r_getR dX11_parted_27 fs_22_3 fk_X11_202 ?_
      refine r_iload_n dX11_parted_30 rfl ?_
      refine r_iald dX11_parted_31 as_23 (g1 c1 c2) ?_
      exact r_iret dX11_parted_32 rfl (by have h9 := h; simp only [v_X11_parted, if_neg c1, if_neg c2] at h9; first | exact h9 | (simp only [if_neg c1, if_neg c2]; exact h9))
    · skip
      refine r_iconst (v := (-1)) dX11_parted_21 kI_m1 ?_
      exact r_iret dX11_parted_22 rfl (by have h9 := h; simp only [v_X11_parted, if_neg c1, if_pos c2] at h9; first | exact h9 | (simp only [if_neg c1, if_pos c2]; exact h9))
theorem t_X11_load_0 {x1 : Int32} 
    (K1 : (¬ ((v_X11_isRinger M x1) = 0)) → (¬ ((gI M 22 4) = 0)) → Cal l D ad kA mX7_bellsOf [.ref (ad 22), .int x1] M (fun oc M2 => ∃ r : Int64, oc = .returned (some (.long r)) ∧ Fw l D ad kA mX11_load 36 [none, none] [.long r, .ref (ad 17)] M2 Q))
    (K2 : (¬ ((v_X11_isRinger M x1) = 0)) → ((gI M 22 4) = 0) → Q (.returned (some (.int (-4)))) M)
    (K3 : ((v_X11_isRinger M x1) = 0) → Q (.returned (some (.int (-2)))) M) : Fw l D ad kA mX11_load 0 [some (.ref (ad 0)), some (.int x1)] [] M Q := by
  refine r_aload_n dX11_load_0 rfl ?_
  refine r_iload_n dX11_load_1 rfl ?_
  refine r_callV (x := 0) (As := [.int x1]) (rest := []) dX11_load_2 mk_X11_167 mv_X11_isRinger rm_X11_load_X11_isRinger rfl rfl (by decide +kernel) (Nat.le_of_ble_eq_true rfl) (ct_X11_isRinger (⟨_, rfl, ?_⟩))
  refine r_if_ne (tgt := 11) dX11_load_5 (by decide) (fun c1 => ?_) (fun c1 => ?_)
  · skip
    refine r_aload_n dX11_load_11 rfl ?_
    refine r_getR dX11_load_12 fs_0_5 fk_X11_53 ?_
    refine r_getI dX11_load_15 fs_22_4 fk_X11_199 ?_
    refine r_if_ne (tgt := 24) dX11_load_18 (by decide) (fun c2 => ?_) (fun c2 => ?_)
    · skip
      refine r_aload_n dX11_load_24 rfl ?_
      refine r_getR dX11_load_25 fs_0_4 fk_X11_44 ?_
      refine r_aload_n dX11_load_28 rfl ?_
      refine r_getR dX11_load_29 fs_0_5 fk_X11_53 ?_
      refine r_iload_n dX11_load_32 rfl ?_
      exact r_callV (x := 22) (As := [.int x1]) (rest := [.ref (ad 17)]) dX11_load_33 mk_X11_205 mv_X7_bellsOf rm_X11_load_X7_bellsOf rfl rfl (by decide +kernel) (Nat.le_of_ble_eq_true rfl) (cal_l (lo' := [none, none]) trivial (K1 c1 c2))
    · skip
      refine r_bipush (v := (-4)) dX11_load_21 kB_m4 ?_
      exact r_iret dX11_load_23 rfl (K2 c1 c2)
  · skip
    refine r_bipush (v := (-2)) dX11_load_8 kB_m2 ?_
    exact r_iret dX11_load_10 rfl (K3 c1)
theorem t_X11_load_36 {t2 : Int64} 
    (K1 : Cal l D ad kA mX3_takesOf [.ref (ad 17), .long t2] M (fun oc M2 => ∃ r : Int32, oc = .returned (some (.int r)) ∧ Fw l D ad kA mX11_load 39 [none, none] [.int r] M2 Q)) : Fw l D ad kA mX11_load 36 [none, none] [.long t2, .ref (ad 17)] M Q := by
  exact r_callV (x := 17) (As := [.long t2]) (rest := []) dX11_load_36 mk_X11_209 mv_X3_takesOf rm_X11_load_X3_takesOf rfl rfl (by decide +kernel) (Nat.le_of_ble_eq_true rfl) (cal_i (lo' := [none, none]) trivial K1)
theorem t_X11_load_39 {s1 : Int32} 
    (K1 : Q (.returned (some (.int (v_X11_orNone s1)))) M) : Fw l D ad kA mX11_load 39 [none, none] [.int s1] M Q := by
  refine r_callS (As := [.int s1]) (rest := []) dX11_load_39 mk_X11_174 ms_X11_orNone rm_X11_load_X11_orNone rfl rfl (Nat.le_of_ble_eq_true rfl) (ct_X11_orNone (⟨_, rfl, ?_⟩))
  exact r_iret dX11_load_42 rfl K1
theorem en_X11_load {x1 : Int32} (K : Fw l D ad kA mX11_load 0 [some (.ref (ad 0)), some (.int x1)] [] M Q) : Cal l D ad kA mX11_load [.ref (ad 0), .int x1] M Q := Cal.of (by decide) rfl rfl (Nat.le_of_ble_eq_true rfl) K
theorem t_X11_cover_0 {x1 : Int32} 
    (K1 : (¬ ((v_X11_isRinger M x1) = 0)) → (¬ ((gI M 22 4) = 0)) → Cal l D ad kA mX11_standAllBut [.ref (ad 0), .int x1] M (fun oc M2 => oc = .returned none ∧ Fw l D ad kA mX11_cover 29 [some (.ref (ad 0)), none, none] [] M2 Q))
    (K2 : (¬ ((v_X11_isRinger M x1) = 0)) → ((gI M 22 4) = 0) → Q (.returned (some (.int (-4)))) M)
    (K3 : ((v_X11_isRinger M x1) = 0) → Q (.returned (some (.int (-2)))) M) : Fw l D ad kA mX11_cover 0 [some (.ref (ad 0)), some (.int x1), none] [] M Q := by
  refine r_aload_n dX11_cover_0 rfl ?_
  refine r_iload_n dX11_cover_1 rfl ?_
  refine r_callV (x := 0) (As := [.int x1]) (rest := []) dX11_cover_2 mk_X11_167 mv_X11_isRinger rm_X11_cover_X11_isRinger rfl rfl (by decide +kernel) (Nat.le_of_ble_eq_true rfl) (ct_X11_isRinger (⟨_, rfl, ?_⟩))
  refine r_if_ne (tgt := 11) dX11_cover_5 (by decide) (fun c1 => ?_) (fun c1 => ?_)
  · skip
    refine r_aload_n dX11_cover_11 rfl ?_
    refine r_getR dX11_cover_12 fs_0_5 fk_X11_53 ?_
    refine r_getI dX11_cover_15 fs_22_4 fk_X11_199 ?_
    refine r_if_ne (tgt := 24) dX11_cover_18 (by decide) (fun c2 => ?_) (fun c2 => ?_)
    · skip
      refine r_aload_n dX11_cover_24 rfl ?_
      refine r_iload_n dX11_cover_25 rfl ?_
      exact r_callV (x := 0) (As := [.int x1]) (rest := []) dX11_cover_26 mk_X11_185 mv_X11_standAllBut rm_X11_cover_X11_standAllBut rfl rfl (by decide +kernel) (Nat.le_of_ble_eq_true rfl) (cal_v (lo' := [some (.ref (ad 0)), none, none]) ⟨rfl, trivial⟩ (K1 c1 c2))
    · skip
      refine r_bipush (v := (-4)) dX11_cover_21 kB_m4 ?_
      exact r_iret dX11_cover_23 rfl (K2 c1 c2)
  · skip
    refine r_bipush (v := (-2)) dX11_cover_8 kB_m2 ?_
    exact r_iret dX11_cover_10 rfl (K3 c1)
theorem t_X11_cover_29  
    (K1 : Cal l D ad kA mX7_settle [.ref (ad 22), .int 1] M (fun oc M2 => ∃ r : Int32, oc = .returned (some (.int r)) ∧ Fw l D ad kA mX11_cover 37 [none, none, none] [.int r] M2 Q)) : Fw l D ad kA mX11_cover 29 [some (.ref (ad 0)), none, none] [] M Q := by
  refine r_aload_n dX11_cover_29 rfl ?_
  refine r_getR dX11_cover_30 fs_0_5 fk_X11_53 ?_
  refine r_iconst (v := 1) dX11_cover_33 kI_1 ?_
  exact r_callV (x := 22) (As := [.int 1]) (rest := []) dX11_cover_34 mk_X11_188 mv_X7_settle rm_X11_cover_X7_settle rfl rfl (by decide +kernel) (Nat.le_of_ble_eq_true rfl) (cal_i (lo' := [none, none, none]) trivial K1)
theorem t_X11_cover_37 {s1 : Int32} 
    (K1 : Q (.returned (some (.int (if s1 < 16777216 then v_X7_changesIn s1 else (-1))))) M) : Fw l D ad kA mX11_cover 37 [none, none, none] [.int s1] M Q := by
  refine q_istore_n (lo' := [none, none, some (.int s1)]) dX11_cover_37 (by decide) rfl ?_
  refine r_iload_n dX11_cover_38 rfl ?_
  refine r_ldc (v := 16777216) dX11_cover_39 co_X11_192 ?_
  suffices hJ1 : Fw l D ad kA mX11_cover 52 [none, none, none] [.int (if s1 < 16777216 then v_X7_changesIn s1 else (-1))] M Q by
    refine r_icmp_lt (tgt := 48) dX11_cover_41 (by decide) (fun c1 => ?_) (fun c1 => ?_)
    · skip
      refine r_iload_n dX11_cover_48 rfl ?_
      refine r_callS (As := [.int s1]) (rest := []) dX11_cover_49 mk_X11_212 ms_X7_changesIn rm_X11_cover_X7_changesIn rfl rfl (Nat.le_of_ble_eq_true rfl) (ct_X7_changesIn (⟨_, rfl, ?_⟩))
      exact q_weak (lo' := [none, none, none]) trivial (by have h9 := hJ1; simp only [if_pos c1] at h9; first | exact h9 | (simp only [if_pos c1]; exact h9))
    · skip
      refine r_iconst (v := (-1)) dX11_cover_44 kI_m1 ?_
      refine r_goto (tgt := 52) dX11_cover_45 (by decide) ?_
      exact q_weak (lo' := [none, none, none]) trivial (by have h9 := hJ1; simp only [if_neg c1] at h9; first | exact h9 | (simp only [if_neg c1]; exact h9))
  exact r_iret dX11_cover_52 rfl K1
theorem en_X11_cover {x1 : Int32} (K : Fw l D ad kA mX11_cover 0 [some (.ref (ad 0)), some (.int x1), none] [] M Q) : Cal l D ad kA mX11_cover [.ref (ad 0), .int x1] M Q := Cal.of (by decide) rfl rfl (Nat.le_of_ble_eq_true rfl) K
theorem t_X11_help_0 {x1 : Int32} 
    (g1 : (¬ ((v_X11_isRinger M x1) = 0)) → (¬ ((gI M 22 4) = 0)) → g_X11_canHelp M (x1 - 1))
    (g2 : (¬ ((v_X11_isRinger M x1) = 0)) → (¬ ((gI M 22 4) = 0)) → g_X11_canHelp M (x1 + 1))
    (K1 : (¬ ((v_X11_isRinger M x1) = 0)) → (¬ ((gI M 22 4) = 0)) → Cal l D ad kA mX4_seek [.ref (ad 28), .int x1, .int (if (v_X11_canHelp M (x1 - 1)) = 0 then (-1) else x1 - 1), .int (if (v_X11_canHelp M (x1 + 1)) = 0 then (-1) else x1 + 1)] M (fun oc M2 => ∃ r : Int32, oc = .returned (some (.int r)) ∧ Fw l D ad kA mX11_help 70 [none, none, none, none] [.int r] M2 Q))
    (K2 : (¬ ((v_X11_isRinger M x1) = 0)) → ((gI M 22 4) = 0) → Q (.returned (some (.int (-4)))) M)
    (K3 : ((v_X11_isRinger M x1) = 0) → Q (.returned (some (.int (-2)))) M) : Fw l D ad kA mX11_help 0 [some (.ref (ad 0)), some (.int x1), none, none] [] M Q := by
  refine r_aload_n dX11_help_0 rfl ?_
  refine r_iload_n dX11_help_1 rfl ?_
  refine r_callV (x := 0) (As := [.int x1]) (rest := []) dX11_help_2 mk_X11_167 mv_X11_isRinger rm_X11_help_X11_isRinger rfl rfl (by decide +kernel) (Nat.le_of_ble_eq_true rfl) (ct_X11_isRinger (⟨_, rfl, ?_⟩))
  refine r_if_ne (tgt := 11) dX11_help_5 (by decide) (fun c1 => ?_) (fun c1 => ?_)
  · skip
    refine r_aload_n dX11_help_11 rfl ?_
    refine r_getR dX11_help_12 fs_0_5 fk_X11_53 ?_
    refine r_getI dX11_help_15 fs_22_4 fk_X11_199 ?_
    refine r_if_ne (tgt := 24) dX11_help_18 (by decide) (fun c2 => ?_) (fun c2 => ?_)
    · skip
      refine r_aload_n dX11_help_24 rfl ?_
      refine r_iload_n dX11_help_25 rfl ?_
      refine r_iconst (v := 1) dX11_help_26 kI_1 ?_
      refine r_isub dX11_help_27 ?_
      refine r_callV (x := 0) (As := [.int (x1 - 1)]) (rest := []) dX11_help_28 mk_X11_215 mv_X11_canHelp rm_X11_help_X11_canHelp rfl rfl (by decide +kernel) (Nat.le_of_ble_eq_true rfl) (ct_X11_canHelp (g1 c1 c2) (⟨_, rfl, ?_⟩))
      suffices hJ1 : Fw l D ad kA mX11_help 41 [some (.ref (ad 0)), some (.int x1), none, none] [.int (if (v_X11_canHelp M (x1 - 1)) = 0 then (-1) else x1 - 1)] M Q by
        refine r_if_eq (tgt := 40) dX11_help_31 (by decide) (fun c3 => ?_) (fun c3 => ?_)
        · skip
          refine r_iconst (v := (-1)) dX11_help_40 kI_m1 ?_
          exact q_weak (lo' := [some (.ref (ad 0)), some (.int x1), none, none]) ⟨rfl, rfl, trivial⟩ (by have h9 := hJ1; simp only [if_pos c3] at h9; first | exact h9 | (simp only [if_pos c3]; exact h9))
        · skip
          refine r_iload_n dX11_help_34 rfl ?_
          refine r_iconst (v := 1) dX11_help_35 kI_1 ?_
          refine r_isub dX11_help_36 ?_
          refine r_goto (tgt := 41) dX11_help_37 (by decide) ?_
          exact q_weak (lo' := [some (.ref (ad 0)), some (.int x1), none, none]) ⟨rfl, rfl, trivial⟩ (by have h9 := hJ1; simp only [if_neg c3] at h9; first | exact h9 | (simp only [if_neg c3]; exact h9))
      refine q_istore_n (lo' := [some (.ref (ad 0)), some (.int x1), some (.int (if (v_X11_canHelp M (x1 - 1)) = 0 then (-1) else x1 - 1)), none]) dX11_help_41 (by decide) rfl ?_
      refine r_aload_n dX11_help_42 rfl ?_
      refine r_iload_n dX11_help_43 rfl ?_
      refine r_iconst (v := 1) dX11_help_44 kI_1 ?_
      refine r_iadd dX11_help_45 ?_
      refine r_callV (x := 0) (As := [.int (x1 + 1)]) (rest := []) dX11_help_46 mk_X11_215 mv_X11_canHelp rm_X11_help_X11_canHelp rfl rfl (by decide +kernel) (Nat.le_of_ble_eq_true rfl) (ct_X11_canHelp (g2 c1 c2) (⟨_, rfl, ?_⟩))
      suffices hJ2 : Fw l D ad kA mX11_help 59 [some (.ref (ad 0)), some (.int x1), some (.int (if (v_X11_canHelp M (x1 - 1)) = 0 then (-1) else x1 - 1)), none] [.int (if (v_X11_canHelp M (x1 + 1)) = 0 then (-1) else x1 + 1)] M Q by
        refine r_if_eq (tgt := 58) dX11_help_49 (by decide) (fun c4 => ?_) (fun c4 => ?_)
        · skip
          refine r_iconst (v := (-1)) dX11_help_58 kI_m1 ?_
          exact q_weak (lo' := [some (.ref (ad 0)), some (.int x1), some (.int (if (v_X11_canHelp M (x1 - 1)) = 0 then (-1) else x1 - 1)), none]) ⟨rfl, rfl, rfl, trivial⟩ (by have h9 := hJ2; simp only [if_pos c4] at h9; first | exact h9 | (simp only [if_pos c4]; exact h9))
        · skip
          refine r_iload_n dX11_help_52 rfl ?_
          refine r_iconst (v := 1) dX11_help_53 kI_1 ?_
          refine r_iadd dX11_help_54 ?_
          refine r_goto (tgt := 59) dX11_help_55 (by decide) ?_
          exact q_weak (lo' := [some (.ref (ad 0)), some (.int x1), some (.int (if (v_X11_canHelp M (x1 - 1)) = 0 then (-1) else x1 - 1)), none]) ⟨rfl, rfl, rfl, trivial⟩ (by have h9 := hJ2; simp only [if_neg c4] at h9; first | exact h9 | (simp only [if_neg c4]; exact h9))
      refine q_istore_n (lo' := [some (.ref (ad 0)), some (.int x1), some (.int (if (v_X11_canHelp M (x1 - 1)) = 0 then (-1) else x1 - 1)), some (.int (if (v_X11_canHelp M (x1 + 1)) = 0 then (-1) else x1 + 1))]) dX11_help_59 (by decide) rfl ?_
      refine r_aload_n dX11_help_60 rfl ?_
      refine r_getR dX11_help_61 fs_0_6 fk_X11_62 ?_
      refine r_iload_n dX11_help_64 rfl ?_
      refine r_iload_n dX11_help_65 rfl ?_
      refine r_iload_n dX11_help_66 rfl ?_
      exact r_callV (x := 28) (As := [.int x1, .int (if (v_X11_canHelp M (x1 - 1)) = 0 then (-1) else x1 - 1), .int (if (v_X11_canHelp M (x1 + 1)) = 0 then (-1) else x1 + 1)]) (rest := []) dX11_help_67 mk_X11_218 mv_X4_seek rm_X11_help_X4_seek rfl rfl (by decide +kernel) (Nat.le_of_ble_eq_true rfl) (cal_i (lo' := [none, none, none, none]) trivial (K1 c1 c2))
    · skip
      refine r_bipush (v := (-4)) dX11_help_21 kB_m4 ?_
      exact r_iret dX11_help_23 rfl (K2 c1 c2)
  · skip
    refine r_bipush (v := (-2)) dX11_help_8 kB_m2 ?_
    exact r_iret dX11_help_10 rfl (K3 c1)
theorem t_X11_help_70 {s1 : Int32} 
    (K1 : Q (.returned (some (.int (v_X11_orNone s1)))) M) : Fw l D ad kA mX11_help 70 [none, none, none, none] [.int s1] M Q := by
  refine r_callS (As := [.int s1]) (rest := []) dX11_help_70 mk_X11_174 ms_X11_orNone rm_X11_help_X11_orNone rfl rfl (Nat.le_of_ble_eq_true rfl) (ct_X11_orNone (⟨_, rfl, ?_⟩))
  exact r_iret dX11_help_73 rfl K1
theorem en_X11_help {x1 : Int32} (K : Fw l D ad kA mX11_help 0 [some (.ref (ad 0)), some (.int x1), none, none] [] M Q) : Cal l D ad kA mX11_help [.ref (ad 0), .int x1] M Q := Cal.of (by decide) rfl rfl (Nat.le_of_ble_eq_true rfl) K
def v_X11_helped (M : Mem) (x1 : Int32) : Int32 := if x1 = 0 then gI M 28 3 else if x1 = 1 then gI M 28 4 else (-1)
theorem ct_X11_helped {x1 : Int32}  (h : Q (.returned (some (.int (v_X11_helped M x1)))) M) : Cal l D ad kA mX11_helped [.ref (ad 0), .int x1] M Q := by
  refine Cal.of (lo := [some (.ref (ad 0)), some (.int x1)]) (by decide) rfl rfl (Nat.le_of_ble_eq_true rfl) ?_
  refine r_iload_n dX11_helped_0 rfl ?_
  refine r_if_ne (tgt := 12) dX11_helped_1 (by decide) (fun c1 => ?_) (fun c1 => ?_)
  · skip
    refine r_iload_n dX11_helped_12 rfl ?_
    refine r_iconst (v := 1) dX11_helped_13 kI_1 ?_
    suffices hJ1 : Fw l D ad kA mX11_helped 28 [none, none] [.int (if x1 = 1 then gI M 28 4 else (-1))] M Q by
      refine r_icmp_ne (tgt := 27) dX11_helped_14 (by decide) (fun c2 => ?_) (fun c2 => ?_)
      · skip
        refine r_iconst (v := (-1)) dX11_helped_27 kI_m1 ?_
        exact q_weak (lo' := [none, none]) trivial (by have h9 := hJ1; simp only [if_neg c2] at h9; first | exact h9 | (simp only [if_neg c2]; exact h9))
      · skip
        refine r_aload_n dX11_helped_17 rfl ?_
        refine r_getR dX11_helped_18 fs_0_6 fk_X11_62 ?_
        refine r_getI dX11_helped_21 fs_28_4 fk_X11_225 ?_
        refine r_goto (tgt := 28) dX11_helped_24 (by decide) ?_
        exact q_weak (lo' := [none, none]) trivial (by have h9 := hJ1; simp only [if_pos c2] at h9; first | exact h9 | (simp only [if_pos c2]; exact h9))
    exact r_iret dX11_helped_28 rfl (by have h9 := h; simp only [v_X11_helped, if_neg c1] at h9; first | exact h9 | (simp only [if_neg c1]; exact h9))
  · skip
    refine r_aload_n dX11_helped_4 rfl ?_
    refine r_getR dX11_helped_5 fs_0_6 fk_X11_62 ?_
    refine r_getI dX11_helped_8 fs_28_3 fk_X11_222 ?_
    exact r_iret dX11_helped_11 rfl (by have h9 := h; simp only [v_X11_helped, if_pos c1] at h9; first | exact h9 | (simp only [if_pos c1]; exact h9))
theorem t_X11_clashes_0  
    (K1 : Cal l D ad kA mX8_walkTo [.ref (ad 32), .int (-1)] M (fun oc M2 => ∃ r : Int32, oc = .returned (some (.int r)) ∧ Fw l D ad kA mX11_clashes 8 [none] [.int r] M2 Q)) : Fw l D ad kA mX11_clashes 0 [some (.ref (ad 0))] [] M Q := by
  refine r_aload_n dX11_clashes_0 rfl ?_
  refine r_getR dX11_clashes_1 fs_0_7 fk_X11_71 ?_
  refine r_iconst (v := (-1)) dX11_clashes_4 kI_m1 ?_
  exact r_callV (x := 32) (As := [.int (-1)]) (rest := []) dX11_clashes_5 mk_X11_228 mv_X8_walkTo rm_X11_clashes_X8_walkTo rfl rfl (by decide +kernel) (Nat.le_of_ble_eq_true rfl) (cal_i (lo' := [none]) trivial K1)
theorem t_X11_clashes_8 {s1 : Int32} 
    (K1 : Q (.returned (some (.int s1))) M) : Fw l D ad kA mX11_clashes 8 [none] [.int s1] M Q := by
  exact r_iret dX11_clashes_8 rfl K1
theorem en_X11_clashes  (K : Fw l D ad kA mX11_clashes 0 [some (.ref (ad 0))] [] M Q) : Cal l D ad kA mX11_clashes [.ref (ad 0)] M Q := Cal.of (by decide) rfl rfl (Nat.le_of_ble_eq_true rfl) K
theorem t_X11_clash_0 {x1 : Int32} {x2 : Int32} 
    (K1 : (x1 < 0) → Q (.returned (some (.int (-1)))) M)
    (K2 : (¬ (x1 < 0)) → Cal l D ad kA mX8_walkTo [.ref (ad 32), .int x1] M (fun oc M2 => ∃ r : Int32, oc = .returned (some (.int r)) ∧ Fw l D ad kA mX11_clash 12 [some (.ref (ad 0)), some (.int x1), some (.int x2)] [.int r] M2 Q)) : Fw l D ad kA mX11_clash 0 [some (.ref (ad 0)), some (.int x1), some (.int x2)] [] M Q := by
  refine r_iload_n dX11_clash_0 rfl ?_
  refine r_if_lt (tgt := 27) dX11_clash_1 (by decide) (fun c1 => ?_) (fun c1 => ?_)
  · skip
    refine r_iconst (v := (-1)) dX11_clash_27 kI_m1 ?_
    exact r_iret dX11_clash_28 rfl (K1 c1)
  · skip
    refine r_aload_n dX11_clash_4 rfl ?_
    refine r_getR dX11_clash_5 fs_0_7 fk_X11_71 ?_
    refine r_iload_n dX11_clash_8 rfl ?_
    exact r_callV (x := 32) (As := [.int x1]) (rest := []) dX11_clash_9 mk_X11_228 mv_X8_walkTo rm_X11_clash_X8_walkTo rfl rfl (by decide +kernel) (Nat.le_of_ble_eq_true rfl) (cal_i (lo' := [some (.ref (ad 0)), some (.int x1), some (.int x2)]) ⟨rfl, rfl, rfl, trivial⟩ (K2 c1))
theorem t_X11_clash_12 {x1 : Int32} {x2 : Int32} {s1 : Int32} 
    (g1 : (s1 = x1) → (¬ ((gI M 32 2) = (-1))) → (¬ (x2 = 0)) → (¬ (x2 = 1)) → (x2 = 2) → g_X8_beatsOfBoth M)
    (K1 : (¬ (s1 = x1)) → Q (.returned (some (.int (-1)))) M)
    (K2 : (s1 = x1) → (¬ ((gI M 32 2) = (-1))) → (x2 = 0) → Q (.returned (some (.int (gI M 32 2)))) M)
    (K3 : (s1 = x1) → (¬ ((gI M 32 2) = (-1))) → (¬ (x2 = 0)) → (x2 = 1) → Q (.returned (some (.int (gI M 32 3)))) M)
    (K4 : (s1 = x1) → (¬ ((gI M 32 2) = (-1))) → (¬ (x2 = 0)) → (¬ (x2 = 1)) → (x2 = 2) → Q (.returned (some (.int (v_X8_beatsOfBoth M)))) M)
    (K5 : (s1 = x1) → (¬ ((gI M 32 2) = (-1))) → (¬ (x2 = 0)) → (¬ (x2 = 1)) → (¬ (x2 = 2)) → Q (.returned (some (.int (-1)))) M)
    (K6 : (s1 = x1) → ((gI M 32 2) = (-1)) → Q (.returned (some (.int (-1)))) M) : Fw l D ad kA mX11_clash 12 [some (.ref (ad 0)), some (.int x1), some (.int x2)] [.int s1] M Q := by
  refine r_iload_n dX11_clash_12 rfl ?_
  refine r_icmp_ne (tgt := 27) dX11_clash_13 (by decide) (fun c1 => ?_) (fun c1 => ?_)
  · skip
    refine r_iconst (v := (-1)) dX11_clash_27 kI_m1 ?_
    exact r_iret dX11_clash_28 rfl (K1 c1)
  · skip
    refine r_aload_n dX11_clash_16 rfl ?_
    refine r_getR dX11_clash_17 fs_0_7 fk_X11_71 ?_
    refine r_getI dX11_clash_20 fs_32_2 fk_X11_231 ?_
    refine r_iconst (v := (-1)) dX11_clash_23 kI_m1 ?_
    refine r_icmp_ne (tgt := 29) dX11_clash_24 (by decide) (fun c2 => ?_) (fun c2 => ?_)
    · skip
      refine r_iload_n dX11_clash_29 rfl ?_
      by_cases c3 : x2 = 0
      · refine r_tableIn (off := 26) (tgt := 56) dX11_clash_30 (by rw [c3]; decide) (by rw [c3]; decide) (by rw [c3]; decide) (by decide) ?_
        refine r_aload_n dX11_clash_56 rfl ?_
        refine r_getR dX11_clash_57 fs_0_7 fk_X11_71 ?_
        refine r_getI dX11_clash_60 fs_32_2 fk_X11_231 ?_
        exact r_iret dX11_clash_63 rfl (K2 c1 c2 c3)
      by_cases c4 : x2 = 1
      · refine r_tableIn (off := 34) (tgt := 64) dX11_clash_30 (by rw [c4]; decide) (by rw [c4]; decide) (by rw [c4]; decide) (by decide) ?_
        refine r_aload_n dX11_clash_64 rfl ?_
        refine r_getR dX11_clash_65 fs_0_7 fk_X11_71 ?_
        refine r_getI dX11_clash_68 fs_32_3 fk_X11_234 ?_
        exact r_iret dX11_clash_71 rfl (K3 c1 c2 c3 c4)
      by_cases c5 : x2 = 2
      · refine r_tableIn (off := 42) (tgt := 72) dX11_clash_30 (by rw [c5]; decide) (by rw [c5]; decide) (by rw [c5]; decide) (by decide) ?_
        refine r_aload_n dX11_clash_72 rfl ?_
        refine r_getR dX11_clash_73 fs_0_7 fk_X11_71 ?_
        refine r_callV (x := 32) (As := []) (rest := []) dX11_clash_76 mk_X11_237 mv_X8_beatsOfBoth rm_X11_clash_X8_beatsOfBoth rfl rfl (by decide +kernel) (Nat.le_of_ble_eq_true rfl) (ct_X8_beatsOfBoth (g1 c1 c2 c3 c4 c5) (⟨_, rfl, ?_⟩))
        exact r_iret dX11_clash_79 rfl (K4 c1 c2 c3 c4 c5)
      refine r_tableOut (tgt := 80) dX11_clash_30 (sw_out 3 (fun q hq => (by match q, hq with
      | 0, _ => exact c3
      | 1, _ => exact c4
      | 2, _ => exact c5))) (by decide) ?_
      refine r_iconst (v := (-1)) dX11_clash_80 kI_m1 ?_
      exact r_iret dX11_clash_81 rfl (K5 c1 c2 c3 c4 c5)
    · skip
      refine r_iconst (v := (-1)) dX11_clash_27 kI_m1 ?_
      exact r_iret dX11_clash_28 rfl (K6 c1 c2)
theorem en_X11_clash {x1 : Int32} {x2 : Int32} (K : Fw l D ad kA mX11_clash 0 [some (.ref (ad 0)), some (.int x1), some (.int x2)] [] M Q) : Cal l D ad kA mX11_clash [.ref (ad 0), .int x1, .int x2] M Q := Cal.of (by decide) rfl rfl (Nat.le_of_ble_eq_true rfl) K
theorem t_X11_damp_0  
    (K1 : Cal l D ad kA mX8_cutDown [.ref (ad 32)] M (fun oc M2 => ∃ r : Int32, oc = .returned (some (.int r)) ∧ Fw l D ad kA mX11_damp 7 [some (.ref (ad 0)), none] [.int r] M2 Q)) : Fw l D ad kA mX11_damp 0 [some (.ref (ad 0)), none] [] M Q := by
  refine r_aload_n dX11_damp_0 rfl ?_
  refine r_getR dX11_damp_1 fs_0_7 fk_X11_71 ?_
  exact r_callV (x := 32) (As := []) (rest := []) dX11_damp_4 mk_X11_241 mv_X8_cutDown rm_X11_damp_X8_cutDown rfl rfl (by decide +kernel) (Nat.le_of_ble_eq_true rfl) (cal_i (lo' := [some (.ref (ad 0)), none]) ⟨rfl, trivial⟩ K1)
theorem t_X11_damp_7 {s1 : Int32} 
    (K1 : Cal l D ad kA mX3_forget [.ref (ad 17)] M (fun oc M2 => oc = .returned none ∧ Fw l D ad kA mX11_damp 15 [some (.ref (ad 0)), some (.int s1)] [] M2 Q)) : Fw l D ad kA mX11_damp 7 [some (.ref (ad 0)), none] [.int s1] M Q := by
  refine q_istore_n (lo' := [some (.ref (ad 0)), some (.int s1)]) dX11_damp_7 (by decide) rfl ?_
  refine r_aload_n dX11_damp_8 rfl ?_
  refine r_getR dX11_damp_9 fs_0_4 fk_X11_44 ?_
  exact r_callV (x := 17) (As := []) (rest := []) dX11_damp_12 mk_X11_117 mv_X3_forget rm_X11_damp_X3_forget rfl rfl (by decide +kernel) (Nat.le_of_ble_eq_true rfl) (cal_v (lo' := [some (.ref (ad 0)), some (.int s1)]) ⟨rfl, rfl, trivial⟩ K1)
theorem t_X11_damp_15 {x1 : Int32} 
    (K1 : Cal l D ad kA mX7_weighAnew [.ref (ad 22)] M (fun oc M2 => oc = .returned none ∧ Fw l D ad kA mX11_damp 22 [none, some (.int x1)] [] M2 Q)) : Fw l D ad kA mX11_damp 15 [some (.ref (ad 0)), some (.int x1)] [] M Q := by
  refine r_aload_n dX11_damp_15 rfl ?_
  refine r_getR dX11_damp_16 fs_0_5 fk_X11_53 ?_
  exact r_callV (x := 22) (As := []) (rest := []) dX11_damp_19 mk_X11_132 mv_X7_weighAnew rm_X11_damp_X7_weighAnew rfl rfl (by decide +kernel) (Nat.le_of_ble_eq_true rfl) (cal_v (lo' := [none, some (.int x1)]) ⟨rfl, trivial⟩ K1)
theorem t_X11_damp_22 {x1 : Int32} 
    (K1 : Q (.returned (some (.int x1))) M) : Fw l D ad kA mX11_damp 22 [none, some (.int x1)] [] M Q := by
  refine r_iload_n dX11_damp_22 rfl ?_
  exact r_iret dX11_damp_23 rfl K1
theorem en_X11_damp  (K : Fw l D ad kA mX11_damp 0 [some (.ref (ad 0)), none] [] M Q) : Cal l D ad kA mX11_damp [.ref (ad 0)] M Q := Cal.of (by decide) rfl rfl (Nat.le_of_ble_eq_true rfl) K
theorem t_X11_heard_0  
    (K1 : Cal l D ad kA mX0_readAll [.ref (ad 3), .int 1] M (fun oc M2 => ∃ r : Int32, oc = .returned (some (.int r)) ∧ Fw l D ad kA mX11_heard 8 [some (.ref (ad 0)), none] [.int r] M2 Q)) : Fw l D ad kA mX11_heard 0 [some (.ref (ad 0)), none] [] M Q := by
  refine r_aload_n dX11_heard_0 rfl ?_
  refine r_getR dX11_heard_1 fs_0_1 fk_X11_21 ?_
  refine r_iconst (v := 1) dX11_heard_4 kI_1 ?_
  exact r_callV (x := 3) (As := [.int 1]) (rest := []) dX11_heard_5 mk_X11_104 mv_X0_readAll rm_X11_heard_X0_readAll rfl rfl (by decide +kernel) (Nat.le_of_ble_eq_true rfl) (cal_i (lo' := [some (.ref (ad 0)), none]) ⟨rfl, trivial⟩ K1)
theorem t_X11_heard_8 {s1 : Int32} 
    (K1 : (s1 = 0) → Q (.returned (some (.int (-1)))) (sI M 1 0 0))
    (K2 : (¬ (s1 = 0)) → Cal l D ad kA mX5_lay [.ref (ad 35), .ref (ad 4)] (sI M 1 0 0) (fun oc M2 => ∃ r : Int32, oc = .returned (some (.int r)) ∧ Fw l D ad kA mX11_heard 35 [none, none] [.int r] M2 Q)) : Fw l D ad kA mX11_heard 8 [some (.ref (ad 0)), none] [.int s1] M Q := by
  refine q_istore_n (lo' := [some (.ref (ad 0)), some (.int s1)]) dX11_heard_8 (by decide) rfl ?_
  refine r_aload_n dX11_heard_9 rfl ?_
  refine r_getR dX11_heard_10 fs_0_0 fk_X11_10 ?_
  refine r_iconst (v := 0) dX11_heard_13 kI_0 ?_
  refine r_putI dX11_heard_14 fs_1_0 fk_X11_97 fp_X10_0 ?_
  refine r_iload_n dX11_heard_17 rfl ?_
  refine r_if_eq (tgt := 38) dX11_heard_18 (by decide) (fun c1 => ?_) (fun c1 => ?_)
  · skip
    refine r_iconst (v := (-1)) dX11_heard_38 kI_m1 ?_
    exact r_iret dX11_heard_39 rfl (K1 c1)
  · skip
    refine r_aload_n dX11_heard_21 rfl ?_
    refine r_getR dX11_heard_22 fs_0_8 fk_X11_78 ?_
    refine r_aload_n dX11_heard_25 rfl ?_
    refine r_getR dX11_heard_26 fs_0_1 fk_X11_21 ?_
    refine r_getR dX11_heard_29 fs_3_1 fk_X11_108 ?_
    exact r_callV (x := 35) (As := [.ref (ad 4)]) (rest := []) dX11_heard_32 mk_X11_244 mv_X5_lay rm_X11_heard_X5_lay rfl rfl (by decide +kernel) (Nat.le_of_ble_eq_true rfl) (cal_i (lo' := [none, none]) trivial (K2 c1))
theorem t_X11_heard_35 {s1 : Int32} 
    (K1 : Q (.returned (some (.int s1))) M) : Fw l D ad kA mX11_heard 35 [none, none] [.int s1] M Q := by
  refine r_goto (tgt := 39) dX11_heard_35 (by decide) ?_
  exact r_iret dX11_heard_39 rfl K1
theorem en_X11_heard  (K : Fw l D ad kA mX11_heard 0 [some (.ref (ad 0)), none] [] M Q) : Cal l D ad kA mX11_heard [.ref (ad 0)] M Q := Cal.of (by decide) rfl rfl (Nat.le_of_ble_eq_true rfl) K
def v_X11_laid (M : Mem) (x1 : Int32) (x2 : Int32) : Int32 := if (gI M 35 4) = 0 then (-9) else if (v_X9_hasNumber M x1) = 0 then (-9) else if x2 = 0 then if (gI M 37 x1.toNatClampNeg) = (-1) then 0 else 1 else if x2 = 1 then gI M 36 x1.toNatClampNeg else if x2 = 2 then gI M 37 x1.toNatClampNeg else (-9)
def g_X11_laid (M : Mem) (x1 : Int32) (x2 : Int32) : Prop := ((¬ ((gI M 35 4) = 0)) → (¬ ((v_X9_hasNumber M x1) = 0)) → (x2 = 0) → vp_in x1 160) ∧ ((¬ ((gI M 35 4) = 0)) → (¬ ((v_X9_hasNumber M x1) = 0)) → (¬ (x2 = 0)) → (x2 = 1) → vp_in x1 160) ∧ ((¬ ((gI M 35 4) = 0)) → (¬ ((v_X9_hasNumber M x1) = 0)) → (¬ (x2 = 0)) → (¬ (x2 = 1)) → (x2 = 2) → vp_in x1 160)
theorem ct_X11_laid {x1 : Int32} {x2 : Int32}  (g : g_X11_laid M x1 x2) (h : Q (.returned (some (.int (v_X11_laid M x1 x2)))) M) : Cal l D ad kA mX11_laid [.ref (ad 0), .int x1, .int x2] M Q := by
  refine Cal.of (lo := [some (.ref (ad 0)), some (.int x1), some (.int x2)]) (by decide) rfl rfl (Nat.le_of_ble_eq_true rfl) ?_
  obtain ⟨g1, g2, g3⟩ := g
  refine r_aload_n dX11_laid_0 rfl ?_
  refine r_getR dX11_laid_1 fs_0_8 fk_X11_78 ?_
  refine r_getI dX11_laid_4 fs_35_4 fk_X11_248 ?_
  refine r_if_eq (tgt := 21) dX11_laid_7 (by decide) (fun c1 => ?_) (fun c1 => ?_)
  · skip
    refine r_bipush (v := (-9)) dX11_laid_21 kB_m9 ?_
    exact r_iret dX11_laid_23 rfl (by have h9 := h; simp only [v_X11_laid, if_pos c1] at h9; first | exact h9 | (simp only [if_pos c1]; exact h9))
  · skip
    refine r_aload_n dX11_laid_10 rfl ?_
    refine r_getR dX11_laid_11 fs_0_2 fk_X11_28 ?_
    refine r_iload_n dX11_laid_14 rfl ?_
    refine r_callV (x := 9) (As := [.int x1]) (rest := []) dX11_laid_15 mk_X11_145 mv_X9_hasNumber rm_X11_laid_X9_hasNumber rfl rfl (by decide +kernel) (Nat.le_of_ble_eq_true rfl) (ct_X9_hasNumber (⟨_, rfl, ?_⟩))
    refine r_if_ne (tgt := 24) dX11_laid_18 (by decide) (fun c2 => ?_) (fun c2 => ?_)
    · skip
      refine r_iload_n dX11_laid_24 rfl ?_
      by_cases c3 : x2 = 0
      · refine r_tableIn (off := 27) (tgt := 52) dX11_laid_25 (by rw [c3]; decide) (by rw [c3]; decide) (by rw [c3]; decide) (by decide) ?_
        refine r_aload_n dX11_laid_52 rfl ?_
        refine r_getR dX11_laid_53 fs_0_8 fk_X11_78 ?_
        refine r_getR dX11_laid_56 fs_35_2 fk_X11_250 ?_
        refine r_iload_n dX11_laid_59 rfl ?_
        refine r_iald dX11_laid_60 as_37 (g1 c1 c2 c3) ?_
        refine r_iconst (v := (-1)) dX11_laid_61 kI_m1 ?_
        suffices hJ1 : Fw l D ad kA mX11_laid 70 [none, none, none] [.int (if (gI M 37 x1.toNatClampNeg) = (-1) then 0 else 1)] M Q by
          refine r_icmp_ne (tgt := 69) dX11_laid_62 (by decide) (fun c4 => ?_) (fun c4 => ?_)
          · skip
            refine r_iconst (v := 1) dX11_laid_69 kI_1 ?_
            exact q_weak (lo' := [none, none, none]) trivial (by have h9 := hJ1; simp only [if_neg c4] at h9; first | exact h9 | (simp only [if_neg c4]; exact h9))
          · skip
            refine r_iconst (v := 0) dX11_laid_65 kI_0 ?_
            refine r_goto (tgt := 70) dX11_laid_66 (by decide) ?_
            exact q_weak (lo' := [none, none, none]) trivial (by have h9 := hJ1; simp only [if_pos c4] at h9; first | exact h9 | (simp only [if_pos c4]; exact h9))
        exact r_iret dX11_laid_70 rfl (by have h9 := h; simp only [v_X11_laid, if_neg c1, if_neg c2, if_pos c3] at h9; first | exact h9 | (simp only [if_neg c1, if_neg c2, if_pos c3]; exact h9))
      by_cases c5 : x2 = 1
      · refine r_tableIn (off := 46) (tgt := 71) dX11_laid_25 (by rw [c5]; decide) (by rw [c5]; decide) (by rw [c5]; decide) (by decide) ?_
        refine r_aload_n dX11_laid_71 rfl ?_
        refine r_getR dX11_laid_72 fs_0_8 fk_X11_78 ?_
        refine r_getR dX11_laid_75 fs_35_1 fk_X11_253 ?_
        refine r_iload_n dX11_laid_78 rfl ?_
        refine r_iald dX11_laid_79 as_36 (g2 c1 c2 c3 c5) ?_
        exact r_iret dX11_laid_80 rfl (by have h9 := h; simp only [v_X11_laid, if_neg c1, if_neg c2, if_neg c3, if_pos c5] at h9; first | exact h9 | (simp only [if_neg c1, if_neg c2, if_neg c3, if_pos c5]; exact h9))
      by_cases c6 : x2 = 2
      · refine r_tableIn (off := 56) (tgt := 81) dX11_laid_25 (by rw [c6]; decide) (by rw [c6]; decide) (by rw [c6]; decide) (by decide) ?_
        refine r_aload_n dX11_laid_81 rfl ?_
        refine r_getR dX11_laid_82 fs_0_8 fk_X11_78 ?_
        refine r_getR dX11_laid_85 fs_35_2 fk_X11_250 ?_
        refine r_iload_n dX11_laid_88 rfl ?_
        refine r_iald dX11_laid_89 as_37 (g3 c1 c2 c3 c5 c6) ?_
        exact r_iret dX11_laid_90 rfl (by have h9 := h; simp only [v_X11_laid, if_neg c1, if_neg c2, if_neg c3, if_neg c5, if_pos c6] at h9; first | exact h9 | (simp only [if_neg c1, if_neg c2, if_neg c3, if_neg c5, if_pos c6]; exact h9))
      refine r_tableOut (tgt := 91) dX11_laid_25 (sw_out 3 (fun q hq => (by match q, hq with
      | 0, _ => exact c3
      | 1, _ => exact c5
      | 2, _ => exact c6))) (by decide) ?_
      refine r_bipush (v := (-9)) dX11_laid_91 kB_m9 ?_
      exact r_iret dX11_laid_93 rfl (by have h9 := h; simp only [v_X11_laid, if_neg c1, if_neg c2, if_neg c3, if_neg c5, if_neg c6] at h9; first | exact h9 | (simp only [if_neg c1, if_neg c2, if_neg c3, if_neg c5, if_neg c6]; exact h9))
    · skip
      refine r_bipush (v := (-9)) dX11_laid_21 kB_m9 ?_
      exact r_iret dX11_laid_23 rfl (by have h9 := h; simp only [v_X11_laid, if_neg c1, if_pos c2] at h9; first | exact h9 | (simp only [if_neg c1, if_pos c2]; exact h9))
def v_X11_more (M : Mem)  : Int32 := if (gI M 35 4) = 0 then (-1) else gI M 35 3
theorem ct_X11_more   (h : Q (.returned (some (.int (v_X11_more M )))) M) : Cal l D ad kA mX11_more [.ref (ad 0)] M Q := by
  refine Cal.of (lo := [some (.ref (ad 0))]) (by decide) rfl rfl (Nat.le_of_ble_eq_true rfl) ?_
  refine r_aload_n dX11_more_0 rfl ?_
  refine r_getR dX11_more_1 fs_0_8 fk_X11_78 ?_
  refine r_getI dX11_more_4 fs_35_4 fk_X11_248 ?_
  suffices hJ1 : Fw l D ad kA mX11_more 21 [none] [.int (if (gI M 35 4) = 0 then (-1) else gI M 35 3)] M Q by
    refine r_if_eq (tgt := 20) dX11_more_7 (by decide) (fun c1 => ?_) (fun c1 => ?_)
    · skip
      refine r_iconst (v := (-1)) dX11_more_20 kI_m1 ?_
      exact q_weak (lo' := [none]) trivial (by have h9 := hJ1; simp only [if_pos c1] at h9; first | exact h9 | (simp only [if_pos c1]; exact h9))
    · skip
      refine r_aload_n dX11_more_10 rfl ?_
      refine r_getR dX11_more_11 fs_0_8 fk_X11_78 ?_
      refine r_getI dX11_more_14 fs_35_3 fk_X11_256 ?_
      refine r_goto (tgt := 21) dX11_more_17 (by decide) ?_
      exact q_weak (lo' := [none]) trivial (by have h9 := hJ1; simp only [if_neg c1] at h9; first | exact h9 | (simp only [if_neg c1]; exact h9))
  exact r_iret dX11_more_21 rfl h
theorem t_X11_blame_0 {x1 : Int32} 
    (K1 : (¬ ((v_X11_isRinger M x1) = 0)) → ((gI M 22 4) = 0) → Q (.returned (some (.int (-4)))) M)
    (K2 : (¬ ((v_X11_isRinger M x1) = 0)) → (¬ ((gI M 22 4) = 0)) → (¬ ((gI M 35 4) = 0)) → Cal l D ad kA mX7_bellsOf [.ref (ad 22), .int x1] M (fun oc M2 => ∃ r : Int64, oc = .returned (some (.long r)) ∧ Fw l D ad kA mX11_blame 46 [none, none] [.long r, .ref (ad 35)] M2 Q))
    (K3 : (¬ ((v_X11_isRinger M x1) = 0)) → (¬ ((gI M 22 4) = 0)) → ((gI M 35 4) = 0) → Q (.returned (some (.int (-4)))) M)
    (K4 : ((v_X11_isRinger M x1) = 0) → Q (.returned (some (.int (-2)))) M) : Fw l D ad kA mX11_blame 0 [some (.ref (ad 0)), some (.int x1)] [] M Q := by
  refine r_aload_n dX11_blame_0 rfl ?_
  refine r_iload_n dX11_blame_1 rfl ?_
  refine r_callV (x := 0) (As := [.int x1]) (rest := []) dX11_blame_2 mk_X11_167 mv_X11_isRinger rm_X11_blame_X11_isRinger rfl rfl (by decide +kernel) (Nat.le_of_ble_eq_true rfl) (ct_X11_isRinger (⟨_, rfl, ?_⟩))
  refine r_if_ne (tgt := 11) dX11_blame_5 (by decide) (fun c1 => ?_) (fun c1 => ?_)
  · skip
    refine r_aload_n dX11_blame_11 rfl ?_
    refine r_getR dX11_blame_12 fs_0_5 fk_X11_53 ?_
    refine r_getI dX11_blame_15 fs_22_4 fk_X11_199 ?_
    refine r_if_eq (tgt := 31) dX11_blame_18 (by decide) (fun c2 => ?_) (fun c2 => ?_)
    · skip
      refine r_bipush (v := (-4)) dX11_blame_31 kB_m4 ?_
      exact r_iret dX11_blame_33 rfl (K1 c1 c2)
    · skip
      refine r_aload_n dX11_blame_21 rfl ?_
      refine r_getR dX11_blame_22 fs_0_8 fk_X11_78 ?_
      refine r_getI dX11_blame_25 fs_35_4 fk_X11_248 ?_
      refine r_if_ne (tgt := 34) dX11_blame_28 (by decide) (fun c3 => ?_) (fun c3 => ?_)
      · skip
        refine r_aload_n dX11_blame_34 rfl ?_
        refine r_getR dX11_blame_35 fs_0_8 fk_X11_78 ?_
        refine r_aload_n dX11_blame_38 rfl ?_
        refine r_getR dX11_blame_39 fs_0_5 fk_X11_53 ?_
        refine r_iload_n dX11_blame_42 rfl ?_
        exact r_callV (x := 22) (As := [.int x1]) (rest := [.ref (ad 35)]) dX11_blame_43 mk_X11_205 mv_X7_bellsOf rm_X11_blame_X7_bellsOf rfl rfl (by decide +kernel) (Nat.le_of_ble_eq_true rfl) (cal_l (lo' := [none, none]) trivial (K2 c1 c2 c3))
      · skip
        refine r_bipush (v := (-4)) dX11_blame_31 kB_m4 ?_
        exact r_iret dX11_blame_33 rfl (K3 c1 c2 c3)
  · skip
    refine r_bipush (v := (-2)) dX11_blame_8 kB_m2 ?_
    exact r_iret dX11_blame_10 rfl (K4 c1)
theorem t_X11_blame_46 {t2 : Int64} 
    (K1 : Cal l D ad kA mX5_pointsOn [.ref (ad 35), .long t2] M (fun oc M2 => ∃ r : Int32, oc = .returned (some (.int r)) ∧ Fw l D ad kA mX11_blame 49 [none, none] [.int r] M2 Q)) : Fw l D ad kA mX11_blame 46 [none, none] [.long t2, .ref (ad 35)] M Q := by
  exact r_callV (x := 35) (As := [.long t2]) (rest := []) dX11_blame_46 mk_X11_259 mv_X5_pointsOn rm_X11_blame_X5_pointsOn rfl rfl (by decide +kernel) (Nat.le_of_ble_eq_true rfl) (cal_i (lo' := [none, none]) trivial K1)
theorem t_X11_blame_49 {s1 : Int32} 
    (K1 : Q (.returned (some (.int s1))) M) : Fw l D ad kA mX11_blame 49 [none, none] [.int s1] M Q := by
  exact r_iret dX11_blame_49 rfl K1
theorem en_X11_blame {x1 : Int32} (K : Fw l D ad kA mX11_blame 0 [some (.ref (ad 0)), some (.int x1)] [] M Q) : Cal l D ad kA mX11_blame [.ref (ad 0), .int x1] M Q := Cal.of (by decide) rfl rfl (Nat.le_of_ble_eq_true rfl) K
theorem t_X11_pass_0 {x1 : Int32} 
    (K1 : (x1 < 1) → Q (.returned (some (.int (-2)))) M)
    (K2 : (¬ (x1 < 1)) → (500 < x1) → Q (.returned (some (.int (-2)))) M)
    (K3 : (¬ (x1 < 1)) → (¬ (500 < x1)) → (¬ ((v_X11_isDay ((gI M 44 1) + x1)) = 0)) → Q (.returned (some (.int ((gI M 44 1) + x1)))) (sI M 44 1 ((gI M 44 1) + x1)))
    (K4 : (¬ (x1 < 1)) → (¬ (500 < x1)) → ((v_X11_isDay ((gI M 44 1) + x1)) = 0) → Q (.returned (some (.int (-2)))) M) : Fw l D ad kA mX11_pass 0 [some (.ref (ad 0)), some (.int x1)] [] M Q := by
  refine r_iload_n dX11_pass_0 rfl ?_
  refine r_iconst (v := 1) dX11_pass_1 kI_1 ?_
  refine r_icmp_lt (tgt := 27) dX11_pass_2 (by decide) (fun c1 => ?_) (fun c1 => ?_)
  · skip
    refine r_bipush (v := (-2)) dX11_pass_27 kB_m2 ?_
    exact r_iret dX11_pass_29 rfl (K1 c1)
  · skip
    refine r_iload_n dX11_pass_5 rfl ?_
    refine r_sipush (v := 500) dX11_pass_6 kS_500 ?_
    refine r_icmp_gt (tgt := 27) dX11_pass_9 (by decide) (fun c2 => ?_) (fun c2 => ?_)
    · skip
      refine r_bipush (v := (-2)) dX11_pass_27 kB_m2 ?_
      exact r_iret dX11_pass_29 rfl (K2 c1 c2)
    · skip
      refine r_aload_n dX11_pass_12 rfl ?_
      refine r_getR dX11_pass_13 fs_0_9 fk_X11_85 ?_
      refine r_getI dX11_pass_16 fs_44_1 fk_X11_262 ?_
      refine r_iload_n dX11_pass_19 rfl ?_
      refine r_iadd dX11_pass_20 ?_
      refine r_callS (As := [.int ((gI M 44 1) + x1)]) (rest := []) dX11_pass_21 mk_X11_265 ms_X11_isDay rm_X11_pass_X11_isDay rfl rfl (Nat.le_of_ble_eq_true rfl) (ct_X11_isDay (⟨_, rfl, ?_⟩))
      refine r_if_ne (tgt := 30) dX11_pass_24 (by decide) (fun c3 => ?_) (fun c3 => ?_)
      · skip
        refine r_aload_n dX11_pass_30 rfl ?_
        refine r_getR dX11_pass_31 fs_0_9 fk_X11_85 ?_
        refine r_dup dX11_pass_34 rfl ?_
        refine r_getI dX11_pass_35 fs_44_1 fk_X11_262 ?_
        refine r_iload_n dX11_pass_38 rfl ?_
        refine r_iadd dX11_pass_39 ?_
        refine r_putI dX11_pass_40 fs_44_1 fk_X11_262 fp_X2_1 ?_
        refine r_aload_n dX11_pass_43 rfl ?_
        refine r_getR dX11_pass_44 fs_0_9 fk_X11_85 ?_
        refine q_getI (v := (gI M 44 1) + x1) dX11_pass_47 fs_44_1 fk_X11_262 rfl ?_
        exact r_iret dX11_pass_50 rfl (K3 c1 c2 c3)
      · skip
        refine r_bipush (v := (-2)) dX11_pass_27 kB_m2 ?_
        exact r_iret dX11_pass_29 rfl (K4 c1 c2 c3)
theorem en_X11_pass {x1 : Int32} (K : Fw l D ad kA mX11_pass 0 [some (.ref (ad 0)), some (.int x1)] [] M Q) : Cal l D ad kA mX11_pass [.ref (ad 0), .int x1] M Q := Cal.of (by decide) rfl rfl (Nat.le_of_ble_eq_true rfl) K
theorem t_X11_away_0 {x1 : Int32} {x2 : Int32} {x3 : Int32} 
    (K1 : ((v_X11_isBell x1) = 0) → Q (.returned (some (.int (-2)))) M)
    (K2 : (¬ ((v_X11_isBell x1) = 0)) → ((v_X11_isDay x2) = 0) → Q (.returned (some (.int (-2)))) M)
    (K3 : (¬ ((v_X11_isBell x1) = 0)) → (¬ ((v_X11_isDay x2) = 0)) → ((v_X11_isDay x3) = 0) → Q (.returned (some (.int (-2)))) M)
    (K4 : (¬ ((v_X11_isBell x1) = 0)) → (¬ ((v_X11_isDay x2) = 0)) → (¬ ((v_X11_isDay x3) = 0)) → (x2 ≤ x3) → ((gI M 44 2) < 60) → Cal l D ad kA mX2_add [.ref (ad 44), .int x1, .int x2, .int x3] M (fun oc M2 => ∃ r : Int32, oc = .returned (some (.int r)) ∧ Fw l D ad kA mX11_away 56 [none, none, none, none] [.int r] M2 Q))
    (K5 : (¬ ((v_X11_isBell x1) = 0)) → (¬ ((v_X11_isDay x2) = 0)) → (¬ ((v_X11_isDay x3) = 0)) → (x2 ≤ x3) → (¬ ((gI M 44 2) < 60)) → Q (.returned (some (.int (-3)))) M)
    (K6 : (¬ ((v_X11_isBell x1) = 0)) → (¬ ((v_X11_isDay x2) = 0)) → (¬ ((v_X11_isDay x3) = 0)) → (¬ (x2 ≤ x3)) → Q (.returned (some (.int (-2)))) M) : Fw l D ad kA mX11_away 0 [some (.ref (ad 0)), some (.int x1), some (.int x2), some (.int x3)] [] M Q := by
  refine r_iload_n dX11_away_0 rfl ?_
  refine r_callS (As := [.int x1]) (rest := []) dX11_away_1 mk_X11_268 ms_X11_isBell rm_X11_away_X11_isBell rfl rfl (Nat.le_of_ble_eq_true rfl) (ct_X11_isBell (⟨_, rfl, ?_⟩))
  refine r_if_eq (tgt := 26) dX11_away_4 (by decide) (fun c1 => ?_) (fun c1 => ?_)
  · skip
    refine r_bipush (v := (-2)) dX11_away_26 kB_m2 ?_
    exact r_iret dX11_away_28 rfl (K1 c1)
  · skip
    refine r_iload_n dX11_away_7 rfl ?_
    refine r_callS (As := [.int x2]) (rest := []) dX11_away_8 mk_X11_265 ms_X11_isDay rm_X11_away_X11_isDay rfl rfl (Nat.le_of_ble_eq_true rfl) (ct_X11_isDay (⟨_, rfl, ?_⟩))
    refine r_if_eq (tgt := 26) dX11_away_11 (by decide) (fun c2 => ?_) (fun c2 => ?_)
    · skip
      refine r_bipush (v := (-2)) dX11_away_26 kB_m2 ?_
      exact r_iret dX11_away_28 rfl (K2 c1 c2)
    · skip
      refine r_iload_n dX11_away_14 rfl ?_
      refine r_callS (As := [.int x3]) (rest := []) dX11_away_15 mk_X11_265 ms_X11_isDay rm_X11_away_X11_isDay rfl rfl (Nat.le_of_ble_eq_true rfl) (ct_X11_isDay (⟨_, rfl, ?_⟩))
      refine r_if_eq (tgt := 26) dX11_away_18 (by decide) (fun c3 => ?_) (fun c3 => ?_)
      · skip
        refine r_bipush (v := (-2)) dX11_away_26 kB_m2 ?_
        exact r_iret dX11_away_28 rfl (K3 c1 c2 c3)
      · skip
        refine r_iload_n dX11_away_21 rfl ?_
        refine r_iload_n dX11_away_22 rfl ?_
        refine r_icmp_ge (tgt := 29) dX11_away_23 (by decide) (fun c4 => ?_) (fun c4 => ?_)
        · skip
          refine r_aload_n dX11_away_29 rfl ?_
          refine r_getR dX11_away_30 fs_0_9 fk_X11_85 ?_
          refine r_getI dX11_away_33 fs_44_2 fk_X11_271 ?_
          refine r_bipush (v := 60) dX11_away_36 kB_60 ?_
          refine r_icmp_lt (tgt := 46) dX11_away_38 (by decide) (fun c5 => ?_) (fun c5 => ?_)
          · skip
            refine r_aload_n dX11_away_46 rfl ?_
            refine r_getR dX11_away_47 fs_0_9 fk_X11_85 ?_
            refine r_iload_n dX11_away_50 rfl ?_
            refine r_iload_n dX11_away_51 rfl ?_
            refine r_iload_n dX11_away_52 rfl ?_
            exact r_callV (x := 44) (As := [.int x1, .int x2, .int x3]) (rest := []) dX11_away_53 mk_X11_272 mv_X2_add rm_X11_away_X2_add rfl rfl (by decide +kernel) (Nat.le_of_ble_eq_true rfl) (cal_i (lo' := [none, none, none, none]) trivial (K4 c1 c2 c3 c4 c5))
          · skip
            refine r_bipush (v := (-3)) dX11_away_41 kB_m3 ?_
            refine r_goto (tgt := 56) dX11_away_43 (by decide) ?_
            exact r_iret dX11_away_56 rfl (K5 c1 c2 c3 c4 c5)
        · skip
          refine r_bipush (v := (-2)) dX11_away_26 kB_m2 ?_
          exact r_iret dX11_away_28 rfl (K6 c1 c2 c3 c4)
theorem t_X11_away_56 {s1 : Int32} 
    (K1 : Q (.returned (some (.int s1))) M) : Fw l D ad kA mX11_away 56 [none, none, none, none] [.int s1] M Q := by
  exact r_iret dX11_away_56 rfl K1
theorem en_X11_away {x1 : Int32} {x2 : Int32} {x3 : Int32} (K : Fw l D ad kA mX11_away 0 [some (.ref (ad 0)), some (.int x1), some (.int x2), some (.int x3)] [] M Q) : Cal l D ad kA mX11_away [.ref (ad 0), .int x1, .int x2, .int x3] M Q := Cal.of (by decide) rfl rfl (Nat.le_of_ble_eq_true rfl) K
theorem t_X11_back_0 {x1 : Int32} {x2 : Int32} 
    (K1 : (x1 < 0) → Q (.returned (some (.int (-2)))) M)
    (K2 : (¬ (x1 < 0)) → ((gI M 44 2) ≤ x1) → Q (.returned (some (.int (-2)))) M)
    (K3 : (¬ (x1 < 0)) → (¬ ((gI M 44 2) ≤ x1)) → (¬ ((v_X11_isDay x2) = 0)) → Cal l D ad kA mX2_addBack [.ref (ad 44), .int x1, .int x2] M (fun oc M2 => ∃ r : Int32, oc = .returned (some (.int r)) ∧ Fw l D ad kA mX11_back 34 [none, none, none] [.int r] M2 Q))
    (K4 : (¬ (x1 < 0)) → (¬ ((gI M 44 2) ≤ x1)) → ((v_X11_isDay x2) = 0) → Q (.returned (some (.int (-2)))) M) : Fw l D ad kA mX11_back 0 [some (.ref (ad 0)), some (.int x1), some (.int x2)] [] M Q := by
  refine r_iload_n dX11_back_0 rfl ?_
  refine r_if_lt (tgt := 22) dX11_back_1 (by decide) (fun c1 => ?_) (fun c1 => ?_)
  · skip
    refine r_bipush (v := (-2)) dX11_back_22 kB_m2 ?_
    exact r_iret dX11_back_24 rfl (K1 c1)
  · skip
    refine r_iload_n dX11_back_4 rfl ?_
    refine r_aload_n dX11_back_5 rfl ?_
    refine r_getR dX11_back_6 fs_0_9 fk_X11_85 ?_
    refine r_getI dX11_back_9 fs_44_2 fk_X11_271 ?_
    refine r_icmp_ge (tgt := 22) dX11_back_12 (by decide) (fun c2 => ?_) (fun c2 => ?_)
    · skip
      refine r_bipush (v := (-2)) dX11_back_22 kB_m2 ?_
      exact r_iret dX11_back_24 rfl (K2 c1 c2)
    · skip
      refine r_iload_n dX11_back_15 rfl ?_
      refine r_callS (As := [.int x2]) (rest := []) dX11_back_16 mk_X11_265 ms_X11_isDay rm_X11_back_X11_isDay rfl rfl (Nat.le_of_ble_eq_true rfl) (ct_X11_isDay (⟨_, rfl, ?_⟩))
      refine r_if_ne (tgt := 25) dX11_back_19 (by decide) (fun c3 => ?_) (fun c3 => ?_)
      · skip
        refine r_aload_n dX11_back_25 rfl ?_
        refine r_getR dX11_back_26 fs_0_9 fk_X11_85 ?_
        refine r_iload_n dX11_back_29 rfl ?_
        refine r_iload_n dX11_back_30 rfl ?_
        exact r_callV (x := 44) (As := [.int x1, .int x2]) (rest := []) dX11_back_31 mk_X11_275 mv_X2_addBack rm_X11_back_X2_addBack rfl rfl (by decide +kernel) (Nat.le_of_ble_eq_true rfl) (cal_i (lo' := [none, none, none]) trivial (K3 c1 c2 c3))
      · skip
        refine r_bipush (v := (-2)) dX11_back_22 kB_m2 ?_
        exact r_iret dX11_back_24 rfl (K4 c1 c2 c3)
theorem t_X11_back_34 {s1 : Int32} 
    (K1 : Q (.returned (some (.int (if s1 = 0 then (-4) else 1)))) M) : Fw l D ad kA mX11_back 34 [none, none, none] [.int s1] M Q := by
  suffices hJ1 : Fw l D ad kA mX11_back 43 [none, none, none] [.int (if s1 = 0 then (-4) else 1)] M Q by
    refine r_if_eq (tgt := 41) dX11_back_34 (by decide) (fun c1 => ?_) (fun c1 => ?_)
    · skip
      refine r_bipush (v := (-4)) dX11_back_41 kB_m4 ?_
      exact q_weak (lo' := [none, none, none]) trivial (by have h9 := hJ1; simp only [if_pos c1] at h9; first | exact h9 | (simp only [if_pos c1]; exact h9))
    · skip
      refine r_iconst (v := 1) dX11_back_37 kI_1 ?_
      refine r_goto (tgt := 43) dX11_back_38 (by decide) ?_
      exact q_weak (lo' := [none, none, none]) trivial (by have h9 := hJ1; simp only [if_neg c1] at h9; first | exact h9 | (simp only [if_neg c1]; exact h9))
  exact r_iret dX11_back_43 rfl K1
theorem en_X11_back {x1 : Int32} {x2 : Int32} (K : Fw l D ad kA mX11_back 0 [some (.ref (ad 0)), some (.int x1), some (.int x2)] [] M Q) : Cal l D ad kA mX11_back [.ref (ad 0), .int x1, .int x2] M Q := Cal.of (by decide) rfl rfl (Nat.le_of_ble_eq_true rfl) K
theorem t_X11_there_0 {x1 : Int32} {x2 : Int32} {x3 : Int32} 
    (K1 : ((v_X11_isBell x1) = 0) → Q (.returned (some (.int (-2)))) M)
    (K2 : (¬ ((v_X11_isBell x1) = 0)) → ((v_X11_isDay x2) = 0) → Q (.returned (some (.int (-2)))) M)
    (K3 : (¬ ((v_X11_isBell x1) = 0)) → (¬ ((v_X11_isDay x2) = 0)) → (¬ ((v_X11_isDay x3) = 0)) → Cal l D ad kA mX2_lies [.ref (ad 44), .int x1, .int x2, .int x3] M (fun oc M2 => ∃ r : Int32, oc = .returned (some (.int r)) ∧ Fw l D ad kA mX11_there 34 [none, none, none, none] [.int r] M2 Q))
    (K4 : (¬ ((v_X11_isBell x1) = 0)) → (¬ ((v_X11_isDay x2) = 0)) → ((v_X11_isDay x3) = 0) → Q (.returned (some (.int (-2)))) M) : Fw l D ad kA mX11_there 0 [some (.ref (ad 0)), some (.int x1), some (.int x2), some (.int x3)] [] M Q := by
  refine r_iload_n dX11_there_0 rfl ?_
  refine r_callS (As := [.int x1]) (rest := []) dX11_there_1 mk_X11_268 ms_X11_isBell rm_X11_there_X11_isBell rfl rfl (Nat.le_of_ble_eq_true rfl) (ct_X11_isBell (⟨_, rfl, ?_⟩))
  refine r_if_eq (tgt := 21) dX11_there_4 (by decide) (fun c1 => ?_) (fun c1 => ?_)
  · skip
    refine r_bipush (v := (-2)) dX11_there_21 kB_m2 ?_
    exact r_iret dX11_there_23 rfl (K1 c1)
  · skip
    refine r_iload_n dX11_there_7 rfl ?_
    refine r_callS (As := [.int x2]) (rest := []) dX11_there_8 mk_X11_265 ms_X11_isDay rm_X11_there_X11_isDay rfl rfl (Nat.le_of_ble_eq_true rfl) (ct_X11_isDay (⟨_, rfl, ?_⟩))
    refine r_if_eq (tgt := 21) dX11_there_11 (by decide) (fun c2 => ?_) (fun c2 => ?_)
    · skip
      refine r_bipush (v := (-2)) dX11_there_21 kB_m2 ?_
      exact r_iret dX11_there_23 rfl (K2 c1 c2)
    · skip
      refine r_iload_n dX11_there_14 rfl ?_
      refine r_callS (As := [.int x3]) (rest := []) dX11_there_15 mk_X11_265 ms_X11_isDay rm_X11_there_X11_isDay rfl rfl (Nat.le_of_ble_eq_true rfl) (ct_X11_isDay (⟨_, rfl, ?_⟩))
      refine r_if_ne (tgt := 24) dX11_there_18 (by decide) (fun c3 => ?_) (fun c3 => ?_)
      · skip
        refine r_aload_n dX11_there_24 rfl ?_
        refine r_getR dX11_there_25 fs_0_9 fk_X11_85 ?_
        refine r_iload_n dX11_there_28 rfl ?_
        refine r_iload_n dX11_there_29 rfl ?_
        refine r_iload_n dX11_there_30 rfl ?_
        exact r_callV (x := 44) (As := [.int x1, .int x2, .int x3]) (rest := []) dX11_there_31 mk_X11_279 mv_X2_lies rm_X11_there_X2_lies rfl rfl (by decide +kernel) (Nat.le_of_ble_eq_true rfl) (cal_i (lo' := [none, none, none, none]) trivial (K3 c1 c2 c3))
      · skip
        refine r_bipush (v := (-2)) dX11_there_21 kB_m2 ?_
        exact r_iret dX11_there_23 rfl (K4 c1 c2 c3)
theorem t_X11_there_34 {s1 : Int32} 
    (K1 : Q (.returned (some (.int (if s1 = 0 then 0 else 1)))) M) : Fw l D ad kA mX11_there 34 [none, none, none, none] [.int s1] M Q := by
  suffices hJ1 : Fw l D ad kA mX11_there 42 [none, none, none, none] [.int (if s1 = 0 then 0 else 1)] M Q by
    refine r_if_eq (tgt := 41) dX11_there_34 (by decide) (fun c1 => ?_) (fun c1 => ?_)
    · skip
      refine r_iconst (v := 0) dX11_there_41 kI_0 ?_
      exact q_weak (lo' := [none, none, none, none]) trivial (by have h9 := hJ1; simp only [if_pos c1] at h9; first | exact h9 | (simp only [if_pos c1]; exact h9))
    · skip
      refine r_iconst (v := 1) dX11_there_37 kI_1 ?_
      refine r_goto (tgt := 42) dX11_there_38 (by decide) ?_
      exact q_weak (lo' := [none, none, none, none]) trivial (by have h9 := hJ1; simp only [if_neg c1] at h9; first | exact h9 | (simp only [if_neg c1]; exact h9))
  exact r_iret dX11_there_42 rfl K1
theorem en_X11_there {x1 : Int32} {x2 : Int32} {x3 : Int32} (K : Fw l D ad kA mX11_there 0 [some (.ref (ad 0)), some (.int x1), some (.int x2), some (.int x3)] [] M Q) : Cal l D ad kA mX11_there [.ref (ad 0), .int x1, .int x2, .int x3] M Q := Cal.of (by decide) rfl rfl (Nat.le_of_ble_eq_true rfl) K
theorem t_X11_key_0 {x1 : Int32} {x2 : Int32} 
    (K1 : ((v_X11_isDay x1) = 0) → Q (.returned (some (.int (-2)))) M)
    (K2 : (¬ ((v_X11_isDay x1) = 0)) → (¬ ((v_X11_isDay x2) = 0)) → Cal l D ad kA mX2_seekKey [.ref (ad 44), .int x1, .int x2] M (fun oc M2 => ∃ r : Int32, oc = .returned (some (.int r)) ∧ Fw l D ad kA mX11_key 26 [none, none, none] [.int r] M2 Q))
    (K3 : (¬ ((v_X11_isDay x1) = 0)) → ((v_X11_isDay x2) = 0) → Q (.returned (some (.int (-2)))) M) : Fw l D ad kA mX11_key 0 [some (.ref (ad 0)), some (.int x1), some (.int x2)] [] M Q := by
  refine r_iload_n dX11_key_0 rfl ?_
  refine r_callS (As := [.int x1]) (rest := []) dX11_key_1 mk_X11_265 ms_X11_isDay rm_X11_key_X11_isDay rfl rfl (Nat.le_of_ble_eq_true rfl) (ct_X11_isDay (⟨_, rfl, ?_⟩))
  refine r_if_eq (tgt := 14) dX11_key_4 (by decide) (fun c1 => ?_) (fun c1 => ?_)
  · skip
    refine r_bipush (v := (-2)) dX11_key_14 kB_m2 ?_
    exact r_iret dX11_key_16 rfl (K1 c1)
  · skip
    refine r_iload_n dX11_key_7 rfl ?_
    refine r_callS (As := [.int x2]) (rest := []) dX11_key_8 mk_X11_265 ms_X11_isDay rm_X11_key_X11_isDay rfl rfl (Nat.le_of_ble_eq_true rfl) (ct_X11_isDay (⟨_, rfl, ?_⟩))
    refine r_if_ne (tgt := 17) dX11_key_11 (by decide) (fun c2 => ?_) (fun c2 => ?_)
    · skip
      refine r_aload_n dX11_key_17 rfl ?_
      refine r_getR dX11_key_18 fs_0_9 fk_X11_85 ?_
      refine r_iload_n dX11_key_21 rfl ?_
      refine r_iload_n dX11_key_22 rfl ?_
      exact r_callV (x := 44) (As := [.int x1, .int x2]) (rest := []) dX11_key_23 mk_X11_283 mv_X2_seekKey rm_X11_key_X2_seekKey rfl rfl (by decide +kernel) (Nat.le_of_ble_eq_true rfl) (cal_i (lo' := [none, none, none]) trivial (K2 c1 c2))
    · skip
      refine r_bipush (v := (-2)) dX11_key_14 kB_m2 ?_
      exact r_iret dX11_key_16 rfl (K3 c1 c2)
theorem t_X11_key_26 {s1 : Int32} 
    (K1 : Q (.returned (some (.int s1))) M) : Fw l D ad kA mX11_key 26 [none, none, none] [.int s1] M Q := by
  exact r_iret dX11_key_26 rfl K1
theorem en_X11_key {x1 : Int32} {x2 : Int32} (K : Fw l D ad kA mX11_key 0 [some (.ref (ad 0)), some (.int x1), some (.int x2)] [] M Q) : Cal l D ad kA mX11_key [.ref (ad 0), .int x1, .int x2] M Q := Cal.of (by decide) rfl rfl (Nat.le_of_ble_eq_true rfl) K
def v_X11_keyed (M : Mem) (x1 : Int32) : Int32 := if (gI M 44 3) = 0 then (-99) else if x1 = 0 then gI M 44 4 else if x1 = 1 then gI M 44 5 else if x1 = 2 then gI M 44 6 else (-99)
theorem ct_X11_keyed {x1 : Int32}  (h : Q (.returned (some (.int (v_X11_keyed M x1)))) M) : Cal l D ad kA mX11_keyed [.ref (ad 0), .int x1] M Q := by
  refine Cal.of (lo := [some (.ref (ad 0)), some (.int x1)]) (by decide) rfl rfl (Nat.le_of_ble_eq_true rfl) ?_
  refine r_aload_n dX11_keyed_0 rfl ?_
  refine r_getR dX11_keyed_1 fs_0_9 fk_X11_85 ?_
  refine r_getI dX11_keyed_4 fs_44_3 fk_X11_287 ?_
  refine r_if_ne (tgt := 13) dX11_keyed_7 (by decide) (fun c1 => ?_) (fun c1 => ?_)
  · skip
    refine r_iload_n dX11_keyed_13 rfl ?_
    by_cases c2 : x1 = 0
    · refine r_tableIn (off := 26) (tgt := 40) dX11_keyed_14 (by rw [c2]; decide) (by rw [c2]; decide) (by rw [c2]; decide) (by decide) ?_
      refine r_aload_n dX11_keyed_40 rfl ?_
      refine r_getR dX11_keyed_41 fs_0_9 fk_X11_85 ?_
      refine r_getI dX11_keyed_44 fs_44_4 fk_X11_290 ?_
      exact r_iret dX11_keyed_47 rfl (by have h9 := h; simp only [v_X11_keyed, if_neg c1, if_pos c2] at h9; first | exact h9 | (simp only [if_neg c1, if_pos c2]; exact h9))
    by_cases c3 : x1 = 1
    · refine r_tableIn (off := 34) (tgt := 48) dX11_keyed_14 (by rw [c3]; decide) (by rw [c3]; decide) (by rw [c3]; decide) (by decide) ?_
      refine r_aload_n dX11_keyed_48 rfl ?_
      refine r_getR dX11_keyed_49 fs_0_9 fk_X11_85 ?_
      refine r_getI dX11_keyed_52 fs_44_5 fk_X11_293 ?_
      exact r_iret dX11_keyed_55 rfl (by have h9 := h; simp only [v_X11_keyed, if_neg c1, if_neg c2, if_pos c3] at h9; first | exact h9 | (simp only [if_neg c1, if_neg c2, if_pos c3]; exact h9))
    by_cases c4 : x1 = 2
    · refine r_tableIn (off := 42) (tgt := 56) dX11_keyed_14 (by rw [c4]; decide) (by rw [c4]; decide) (by rw [c4]; decide) (by decide) ?_
      refine r_aload_n dX11_keyed_56 rfl ?_
      refine r_getR dX11_keyed_57 fs_0_9 fk_X11_85 ?_
      refine r_getI dX11_keyed_60 fs_44_6 fk_X11_296 ?_
      exact r_iret dX11_keyed_63 rfl (by have h9 := h; simp only [v_X11_keyed, if_neg c1, if_neg c2, if_neg c3, if_pos c4] at h9; first | exact h9 | (simp only [if_neg c1, if_neg c2, if_neg c3, if_pos c4]; exact h9))
    refine r_tableOut (tgt := 64) dX11_keyed_14 (sw_out 3 (fun q hq => (by match q, hq with
      | 0, _ => exact c2
      | 1, _ => exact c3
      | 2, _ => exact c4))) (by decide) ?_
    refine r_bipush (v := (-99)) dX11_keyed_64 kB_m99 ?_
    exact r_iret dX11_keyed_66 rfl (by have h9 := h; simp only [v_X11_keyed, if_neg c1, if_neg c2, if_neg c3, if_neg c4] at h9; first | exact h9 | (simp only [if_neg c1, if_neg c2, if_neg c3, if_neg c4]; exact h9))
  · skip
    refine r_bipush (v := (-99)) dX11_keyed_10 kB_m99 ?_
    exact r_iret dX11_keyed_12 rfl (by have h9 := h; simp only [v_X11_keyed, if_pos c1] at h9; first | exact h9 | (simp only [if_pos c1]; exact h9))
theorem t_X11_count_0 {x1 : Int32} 
    (K1 : (x1 = 0) → Q (.returned (some (.int (gI M 9 4)))) M)
    (K2 : (¬ (x1 = 0)) → (x1 = 1) → Q (.returned (some (.int (gI M 22 5)))) M)
    (K3 : (¬ (x1 = 0)) → (¬ (x1 = 1)) → (x1 = 2) → Q (.returned (some (.int (gI M 0 11)))) M)
    (K4 : (¬ (x1 = 0)) → (¬ (x1 = 1)) → (¬ (x1 = 2)) → (x1 = 3) → Cal l D ad kA mX11_countMissing [.ref (ad 0)] M (fun oc M2 => ∃ r : Int32, oc = .returned (some (.int r)) ∧ Fw l D ad kA mX11_count 77 [none, none] [.int r] M2 Q))
    (K5 : (¬ (x1 = 0)) → (¬ (x1 = 1)) → (¬ (x1 = 2)) → (¬ (x1 = 3)) → (x1 = 4) → Q (.returned (some (.int (if (gI M 22 4) = 0 then 0 else 1)))) M)
    (K6 : (¬ (x1 = 0)) → (¬ (x1 = 1)) → (¬ (x1 = 2)) → (¬ (x1 = 3)) → (¬ (x1 = 4)) → (x1 = 5) → Cal l D ad kA mX11_countWithBell [.ref (ad 0)] M (fun oc M2 => ∃ r : Int32, oc = .returned (some (.int r)) ∧ Fw l D ad kA mX11_count 98 [none, none] [.int r] M2 Q))
    (K7 : (¬ (x1 = 0)) → (¬ (x1 = 1)) → (¬ (x1 = 2)) → (¬ (x1 = 3)) → (¬ (x1 = 4)) → (¬ (x1 = 5)) → (x1 = 6) → Q (.returned (some (.int (gI M 44 1)))) M)
    (K8 : (¬ (x1 = 0)) → (¬ (x1 = 1)) → (¬ (x1 = 2)) → (¬ (x1 = 3)) → (¬ (x1 = 4)) → (¬ (x1 = 5)) → (¬ (x1 = 6)) → (x1 = 7) → Q (.returned (some (.int (gI M 44 2)))) M)
    (K9 : (¬ (x1 = 0)) → (¬ (x1 = 1)) → (¬ (x1 = 2)) → (¬ (x1 = 3)) → (¬ (x1 = 4)) → (¬ (x1 = 5)) → (¬ (x1 = 6)) → (¬ (x1 = 7)) → (x1 = 8) → Q (.returned (some (.int (gI M 1 0)))) M)
    (K10 : (¬ (x1 = 0)) → (¬ (x1 = 1)) → (¬ (x1 = 2)) → (¬ (x1 = 3)) → (¬ (x1 = 4)) → (¬ (x1 = 5)) → (¬ (x1 = 6)) → (¬ (x1 = 7)) → (¬ (x1 = 8)) → Q (.returned (some (.int (-1)))) M) : Fw l D ad kA mX11_count 0 [some (.ref (ad 0)), some (.int x1)] [] M Q := by
  refine r_iload_n dX11_count_0 rfl ?_
  by_cases c1 : x1 = 0
  · refine r_tableIn (off := 51) (tgt := 52) dX11_count_1 (by rw [c1]; decide) (by rw [c1]; decide) (by rw [c1]; decide) (by decide) ?_
    refine r_aload_n dX11_count_52 rfl ?_
    refine r_getR dX11_count_53 fs_0_2 fk_X11_28 ?_
    refine r_getI dX11_count_56 fs_9_4 fk_X11_128 ?_
    exact r_iret dX11_count_59 rfl (K1 c1)
  by_cases c2 : x1 = 1
  · refine r_tableIn (off := 59) (tgt := 60) dX11_count_1 (by rw [c2]; decide) (by rw [c2]; decide) (by rw [c2]; decide) (by decide) ?_
    refine r_aload_n dX11_count_60 rfl ?_
    refine r_getR dX11_count_61 fs_0_5 fk_X11_53 ?_
    refine r_getI dX11_count_64 fs_22_5 fk_X11_299 ?_
    exact r_iret dX11_count_67 rfl (K2 c1 c2)
  by_cases c3 : x1 = 2
  · refine r_tableIn (off := 67) (tgt := 68) dX11_count_1 (by rw [c3]; decide) (by rw [c3]; decide) (by rw [c3]; decide) (by decide) ?_
    refine r_aload_n dX11_count_68 rfl ?_
    refine r_getI dX11_count_69 fs_0_11 fk_X11_93 ?_
    exact r_iret dX11_count_72 rfl (K3 c1 c2 c3)
  by_cases c4 : x1 = 3
  · refine r_tableIn (off := 72) (tgt := 73) dX11_count_1 (by rw [c4]; decide) (by rw [c4]; decide) (by rw [c4]; decide) (by decide) ?_
    refine r_aload_n dX11_count_73 rfl ?_
    exact r_callV (x := 0) (As := []) (rest := []) dX11_count_74 mk_X11_302 mv_X11_countMissing rm_X11_count_X11_countMissing rfl rfl (by decide +kernel) (Nat.le_of_ble_eq_true rfl) (cal_i (lo' := [none, none]) trivial (K4 c1 c2 c3 c4))
  by_cases c5 : x1 = 4
  · refine r_tableIn (off := 77) (tgt := 78) dX11_count_1 (by rw [c5]; decide) (by rw [c5]; decide) (by rw [c5]; decide) (by decide) ?_
    refine r_aload_n dX11_count_78 rfl ?_
    refine r_getR dX11_count_79 fs_0_5 fk_X11_53 ?_
    refine r_getI dX11_count_82 fs_22_4 fk_X11_199 ?_
    suffices hJ1 : Fw l D ad kA mX11_count 93 [none, none] [.int (if (gI M 22 4) = 0 then 0 else 1)] M Q by
      refine r_if_eq (tgt := 92) dX11_count_85 (by decide) (fun c6 => ?_) (fun c6 => ?_)
      · skip
        refine r_iconst (v := 0) dX11_count_92 kI_0 ?_
        exact q_weak (lo' := [none, none]) trivial (by have h9 := hJ1; simp only [if_pos c6] at h9; first | exact h9 | (simp only [if_pos c6]; exact h9))
      · skip
        refine r_iconst (v := 1) dX11_count_88 kI_1 ?_
        refine r_goto (tgt := 93) dX11_count_89 (by decide) ?_
        exact q_weak (lo' := [none, none]) trivial (by have h9 := hJ1; simp only [if_neg c6] at h9; first | exact h9 | (simp only [if_neg c6]; exact h9))
    exact r_iret dX11_count_93 rfl (K5 c1 c2 c3 c4 c5)
  by_cases c7 : x1 = 5
  · refine r_tableIn (off := 93) (tgt := 94) dX11_count_1 (by rw [c7]; decide) (by rw [c7]; decide) (by rw [c7]; decide) (by decide) ?_
    refine r_aload_n dX11_count_94 rfl ?_
    exact r_callV (x := 0) (As := []) (rest := []) dX11_count_95 mk_X11_305 mv_X11_countWithBell rm_X11_count_X11_countWithBell rfl rfl (by decide +kernel) (Nat.le_of_ble_eq_true rfl) (cal_i (lo' := [none, none]) trivial (K6 c1 c2 c3 c4 c5 c7))
  by_cases c8 : x1 = 6
  · refine r_tableIn (off := 98) (tgt := 99) dX11_count_1 (by rw [c8]; decide) (by rw [c8]; decide) (by rw [c8]; decide) (by decide) ?_
    refine r_aload_n dX11_count_99 rfl ?_
    refine r_getR dX11_count_100 fs_0_9 fk_X11_85 ?_
    refine r_getI dX11_count_103 fs_44_1 fk_X11_262 ?_
    exact r_iret dX11_count_106 rfl (K7 c1 c2 c3 c4 c5 c7 c8)
  by_cases c9 : x1 = 7
  · refine r_tableIn (off := 106) (tgt := 107) dX11_count_1 (by rw [c9]; decide) (by rw [c9]; decide) (by rw [c9]; decide) (by decide) ?_
    refine r_aload_n dX11_count_107 rfl ?_
    refine r_getR dX11_count_108 fs_0_9 fk_X11_85 ?_
    refine r_getI dX11_count_111 fs_44_2 fk_X11_271 ?_
    exact r_iret dX11_count_114 rfl (K8 c1 c2 c3 c4 c5 c7 c8 c9)
  by_cases c10 : x1 = 8
  · refine r_tableIn (off := 114) (tgt := 115) dX11_count_1 (by rw [c10]; decide) (by rw [c10]; decide) (by rw [c10]; decide) (by decide) ?_
    refine r_aload_n dX11_count_115 rfl ?_
    refine r_getR dX11_count_116 fs_0_0 fk_X11_10 ?_
    refine r_getI dX11_count_119 fs_1_0 fk_X11_97 ?_
    exact r_iret dX11_count_122 rfl (K9 c1 c2 c3 c4 c5 c7 c8 c9 c10)
  refine r_tableOut (tgt := 123) dX11_count_1 (sw_out 9 (fun q hq => (by match q, hq with
      | 0, _ => exact c1
      | 1, _ => exact c2
      | 2, _ => exact c3
      | 3, _ => exact c4
      | 4, _ => exact c5
      | 5, _ => exact c7
      | 6, _ => exact c8
      | 7, _ => exact c9
      | 8, _ => exact c10))) (by decide) ?_
  refine r_iconst (v := (-1)) dX11_count_123 kI_m1 ?_
  exact r_iret dX11_count_124 rfl (K10 c1 c2 c3 c4 c5 c7 c8 c9 c10)
theorem t_X11_count_77 {s1 : Int32} 
    (K1 : Q (.returned (some (.int s1))) M) : Fw l D ad kA mX11_count 77 [none, none] [.int s1] M Q := by
  exact r_iret dX11_count_77 rfl K1
theorem t_X11_count_98 {s1 : Int32} 
    (K1 : Q (.returned (some (.int s1))) M) : Fw l D ad kA mX11_count 98 [none, none] [.int s1] M Q := by
  exact r_iret dX11_count_98 rfl K1
theorem en_X11_count {x1 : Int32} (K : Fw l D ad kA mX11_count 0 [some (.ref (ad 0)), some (.int x1)] [] M Q) : Cal l D ad kA mX11_count [.ref (ad 0), .int x1] M Q := Cal.of (by decide) rfl rfl (Nat.le_of_ble_eq_true rfl) K
end W_top
