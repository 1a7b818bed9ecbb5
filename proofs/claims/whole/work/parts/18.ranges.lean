/-! Ranges: decode rows, links, walks from cut to cut (printed by wip/gen) -/
theorem dX7_takesIn_0 : decode cX7_takesIn 0 = .ok (.iload_n 0, 1) := by decide +kernel
theorem dX7_takesIn_1 : decode cX7_takesIn 1 = .ok (.ldc 41, 2) := by decide +kernel
theorem dX7_takesIn_3 : decode cX7_takesIn 3 = .ok (.irem, 1) := by decide +kernel
theorem dX7_takesIn_4 : decode cX7_takesIn 4 = .ok (.bipush 100, 2) := by decide +kernel
theorem dX7_takesIn_6 : decode cX7_takesIn 6 = .ok (.idiv, 1) := by decide +kernel
theorem dX7_takesIn_7 : decode cX7_takesIn 7 = .ok (.ireturn, 1) := by decide +kernel
theorem dX7_changesIn_0 : decode cX7_changesIn 0 = .ok (.iload_n 0, 1) := by decide +kernel
theorem dX7_changesIn_1 : decode cX7_changesIn 1 = .ok (.ldc 41, 2) := by decide +kernel
theorem dX7_changesIn_3 : decode cX7_changesIn 3 = .ok (.idiv, 1) := by decide +kernel
theorem dX7_changesIn_4 : decode cX7_changesIn 4 = .ok (.ireturn, 1) := by decide +kernel
theorem dX7_uses_0 : decode cX7_uses 0 = .ok (.iload_n 1, 1) := by decide +kernel
theorem dX7_uses_1 : decode cX7_uses 1 = .ok (.invokestatic 69, 3) := by decide +kernel
theorem dX7_uses_4 : decode cX7_uses 4 = .ok (.ifCond .eq 20, 3) := by decide +kernel
theorem dX7_uses_7 : decode cX7_uses 7 = .ok (.aload_n 0, 1) := by decide +kernel
theorem dX7_uses_8 : decode cX7_uses 8 = .ok (.getfield 42, 3) := by decide +kernel
theorem dX7_uses_11 : decode cX7_uses 11 = .ok (.iload_n 1, 1) := by decide +kernel
theorem dX7_uses_12 : decode cX7_uses 12 = .ok (.lushr, 1) := by decide +kernel
theorem dX7_uses_13 : decode cX7_uses 13 = .ok (.lconst 1, 1) := by decide +kernel
theorem dX7_uses_14 : decode cX7_uses 14 = .ok (.land, 1) := by decide +kernel
theorem dX7_uses_15 : decode cX7_uses 15 = .ok (.lconst 0, 1) := by decide +kernel
theorem dX7_uses_16 : decode cX7_uses 16 = .ok (.lcmp, 1) := by decide +kernel
theorem dX7_uses_17 : decode cX7_uses 17 = .ok (.ifCond .eq 7, 3) := by decide +kernel
theorem dX7_uses_20 : decode cX7_uses 20 = .ok (.iconst 1, 1) := by decide +kernel
theorem dX7_uses_21 : decode cX7_uses 21 = .ok (.goto 4, 3) := by decide +kernel
theorem dX7_uses_24 : decode cX7_uses 24 = .ok (.iconst 0, 1) := by decide +kernel
theorem dX7_uses_25 : decode cX7_uses 25 = .ok (.ireturn, 1) := by decide +kernel
theorem dX7_takeScore_0 : decode cX7_takeScore 0 = .ok (.aload_n 0, 1) := by decide +kernel
theorem dX7_takeScore_1 : decode cX7_takeScore 1 = .ok (.lconst 0, 1) := by decide +kernel
theorem dX7_takeScore_2 : decode cX7_takeScore 2 = .ok (.putfield 42, 3) := by decide +kernel
theorem dX7_takeScore_5 : decode cX7_takeScore 5 = .ok (.iconst 0, 1) := by decide +kernel
theorem dX7_takeScore_6 : decode cX7_takeScore 6 = .ok (.istore_n 1, 1) := by decide +kernel
theorem dX7_takeScore_7 : decode cX7_takeScore 7 = .ok (.iload_n 1, 1) := by decide +kernel
theorem dX7_takeScore_8 : decode cX7_takeScore 8 = .ok (.aload_n 0, 1) := by decide +kernel
theorem dX7_takeScore_9 : decode cX7_takeScore 9 = .ok (.getfield 29, 3) := by decide +kernel
theorem dX7_takeScore_12 : decode cX7_takeScore 12 = .ok (.getfield 46, 3) := by decide +kernel
theorem dX7_takeScore_15 : decode cX7_takeScore 15 = .ok (.if_icmp .ge 29, 3) := by decide +kernel
theorem dX7_takeScore_18 : decode cX7_takeScore 18 = .ok (.aload_n 0, 1) := by decide +kernel
theorem dX7_takeScore_19 : decode cX7_takeScore 19 = .ok (.dup, 1) := by decide +kernel
theorem dX7_takeScore_20 : decode cX7_takeScore 20 = .ok (.getfield 42, 3) := by decide +kernel
theorem dX7_takeScore_23 : decode cX7_takeScore 23 = .ok (.lconst 1, 1) := by decide +kernel
theorem dX7_takeScore_24 : decode cX7_takeScore 24 = .ok (.aload_n 0, 1) := by decide +kernel
theorem dX7_takeScore_25 : decode cX7_takeScore 25 = .ok (.getfield 29, 3) := by decide +kernel
theorem dX7_takeScore_28 : decode cX7_takeScore 28 = .ok (.getfield 52, 3) := by decide +kernel
theorem dX7_takeScore_31 : decode cX7_takeScore 31 = .ok (.iload_n 1, 1) := by decide +kernel
theorem dX7_takeScore_32 : decode cX7_takeScore 32 = .ok (.iaload, 1) := by decide +kernel
theorem dX7_takeScore_33 : decode cX7_takeScore 33 = .ok (.lshl, 1) := by decide +kernel
theorem dX7_takeScore_34 : decode cX7_takeScore 34 = .ok (.lor, 1) := by decide +kernel
theorem dX7_takeScore_35 : decode cX7_takeScore 35 = .ok (.putfield 42, 3) := by decide +kernel
theorem dX7_takeScore_38 : decode cX7_takeScore 38 = .ok (.iinc 1 1, 3) := by decide +kernel
theorem dX7_takeScore_41 : decode cX7_takeScore 41 = .ok (.goto (-34), 3) := by decide +kernel
theorem dX7_takeScore_44 : decode cX7_takeScore 44 = .ok (.aload_n 0, 1) := by decide +kernel
theorem dX7_takeScore_45 : decode cX7_takeScore 45 = .ok (.iconst 0, 1) := by decide +kernel
theorem dX7_takeScore_46 : decode cX7_takeScore 46 = .ok (.putfield 55, 3) := by decide +kernel
theorem dX7_takeScore_49 : decode cX7_takeScore 49 = .ok (.iconst 0, 1) := by decide +kernel
theorem dX7_takeScore_50 : decode cX7_takeScore 50 = .ok (.istore_n 1, 1) := by decide +kernel
theorem dX7_takeScore_51 : decode cX7_takeScore 51 = .ok (.iload_n 1, 1) := by decide +kernel
theorem dX7_takeScore_52 : decode cX7_takeScore 52 = .ok (.bipush 48, 2) := by decide +kernel
theorem dX7_takeScore_54 : decode cX7_takeScore 54 = .ok (.if_icmp .ge 37, 3) := by decide +kernel
theorem dX7_takeScore_57 : decode cX7_takeScore 57 = .ok (.aload_n 0, 1) := by decide +kernel
theorem dX7_takeScore_58 : decode cX7_takeScore 58 = .ok (.iload_n 1, 1) := by decide +kernel
theorem dX7_takeScore_59 : decode cX7_takeScore 59 = .ok (.invokevirtual 58, 3) := by decide +kernel
theorem dX7_takeScore_62 : decode cX7_takeScore 62 = .ok (.ifCond .eq 23, 3) := by decide +kernel
theorem dX7_takeScore_65 : decode cX7_takeScore 65 = .ok (.aload_n 0, 1) := by decide +kernel
theorem dX7_takeScore_66 : decode cX7_takeScore 66 = .ok (.getfield 17, 3) := by decide +kernel
theorem dX7_takeScore_69 : decode cX7_takeScore 69 = .ok (.aload_n 0, 1) := by decide +kernel
theorem dX7_takeScore_70 : decode cX7_takeScore 70 = .ok (.getfield 55, 3) := by decide +kernel
theorem dX7_takeScore_73 : decode cX7_takeScore 73 = .ok (.iload_n 1, 1) := by decide +kernel
theorem dX7_takeScore_74 : decode cX7_takeScore 74 = .ok (.iastore, 1) := by decide +kernel
theorem dX7_takeScore_75 : decode cX7_takeScore 75 = .ok (.aload_n 0, 1) := by decide +kernel
theorem dX7_takeScore_76 : decode cX7_takeScore 76 = .ok (.dup, 1) := by decide +kernel
theorem dX7_takeScore_77 : decode cX7_takeScore 77 = .ok (.getfield 55, 3) := by decide +kernel
theorem dX7_takeScore_80 : decode cX7_takeScore 80 = .ok (.iconst 1, 1) := by decide +kernel
theorem dX7_takeScore_81 : decode cX7_takeScore 81 = .ok (.iadd, 1) := by decide +kernel
theorem dX7_takeScore_82 : decode cX7_takeScore 82 = .ok (.putfield 55, 3) := by decide +kernel
theorem dX7_takeScore_85 : decode cX7_takeScore 85 = .ok (.iinc 1 1, 3) := by decide +kernel
theorem dX7_takeScore_88 : decode cX7_takeScore 88 = .ok (.goto (-37), 3) := by decide +kernel
theorem dX7_takeScore_91 : decode cX7_takeScore 91 = .ok (.aload_n 0, 1) := by decide +kernel
theorem dX7_takeScore_92 : decode cX7_takeScore 92 = .ok (.iconst 0, 1) := by decide +kernel
theorem dX7_takeScore_93 : decode cX7_takeScore 93 = .ok (.putfield 62, 3) := by decide +kernel
theorem dX7_takeScore_96 : decode cX7_takeScore 96 = .ok (.aload_n 0, 1) := by decide +kernel
theorem dX7_takeScore_97 : decode cX7_takeScore 97 = .ok (.iconst 0, 1) := by decide +kernel
theorem dX7_takeScore_98 : decode cX7_takeScore 98 = .ok (.putfield 66, 3) := by decide +kernel
theorem dX7_takeScore_101 : decode cX7_takeScore 101 = .ok (.return_, 1) := by decide +kernel
theorem dX7_weighAnew_0 : decode cX7_weighAnew 0 = .ok (.aload_n 0, 1) := by decide +kernel
theorem dX7_weighAnew_1 : decode cX7_weighAnew 1 = .ok (.iconst 0, 1) := by decide +kernel
theorem dX7_weighAnew_2 : decode cX7_weighAnew 2 = .ok (.putfield 62, 3) := by decide +kernel
theorem dX7_weighAnew_5 : decode cX7_weighAnew 5 = .ok (.return_, 1) := by decide +kernel
theorem dX7_dropParting_0 : decode cX7_dropParting 0 = .ok (.aload_n 0, 1) := by decide +kernel
theorem dX7_dropParting_1 : decode cX7_dropParting 1 = .ok (.iconst 0, 1) := by decide +kernel
theorem dX7_dropParting_2 : decode cX7_dropParting 2 = .ok (.putfield 66, 3) := by decide +kernel
theorem dX7_dropParting_5 : decode cX7_dropParting 5 = .ok (.return_, 1) := by decide +kernel
theorem dX7_stand_0 : decode cX7_stand 0 = .ok (.aload_n 0, 1) := by decide +kernel
theorem dX7_stand_1 : decode cX7_stand 1 = .ok (.getfield 72, 3) := by decide +kernel
theorem dX7_stand_4 : decode cX7_stand 4 = .ok (.bipush 12, 2) := by decide +kernel
theorem dX7_stand_6 : decode cX7_stand 6 = .ok (.if_icmp .ge 23, 3) := by decide +kernel
theorem dX7_stand_9 : decode cX7_stand 9 = .ok (.aload_n 0, 1) := by decide +kernel
theorem dX7_stand_10 : decode cX7_stand 10 = .ok (.getfield 20, 3) := by decide +kernel
theorem dX7_stand_13 : decode cX7_stand 13 = .ok (.aload_n 0, 1) := by decide +kernel
theorem dX7_stand_14 : decode cX7_stand 14 = .ok (.getfield 72, 3) := by decide +kernel
theorem dX7_stand_17 : decode cX7_stand 17 = .ok (.iload_n 1, 1) := by decide +kernel
theorem dX7_stand_18 : decode cX7_stand 18 = .ok (.iastore, 1) := by decide +kernel
theorem dX7_stand_19 : decode cX7_stand 19 = .ok (.aload_n 0, 1) := by decide +kernel
theorem dX7_stand_20 : decode cX7_stand 20 = .ok (.dup, 1) := by decide +kernel
theorem dX7_stand_21 : decode cX7_stand 21 = .ok (.getfield 72, 3) := by decide +kernel
theorem dX7_stand_24 : decode cX7_stand 24 = .ok (.iconst 1, 1) := by decide +kernel
theorem dX7_stand_25 : decode cX7_stand 25 = .ok (.iadd, 1) := by decide +kernel
theorem dX7_stand_26 : decode cX7_stand 26 = .ok (.putfield 72, 3) := by decide +kernel
theorem dX7_stand_29 : decode cX7_stand 29 = .ok (.return_, 1) := by decide +kernel
theorem dX7_bellsOf_0 : decode cX7_bellsOf 0 = .ok (.lconst 0, 1) := by decide +kernel
theorem dX7_bellsOf_1 : decode cX7_bellsOf 1 = .ok (.lstore_n 2, 1) := by decide +kernel
theorem dX7_bellsOf_2 : decode cX7_bellsOf 2 = .ok (.iconst 0, 1) := by decide +kernel
theorem dX7_bellsOf_3 : decode cX7_bellsOf 3 = .ok (.istore 4, 2) := by decide +kernel
theorem dX7_bellsOf_5 : decode cX7_bellsOf 5 = .ok (.iload 4, 2) := by decide +kernel
theorem dX7_bellsOf_7 : decode cX7_bellsOf 7 = .ok (.aload_n 0, 1) := by decide +kernel
theorem dX7_bellsOf_8 : decode cX7_bellsOf 8 = .ok (.getfield 55, 3) := by decide +kernel
theorem dX7_bellsOf_11 : decode cX7_bellsOf 11 = .ok (.if_icmp .ge 37, 3) := by decide +kernel
theorem dX7_bellsOf_14 : decode cX7_bellsOf 14 = .ok (.aload_n 0, 1) := by decide +kernel
theorem dX7_bellsOf_15 : decode cX7_bellsOf 15 = .ok (.getfield 11, 3) := by decide +kernel
theorem dX7_bellsOf_18 : decode cX7_bellsOf 18 = .ok (.aload_n 0, 1) := by decide +kernel
theorem dX7_bellsOf_19 : decode cX7_bellsOf 19 = .ok (.getfield 17, 3) := by decide +kernel
theorem dX7_bellsOf_22 : decode cX7_bellsOf 22 = .ok (.iload 4, 2) := by decide +kernel
theorem dX7_bellsOf_24 : decode cX7_bellsOf 24 = .ok (.iaload, 1) := by decide +kernel
theorem dX7_bellsOf_25 : decode cX7_bellsOf 25 = .ok (.iaload, 1) := by decide +kernel
theorem dX7_bellsOf_26 : decode cX7_bellsOf 26 = .ok (.iload_n 1, 1) := by decide +kernel
theorem dX7_bellsOf_27 : decode cX7_bellsOf 27 = .ok (.if_icmp .ne 15, 3) := by decide +kernel
theorem dX7_bellsOf_30 : decode cX7_bellsOf 30 = .ok (.lload_n 2, 1) := by decide +kernel
theorem dX7_bellsOf_31 : decode cX7_bellsOf 31 = .ok (.lconst 1, 1) := by decide +kernel
theorem dX7_bellsOf_32 : decode cX7_bellsOf 32 = .ok (.aload_n 0, 1) := by decide +kernel
theorem dX7_bellsOf_33 : decode cX7_bellsOf 33 = .ok (.getfield 17, 3) := by decide +kernel
theorem dX7_bellsOf_36 : decode cX7_bellsOf 36 = .ok (.iload 4, 2) := by decide +kernel
theorem dX7_bellsOf_38 : decode cX7_bellsOf 38 = .ok (.iaload, 1) := by decide +kernel
theorem dX7_bellsOf_39 : decode cX7_bellsOf 39 = .ok (.lshl, 1) := by decide +kernel
theorem dX7_bellsOf_40 : decode cX7_bellsOf 40 = .ok (.lor, 1) := by decide +kernel
theorem dX7_bellsOf_41 : decode cX7_bellsOf 41 = .ok (.lstore_n 2, 1) := by decide +kernel
theorem dX7_bellsOf_42 : decode cX7_bellsOf 42 = .ok (.iinc 4 1, 3) := by decide +kernel
theorem dX7_bellsOf_45 : decode cX7_bellsOf 45 = .ok (.goto (-40), 3) := by decide +kernel
theorem dX7_bellsOf_48 : decode cX7_bellsOf 48 = .ok (.lload_n 2, 1) := by decide +kernel
theorem dX7_bellsOf_49 : decode cX7_bellsOf 49 = .ok (.lreturn, 1) := by decide +kernel
theorem dX7_longestFrom_0 : decode cX7_longestFrom 0 = .ok (.aload_n 0, 1) := by decide +kernel
theorem dX7_longestFrom_1 : decode cX7_longestFrom 1 = .ok (.getfield 33, 3) := by decide +kernel
theorem dX7_longestFrom_4 : decode cX7_longestFrom 4 = .ok (.getfield 91, 3) := by decide +kernel
theorem dX7_longestFrom_7 : decode cX7_longestFrom 7 = .ok (.iconst 1, 1) := by decide +kernel
theorem dX7_longestFrom_8 : decode cX7_longestFrom 8 = .ok (.iaload, 1) := by decide +kernel
theorem dX7_longestFrom_9 : decode cX7_longestFrom 9 = .ok (.aload_n 0, 1) := by decide +kernel
theorem dX7_longestFrom_10 : decode cX7_longestFrom 10 = .ok (.getfield 55, 3) := by decide +kernel
theorem dX7_longestFrom_13 : decode cX7_longestFrom 13 = .ok (.iload_n 1, 1) := by decide +kernel
theorem dX7_longestFrom_14 : decode cX7_longestFrom 14 = .ok (.isub, 1) := by decide +kernel
theorem dX7_longestFrom_15 : decode cX7_longestFrom 15 = .ok (.invokestatic 100, 3) := by decide +kernel
theorem dX7_longestFrom_18 : decode cX7_longestFrom 18 = .ok (.ireturn, 1) := by decide +kernel
theorem dX7_weighPieces_0 : decode cX7_weighPieces 0 = .ok (.iconst 0, 1) := by decide +kernel
theorem dX7_weighPieces_1 : decode cX7_weighPieces 1 = .ok (.istore_n 1, 1) := by decide +kernel
theorem dX7_weighPieces_2 : decode cX7_weighPieces 2 = .ok (.iload_n 1, 1) := by decide +kernel
theorem dX7_weighPieces_3 : decode cX7_weighPieces 3 = .ok (.aload_n 0, 1) := by decide +kernel
theorem dX7_weighPieces_4 : decode cX7_weighPieces 4 = .ok (.getfield 55, 3) := by decide +kernel
theorem dX7_weighPieces_7 : decode cX7_weighPieces 7 = .ok (.if_icmp .ge 115, 3) := by decide +kernel
theorem dX7_weighPieces_10 : decode cX7_weighPieces 10 = .ok (.aload_n 0, 1) := by decide +kernel
theorem dX7_weighPieces_11 : decode cX7_weighPieces 11 = .ok (.getfield 62, 3) := by decide +kernel
theorem dX7_weighPieces_14 : decode cX7_weighPieces 14 = .ok (.ifCond .ne 108, 3) := by decide +kernel
theorem dX7_weighPieces_17 : decode cX7_weighPieces 17 = .ok (.lconst 0, 1) := by decide +kernel
theorem dX7_weighPieces_18 : decode cX7_weighPieces 18 = .ok (.lstore_n 2, 1) := by decide +kernel
theorem dX7_weighPieces_19 : decode cX7_weighPieces 19 = .ok (.iconst 1, 1) := by decide +kernel
theorem dX7_weighPieces_20 : decode cX7_weighPieces 20 = .ok (.istore 4, 2) := by decide +kernel
theorem dX7_weighPieces_22 : decode cX7_weighPieces 22 = .ok (.iload 4, 2) := by decide +kernel
theorem dX7_weighPieces_24 : decode cX7_weighPieces 24 = .ok (.aload_n 0, 1) := by decide +kernel
theorem dX7_weighPieces_25 : decode cX7_weighPieces 25 = .ok (.iload_n 1, 1) := by decide +kernel
theorem dX7_weighPieces_26 : decode cX7_weighPieces 26 = .ok (.invokevirtual 87, 3) := by decide +kernel
theorem dX7_weighPieces_29 : decode cX7_weighPieces 29 = .ok (.if_icmp .gt 87, 3) := by decide +kernel
theorem dX7_weighPieces_32 : decode cX7_weighPieces 32 = .ok (.aload_n 0, 1) := by decide +kernel
theorem dX7_weighPieces_33 : decode cX7_weighPieces 33 = .ok (.getfield 17, 3) := by decide +kernel
theorem dX7_weighPieces_36 : decode cX7_weighPieces 36 = .ok (.iload_n 1, 1) := by decide +kernel
theorem dX7_weighPieces_37 : decode cX7_weighPieces 37 = .ok (.iload 4, 2) := by decide +kernel
theorem dX7_weighPieces_39 : decode cX7_weighPieces 39 = .ok (.iadd, 1) := by decide +kernel
theorem dX7_weighPieces_40 : decode cX7_weighPieces 40 = .ok (.iconst 1, 1) := by decide +kernel
theorem dX7_weighPieces_41 : decode cX7_weighPieces 41 = .ok (.isub, 1) := by decide +kernel
theorem dX7_weighPieces_42 : decode cX7_weighPieces 42 = .ok (.iaload, 1) := by decide +kernel
theorem dX7_weighPieces_43 : decode cX7_weighPieces 43 = .ok (.istore 5, 2) := by decide +kernel
theorem dX7_weighPieces_45 : decode cX7_weighPieces 45 = .ok (.lload_n 2, 1) := by decide +kernel
theorem dX7_weighPieces_46 : decode cX7_weighPieces 46 = .ok (.lconst 1, 1) := by decide +kernel
theorem dX7_weighPieces_47 : decode cX7_weighPieces 47 = .ok (.iload 5, 2) := by decide +kernel
theorem dX7_weighPieces_49 : decode cX7_weighPieces 49 = .ok (.lshl, 1) := by decide +kernel
theorem dX7_weighPieces_50 : decode cX7_weighPieces 50 = .ok (.lor, 1) := by decide +kernel
theorem dX7_weighPieces_51 : decode cX7_weighPieces 51 = .ok (.lstore_n 2, 1) := by decide +kernel
theorem dX7_weighPieces_52 : decode cX7_weighPieces 52 = .ok (.iload 5, 2) := by decide +kernel
theorem dX7_weighPieces_54 : decode cX7_weighPieces 54 = .ok (.aload_n 0, 1) := by decide +kernel
theorem dX7_weighPieces_55 : decode cX7_weighPieces 55 = .ok (.getfield 17, 3) := by decide +kernel
theorem dX7_weighPieces_58 : decode cX7_weighPieces 58 = .ok (.iload_n 1, 1) := by decide +kernel
theorem dX7_weighPieces_59 : decode cX7_weighPieces 59 = .ok (.iaload, 1) := by decide +kernel
theorem dX7_weighPieces_60 : decode cX7_weighPieces 60 = .ok (.isub, 1) := by decide +kernel
theorem dX7_weighPieces_61 : decode cX7_weighPieces 61 = .ok (.aload_n 0, 1) := by decide +kernel
theorem dX7_weighPieces_62 : decode cX7_weighPieces 62 = .ok (.getfield 33, 3) := by decide +kernel
theorem dX7_weighPieces_65 : decode cX7_weighPieces 65 = .ok (.getfield 91, 3) := by decide +kernel
theorem dX7_weighPieces_68 : decode cX7_weighPieces 68 = .ok (.iconst 2, 1) := by decide +kernel
theorem dX7_weighPieces_69 : decode cX7_weighPieces 69 = .ok (.iaload, 1) := by decide +kernel
theorem dX7_weighPieces_70 : decode cX7_weighPieces 70 = .ok (.if_icmp .gt 7, 3) := by decide +kernel
theorem dX7_weighPieces_73 : decode cX7_weighPieces 73 = .ok (.iconst 1, 1) := by decide +kernel
theorem dX7_weighPieces_74 : decode cX7_weighPieces 74 = .ok (.goto 4, 3) := by decide +kernel
theorem dX7_weighPieces_77 : decode cX7_weighPieces 77 = .ok (.iconst 0, 1) := by decide +kernel
theorem dX7_weighPieces_78 : decode cX7_weighPieces 78 = .ok (.istore 6, 2) := by decide +kernel
theorem dX7_weighPieces_80 : decode cX7_weighPieces 80 = .ok (.aload_n 0, 1) := by decide +kernel
theorem dX7_weighPieces_81 : decode cX7_weighPieces 81 = .ok (.getfield 23, 3) := by decide +kernel
theorem dX7_weighPieces_84 : decode cX7_weighPieces 84 = .ok (.iload_n 1, 1) := by decide +kernel
theorem dX7_weighPieces_85 : decode cX7_weighPieces 85 = .ok (.bipush 13, 2) := by decide +kernel
theorem dX7_weighPieces_87 : decode cX7_weighPieces 87 = .ok (.imul, 1) := by decide +kernel
theorem dX7_weighPieces_88 : decode cX7_weighPieces 88 = .ok (.iload 4, 2) := by decide +kernel
theorem dX7_weighPieces_90 : decode cX7_weighPieces 90 = .ok (.iadd, 1) := by decide +kernel
theorem dX7_weighPieces_91 : decode cX7_weighPieces 91 = .ok (.iload 6, 2) := by decide +kernel
theorem dX7_weighPieces_93 : decode cX7_weighPieces 93 = .ok (.ifCond .eq 14, 3) := by decide +kernel
theorem dX7_weighPieces_96 : decode cX7_weighPieces 96 = .ok (.aload_n 0, 1) := by decide +kernel
theorem dX7_weighPieces_97 : decode cX7_weighPieces 97 = .ok (.getfield 37, 3) := by decide +kernel
theorem dX7_weighPieces_100 : decode cX7_weighPieces 100 = .ok (.lload_n 2, 1) := by decide +kernel
theorem dX7_weighPieces_101 : decode cX7_weighPieces 101 = .ok (.invokevirtual 94, 3) := by decide +kernel
theorem dX7_weighPieces_104 : decode cX7_weighPieces 104 = .ok (.goto 5, 3) := by decide +kernel
theorem dX7_weighPieces_107 : decode cX7_weighPieces 107 = .ok (.ldc 82, 2) := by decide +kernel
theorem dX7_weighPieces_109 : decode cX7_weighPieces 109 = .ok (.iastore, 1) := by decide +kernel
theorem dX7_weighPieces_110 : decode cX7_weighPieces 110 = .ok (.iinc 4 1, 3) := by decide +kernel
theorem dX7_weighPieces_113 : decode cX7_weighPieces 113 = .ok (.goto (-91), 3) := by decide +kernel
theorem dX7_weighPieces_116 : decode cX7_weighPieces 116 = .ok (.iinc 1 1, 3) := by decide +kernel
theorem dX7_weighPieces_119 : decode cX7_weighPieces 119 = .ok (.goto (-117), 3) := by decide +kernel
theorem dX7_weighPieces_122 : decode cX7_weighPieces 122 = .ok (.aload_n 0, 1) := by decide +kernel
theorem dX7_weighPieces_123 : decode cX7_weighPieces 123 = .ok (.iconst 1, 1) := by decide +kernel
theorem dX7_weighPieces_124 : decode cX7_weighPieces 124 = .ok (.putfield 62, 3) := by decide +kernel
theorem dX7_weighPieces_127 : decode cX7_weighPieces 127 = .ok (.return_, 1) := by decide +kernel
theorem dX7_countChanges_0 : decode cX7_countChanges 0 = .ok (.iconst 0, 1) := by decide +kernel
theorem dX7_countChanges_1 : decode cX7_countChanges 1 = .ok (.istore 4, 2) := by decide +kernel
theorem dX7_countChanges_3 : decode cX7_countChanges 3 = .ok (.iload_n 1, 1) := by decide +kernel
theorem dX7_countChanges_4 : decode cX7_countChanges 4 = .ok (.istore 5, 2) := by decide +kernel
theorem dX7_countChanges_6 : decode cX7_countChanges 6 = .ok (.iload 5, 2) := by decide +kernel
theorem dX7_countChanges_8 : decode cX7_countChanges 8 = .ok (.iload_n 1, 1) := by decide +kernel
theorem dX7_countChanges_9 : decode cX7_countChanges 9 = .ok (.iload_n 2, 1) := by decide +kernel
theorem dX7_countChanges_10 : decode cX7_countChanges 10 = .ok (.iadd, 1) := by decide +kernel
theorem dX7_countChanges_11 : decode cX7_countChanges 11 = .ok (.if_icmp .ge 35, 3) := by decide +kernel
theorem dX7_countChanges_14 : decode cX7_countChanges 14 = .ok (.iload 4, 2) := by decide +kernel
theorem dX7_countChanges_16 : decode cX7_countChanges 16 = .ok (.aload_n 0, 1) := by decide +kernel
theorem dX7_countChanges_17 : decode cX7_countChanges 17 = .ok (.getfield 11, 3) := by decide +kernel
theorem dX7_countChanges_20 : decode cX7_countChanges 20 = .ok (.aload_n 0, 1) := by decide +kernel
theorem dX7_countChanges_21 : decode cX7_countChanges 21 = .ok (.getfield 17, 3) := by decide +kernel
theorem dX7_countChanges_24 : decode cX7_countChanges 24 = .ok (.iload 5, 2) := by decide +kernel
theorem dX7_countChanges_26 : decode cX7_countChanges 26 = .ok (.iaload, 1) := by decide +kernel
theorem dX7_countChanges_27 : decode cX7_countChanges 27 = .ok (.iaload, 1) := by decide +kernel
theorem dX7_countChanges_28 : decode cX7_countChanges 28 = .ok (.iload_n 3, 1) := by decide +kernel
theorem dX7_countChanges_29 : decode cX7_countChanges 29 = .ok (.if_icmp .ne 7, 3) := by decide +kernel
theorem dX7_countChanges_32 : decode cX7_countChanges 32 = .ok (.iconst 0, 1) := by decide +kernel
theorem dX7_countChanges_33 : decode cX7_countChanges 33 = .ok (.goto 4, 3) := by decide +kernel
theorem dX7_countChanges_36 : decode cX7_countChanges 36 = .ok (.iconst 1, 1) := by decide +kernel
theorem dX7_countChanges_37 : decode cX7_countChanges 37 = .ok (.iadd, 1) := by decide +kernel
theorem dX7_countChanges_38 : decode cX7_countChanges 38 = .ok (.istore 4, 2) := by decide +kernel
theorem dX7_countChanges_40 : decode cX7_countChanges 40 = .ok (.iinc 5 1, 3) := by decide +kernel
theorem dX7_countChanges_43 : decode cX7_countChanges 43 = .ok (.goto (-37), 3) := by decide +kernel
theorem dX7_countChanges_46 : decode cX7_countChanges 46 = .ok (.iload 4, 2) := by decide +kernel
theorem dX7_countChanges_48 : decode cX7_countChanges 48 = .ok (.ireturn, 1) := by decide +kernel
theorem dX7_priceWith_0 : decode cX7_priceWith 0 = .ok (.aload_n 0, 1) := by decide +kernel
theorem dX7_priceWith_1 : decode cX7_priceWith 1 = .ok (.getfield 26, 3) := by decide +kernel
theorem dX7_priceWith_4 : decode cX7_priceWith 4 = .ok (.iload_n 1, 1) := by decide +kernel
theorem dX7_priceWith_5 : decode cX7_priceWith 5 = .ok (.iconst 1, 1) := by decide +kernel
theorem dX7_priceWith_6 : decode cX7_priceWith 6 = .ok (.iadd, 1) := by decide +kernel
theorem dX7_priceWith_7 : decode cX7_priceWith 7 = .ok (.bipush 49, 2) := by decide +kernel
theorem dX7_priceWith_9 : decode cX7_priceWith 9 = .ok (.imul, 1) := by decide +kernel
theorem dX7_priceWith_10 : decode cX7_priceWith 10 = .ok (.iload_n 2, 1) := by decide +kernel
theorem dX7_priceWith_11 : decode cX7_priceWith 11 = .ok (.iadd, 1) := by decide +kernel
theorem dX7_priceWith_12 : decode cX7_priceWith 12 = .ok (.iload_n 3, 1) := by decide +kernel
theorem dX7_priceWith_13 : decode cX7_priceWith 13 = .ok (.iadd, 1) := by decide +kernel
theorem dX7_priceWith_14 : decode cX7_priceWith 14 = .ok (.iaload, 1) := by decide +kernel
theorem dX7_priceWith_15 : decode cX7_priceWith 15 = .ok (.istore 5, 2) := by decide +kernel
theorem dX7_priceWith_17 : decode cX7_priceWith 17 = .ok (.iload_n 3, 1) := by decide +kernel
theorem dX7_priceWith_18 : decode cX7_priceWith 18 = .ok (.ifCond .eq 10, 3) := by decide +kernel
theorem dX7_priceWith_21 : decode cX7_priceWith 21 = .ok (.iload 5, 2) := by decide +kernel
theorem dX7_priceWith_23 : decode cX7_priceWith 23 = .ok (.ldc 82, 2) := by decide +kernel
theorem dX7_priceWith_25 : decode cX7_priceWith 25 = .ok (.if_icmp .lt 6, 3) := by decide +kernel
theorem dX7_priceWith_28 : decode cX7_priceWith 28 = .ok (.iload 5, 2) := by decide +kernel
theorem dX7_priceWith_30 : decode cX7_priceWith 30 = .ok (.ireturn, 1) := by decide +kernel
theorem dX7_priceWith_31 : decode cX7_priceWith 31 = .ok (.aload_n 0, 1) := by decide +kernel
theorem dX7_priceWith_32 : decode cX7_priceWith 32 = .ok (.getfield 23, 3) := by decide +kernel
theorem dX7_priceWith_35 : decode cX7_priceWith 35 = .ok (.iload_n 2, 1) := by decide +kernel
theorem dX7_priceWith_36 : decode cX7_priceWith 36 = .ok (.bipush 13, 2) := by decide +kernel
theorem dX7_priceWith_38 : decode cX7_priceWith 38 = .ok (.imul, 1) := by decide +kernel
theorem dX7_priceWith_39 : decode cX7_priceWith 39 = .ok (.iload_n 3, 1) := by decide +kernel
theorem dX7_priceWith_40 : decode cX7_priceWith 40 = .ok (.iadd, 1) := by decide +kernel
theorem dX7_priceWith_41 : decode cX7_priceWith 41 = .ok (.iaload, 1) := by decide +kernel
theorem dX7_priceWith_42 : decode cX7_priceWith 42 = .ok (.istore 6, 2) := by decide +kernel
theorem dX7_priceWith_44 : decode cX7_priceWith 44 = .ok (.iload 6, 2) := by decide +kernel
theorem dX7_priceWith_46 : decode cX7_priceWith 46 = .ok (.ldc 82, 2) := by decide +kernel
theorem dX7_priceWith_48 : decode cX7_priceWith 48 = .ok (.if_icmp .lt 6, 3) := by decide +kernel
theorem dX7_priceWith_51 : decode cX7_priceWith 51 = .ok (.ldc 82, 2) := by decide +kernel
theorem dX7_priceWith_53 : decode cX7_priceWith 53 = .ok (.ireturn, 1) := by decide +kernel
theorem dX7_priceWith_54 : decode cX7_priceWith 54 = .ok (.iload 4, 2) := by decide +kernel
theorem dX7_priceWith_56 : decode cX7_priceWith 56 = .ok (.ifCond .eq 18, 3) := by decide +kernel
theorem dX7_priceWith_59 : decode cX7_priceWith 59 = .ok (.aload_n 0, 1) := by decide +kernel
theorem dX7_priceWith_60 : decode cX7_priceWith 60 = .ok (.iload_n 2, 1) := by decide +kernel
theorem dX7_priceWith_61 : decode cX7_priceWith 61 = .ok (.iload_n 3, 1) := by decide +kernel
theorem dX7_priceWith_62 : decode cX7_priceWith 62 = .ok (.aload_n 0, 1) := by decide +kernel
theorem dX7_priceWith_63 : decode cX7_priceWith 63 = .ok (.getfield 20, 3) := by decide +kernel
theorem dX7_priceWith_66 : decode cX7_priceWith 66 = .ok (.iload_n 1, 1) := by decide +kernel
theorem dX7_priceWith_67 : decode cX7_priceWith 67 = .ok (.iaload, 1) := by decide +kernel
theorem dX7_priceWith_68 : decode cX7_priceWith 68 = .ok (.invokevirtual 110, 3) := by decide +kernel
theorem dX7_priceWith_71 : decode cX7_priceWith 71 = .ok (.goto 4, 3) := by decide +kernel
theorem dX7_priceWith_74 : decode cX7_priceWith 74 = .ok (.iconst 0, 1) := by decide +kernel
theorem dX7_priceWith_75 : decode cX7_priceWith 75 = .ok (.istore 7, 2) := by decide +kernel
theorem dX7_priceWith_77 : decode cX7_priceWith 77 = .ok (.iload 5, 2) := by decide +kernel
theorem dX7_priceWith_79 : decode cX7_priceWith 79 = .ok (.iload 7, 2) := by decide +kernel
theorem dX7_priceWith_81 : decode cX7_priceWith 81 = .ok (.ldc 41, 2) := by decide +kernel
theorem dX7_priceWith_83 : decode cX7_priceWith 83 = .ok (.imul, 1) := by decide +kernel
theorem dX7_priceWith_84 : decode cX7_priceWith 84 = .ok (.iadd, 1) := by decide +kernel
theorem dX7_priceWith_85 : decode cX7_priceWith 85 = .ok (.iload 6, 2) := by decide +kernel
theorem dX7_priceWith_87 : decode cX7_priceWith 87 = .ok (.bipush 100, 2) := by decide +kernel
theorem dX7_priceWith_89 : decode cX7_priceWith 89 = .ok (.imul, 1) := by decide +kernel
theorem dX7_priceWith_90 : decode cX7_priceWith 90 = .ok (.iadd, 1) := by decide +kernel
theorem dX7_priceWith_91 : decode cX7_priceWith 91 = .ok (.iconst 1, 1) := by decide +kernel
theorem dX7_priceWith_92 : decode cX7_priceWith 92 = .ok (.iadd, 1) := by decide +kernel
theorem dX7_priceWith_93 : decode cX7_priceWith 93 = .ok (.ireturn, 1) := by decide +kernel
theorem dX7_leastFrom_0 : decode cX7_leastFrom 0 = .ok (.iload_n 1, 1) := by decide +kernel
theorem dX7_leastFrom_1 : decode cX7_leastFrom 1 = .ok (.aload_n 0, 1) := by decide +kernel
theorem dX7_leastFrom_2 : decode cX7_leastFrom 2 = .ok (.getfield 72, 3) := by decide +kernel
theorem dX7_leastFrom_5 : decode cX7_leastFrom 5 = .ok (.if_icmp .lt 18, 3) := by decide +kernel
theorem dX7_leastFrom_8 : decode cX7_leastFrom 8 = .ok (.iload_n 2, 1) := by decide +kernel
theorem dX7_leastFrom_9 : decode cX7_leastFrom 9 = .ok (.aload_n 0, 1) := by decide +kernel
theorem dX7_leastFrom_10 : decode cX7_leastFrom 10 = .ok (.getfield 55, 3) := by decide +kernel
theorem dX7_leastFrom_13 : decode cX7_leastFrom 13 = .ok (.if_icmp .lt 7, 3) := by decide +kernel
theorem dX7_leastFrom_16 : decode cX7_leastFrom 16 = .ok (.iconst 0, 1) := by decide +kernel
theorem dX7_leastFrom_17 : decode cX7_leastFrom 17 = .ok (.goto 5, 3) := by decide +kernel
theorem dX7_leastFrom_20 : decode cX7_leastFrom 20 = .ok (.ldc 82, 2) := by decide +kernel
theorem dX7_leastFrom_22 : decode cX7_leastFrom 22 = .ok (.ireturn, 1) := by decide +kernel
theorem dX7_leastFrom_23 : decode cX7_leastFrom 23 = .ok (.ldc 82, 2) := by decide +kernel
theorem dX7_leastFrom_25 : decode cX7_leastFrom 25 = .ok (.istore 4, 2) := by decide +kernel
theorem dX7_leastFrom_27 : decode cX7_leastFrom 27 = .ok (.iconst 0, 1) := by decide +kernel
theorem dX7_leastFrom_28 : decode cX7_leastFrom 28 = .ok (.istore 5, 2) := by decide +kernel
theorem dX7_leastFrom_30 : decode cX7_leastFrom 30 = .ok (.iload 5, 2) := by decide +kernel
theorem dX7_leastFrom_32 : decode cX7_leastFrom 32 = .ok (.aload_n 0, 1) := by decide +kernel
theorem dX7_leastFrom_33 : decode cX7_leastFrom 33 = .ok (.iload_n 2, 1) := by decide +kernel
theorem dX7_leastFrom_34 : decode cX7_leastFrom 34 = .ok (.invokevirtual 87, 3) := by decide +kernel
theorem dX7_leastFrom_37 : decode cX7_leastFrom 37 = .ok (.if_icmp .gt 25, 3) := by decide +kernel
theorem dX7_leastFrom_40 : decode cX7_leastFrom 40 = .ok (.iload 4, 2) := by decide +kernel
theorem dX7_leastFrom_42 : decode cX7_leastFrom 42 = .ok (.aload_n 0, 1) := by decide +kernel
theorem dX7_leastFrom_43 : decode cX7_leastFrom 43 = .ok (.iload_n 1, 1) := by decide +kernel
theorem dX7_leastFrom_44 : decode cX7_leastFrom 44 = .ok (.iload_n 2, 1) := by decide +kernel
theorem dX7_leastFrom_45 : decode cX7_leastFrom 45 = .ok (.iload 5, 2) := by decide +kernel
theorem dX7_leastFrom_47 : decode cX7_leastFrom 47 = .ok (.iload_n 3, 1) := by decide +kernel
theorem dX7_leastFrom_48 : decode cX7_leastFrom 48 = .ok (.invokevirtual 106, 3) := by decide +kernel
theorem dX7_leastFrom_51 : decode cX7_leastFrom 51 = .ok (.invokestatic 100, 3) := by decide +kernel
theorem dX7_leastFrom_54 : decode cX7_leastFrom 54 = .ok (.istore 4, 2) := by decide +kernel
theorem dX7_leastFrom_56 : decode cX7_leastFrom 56 = .ok (.iinc 5 1, 3) := by decide +kernel
theorem dX7_leastFrom_59 : decode cX7_leastFrom 59 = .ok (.goto (-29), 3) := by decide +kernel
theorem dX7_leastFrom_62 : decode cX7_leastFrom 62 = .ok (.iload 4, 2) := by decide +kernel
theorem dX7_leastFrom_64 : decode cX7_leastFrom 64 = .ok (.ireturn, 1) := by decide +kernel
theorem dX7_handOut_0 : decode cX7_handOut 0 = .ok (.iconst 0, 1) := by decide +kernel
theorem dX7_handOut_1 : decode cX7_handOut 1 = .ok (.istore_n 2, 1) := by decide +kernel
theorem dX7_handOut_2 : decode cX7_handOut 2 = .ok (.iconst 0, 1) := by decide +kernel
theorem dX7_handOut_3 : decode cX7_handOut 3 = .ok (.istore_n 3, 1) := by decide +kernel
theorem dX7_handOut_4 : decode cX7_handOut 4 = .ok (.iload_n 3, 1) := by decide +kernel
theorem dX7_handOut_5 : decode cX7_handOut 5 = .ok (.aload_n 0, 1) := by decide +kernel
theorem dX7_handOut_6 : decode cX7_handOut 6 = .ok (.getfield 72, 3) := by decide +kernel
theorem dX7_handOut_9 : decode cX7_handOut 9 = .ok (.if_icmp .ge 96, 3) := by decide +kernel
theorem dX7_handOut_12 : decode cX7_handOut 12 = .ok (.aload_n 0, 1) := by decide +kernel
theorem dX7_handOut_13 : decode cX7_handOut 13 = .ok (.getfield 26, 3) := by decide +kernel
theorem dX7_handOut_16 : decode cX7_handOut 16 = .ok (.iload_n 3, 1) := by decide +kernel
theorem dX7_handOut_17 : decode cX7_handOut 17 = .ok (.bipush 49, 2) := by decide +kernel
theorem dX7_handOut_19 : decode cX7_handOut 19 = .ok (.imul, 1) := by decide +kernel
theorem dX7_handOut_20 : decode cX7_handOut 20 = .ok (.iload_n 2, 1) := by decide +kernel
theorem dX7_handOut_21 : decode cX7_handOut 21 = .ok (.iadd, 1) := by decide +kernel
theorem dX7_handOut_22 : decode cX7_handOut 22 = .ok (.iaload, 1) := by decide +kernel
theorem dX7_handOut_23 : decode cX7_handOut 23 = .ok (.istore 4, 2) := by decide +kernel
theorem dX7_handOut_25 : decode cX7_handOut 25 = .ok (.iconst 0, 1) := by decide +kernel
theorem dX7_handOut_26 : decode cX7_handOut 26 = .ok (.istore 5, 2) := by decide +kernel
theorem dX7_handOut_28 : decode cX7_handOut 28 = .ok (.iload 5, 2) := by decide +kernel
theorem dX7_handOut_30 : decode cX7_handOut 30 = .ok (.aload_n 0, 1) := by decide +kernel
theorem dX7_handOut_31 : decode cX7_handOut 31 = .ok (.iload_n 2, 1) := by decide +kernel
theorem dX7_handOut_32 : decode cX7_handOut 32 = .ok (.invokevirtual 87, 3) := by decide +kernel
theorem dX7_handOut_35 : decode cX7_handOut 35 = .ok (.if_icmp .ge 23, 3) := by decide +kernel
theorem dX7_handOut_38 : decode cX7_handOut 38 = .ok (.aload_n 0, 1) := by decide +kernel
theorem dX7_handOut_39 : decode cX7_handOut 39 = .ok (.iload_n 3, 1) := by decide +kernel
theorem dX7_handOut_40 : decode cX7_handOut 40 = .ok (.iload_n 2, 1) := by decide +kernel
theorem dX7_handOut_41 : decode cX7_handOut 41 = .ok (.iload 5, 2) := by decide +kernel
theorem dX7_handOut_43 : decode cX7_handOut 43 = .ok (.iload_n 1, 1) := by decide +kernel
theorem dX7_handOut_44 : decode cX7_handOut 44 = .ok (.invokevirtual 106, 3) := by decide +kernel
theorem dX7_handOut_47 : decode cX7_handOut 47 = .ok (.iload 4, 2) := by decide +kernel
theorem dX7_handOut_49 : decode cX7_handOut 49 = .ok (.if_icmp .eq 9, 3) := by decide +kernel
theorem dX7_handOut_52 : decode cX7_handOut 52 = .ok (.iinc 5 1, 3) := by decide +kernel
theorem dX7_handOut_55 : decode cX7_handOut 55 = .ok (.goto (-27), 3) := by decide +kernel
theorem dX7_handOut_58 : decode cX7_handOut 58 = .ok (.iload_n 2, 1) := by decide +kernel
theorem dX7_handOut_59 : decode cX7_handOut 59 = .ok (.istore 6, 2) := by decide +kernel
theorem dX7_handOut_61 : decode cX7_handOut 61 = .ok (.iload 6, 2) := by decide +kernel
theorem dX7_handOut_63 : decode cX7_handOut 63 = .ok (.iload_n 2, 1) := by decide +kernel
theorem dX7_handOut_64 : decode cX7_handOut 64 = .ok (.iload 5, 2) := by decide +kernel
theorem dX7_handOut_66 : decode cX7_handOut 66 = .ok (.iadd, 1) := by decide +kernel
theorem dX7_handOut_67 : decode cX7_handOut 67 = .ok (.if_icmp .ge 27, 3) := by decide +kernel
theorem dX7_handOut_70 : decode cX7_handOut 70 = .ok (.aload_n 0, 1) := by decide +kernel
theorem dX7_handOut_71 : decode cX7_handOut 71 = .ok (.getfield 11, 3) := by decide +kernel
theorem dX7_handOut_74 : decode cX7_handOut 74 = .ok (.aload_n 0, 1) := by decide +kernel
theorem dX7_handOut_75 : decode cX7_handOut 75 = .ok (.getfield 17, 3) := by decide +kernel
theorem dX7_handOut_78 : decode cX7_handOut 78 = .ok (.iload 6, 2) := by decide +kernel
theorem dX7_handOut_80 : decode cX7_handOut 80 = .ok (.iaload, 1) := by decide +kernel
theorem dX7_handOut_81 : decode cX7_handOut 81 = .ok (.aload_n 0, 1) := by decide +kernel
theorem dX7_handOut_82 : decode cX7_handOut 82 = .ok (.getfield 20, 3) := by decide +kernel
theorem dX7_handOut_85 : decode cX7_handOut 85 = .ok (.iload_n 3, 1) := by decide +kernel
theorem dX7_handOut_86 : decode cX7_handOut 86 = .ok (.iaload, 1) := by decide +kernel
theorem dX7_handOut_87 : decode cX7_handOut 87 = .ok (.iastore, 1) := by decide +kernel
theorem dX7_handOut_88 : decode cX7_handOut 88 = .ok (.iinc 6 1, 3) := by decide +kernel
theorem dX7_handOut_91 : decode cX7_handOut 91 = .ok (.goto (-30), 3) := by decide +kernel
theorem dX7_handOut_94 : decode cX7_handOut 94 = .ok (.iload_n 2, 1) := by decide +kernel
theorem dX7_handOut_95 : decode cX7_handOut 95 = .ok (.iload 5, 2) := by decide +kernel
theorem dX7_handOut_97 : decode cX7_handOut 97 = .ok (.iadd, 1) := by decide +kernel
theorem dX7_handOut_98 : decode cX7_handOut 98 = .ok (.istore_n 2, 1) := by decide +kernel
theorem dX7_handOut_99 : decode cX7_handOut 99 = .ok (.iinc 3 1, 3) := by decide +kernel
theorem dX7_handOut_102 : decode cX7_handOut 102 = .ok (.goto (-98), 3) := by decide +kernel
theorem dX7_handOut_105 : decode cX7_handOut 105 = .ok (.aload_n 0, 1) := by decide +kernel
theorem dX7_handOut_106 : decode cX7_handOut 106 = .ok (.iconst 1, 1) := by decide +kernel
theorem dX7_handOut_107 : decode cX7_handOut 107 = .ok (.putfield 66, 3) := by decide +kernel
theorem dX7_handOut_110 : decode cX7_handOut 110 = .ok (.return_, 1) := by decide +kernel
theorem dX7_settle_0 : decode cX7_settle 0 = .ok (.aload_n 0, 1) := by decide +kernel
theorem dX7_settle_1 : decode cX7_settle 1 = .ok (.invokevirtual 75, 3) := by decide +kernel
theorem dX7_settle_4 : decode cX7_settle 4 = .ok (.aload_n 0, 1) := by decide +kernel
theorem dX7_settle_5 : decode cX7_settle 5 = .ok (.getfield 72, 3) := by decide +kernel
theorem dX7_settle_8 : decode cX7_settle 8 = .ok (.istore_n 2, 1) := by decide +kernel
theorem dX7_settle_9 : decode cX7_settle 9 = .ok (.iload_n 2, 1) := by decide +kernel
theorem dX7_settle_10 : decode cX7_settle 10 = .ok (.ifCond .lt 42, 3) := by decide +kernel
theorem dX7_settle_13 : decode cX7_settle 13 = .ok (.aload_n 0, 1) := by decide +kernel
theorem dX7_settle_14 : decode cX7_settle 14 = .ok (.getfield 55, 3) := by decide +kernel
theorem dX7_settle_17 : decode cX7_settle 17 = .ok (.istore_n 3, 1) := by decide +kernel
theorem dX7_settle_18 : decode cX7_settle 18 = .ok (.iload_n 3, 1) := by decide +kernel
theorem dX7_settle_19 : decode cX7_settle 19 = .ok (.ifCond .lt 27, 3) := by decide +kernel
theorem dX7_settle_22 : decode cX7_settle 22 = .ok (.aload_n 0, 1) := by decide +kernel
theorem dX7_settle_23 : decode cX7_settle 23 = .ok (.getfield 26, 3) := by decide +kernel
theorem dX7_settle_26 : decode cX7_settle 26 = .ok (.iload_n 2, 1) := by decide +kernel
theorem dX7_settle_27 : decode cX7_settle 27 = .ok (.bipush 49, 2) := by decide +kernel
theorem dX7_settle_29 : decode cX7_settle 29 = .ok (.imul, 1) := by decide +kernel
theorem dX7_settle_30 : decode cX7_settle 30 = .ok (.iload_n 3, 1) := by decide +kernel
theorem dX7_settle_31 : decode cX7_settle 31 = .ok (.iadd, 1) := by decide +kernel
theorem dX7_settle_32 : decode cX7_settle 32 = .ok (.aload_n 0, 1) := by decide +kernel
theorem dX7_settle_33 : decode cX7_settle 33 = .ok (.iload_n 2, 1) := by decide +kernel
theorem dX7_settle_34 : decode cX7_settle 34 = .ok (.iload_n 3, 1) := by decide +kernel
theorem dX7_settle_35 : decode cX7_settle 35 = .ok (.iload_n 1, 1) := by decide +kernel
theorem dX7_settle_36 : decode cX7_settle 36 = .ok (.invokevirtual 78, 3) := by decide +kernel
theorem dX7_settle_39 : decode cX7_settle 39 = .ok (.iastore, 1) := by decide +kernel
theorem dX7_settle_40 : decode cX7_settle 40 = .ok (.iinc 3 (-1), 3) := by decide +kernel
theorem dX7_settle_43 : decode cX7_settle 43 = .ok (.goto (-25), 3) := by decide +kernel
theorem dX7_settle_46 : decode cX7_settle 46 = .ok (.iinc 2 (-1), 3) := by decide +kernel
theorem dX7_settle_49 : decode cX7_settle 49 = .ok (.goto (-40), 3) := by decide +kernel
theorem dX7_settle_52 : decode cX7_settle 52 = .ok (.aload_n 0, 1) := by decide +kernel
theorem dX7_settle_53 : decode cX7_settle 53 = .ok (.getfield 26, 3) := by decide +kernel
theorem dX7_settle_56 : decode cX7_settle 56 = .ok (.iconst 0, 1) := by decide +kernel
theorem dX7_settle_57 : decode cX7_settle 57 = .ok (.iaload, 1) := by decide +kernel
theorem dX7_settle_58 : decode cX7_settle 58 = .ok (.istore_n 2, 1) := by decide +kernel
theorem dX7_settle_59 : decode cX7_settle 59 = .ok (.iload_n 2, 1) := by decide +kernel
theorem dX7_settle_60 : decode cX7_settle 60 = .ok (.ldc 82, 2) := by decide +kernel
theorem dX7_settle_62 : decode cX7_settle 62 = .ok (.if_icmp .ge 8, 3) := by decide +kernel
theorem dX7_settle_65 : decode cX7_settle 65 = .ok (.aload_n 0, 1) := by decide +kernel
theorem dX7_settle_66 : decode cX7_settle 66 = .ok (.iload_n 1, 1) := by decide +kernel
theorem dX7_settle_67 : decode cX7_settle 67 = .ok (.invokevirtual 83, 3) := by decide +kernel
theorem dX7_settle_70 : decode cX7_settle 70 = .ok (.iload_n 2, 1) := by decide +kernel
theorem dX7_settle_71 : decode cX7_settle 71 = .ok (.ireturn, 1) := by decide +kernel
abbrev mX7_takesIn : MI := (yX7_takesIn, cX7_takesIn, 1, some .int, 1, 21, [])
abbrev mX7_changesIn : MI := (yX7_changesIn, cX7_changesIn, 1, some .int, 1, 21, [])
abbrev mX7_uses : MI := (yX7_uses, cX7_uses, 2, some .boolean, 2, 41, [])
abbrev mX7_takeScore : MI := (yX7_takeScore, cX7_takeScore, 2, none, 3, 62, [])
abbrev mX7_weighAnew : MI := (yX7_weighAnew, cX7_weighAnew, 1, none, 1, 21, [])
abbrev mX7_dropParting : MI := (yX7_dropParting, cX7_dropParting, 1, none, 1, 21, [])
abbrev mX7_stand : MI := (yX7_stand, cX7_stand, 2, none, 1, 21, [])
abbrev mX7_bellsOf : MI := (yX7_bellsOf, cX7_bellsOf, 5, some .long, 1, 21, [])
abbrev mX7_longestFrom : MI := (yX7_longestFrom, cX7_longestFrom, 2, some .int, 1, 21, [])
abbrev mX7_weighPieces : MI := (yX7_weighPieces, cX7_weighPieces, 7, none, 5, 123, [])
abbrev mX7_countChanges : MI := (yX7_countChanges, cX7_countChanges, 6, some .int, 1, 21, [])
abbrev mX7_priceWith : MI := (yX7_priceWith, cX7_priceWith, 8, some .int, 2, 46, [])
abbrev mX7_leastFrom : MI := (yX7_leastFrom, cX7_leastFrom, 6, some .int, 3, 73, [])
abbrev mX7_handOut : MI := (yX7_handOut, cX7_handOut, 7, none, 3, 73, [])
abbrev mX7_settle : MI := (yX7_settle, cX7_settle, 4, some .int, 6, 149, [])
theorem kB_12 : (Int8.ofInt 12).toInt32 = 12 := by decide
theorem kB_13 : (Int8.ofInt 13).toInt32 = 13 := by decide
theorem kB_49 : (Int8.ofInt 49).toInt32 = 49 := by decide
theorem kB_100 : (Int8.ofInt 100).toInt32 = 100 := by decide
theorem co_X7_41 : Cond.constant RX7 41 100000 ∈ lw_w := lw_in (i := 825) (by decide +kernel) (by decide +kernel)
theorem co_X7_82 : Cond.constant RX7 82 16777216 ∈ lw_w := lw_in (i := 812) (by decide +kernel) (by decide +kernel)
theorem fk_X7_11 : Fk RX7 11 7 3 := ⟨RX7, TX7, 13, tyX7, rfl, inX7, by decide, lw_in (i := 220) (by decide +kernel) (by decide +kernel), tyX7_ok, nmX7⟩
theorem fk_X7_17 : Fk RX7 17 7 8 := ⟨RX7, TX7, 13, tyX7, rfl, inX7, by decide, lw_in (i := 229) (by decide +kernel) (by decide +kernel), tyX7_ok, nmX7⟩
theorem fk_X7_20 : Fk RX7 20 7 9 := ⟨RX7, TX7, 13, tyX7, rfl, inX7, by decide, lw_in (i := 230) (by decide +kernel) (by decide +kernel), tyX7_ok, nmX7⟩
theorem fk_X7_23 : Fk RX7 23 7 10 := ⟨RX7, TX7, 13, tyX7, rfl, inX7, by decide, lw_in (i := 231) (by decide +kernel) (by decide +kernel), tyX7_ok, nmX7⟩
theorem fk_X7_26 : Fk RX7 26 7 12 := ⟨RX7, TX7, 13, tyX7, rfl, inX7, by decide, lw_in (i := 233) (by decide +kernel) (by decide +kernel), tyX7_ok, nmX7⟩
theorem fk_X7_29 : Fk RX7 29 7 0 := ⟨RX7, TX7, 13, tyX7, rfl, inX7, by decide, lw_in (i := 217) (by decide +kernel) (by decide +kernel), tyX7_ok, nmX7⟩
theorem fk_X7_33 : Fk RX7 33 7 1 := ⟨RX7, TX7, 13, tyX7, rfl, inX7, by decide, lw_in (i := 218) (by decide +kernel) (by decide +kernel), tyX7_ok, nmX7⟩
theorem fk_X7_37 : Fk RX7 37 7 2 := ⟨RX7, TX7, 13, tyX7, rfl, inX7, by decide, lw_in (i := 219) (by decide +kernel) (by decide +kernel), tyX7_ok, nmX7⟩
theorem fk_X7_42 : Fk RX7 42 7 7 := ⟨RX7, TX7, 13, tyX7, rfl, inX7, by decide, lw_in (i := 228) (by decide +kernel) (by decide +kernel), tyX7_ok, nmX7⟩
theorem fk_X7_46 : Fk RX7 46 9 4 := ⟨RX9, TX9, 5, tyX9, rfl, inX9, by decide, lw_in (i := 110) (by decide +kernel) (by decide +kernel), tyX9_ok, nmX9⟩
theorem fk_X7_52 : Fk RX7 52 9 1 := ⟨RX9, TX9, 5, tyX9, rfl, inX9, by decide, lw_in (i := 91) (by decide +kernel) (by decide +kernel), tyX9_ok, nmX9⟩
theorem fk_X7_55 : Fk RX7 55 7 5 := ⟨RX7, TX7, 13, tyX7, rfl, inX7, by decide, lw_in (i := 224) (by decide +kernel) (by decide +kernel), tyX7_ok, nmX7⟩
theorem fk_X7_62 : Fk RX7 62 7 11 := ⟨RX7, TX7, 13, tyX7, rfl, inX7, by decide, lw_in (i := 232) (by decide +kernel) (by decide +kernel), tyX7_ok, nmX7⟩
theorem fk_X7_66 : Fk RX7 66 7 4 := ⟨RX7, TX7, 13, tyX7, rfl, inX7, by decide, lw_in (i := 222) (by decide +kernel) (by decide +kernel), tyX7_ok, nmX7⟩
theorem fk_X7_72 : Fk RX7 72 7 6 := ⟨RX7, TX7, 13, tyX7, rfl, inX7, by decide, lw_in (i := 226) (by decide +kernel) (by decide +kernel), tyX7_ok, nmX7⟩
theorem fk_X7_91 : Fk RX7 91 6 0 := ⟨RX6, TX6, 5, tyX6, rfl, inX6, by decide, lw_in (i := 158) (by decide +kernel) (by decide +kernel), tyX6_ok, nmX6⟩
theorem fp_X7_4 : Fp 7 4 .boolean := ⟨RX7, TX7, 13, rfl, rfl, by decide +kernel⟩
theorem fp_X7_5 : Fp 7 5 .int := ⟨RX7, TX7, 13, rfl, rfl, by decide +kernel⟩
theorem fp_X7_6 : Fp 7 6 .int := ⟨RX7, TX7, 13, rfl, rfl, by decide +kernel⟩
theorem fp_X7_7 : Fp 7 7 .long := ⟨RX7, TX7, 13, rfl, rfl, by decide +kernel⟩
theorem fp_X7_11 : Fp 7 11 .boolean := ⟨RX7, TX7, 13, rfl, rfl, by decide +kernel⟩
theorem mv_X7_countChanges : MkV mX7_countChanges := ⟨lw_in (i := 823) (by decide +kernel) (by decide +kernel), lw_se (i := 28) (by decide +kernel) (by decide +kernel)⟩
theorem mv_X7_handOut : MkV mX7_handOut := ⟨lw_in (i := 828) (by decide +kernel) (by decide +kernel), lw_se (i := 29) (by decide +kernel) (by decide +kernel)⟩
theorem mv_X7_leastFrom : MkV mX7_leastFrom := ⟨lw_in (i := 815) (by decide +kernel) (by decide +kernel), lw_se (i := 26) (by decide +kernel) (by decide +kernel)⟩
theorem mv_X7_longestFrom : MkV mX7_longestFrom := ⟨lw_in (i := 808) (by decide +kernel) (by decide +kernel), lw_se (i := 25) (by decide +kernel) (by decide +kernel)⟩
theorem mv_X7_priceWith : MkV mX7_priceWith := ⟨lw_in (i := 819) (by decide +kernel) (by decide +kernel), lw_se (i := 27) (by decide +kernel) (by decide +kernel)⟩
theorem mv_X7_uses : MkV mX7_uses := ⟨lw_in (i := 630) (by decide +kernel) (by decide +kernel), lw_in (i := 631) (by decide +kernel) (by decide +kernel)⟩
theorem mv_X7_weighPieces : MkV mX7_weighPieces := ⟨lw_in (i := 804) (by decide +kernel) (by decide +kernel), lw_se (i := 24) (by decide +kernel) (by decide +kernel)⟩
theorem mk_X7_58 : Mk RX7 58 mX7_uses 1 := ⟨lw_in (i := 629) (by decide +kernel) (by decide +kernel), lw_in (i := 8) (by decide +kernel) (by decide +kernel), lw_in (i := 632) (by decide +kernel) (by decide +kernel), by decide +kernel⟩
theorem mk_X7_75 : Mk RX7 75 mX7_weighPieces 0 := ⟨lw_in (i := 802) (by decide +kernel) (by decide +kernel), lw_in (i := 8) (by decide +kernel) (by decide +kernel), lw_in (i := 805) (by decide +kernel) (by decide +kernel), by decide +kernel⟩
theorem mk_X7_78 : Mk RX7 78 mX7_leastFrom 3 := ⟨lw_in (i := 813) (by decide +kernel) (by decide +kernel), lw_in (i := 8) (by decide +kernel) (by decide +kernel), lw_in (i := 816) (by decide +kernel) (by decide +kernel), by decide +kernel⟩
theorem mk_X7_83 : Mk RX7 83 mX7_handOut 1 := ⟨lw_in (i := 826) (by decide +kernel) (by decide +kernel), lw_in (i := 8) (by decide +kernel) (by decide +kernel), lw_in (i := 829) (by decide +kernel) (by decide +kernel), by decide +kernel⟩
theorem mk_X7_87 : Mk RX7 87 mX7_longestFrom 1 := ⟨lw_in (i := 806) (by decide +kernel) (by decide +kernel), lw_in (i := 8) (by decide +kernel) (by decide +kernel), lw_in (i := 809) (by decide +kernel) (by decide +kernel), by decide +kernel⟩
theorem mk_X7_94 : Mk RX7 94 mX3_takesOf 1 := ⟨lw_in (i := 811) (by decide +kernel) (by decide +kernel), lw_in (i := 7) (by decide +kernel) (by decide +kernel), lw_in (i := 728) (by decide +kernel) (by decide +kernel), by decide +kernel⟩
theorem mk_X7_100 : Cond.methodLink RX7 100 Lib.Math.min.name ∈ lw_w := lw_in (i := 810) (by decide +kernel) (by decide +kernel)
theorem mk_X7_106 : Mk RX7 106 mX7_priceWith 4 := ⟨lw_in (i := 817) (by decide +kernel) (by decide +kernel), lw_in (i := 8) (by decide +kernel) (by decide +kernel), lw_in (i := 820) (by decide +kernel) (by decide +kernel), by decide +kernel⟩
theorem mk_X7_110 : Mk RX7 110 mX7_countChanges 3 := ⟨lw_in (i := 821) (by decide +kernel) (by decide +kernel), lw_in (i := 8) (by decide +kernel) (by decide +kernel), lw_in (i := 824) (by decide +kernel) (by decide +kernel), by decide +kernel⟩
theorem rm_X7_handOut_X7_longestFrom : Rm mX7_handOut mX7_longestFrom := ⟨by decide, by decide⟩
theorem rm_X7_handOut_X7_priceWith : Rm mX7_handOut mX7_priceWith := ⟨by decide, by decide⟩
theorem rm_X7_leastFrom_X7_longestFrom : Rm mX7_leastFrom mX7_longestFrom := ⟨by decide, by decide⟩
theorem rm_X7_leastFrom_X7_priceWith : Rm mX7_leastFrom mX7_priceWith := ⟨by decide, by decide⟩
theorem rm_X7_priceWith_X7_countChanges : Rm mX7_priceWith mX7_countChanges := ⟨by decide, by decide⟩
theorem rm_X7_settle_X7_handOut : Rm mX7_settle mX7_handOut := ⟨by decide, by decide⟩
theorem rm_X7_settle_X7_leastFrom : Rm mX7_settle mX7_leastFrom := ⟨by decide, by decide⟩
theorem rm_X7_settle_X7_weighPieces : Rm mX7_settle mX7_weighPieces := ⟨by decide, by decide⟩
theorem rm_X7_takeScore_X7_uses : Rm mX7_takeScore mX7_uses := ⟨by decide, by decide⟩
theorem rm_X7_uses_X11_isBell : Rm mX7_uses mX11_isBell := ⟨by decide, by decide⟩
theorem rm_X7_weighPieces_X3_takesOf : Rm mX7_weighPieces mX3_takesOf := ⟨by decide, by decide⟩
theorem rm_X7_weighPieces_X7_longestFrom : Rm mX7_weighPieces mX7_longestFrom := ⟨by decide, by decide⟩
section W_ranges
variable {l : Launch} {D : va_G} {ad : Nat → Nat} {kA : Nat → ClassId} {M : Mem} {Q : Outcome → Mem → Prop}
def v_X7_takesIn (x0 : Int32) : Int32 := (x0 - x0 / 100000 * 100000) / 100
theorem ct_X7_takesIn {x0 : Int32}  (h : Q (.returned (some (.int (v_X7_takesIn x0)))) M) : Cal l D ad kA mX7_takesIn [.int x0] M Q := by
  refine Cal.of (lo := [some (.int x0)]) (by decide) rfl rfl (Nat.le_of_ble_eq_true rfl) ?_
  refine r_iload_n dX7_takesIn_0 rfl ?_
  refine r_ldc (v := 100000) dX7_takesIn_1 co_X7_41 ?_
  refine r_irem dX7_takesIn_3 (by decide) ?_
  refine r_bipush (v := 100) dX7_takesIn_4 kB_100 ?_
  refine r_idiv dX7_takesIn_6 (by decide) ?_
  exact r_iret dX7_takesIn_7 rfl h
def v_X7_changesIn (x0 : Int32) : Int32 := x0 / 100000
theorem ct_X7_changesIn {x0 : Int32}  (h : Q (.returned (some (.int (v_X7_changesIn x0)))) M) : Cal l D ad kA mX7_changesIn [.int x0] M Q := by
  refine Cal.of (lo := [some (.int x0)]) (by decide) rfl rfl (Nat.le_of_ble_eq_true rfl) ?_
  refine r_iload_n dX7_changesIn_0 rfl ?_
  refine r_ldc (v := 100000) dX7_changesIn_1 co_X7_41 ?_
  refine r_idiv dX7_changesIn_3 (by decide) ?_
  exact r_iret dX7_changesIn_4 rfl h
def v_X7_uses (M : Mem) (x1 : Int32) : Int32 := if (v_X11_isBell x1) = 0 then 0 else if (lg_cmp ((lushr (gL M 22 7) x1) &&& 1) 0) = 0 then 0 else 1
theorem ct_X7_uses {x1 : Int32}  (h : Q (.returned (some (.int (v_X7_uses M x1)))) M) : Cal l D ad kA mX7_uses [.ref (ad 22), .int x1] M Q := by
  refine Cal.of (lo := [some (.ref (ad 22)), some (.int x1)]) (by decide) rfl rfl (Nat.le_of_ble_eq_true rfl) ?_
  refine r_iload_n dX7_uses_0 rfl ?_
  refine r_callN (As := [.int x1]) (rest := []) (n := 1) (mi2 := mX11_isBell) dX7_uses_1 rfl (by decide) mi_X11_isBell.1 mi_X11_isBell.2 (by decide +kernel) ms_X11_isBell rm_X7_uses_X11_isBell rfl rfl (Nat.le_of_ble_eq_true rfl) (ct_X11_isBell (⟨_, rfl, ?_⟩))
  suffices hJ1 : Fw l D ad kA mX7_uses 25 [none, none] [.int (if (v_X11_isBell x1) = 0 then 0 else if (lg_cmp ((lushr (gL M 22 7) x1) &&& 1) 0) = 0 then 0 else 1)] M Q by
    refine r_if_eq (tgt := 24) dX7_uses_4 (by decide) (fun c1 => ?_) (fun c1 => ?_)
    · skip
      refine r_iconst (v := 0) dX7_uses_24 kI_0 ?_
      exact q_weak (lo' := [none, none]) trivial (by have h9 := hJ1; simp only [if_pos c1] at h9; first | exact h9 | (simp only [if_pos c1]; exact h9))
    · skip
      refine r_aload_n dX7_uses_7 rfl ?_
      refine r_getL dX7_uses_8 fs_22_7 fk_X7_42 ?_
      refine r_iload_n dX7_uses_11 rfl ?_
      refine q_lushr dX7_uses_12 ?_
      refine r_lconst (v := 1) dX7_uses_13 kL_1 ?_
      refine r_land dX7_uses_14 ?_
      refine r_lconst (v := 0) dX7_uses_15 kL_0 ?_
      refine r_lcmp dX7_uses_16 ?_
      refine r_if_eq (tgt := 24) dX7_uses_17 (by decide) (fun c2 => ?_) (fun c2 => ?_)
      · skip
        refine r_iconst (v := 0) dX7_uses_24 kI_0 ?_
        exact q_weak (lo' := [none, none]) trivial (by have h9 := hJ1; simp only [if_neg c1, if_pos c2] at h9; first | exact h9 | (simp only [if_neg c1, if_pos c2]; exact h9))
      · skip
        refine r_iconst (v := 1) dX7_uses_20 kI_1 ?_
        refine r_goto (tgt := 25) dX7_uses_21 (by decide) ?_
        exact q_weak (lo' := [none, none]) trivial (by have h9 := hJ1; simp only [if_neg c1, if_neg c2] at h9; first | exact h9 | (simp only [if_neg c1, if_neg c2]; exact h9))
  exact r_zret dX7_uses_25 rfl (nar_z (ite01 (Or.inl rfl) (ite01 (Or.inl rfl) (Or.inr rfl)))).1 h
theorem z_X7_uses {M : Mem} {x1 : Int32} : v_X7_uses M x1 = 0 ∨ v_X7_uses M x1 = 1 := (ite01 (Or.inl rfl) (ite01 (Or.inl rfl) (Or.inr rfl)))
theorem t_X7_takeScore_0  
    (K1 : Fw l D ad kA mX7_takeScore 7 [some (.ref (ad 22)), some (.int 0)] [] (sL M 22 7 0) Q) : Fw l D ad kA mX7_takeScore 0 [some (.ref (ad 22)), none] [] M Q := by
  refine r_aload_n dX7_takeScore_0 rfl ?_
  refine r_lconst (v := 0) dX7_takeScore_1 kL_0 ?_
  refine r_putL dX7_takeScore_2 fs_22_7 fk_X7_42 fp_X7_7 rfl rfl ?_
  refine r_iconst (v := 0) dX7_takeScore_5 kI_0 ?_
  refine q_istore_n (lo' := [some (.ref (ad 22)), some (.int 0)]) dX7_takeScore_6 (by decide) rfl ?_
  exact K1
theorem t_X7_takeScore_7 {x1 : Int32} 
    (g1 : (¬ ((gI M 9 4) ≤ x1)) → vp_in x1 160)
    (K1 : ((gI M 9 4) ≤ x1) → Fw l D ad kA mX7_takeScore 51 [some (.ref (ad 22)), some (.int 0)] [] (sI M 22 5 0) Q)
    (K2 : (¬ ((gI M 9 4) ≤ x1)) → Fw l D ad kA mX7_takeScore 7 [some (.ref (ad 22)), some (.int (x1 + 1))] [] (sL M 22 7 ((gL M 22 7) ||| (lshl 1 (gI M 11 x1.toNatClampNeg)))) Q) : Fw l D ad kA mX7_takeScore 7 [some (.ref (ad 22)), some (.int x1)] [] M Q := by
  refine r_iload_n dX7_takeScore_7 rfl ?_
  refine r_aload_n dX7_takeScore_8 rfl ?_
  refine r_getR dX7_takeScore_9 fs_22_0 fk_X7_29 ?_
  refine r_getI dX7_takeScore_12 fs_9_4 fk_X7_46 ?_
  refine r_icmp_ge (tgt := 44) dX7_takeScore_15 (by decide) (fun c1 => ?_) (fun c1 => ?_)
  · skip
    refine r_aload_n dX7_takeScore_44 rfl ?_
    refine r_iconst (v := 0) dX7_takeScore_45 kI_0 ?_
    refine r_putI dX7_takeScore_46 fs_22_5 fk_X7_55 fp_X7_5 ?_
    refine r_iconst (v := 0) dX7_takeScore_49 kI_0 ?_
    refine q_istore_n (lo' := [some (.ref (ad 22)), some (.int 0)]) dX7_takeScore_50 (by decide) rfl ?_
    exact (K1 c1)
  · skip
    refine r_aload_n dX7_takeScore_18 rfl ?_
    refine r_dup dX7_takeScore_19 rfl ?_
    refine r_getL dX7_takeScore_20 fs_22_7 fk_X7_42 ?_
    refine r_lconst (v := 1) dX7_takeScore_23 kL_1 ?_
    refine r_aload_n dX7_takeScore_24 rfl ?_
    refine r_getR dX7_takeScore_25 fs_22_0 fk_X7_29 ?_
    refine r_getR dX7_takeScore_28 fs_9_1 fk_X7_52 ?_
    refine r_iload_n dX7_takeScore_31 rfl ?_
    refine r_iald dX7_takeScore_32 as_11 (g1 c1) ?_
    refine q_lshl dX7_takeScore_33 ?_
    refine r_lor dX7_takeScore_34 ?_
    refine r_putL dX7_takeScore_35 fs_22_7 fk_X7_42 fp_X7_7 rfl rfl ?_
    refine q_iinc (v := x1 + 1) (lo' := [some (.ref (ad 22)), some (.int (x1 + 1))]) dX7_takeScore_38 rfl (congrArg (fun q => x1 + q) kI_1) (by decide) rfl ?_
    refine r_goto (tgt := 7) dX7_takeScore_41 (by decide) ?_
    exact (K2 c1)
theorem t_X7_takeScore_51 {x1 : Int32} 
    (g1 : (¬ (48 ≤ x1)) → (¬ ((v_X7_uses M x1) = 0)) → vp_in (gI M 22 5) 48)
    (K1 : (48 ≤ x1) → Q (.returned none) (sI (sI M 22 11 0) 22 4 0))
    (K2 : (¬ (48 ≤ x1)) → ((v_X7_uses M x1) = 0) → Fw l D ad kA mX7_takeScore 51 [some (.ref (ad 22)), some (.int (x1 + 1))] [] M Q)
    (K3 : (¬ (48 ≤ x1)) → (¬ ((v_X7_uses M x1) = 0)) → Fw l D ad kA mX7_takeScore 51 [some (.ref (ad 22)), some (.int (x1 + 1))] [] (sI (sI M 24 (gI M 22 5).toNatClampNeg x1) 22 5 ((gI M 22 5) + 1)) Q) : Fw l D ad kA mX7_takeScore 51 [some (.ref (ad 22)), some (.int x1)] [] M Q := by
  refine r_iload_n dX7_takeScore_51 rfl ?_
  refine r_bipush (v := 48) dX7_takeScore_52 kB_48 ?_
  refine r_icmp_ge (tgt := 91) dX7_takeScore_54 (by decide) (fun c1 => ?_) (fun c1 => ?_)
  · skip
    refine r_aload_n dX7_takeScore_91 rfl ?_
    refine r_iconst (v := 0) dX7_takeScore_92 kI_0 ?_
    refine r_putZ dX7_takeScore_93 fs_22_11 fk_X7_62 fp_X7_11 (Or.inl rfl) ?_
    refine r_aload_n dX7_takeScore_96 rfl ?_
    refine r_iconst (v := 0) dX7_takeScore_97 kI_0 ?_
    refine r_putZ dX7_takeScore_98 fs_22_4 fk_X7_66 fp_X7_4 (Or.inl rfl) ?_
    exact r_vret dX7_takeScore_101 rfl (K1 c1)
  · skip
    refine r_aload_n dX7_takeScore_57 rfl ?_
    refine r_iload_n dX7_takeScore_58 rfl ?_
    refine r_callV (x := 22) (As := [.int x1]) (rest := []) dX7_takeScore_59 mk_X7_58 mv_X7_uses rm_X7_takeScore_X7_uses rfl rfl (by decide +kernel) (Nat.le_of_ble_eq_true rfl) (ct_X7_uses (⟨_, rfl, ?_⟩))
    refine r_if_eq (tgt := 85) dX7_takeScore_62 (by decide) (fun c2 => ?_) (fun c2 => ?_)
    · skip
      refine q_iinc (v := x1 + 1) (lo' := [some (.ref (ad 22)), some (.int (x1 + 1))]) dX7_takeScore_85 rfl (congrArg (fun q => x1 + q) kI_1) (by decide) rfl ?_
      refine r_goto (tgt := 51) dX7_takeScore_88 (by decide) ?_
      exact (K2 c1 c2)
    · skip
      refine r_aload_n dX7_takeScore_65 rfl ?_
      refine r_getR dX7_takeScore_66 fs_22_8 fk_X7_17 ?_
      refine r_aload_n dX7_takeScore_69 rfl ?_
      refine r_getI dX7_takeScore_70 fs_22_5 fk_X7_55 ?_
      refine r_iload_n dX7_takeScore_73 rfl ?_
      refine r_iast dX7_takeScore_74 as_24 (g1 c1 c2) ?_
      refine r_aload_n dX7_takeScore_75 rfl ?_
      refine r_dup dX7_takeScore_76 rfl ?_
      refine q_getI (v := gI M 22 5) dX7_takeScore_77 fs_22_5 fk_X7_55 rfl ?_
      refine r_iconst (v := 1) dX7_takeScore_80 kI_1 ?_
      refine r_iadd dX7_takeScore_81 ?_
      refine r_putI dX7_takeScore_82 fs_22_5 fk_X7_55 fp_X7_5 ?_
      refine q_iinc (v := x1 + 1) (lo' := [some (.ref (ad 22)), some (.int (x1 + 1))]) dX7_takeScore_85 rfl (congrArg (fun q => x1 + q) kI_1) (by decide) rfl ?_
      refine r_goto (tgt := 51) dX7_takeScore_88 (by decide) ?_
      exact (K3 c1 c2)
theorem en_X7_takeScore  (K : Fw l D ad kA mX7_takeScore 0 [some (.ref (ad 22)), none] [] M Q) : Cal l D ad kA mX7_takeScore [.ref (ad 22)] M Q := Cal.of (by decide) rfl rfl (Nat.le_of_ble_eq_true rfl) K
theorem t_X7_weighAnew_0  
    (K1 : Q (.returned none) (sI M 22 11 0)) : Fw l D ad kA mX7_weighAnew 0 [some (.ref (ad 22))] [] M Q := by
  refine r_aload_n dX7_weighAnew_0 rfl ?_
  refine r_iconst (v := 0) dX7_weighAnew_1 kI_0 ?_
  refine r_putZ dX7_weighAnew_2 fs_22_11 fk_X7_62 fp_X7_11 (Or.inl rfl) ?_
  exact r_vret dX7_weighAnew_5 rfl K1
theorem en_X7_weighAnew  (K : Fw l D ad kA mX7_weighAnew 0 [some (.ref (ad 22))] [] M Q) : Cal l D ad kA mX7_weighAnew [.ref (ad 22)] M Q := Cal.of (by decide) rfl rfl (Nat.le_of_ble_eq_true rfl) K
theorem t_X7_dropParting_0  
    (K1 : Q (.returned none) (sI M 22 4 0)) : Fw l D ad kA mX7_dropParting 0 [some (.ref (ad 22))] [] M Q := by
  refine r_aload_n dX7_dropParting_0 rfl ?_
  refine r_iconst (v := 0) dX7_dropParting_1 kI_0 ?_
  refine r_putZ dX7_dropParting_2 fs_22_4 fk_X7_66 fp_X7_4 (Or.inl rfl) ?_
  exact r_vret dX7_dropParting_5 rfl K1
theorem en_X7_dropParting  (K : Fw l D ad kA mX7_dropParting 0 [some (.ref (ad 22))] [] M Q) : Cal l D ad kA mX7_dropParting [.ref (ad 22)] M Q := Cal.of (by decide) rfl rfl (Nat.le_of_ble_eq_true rfl) K
theorem t_X7_stand_0 {x1 : Int32} 
    (g1 : (¬ (12 ≤ (gI M 22 6))) → vp_in (gI M 22 6) 12)
    (K1 : (12 ≤ (gI M 22 6)) → Q (.returned none) M)
    (K2 : (¬ (12 ≤ (gI M 22 6))) → Q (.returned none) (sI (sI M 25 (gI M 22 6).toNatClampNeg x1) 22 6 ((gI M 22 6) + 1))) : Fw l D ad kA mX7_stand 0 [some (.ref (ad 22)), some (.int x1)] [] M Q := by
  refine r_aload_n dX7_stand_0 rfl ?_
  refine r_getI dX7_stand_1 fs_22_6 fk_X7_72 ?_
  refine r_bipush (v := 12) dX7_stand_4 kB_12 ?_
  refine r_icmp_ge (tgt := 29) dX7_stand_6 (by decide) (fun c1 => ?_) (fun c1 => ?_)
  · skip
    exact r_vret dX7_stand_29 rfl (K1 c1)
  · skip
    refine r_aload_n dX7_stand_9 rfl ?_
    refine r_getR dX7_stand_10 fs_22_9 fk_X7_20 ?_
    refine r_aload_n dX7_stand_13 rfl ?_
    refine r_getI dX7_stand_14 fs_22_6 fk_X7_72 ?_
    refine r_iload_n dX7_stand_17 rfl ?_
    refine r_iast dX7_stand_18 as_25 (g1 c1) ?_
    refine r_aload_n dX7_stand_19 rfl ?_
    refine r_dup dX7_stand_20 rfl ?_
    refine q_getI (v := gI M 22 6) dX7_stand_21 fs_22_6 fk_X7_72 rfl ?_
    refine r_iconst (v := 1) dX7_stand_24 kI_1 ?_
    refine r_iadd dX7_stand_25 ?_
    refine r_putI dX7_stand_26 fs_22_6 fk_X7_72 fp_X7_6 ?_
    exact r_vret dX7_stand_29 rfl (K2 c1)
theorem en_X7_stand {x1 : Int32} (K : Fw l D ad kA mX7_stand 0 [some (.ref (ad 22)), some (.int x1)] [] M Q) : Cal l D ad kA mX7_stand [.ref (ad 22), .int x1] M Q := Cal.of (by decide) rfl rfl (Nat.le_of_ble_eq_true rfl) K
theorem t_X7_bellsOf_0 {x1 : Int32} 
    (K1 : Fw l D ad kA mX7_bellsOf 5 [some (.ref (ad 22)), some (.int x1), some (.long 0), none, some (.int 0)] [] M Q) : Fw l D ad kA mX7_bellsOf 0 [some (.ref (ad 22)), some (.int x1), none, none, none] [] M Q := by
  refine r_lconst (v := 0) dX7_bellsOf_0 kL_0 ?_
  refine q_lstore_n (lo' := [some (.ref (ad 22)), some (.int x1), some (.long 0), none, none]) dX7_bellsOf_1 (by decide) rfl ?_
  refine r_iconst (v := 0) dX7_bellsOf_2 kI_0 ?_
  refine q_istore (lo' := [some (.ref (ad 22)), some (.int x1), some (.long 0), none, some (.int 0)]) dX7_bellsOf_3 (by decide) rfl ?_
  exact K1
theorem t_X7_bellsOf_5 {x1 : Int32} {z2 : Int64} {x4 : Int32} 
    (g1 : (¬ ((gI M 22 5) ≤ x4)) → vp_in x4 48)
    (g2 : (¬ ((gI M 22 5) ≤ x4)) → vp_in (gI M 24 x4.toNatClampNeg) 48)
    (K1 : ((gI M 22 5) ≤ x4) → Q (.returned (some (.long z2))) M)
    (K2 : (¬ ((gI M 22 5) ≤ x4)) → Fw l D ad kA mX7_bellsOf 5 [some (.ref (ad 22)), some (.int x1), some (.long (if (gI M 23 (gI M 24 x4.toNatClampNeg).toNatClampNeg) = x1 then z2 ||| (lshl 1 (gI M 24 x4.toNatClampNeg)) else z2)), none, some (.int (x4 + 1))] [] M Q) : Fw l D ad kA mX7_bellsOf 5 [some (.ref (ad 22)), some (.int x1), some (.long z2), none, some (.int x4)] [] M Q := by
  refine r_iload dX7_bellsOf_5 rfl ?_
  refine r_aload_n dX7_bellsOf_7 rfl ?_
  refine r_getI dX7_bellsOf_8 fs_22_5 fk_X7_55 ?_
  refine r_icmp_ge (tgt := 48) dX7_bellsOf_11 (by decide) (fun c1 => ?_) (fun c1 => ?_)
  · skip
    refine r_lload_n dX7_bellsOf_48 rfl ?_
    exact r_lret dX7_bellsOf_49 rfl (K1 c1)
  · skip
    refine r_aload_n dX7_bellsOf_14 rfl ?_
    refine r_getR dX7_bellsOf_15 fs_22_3 fk_X7_11 ?_
    refine r_aload_n dX7_bellsOf_18 rfl ?_
    refine r_getR dX7_bellsOf_19 fs_22_8 fk_X7_17 ?_
    refine r_iload dX7_bellsOf_22 rfl ?_
    refine r_iald dX7_bellsOf_24 as_24 (g1 c1) ?_
    refine r_iald dX7_bellsOf_25 as_23 (g2 c1) ?_
    refine r_iload_n dX7_bellsOf_26 rfl ?_
    suffices hJ1 : Fw l D ad kA mX7_bellsOf 42 [some (.ref (ad 22)), some (.int x1), some (.long (if (gI M 23 (gI M 24 x4.toNatClampNeg).toNatClampNeg) = x1 then z2 ||| (lshl 1 (gI M 24 x4.toNatClampNeg)) else z2)), none, some (.int x4)] [] M Q by
      refine r_icmp_ne (tgt := 42) dX7_bellsOf_27 (by decide) (fun c2 => ?_) (fun c2 => ?_)
      · skip
        exact q_weak (lo' := [some (.ref (ad 22)), some (.int x1), some (.long z2), none, some (.int x4)]) ⟨rfl, rfl, rfl, rfl, trivial⟩ (by have h9 := hJ1; simp only [if_neg c2] at h9; first | exact h9 | (simp only [if_neg c2]; exact h9))
      · skip
        refine r_lload_n dX7_bellsOf_30 rfl ?_
        refine r_lconst (v := 1) dX7_bellsOf_31 kL_1 ?_
        refine r_aload_n dX7_bellsOf_32 rfl ?_
        refine r_getR dX7_bellsOf_33 fs_22_8 fk_X7_17 ?_
        refine r_iload dX7_bellsOf_36 rfl ?_
        refine r_iald dX7_bellsOf_38 as_24 (g1 c1) ?_
        refine q_lshl dX7_bellsOf_39 ?_
        refine r_lor dX7_bellsOf_40 ?_
        refine q_lstore_n (lo' := [some (.ref (ad 22)), some (.int x1), some (.long (z2 ||| (lshl 1 (gI M 24 x4.toNatClampNeg)))), none, some (.int x4)]) dX7_bellsOf_41 (by decide) rfl ?_
        exact q_weak (lo' := [some (.ref (ad 22)), some (.int x1), some (.long (z2 ||| (lshl 1 (gI M 24 x4.toNatClampNeg)))), none, some (.int x4)]) ⟨rfl, rfl, rfl, rfl, trivial⟩ (by have h9 := hJ1; simp only [if_pos c2] at h9; first | exact h9 | (simp only [if_pos c2]; exact h9))
    refine q_iinc (v := x4 + 1) (lo' := [some (.ref (ad 22)), some (.int x1), some (.long (if (gI M 23 (gI M 24 x4.toNatClampNeg).toNatClampNeg) = x1 then z2 ||| (lshl 1 (gI M 24 x4.toNatClampNeg)) else z2)), none, some (.int (x4 + 1))]) dX7_bellsOf_42 rfl (congrArg (fun q => x4 + q) kI_1) (by decide) rfl ?_
    refine r_goto (tgt := 5) dX7_bellsOf_45 (by decide) ?_
    exact (K2 c1)
theorem en_X7_bellsOf {x1 : Int32} (K : Fw l D ad kA mX7_bellsOf 0 [some (.ref (ad 22)), some (.int x1), none, none, none] [] M Q) : Cal l D ad kA mX7_bellsOf [.ref (ad 22), .int x1] M Q := Cal.of (by decide) rfl rfl (Nat.le_of_ble_eq_true rfl) K
def v_X7_longestFrom (M : Mem) (x1 : Int32) : Int32 := imin (gI M 15 (1 : Int32).toNatClampNeg) ((gI M 22 5) - x1)
theorem ct_X7_longestFrom {x1 : Int32}  (h : Q (.returned (some (.int (v_X7_longestFrom M x1)))) M) : Cal l D ad kA mX7_longestFrom [.ref (ad 22), .int x1] M Q := by
  refine Cal.of (lo := [some (.ref (ad 22)), some (.int x1)]) (by decide) rfl rfl (Nat.le_of_ble_eq_true rfl) ?_
  refine r_aload_n dX7_longestFrom_0 rfl ?_
  refine r_getR dX7_longestFrom_1 fs_22_1 fk_X7_33 ?_
  refine r_getR dX7_longestFrom_4 fs_14_0 fk_X7_91 ?_
  refine r_iconst (v := 1) dX7_longestFrom_7 kI_1 ?_
  refine r_iald dX7_longestFrom_8 as_15 (by unfold vp_in; decide) ?_
  refine r_aload_n dX7_longestFrom_9 rfl ?_
  refine r_getI dX7_longestFrom_10 fs_22_5 fk_X7_55 ?_
  refine r_iload_n dX7_longestFrom_13 rfl ?_
  refine r_isub dX7_longestFrom_14 ?_
  refine q_mmin dX7_longestFrom_15 mk_X7_100 (by decide) (Nat.le_of_ble_eq_true rfl) ?_
  exact r_iret dX7_longestFrom_18 rfl h
theorem t_X7_weighPieces_0  
    (K1 : Fw l D ad kA mX7_weighPieces 2 [some (.ref (ad 22)), some (.int 0), none, none, none, none, none] [] M Q) : Fw l D ad kA mX7_weighPieces 0 [some (.ref (ad 22)), none, none, none, none, none, none] [] M Q := by
  refine r_iconst (v := 0) dX7_weighPieces_0 kI_0 ?_
  refine q_istore_n (lo' := [some (.ref (ad 22)), some (.int 0), none, none, none, none, none]) dX7_weighPieces_1 (by decide) rfl ?_
  exact K1
theorem t_X7_weighPieces_2 {x1 : Int32} 
    (K1 : ((gI M 22 5) ≤ x1) → Q (.returned none) (sI M 22 11 1))
    (K2 : (¬ ((gI M 22 5) ≤ x1)) → (¬ ((gI M 22 11) = 0)) → Q (.returned none) (sI M 22 11 1))
    (K3 : (¬ ((gI M 22 5) ≤ x1)) → ((gI M 22 11) = 0) → Fw l D ad kA mX7_weighPieces 22 [some (.ref (ad 22)), some (.int x1), some (.long 0), none, some (.int 1), none, none] [] M Q) : Fw l D ad kA mX7_weighPieces 2 [some (.ref (ad 22)), some (.int x1), none, none, none, none, none] [] M Q := by
  refine r_iload_n dX7_weighPieces_2 rfl ?_
  refine r_aload_n dX7_weighPieces_3 rfl ?_
  refine r_getI dX7_weighPieces_4 fs_22_5 fk_X7_55 ?_
  refine r_icmp_ge (tgt := 122) dX7_weighPieces_7 (by decide) (fun c1 => ?_) (fun c1 => ?_)
  · skip
    refine r_aload_n dX7_weighPieces_122 rfl ?_
    refine r_iconst (v := 1) dX7_weighPieces_123 kI_1 ?_
    refine r_putZ dX7_weighPieces_124 fs_22_11 fk_X7_62 fp_X7_11 (Or.inr rfl) ?_
    exact r_vret dX7_weighPieces_127 rfl (K1 c1)
  · skip
    refine r_aload_n dX7_weighPieces_10 rfl ?_
    refine r_getI dX7_weighPieces_11 fs_22_11 fk_X7_62 ?_
    refine r_if_ne (tgt := 122) dX7_weighPieces_14 (by decide) (fun c2 => ?_) (fun c2 => ?_)
    · skip
      refine r_aload_n dX7_weighPieces_122 rfl ?_
      refine r_iconst (v := 1) dX7_weighPieces_123 kI_1 ?_
      refine r_putZ dX7_weighPieces_124 fs_22_11 fk_X7_62 fp_X7_11 (Or.inr rfl) ?_
      exact r_vret dX7_weighPieces_127 rfl (K2 c1 c2)
    · skip
      refine r_lconst (v := 0) dX7_weighPieces_17 kL_0 ?_
      refine q_lstore_n (lo' := [some (.ref (ad 22)), some (.int x1), some (.long 0), none, none, none, none]) dX7_weighPieces_18 (by decide) rfl ?_
      refine r_iconst (v := 1) dX7_weighPieces_19 kI_1 ?_
      refine q_istore (lo' := [some (.ref (ad 22)), some (.int x1), some (.long 0), none, some (.int 1), none, none]) dX7_weighPieces_20 (by decide) rfl ?_
      exact (K3 c1 c2)
theorem t_X7_weighPieces_22 {x1 : Int32} {z2 : Int64} {x4 : Int32} 
    (g1 : (¬ ((v_X7_longestFrom M x1) < x4)) → vp_in ((x1 + x4) - 1) 48)
    (g2 : (¬ ((v_X7_longestFrom M x1) < x4)) → vp_in x1 48)
    (g3 : (¬ ((v_X7_longestFrom M x1) < x4)) → ((if (gI M 15 (2 : Int32).toNatClampNeg) < ((gI M 24 ((x1 + x4) - 1).toNatClampNeg) - (gI M 24 x1.toNatClampNeg)) then 0 else 1 : Int32) = 0) → vp_in ((x1 * 13) + x4) 624)
    (K1 : ((v_X7_longestFrom M x1) < x4) → Fw l D ad kA mX7_weighPieces 2 [some (.ref (ad 22)), some (.int (x1 + 1)), none, none, none, none, none] [] M Q)
    (K2 : (¬ ((v_X7_longestFrom M x1) < x4)) → ((if (gI M 15 (2 : Int32).toNatClampNeg) < ((gI M 24 ((x1 + x4) - 1).toNatClampNeg) - (gI M 24 x1.toNatClampNeg)) then 0 else 1 : Int32) = 0) → Fw l D ad kA mX7_weighPieces 22 [some (.ref (ad 22)), some (.int x1), some (.long (z2 ||| (lshl 1 (gI M 24 ((x1 + x4) - 1).toNatClampNeg)))), none, some (.int (x4 + 1)), none, none] [] (sI M 26 ((x1 * 13) + x4).toNatClampNeg 16777216) Q)
    (K3 : (¬ ((v_X7_longestFrom M x1) < x4)) → (¬ ((if (gI M 15 (2 : Int32).toNatClampNeg) < ((gI M 24 ((x1 + x4) - 1).toNatClampNeg) - (gI M 24 x1.toNatClampNeg)) then 0 else 1 : Int32) = 0)) → Cal l D ad kA mX3_takesOf [.ref (ad 17), .long (z2 ||| (lshl 1 (gI M 24 ((x1 + x4) - 1).toNatClampNeg)))] M (fun oc M2 => ∃ r : Int32, oc = .returned (some (.int r)) ∧ Fw l D ad kA mX7_weighPieces 104 [some (.ref (ad 22)), some (.int x1), some (.long (z2 ||| (lshl 1 (gI M 24 ((x1 + x4) - 1).toNatClampNeg)))), none, some (.int x4), none, none] [.int r, .int ((x1 * 13) + x4), .ref (ad 26)] M2 Q)) : Fw l D ad kA mX7_weighPieces 22 [some (.ref (ad 22)), some (.int x1), some (.long z2), none, some (.int x4), none, none] [] M Q := by
  refine r_iload dX7_weighPieces_22 rfl ?_
  refine r_aload_n dX7_weighPieces_24 rfl ?_
  refine r_iload_n dX7_weighPieces_25 rfl ?_
  refine r_callV (x := 22) (As := [.int x1]) (rest := [.int x4]) dX7_weighPieces_26 mk_X7_87 mv_X7_longestFrom rm_X7_weighPieces_X7_longestFrom rfl rfl (by decide +kernel) (Nat.le_of_ble_eq_true rfl) (ct_X7_longestFrom (⟨_, rfl, ?_⟩))
  refine r_icmp_gt (tgt := 116) dX7_weighPieces_29 (by decide) (fun c1 => ?_) (fun c1 => ?_)
  · skip
    refine q_iinc (v := x1 + 1) (lo' := [some (.ref (ad 22)), some (.int (x1 + 1)), some (.long z2), none, some (.int x4), none, none]) dX7_weighPieces_116 rfl (congrArg (fun q => x1 + q) kI_1) (by decide) rfl ?_
    refine r_goto (tgt := 2) dX7_weighPieces_119 (by decide) ?_
    exact q_weak (lo' := [some (.ref (ad 22)), some (.int (x1 + 1)), none, none, none, none, none]) ⟨rfl, rfl, trivial⟩ (K1 c1)
  · skip
    refine r_aload_n dX7_weighPieces_32 rfl ?_
    refine r_getR dX7_weighPieces_33 fs_22_8 fk_X7_17 ?_
    refine r_iload_n dX7_weighPieces_36 rfl ?_
    refine r_iload dX7_weighPieces_37 rfl ?_
    refine r_iadd dX7_weighPieces_39 ?_
    refine r_iconst (v := 1) dX7_weighPieces_40 kI_1 ?_
    refine r_isub dX7_weighPieces_41 ?_
    refine r_iald dX7_weighPieces_42 as_24 (g1 c1) ?_
    refine q_istore (lo' := [some (.ref (ad 22)), some (.int x1), some (.long z2), none, some (.int x4), some (.int (gI M 24 ((x1 + x4) - 1).toNatClampNeg)), none]) dX7_weighPieces_43 (by decide) rfl ?_
    refine r_lload_n dX7_weighPieces_45 rfl ?_
    refine r_lconst (v := 1) dX7_weighPieces_46 kL_1 ?_
    refine r_iload dX7_weighPieces_47 rfl ?_
    refine q_lshl dX7_weighPieces_49 ?_
    refine r_lor dX7_weighPieces_50 ?_
    refine q_lstore_n (lo' := [some (.ref (ad 22)), some (.int x1), some (.long (z2 ||| (lshl 1 (gI M 24 ((x1 + x4) - 1).toNatClampNeg)))), none, some (.int x4), some (.int (gI M 24 ((x1 + x4) - 1).toNatClampNeg)), none]) dX7_weighPieces_51 (by decide) rfl ?_
    refine r_iload dX7_weighPieces_52 rfl ?_
    refine r_aload_n dX7_weighPieces_54 rfl ?_
    refine r_getR dX7_weighPieces_55 fs_22_8 fk_X7_17 ?_
    refine r_iload_n dX7_weighPieces_58 rfl ?_
    refine r_iald dX7_weighPieces_59 as_24 (g2 c1) ?_
    refine r_isub dX7_weighPieces_60 ?_
    refine r_aload_n dX7_weighPieces_61 rfl ?_
    refine r_getR dX7_weighPieces_62 fs_22_1 fk_X7_33 ?_
    refine r_getR dX7_weighPieces_65 fs_14_0 fk_X7_91 ?_
    refine r_iconst (v := 2) dX7_weighPieces_68 kI_2 ?_
    refine r_iald dX7_weighPieces_69 as_15 (by unfold vp_in; decide) ?_
    suffices hJ1 : Fw l D ad kA mX7_weighPieces 78 [some (.ref (ad 22)), some (.int x1), some (.long (z2 ||| (lshl 1 (gI M 24 ((x1 + x4) - 1).toNatClampNeg)))), none, some (.int x4), none, none] [.int (if (gI M 15 (2 : Int32).toNatClampNeg) < ((gI M 24 ((x1 + x4) - 1).toNatClampNeg) - (gI M 24 x1.toNatClampNeg)) then 0 else 1)] M Q by
      refine r_icmp_gt (tgt := 77) dX7_weighPieces_70 (by decide) (fun c2 => ?_) (fun c2 => ?_)
      · skip
        refine r_iconst (v := 0) dX7_weighPieces_77 kI_0 ?_
        exact q_weak (lo' := [some (.ref (ad 22)), some (.int x1), some (.long (z2 ||| (lshl 1 (gI M 24 ((x1 + x4) - 1).toNatClampNeg)))), none, some (.int x4), none, none]) ⟨rfl, rfl, rfl, rfl, trivial⟩ (by have h9 := hJ1; simp only [if_pos c2] at h9; first | exact h9 | (simp only [if_pos c2]; exact h9))
      · skip
        refine r_iconst (v := 1) dX7_weighPieces_73 kI_1 ?_
        refine r_goto (tgt := 78) dX7_weighPieces_74 (by decide) ?_
        exact q_weak (lo' := [some (.ref (ad 22)), some (.int x1), some (.long (z2 ||| (lshl 1 (gI M 24 ((x1 + x4) - 1).toNatClampNeg)))), none, some (.int x4), none, none]) ⟨rfl, rfl, rfl, rfl, trivial⟩ (by have h9 := hJ1; simp only [if_neg c2] at h9; first | exact h9 | (simp only [if_neg c2]; exact h9))
    refine q_istore (lo' := [some (.ref (ad 22)), some (.int x1), some (.long (z2 ||| (lshl 1 (gI M 24 ((x1 + x4) - 1).toNatClampNeg)))), none, some (.int x4), none, some (.int (if (gI M 15 (2 : Int32).toNatClampNeg) < ((gI M 24 ((x1 + x4) - 1).toNatClampNeg) - (gI M 24 x1.toNatClampNeg)) then 0 else 1))]) dX7_weighPieces_78 (by decide) rfl ?_
    refine r_aload_n dX7_weighPieces_80 rfl ?_
    refine r_getR dX7_weighPieces_81 fs_22_10 fk_X7_23 ?_
    refine r_iload_n dX7_weighPieces_84 rfl ?_
    refine r_bipush (v := 13) dX7_weighPieces_85 kB_13 ?_
    refine r_imul dX7_weighPieces_87 ?_
    refine r_iload dX7_weighPieces_88 rfl ?_
    refine r_iadd dX7_weighPieces_90 ?_
    refine r_iload dX7_weighPieces_91 rfl ?_
    refine r_if_eq (tgt := 107) dX7_weighPieces_93 (by decide) (fun c3 => ?_) (fun c3 => ?_)
    · skip
      refine r_ldc (v := 16777216) dX7_weighPieces_107 co_X7_82 ?_
      refine r_iast dX7_weighPieces_109 as_26 (g3 c1 c3) ?_
      refine q_iinc (v := x4 + 1) (lo' := [some (.ref (ad 22)), some (.int x1), some (.long (z2 ||| (lshl 1 (gI M 24 ((x1 + x4) - 1).toNatClampNeg)))), none, some (.int (x4 + 1)), none, some (.int (if (gI M 15 (2 : Int32).toNatClampNeg) < ((gI M 24 ((x1 + x4) - 1).toNatClampNeg) - (gI M 24 x1.toNatClampNeg)) then 0 else 1))]) dX7_weighPieces_110 rfl (congrArg (fun q => x4 + q) kI_1) (by decide) rfl ?_
      refine r_goto (tgt := 22) dX7_weighPieces_113 (by decide) ?_
      exact q_weak (lo' := [some (.ref (ad 22)), some (.int x1), some (.long (z2 ||| (lshl 1 (gI M 24 ((x1 + x4) - 1).toNatClampNeg)))), none, some (.int (x4 + 1)), none, none]) ⟨rfl, rfl, rfl, rfl, trivial⟩ (K2 c1 c3)
    · skip
      refine r_aload_n dX7_weighPieces_96 rfl ?_
      refine r_getR dX7_weighPieces_97 fs_22_2 fk_X7_37 ?_
      refine r_lload_n dX7_weighPieces_100 rfl ?_
      exact r_callV (x := 17) (As := [.long (z2 ||| (lshl 1 (gI M 24 ((x1 + x4) - 1).toNatClampNeg)))]) (rest := [.int ((x1 * 13) + x4), .ref (ad 26)]) dX7_weighPieces_101 mk_X7_94 mv_X3_takesOf rm_X7_weighPieces_X3_takesOf rfl rfl (by decide +kernel) (Nat.le_of_ble_eq_true rfl) (cal_i (lo' := [some (.ref (ad 22)), some (.int x1), some (.long (z2 ||| (lshl 1 (gI M 24 ((x1 + x4) - 1).toNatClampNeg)))), none, some (.int x4), none, none]) ⟨rfl, rfl, rfl, rfl, trivial⟩ (K3 c1 c3))
theorem t_X7_weighPieces_104 {x1 : Int32} {z2 : Int64} {x4 : Int32} {s3 : Int32} {s2 : Int32} 
    (g1 : vp_in s2 624)
    (K1 : Fw l D ad kA mX7_weighPieces 22 [some (.ref (ad 22)), some (.int x1), some (.long z2), none, some (.int (x4 + 1)), none, none] [] (sI M 26 s2.toNatClampNeg s3) Q) : Fw l D ad kA mX7_weighPieces 104 [some (.ref (ad 22)), some (.int x1), some (.long z2), none, some (.int x4), none, none] [.int s3, .int s2, .ref (ad 26)] M Q := by
  refine r_goto (tgt := 109) dX7_weighPieces_104 (by decide) ?_
  refine r_iast dX7_weighPieces_109 as_26 g1 ?_
  refine q_iinc (v := x4 + 1) (lo' := [some (.ref (ad 22)), some (.int x1), some (.long z2), none, some (.int (x4 + 1)), none, none]) dX7_weighPieces_110 rfl (congrArg (fun q => x4 + q) kI_1) (by decide) rfl ?_
  refine r_goto (tgt := 22) dX7_weighPieces_113 (by decide) ?_
  exact K1
theorem en_X7_weighPieces  (K : Fw l D ad kA mX7_weighPieces 0 [some (.ref (ad 22)), none, none, none, none, none, none] [] M Q) : Cal l D ad kA mX7_weighPieces [.ref (ad 22)] M Q := Cal.of (by decide) rfl rfl (Nat.le_of_ble_eq_true rfl) K
theorem t_X7_countChanges_0 {x1 : Int32} {x2 : Int32} {x3 : Int32} 
    (K1 : Fw l D ad kA mX7_countChanges 6 [some (.ref (ad 22)), some (.int x1), some (.int x2), some (.int x3), some (.int 0), some (.int x1)] [] M Q) : Fw l D ad kA mX7_countChanges 0 [some (.ref (ad 22)), some (.int x1), some (.int x2), some (.int x3), none, none] [] M Q := by
  refine r_iconst (v := 0) dX7_countChanges_0 kI_0 ?_
  refine q_istore (lo' := [some (.ref (ad 22)), some (.int x1), some (.int x2), some (.int x3), some (.int 0), none]) dX7_countChanges_1 (by decide) rfl ?_
  refine r_iload_n dX7_countChanges_3 rfl ?_
  refine q_istore (lo' := [some (.ref (ad 22)), some (.int x1), some (.int x2), some (.int x3), some (.int 0), some (.int x1)]) dX7_countChanges_4 (by decide) rfl ?_
  exact K1
theorem t_X7_countChanges_6 {x1 : Int32} {x2 : Int32} {x3 : Int32} {x4 : Int32} {x5 : Int32} 
    (g1 : (¬ ((x1 + x2) ≤ x5)) → vp_in x5 48)
    (g2 : (¬ ((x1 + x2) ≤ x5)) → vp_in (gI M 24 x5.toNatClampNeg) 48)
    (K1 : ((x1 + x2) ≤ x5) → Q (.returned (some (.int x4))) M)
    (K2 : (¬ ((x1 + x2) ≤ x5)) → Fw l D ad kA mX7_countChanges 6 [some (.ref (ad 22)), some (.int x1), some (.int x2), some (.int x3), some (.int (x4 + (if (gI M 23 (gI M 24 x5.toNatClampNeg).toNatClampNeg) = x3 then 0 else 1))), some (.int (x5 + 1))] [] M Q) : Fw l D ad kA mX7_countChanges 6 [some (.ref (ad 22)), some (.int x1), some (.int x2), some (.int x3), some (.int x4), some (.int x5)] [] M Q := by
  refine r_iload dX7_countChanges_6 rfl ?_
  refine r_iload_n dX7_countChanges_8 rfl ?_
  refine r_iload_n dX7_countChanges_9 rfl ?_
  refine r_iadd dX7_countChanges_10 ?_
  refine r_icmp_ge (tgt := 46) dX7_countChanges_11 (by decide) (fun c1 => ?_) (fun c1 => ?_)
  · skip
    refine r_iload dX7_countChanges_46 rfl ?_
    exact r_iret dX7_countChanges_48 rfl (K1 c1)
  · skip
    refine r_iload dX7_countChanges_14 rfl ?_
    refine r_aload_n dX7_countChanges_16 rfl ?_
    refine r_getR dX7_countChanges_17 fs_22_3 fk_X7_11 ?_
    refine r_aload_n dX7_countChanges_20 rfl ?_
    refine r_getR dX7_countChanges_21 fs_22_8 fk_X7_17 ?_
    refine r_iload dX7_countChanges_24 rfl ?_
    refine r_iald dX7_countChanges_26 as_24 (g1 c1) ?_
    refine r_iald dX7_countChanges_27 as_23 (g2 c1) ?_
    refine r_iload_n dX7_countChanges_28 rfl ?_
    suffices hJ1 : Fw l D ad kA mX7_countChanges 37 [some (.ref (ad 22)), some (.int x1), some (.int x2), some (.int x3), none, some (.int x5)] [.int (if (gI M 23 (gI M 24 x5.toNatClampNeg).toNatClampNeg) = x3 then 0 else 1), .int x4] M Q by
      refine r_icmp_ne (tgt := 36) dX7_countChanges_29 (by decide) (fun c2 => ?_) (fun c2 => ?_)
      · skip
        refine r_iconst (v := 1) dX7_countChanges_36 kI_1 ?_
        exact q_weak (lo' := [some (.ref (ad 22)), some (.int x1), some (.int x2), some (.int x3), none, some (.int x5)]) ⟨rfl, rfl, rfl, rfl, rfl, trivial⟩ (by have h9 := hJ1; simp only [if_neg c2] at h9; first | exact h9 | (simp only [if_neg c2]; exact h9))
      · skip
        refine r_iconst (v := 0) dX7_countChanges_32 kI_0 ?_
        refine r_goto (tgt := 37) dX7_countChanges_33 (by decide) ?_
        exact q_weak (lo' := [some (.ref (ad 22)), some (.int x1), some (.int x2), some (.int x3), none, some (.int x5)]) ⟨rfl, rfl, rfl, rfl, rfl, trivial⟩ (by have h9 := hJ1; simp only [if_pos c2] at h9; first | exact h9 | (simp only [if_pos c2]; exact h9))
    refine r_iadd dX7_countChanges_37 ?_
    refine q_istore (lo' := [some (.ref (ad 22)), some (.int x1), some (.int x2), some (.int x3), some (.int (x4 + (if (gI M 23 (gI M 24 x5.toNatClampNeg).toNatClampNeg) = x3 then 0 else 1))), some (.int x5)]) dX7_countChanges_38 (by decide) rfl ?_
    refine q_iinc (v := x5 + 1) (lo' := [some (.ref (ad 22)), some (.int x1), some (.int x2), some (.int x3), some (.int (x4 + (if (gI M 23 (gI M 24 x5.toNatClampNeg).toNatClampNeg) = x3 then 0 else 1))), some (.int (x5 + 1))]) dX7_countChanges_40 rfl (congrArg (fun q => x5 + q) kI_1) (by decide) rfl ?_
    refine r_goto (tgt := 6) dX7_countChanges_43 (by decide) ?_
    exact (K2 c1)
theorem en_X7_countChanges {x1 : Int32} {x2 : Int32} {x3 : Int32} (K : Fw l D ad kA mX7_countChanges 0 [some (.ref (ad 22)), some (.int x1), some (.int x2), some (.int x3), none, none] [] M Q) : Cal l D ad kA mX7_countChanges [.ref (ad 22), .int x1, .int x2, .int x3] M Q := Cal.of (by decide) rfl rfl (Nat.le_of_ble_eq_true rfl) K
theorem t_X7_priceWith_0 {x1 : Int32} {x2 : Int32} {x3 : Int32} {x4 : Int32} 
    (g1 : vp_in ((((x1 + 1) * 49) + x2) + x3) 637)
    (g2 : (¬ (x3 = 0)) → ((gI M 27 ((((x1 + 1) * 49) + x2) + x3).toNatClampNeg) < 16777216) → vp_in ((x2 * 13) + x3) 624)
    (g3 : (¬ (x3 = 0)) → ((gI M 27 ((((x1 + 1) * 49) + x2) + x3).toNatClampNeg) < 16777216) → ((gI M 26 ((x2 * 13) + x3).toNatClampNeg) < 16777216) → (¬ (x4 = 0)) → vp_in x1 12)
    (K1 : (x3 = 0) → Q (.returned (some (.int (gI M 27 ((((x1 + 1) * 49) + x2) + x3).toNatClampNeg)))) M)
    (K2 : (¬ (x3 = 0)) → ((gI M 27 ((((x1 + 1) * 49) + x2) + x3).toNatClampNeg) < 16777216) → ((gI M 26 ((x2 * 13) + x3).toNatClampNeg) < 16777216) → (x4 = 0) → Q (.returned (some (.int ((((gI M 27 ((((x1 + 1) * 49) + x2) + x3).toNatClampNeg) + (0 * 100000)) + ((gI M 26 ((x2 * 13) + x3).toNatClampNeg) * 100)) + 1)))) M)
    (K3 : (¬ (x3 = 0)) → ((gI M 27 ((((x1 + 1) * 49) + x2) + x3).toNatClampNeg) < 16777216) → ((gI M 26 ((x2 * 13) + x3).toNatClampNeg) < 16777216) → (¬ (x4 = 0)) → Cal l D ad kA mX7_countChanges [.ref (ad 22), .int x2, .int x3, .int (gI M 25 x1.toNatClampNeg)] M (fun oc M2 => ∃ r : Int32, oc = .returned (some (.int r)) ∧ Fw l D ad kA mX7_priceWith 71 [none, none, none, none, none, some (.int (gI M 27 ((((x1 + 1) * 49) + x2) + x3).toNatClampNeg)), some (.int (gI M 26 ((x2 * 13) + x3).toNatClampNeg)), none] [.int r] M2 Q))
    (K4 : (¬ (x3 = 0)) → ((gI M 27 ((((x1 + 1) * 49) + x2) + x3).toNatClampNeg) < 16777216) → (¬ ((gI M 26 ((x2 * 13) + x3).toNatClampNeg) < 16777216)) → Q (.returned (some (.int 16777216))) M)
    (K5 : (¬ (x3 = 0)) → (¬ ((gI M 27 ((((x1 + 1) * 49) + x2) + x3).toNatClampNeg) < 16777216)) → Q (.returned (some (.int (gI M 27 ((((x1 + 1) * 49) + x2) + x3).toNatClampNeg)))) M) : Fw l D ad kA mX7_priceWith 0 [some (.ref (ad 22)), some (.int x1), some (.int x2), some (.int x3), some (.int x4), none, none, none] [] M Q := by
  refine r_aload_n dX7_priceWith_0 rfl ?_
  refine r_getR dX7_priceWith_1 fs_22_12 fk_X7_26 ?_
  refine r_iload_n dX7_priceWith_4 rfl ?_
  refine r_iconst (v := 1) dX7_priceWith_5 kI_1 ?_
  refine r_iadd dX7_priceWith_6 ?_
  refine r_bipush (v := 49) dX7_priceWith_7 kB_49 ?_
  refine r_imul dX7_priceWith_9 ?_
  refine r_iload_n dX7_priceWith_10 rfl ?_
  refine r_iadd dX7_priceWith_11 ?_
  refine r_iload_n dX7_priceWith_12 rfl ?_
  refine r_iadd dX7_priceWith_13 ?_
  refine r_iald dX7_priceWith_14 as_27 g1 ?_
  refine q_istore (lo' := [some (.ref (ad 22)), some (.int x1), some (.int x2), some (.int x3), some (.int x4), some (.int (gI M 27 ((((x1 + 1) * 49) + x2) + x3).toNatClampNeg)), none, none]) dX7_priceWith_15 (by decide) rfl ?_
  refine r_iload_n dX7_priceWith_17 rfl ?_
  refine r_if_eq (tgt := 28) dX7_priceWith_18 (by decide) (fun c1 => ?_) (fun c1 => ?_)
  · skip
    refine r_iload dX7_priceWith_28 rfl ?_
    exact r_iret dX7_priceWith_30 rfl (K1 c1)
  · skip
    refine r_iload dX7_priceWith_21 rfl ?_
    refine r_ldc (v := 16777216) dX7_priceWith_23 co_X7_82 ?_
    refine r_icmp_lt (tgt := 31) dX7_priceWith_25 (by decide) (fun c2 => ?_) (fun c2 => ?_)
    · skip
      refine r_aload_n dX7_priceWith_31 rfl ?_
      refine r_getR dX7_priceWith_32 fs_22_10 fk_X7_23 ?_
      refine r_iload_n dX7_priceWith_35 rfl ?_
      refine r_bipush (v := 13) dX7_priceWith_36 kB_13 ?_
      refine r_imul dX7_priceWith_38 ?_
      refine r_iload_n dX7_priceWith_39 rfl ?_
      refine r_iadd dX7_priceWith_40 ?_
      refine r_iald dX7_priceWith_41 as_26 (g2 c1 c2) ?_
      refine q_istore (lo' := [some (.ref (ad 22)), some (.int x1), some (.int x2), some (.int x3), some (.int x4), some (.int (gI M 27 ((((x1 + 1) * 49) + x2) + x3).toNatClampNeg)), some (.int (gI M 26 ((x2 * 13) + x3).toNatClampNeg)), none]) dX7_priceWith_42 (by decide) rfl ?_
      refine r_iload dX7_priceWith_44 rfl ?_
      refine r_ldc (v := 16777216) dX7_priceWith_46 co_X7_82 ?_
      refine r_icmp_lt (tgt := 54) dX7_priceWith_48 (by decide) (fun c3 => ?_) (fun c3 => ?_)
      · skip
        refine r_iload dX7_priceWith_54 rfl ?_
        refine r_if_eq (tgt := 74) dX7_priceWith_56 (by decide) (fun c4 => ?_) (fun c4 => ?_)
        · skip
          refine r_iconst (v := 0) dX7_priceWith_74 kI_0 ?_
          refine q_istore (lo' := [some (.ref (ad 22)), some (.int x1), some (.int x2), some (.int x3), some (.int x4), some (.int (gI M 27 ((((x1 + 1) * 49) + x2) + x3).toNatClampNeg)), some (.int (gI M 26 ((x2 * 13) + x3).toNatClampNeg)), some (.int 0)]) dX7_priceWith_75 (by decide) rfl ?_
          refine r_iload dX7_priceWith_77 rfl ?_
          refine r_iload dX7_priceWith_79 rfl ?_
          refine r_ldc (v := 100000) dX7_priceWith_81 co_X7_41 ?_
          refine r_imul dX7_priceWith_83 ?_
          refine r_iadd dX7_priceWith_84 ?_
          refine r_iload dX7_priceWith_85 rfl ?_
          refine r_bipush (v := 100) dX7_priceWith_87 kB_100 ?_
          refine r_imul dX7_priceWith_89 ?_
          refine r_iadd dX7_priceWith_90 ?_
          refine r_iconst (v := 1) dX7_priceWith_91 kI_1 ?_
          refine r_iadd dX7_priceWith_92 ?_
          exact r_iret dX7_priceWith_93 rfl (K2 c1 c2 c3 c4)
        · skip
          refine r_aload_n dX7_priceWith_59 rfl ?_
          refine r_iload_n dX7_priceWith_60 rfl ?_
          refine r_iload_n dX7_priceWith_61 rfl ?_
          refine r_aload_n dX7_priceWith_62 rfl ?_
          refine r_getR dX7_priceWith_63 fs_22_9 fk_X7_20 ?_
          refine r_iload_n dX7_priceWith_66 rfl ?_
          refine r_iald dX7_priceWith_67 as_25 (g3 c1 c2 c3 c4) ?_
          exact r_callV (x := 22) (As := [.int x2, .int x3, .int (gI M 25 x1.toNatClampNeg)]) (rest := []) dX7_priceWith_68 mk_X7_110 mv_X7_countChanges rm_X7_priceWith_X7_countChanges rfl rfl (by decide +kernel) (Nat.le_of_ble_eq_true rfl) (cal_i (lo' := [none, none, none, none, none, some (.int (gI M 27 ((((x1 + 1) * 49) + x2) + x3).toNatClampNeg)), some (.int (gI M 26 ((x2 * 13) + x3).toNatClampNeg)), none]) ⟨rfl, rfl, trivial⟩ (K3 c1 c2 c3 c4))
      · skip
        refine r_ldc (v := 16777216) dX7_priceWith_51 co_X7_82 ?_
        exact r_iret dX7_priceWith_53 rfl (K4 c1 c2 c3)
    · skip
      refine r_iload dX7_priceWith_28 rfl ?_
      exact r_iret dX7_priceWith_30 rfl (K5 c1 c2)
theorem t_X7_priceWith_71 {x5 : Int32} {x6 : Int32} {s1 : Int32} 
    (K1 : Q (.returned (some (.int (((x5 + (s1 * 100000)) + (x6 * 100)) + 1)))) M) : Fw l D ad kA mX7_priceWith 71 [none, none, none, none, none, some (.int x5), some (.int x6), none] [.int s1] M Q := by
  refine r_goto (tgt := 75) dX7_priceWith_71 (by decide) ?_
  refine q_istore (lo' := [none, none, none, none, none, some (.int x5), some (.int x6), some (.int s1)]) dX7_priceWith_75 (by decide) rfl ?_
  refine r_iload dX7_priceWith_77 rfl ?_
  refine r_iload dX7_priceWith_79 rfl ?_
  refine r_ldc (v := 100000) dX7_priceWith_81 co_X7_41 ?_
  refine r_imul dX7_priceWith_83 ?_
  refine r_iadd dX7_priceWith_84 ?_
  refine r_iload dX7_priceWith_85 rfl ?_
  refine r_bipush (v := 100) dX7_priceWith_87 kB_100 ?_
  refine r_imul dX7_priceWith_89 ?_
  refine r_iadd dX7_priceWith_90 ?_
  refine r_iconst (v := 1) dX7_priceWith_91 kI_1 ?_
  refine r_iadd dX7_priceWith_92 ?_
  exact r_iret dX7_priceWith_93 rfl K1
theorem en_X7_priceWith {x1 : Int32} {x2 : Int32} {x3 : Int32} {x4 : Int32} (K : Fw l D ad kA mX7_priceWith 0 [some (.ref (ad 22)), some (.int x1), some (.int x2), some (.int x3), some (.int x4), none, none, none] [] M Q) : Cal l D ad kA mX7_priceWith [.ref (ad 22), .int x1, .int x2, .int x3, .int x4] M Q := Cal.of (by decide) rfl rfl (Nat.le_of_ble_eq_true rfl) K
theorem t_X7_leastFrom_0 {x1 : Int32} {x2 : Int32} {x3 : Int32} 
    (K1 : (x1 < (gI M 22 6)) → Fw l D ad kA mX7_leastFrom 30 [some (.ref (ad 22)), some (.int x1), some (.int x2), some (.int x3), some (.int 16777216), some (.int 0)] [] M Q)
    (K2 : (¬ (x1 < (gI M 22 6))) → Q (.returned (some (.int (if x2 < (gI M 22 5) then 16777216 else 0)))) M) : Fw l D ad kA mX7_leastFrom 0 [some (.ref (ad 22)), some (.int x1), some (.int x2), some (.int x3), none, none] [] M Q := by
  refine r_iload_n dX7_leastFrom_0 rfl ?_
  refine r_aload_n dX7_leastFrom_1 rfl ?_
  refine r_getI dX7_leastFrom_2 fs_22_6 fk_X7_72 ?_
  refine r_icmp_lt (tgt := 23) dX7_leastFrom_5 (by decide) (fun c1 => ?_) (fun c1 => ?_)
  · skip
    refine r_ldc (v := 16777216) dX7_leastFrom_23 co_X7_82 ?_
    refine q_istore (lo' := [some (.ref (ad 22)), some (.int x1), some (.int x2), some (.int x3), some (.int 16777216), none]) dX7_leastFrom_25 (by decide) rfl ?_
    refine r_iconst (v := 0) dX7_leastFrom_27 kI_0 ?_
    refine q_istore (lo' := [some (.ref (ad 22)), some (.int x1), some (.int x2), some (.int x3), some (.int 16777216), some (.int 0)]) dX7_leastFrom_28 (by decide) rfl ?_
    exact (K1 c1)
  · skip
    refine r_iload_n dX7_leastFrom_8 rfl ?_
    refine r_aload_n dX7_leastFrom_9 rfl ?_
    refine r_getI dX7_leastFrom_10 fs_22_5 fk_X7_55 ?_
    suffices hJ1 : Fw l D ad kA mX7_leastFrom 22 [none, none, none, none, none, none] [.int (if x2 < (gI M 22 5) then 16777216 else 0)] M Q by
      refine r_icmp_lt (tgt := 20) dX7_leastFrom_13 (by decide) (fun c2 => ?_) (fun c2 => ?_)
      · skip
        refine r_ldc (v := 16777216) dX7_leastFrom_20 co_X7_82 ?_
        exact q_weak (lo' := [none, none, none, none, none, none]) trivial (by have h9 := hJ1; simp only [if_pos c2] at h9; first | exact h9 | (simp only [if_pos c2]; exact h9))
      · skip
        refine r_iconst (v := 0) dX7_leastFrom_16 kI_0 ?_
        refine r_goto (tgt := 22) dX7_leastFrom_17 (by decide) ?_
        exact q_weak (lo' := [none, none, none, none, none, none]) trivial (by have h9 := hJ1; simp only [if_neg c2] at h9; first | exact h9 | (simp only [if_neg c2]; exact h9))
    exact r_iret dX7_leastFrom_22 rfl (K2 c1)
theorem t_X7_leastFrom_30 {x1 : Int32} {x2 : Int32} {x3 : Int32} {x4 : Int32} {x5 : Int32} 
    (K1 : ((v_X7_longestFrom M x2) < x5) → Q (.returned (some (.int x4))) M)
    (K2 : (¬ ((v_X7_longestFrom M x2) < x5)) → Cal l D ad kA mX7_priceWith [.ref (ad 22), .int x1, .int x2, .int x5, .int x3] M (fun oc M2 => ∃ r : Int32, oc = .returned (some (.int r)) ∧ Fw l D ad kA mX7_leastFrom 51 [some (.ref (ad 22)), some (.int x1), some (.int x2), some (.int x3), none, some (.int x5)] [.int r, .int x4] M2 Q)) : Fw l D ad kA mX7_leastFrom 30 [some (.ref (ad 22)), some (.int x1), some (.int x2), some (.int x3), some (.int x4), some (.int x5)] [] M Q := by
  refine r_iload dX7_leastFrom_30 rfl ?_
  refine r_aload_n dX7_leastFrom_32 rfl ?_
  refine r_iload_n dX7_leastFrom_33 rfl ?_
  refine r_callV (x := 22) (As := [.int x2]) (rest := [.int x5]) dX7_leastFrom_34 mk_X7_87 mv_X7_longestFrom rm_X7_leastFrom_X7_longestFrom rfl rfl (by decide +kernel) (Nat.le_of_ble_eq_true rfl) (ct_X7_longestFrom (⟨_, rfl, ?_⟩))
  refine r_icmp_gt (tgt := 62) dX7_leastFrom_37 (by decide) (fun c1 => ?_) (fun c1 => ?_)
  · skip
    refine r_iload dX7_leastFrom_62 rfl ?_
    exact r_iret dX7_leastFrom_64 rfl (K1 c1)
  · skip
    refine r_iload dX7_leastFrom_40 rfl ?_
    refine r_aload_n dX7_leastFrom_42 rfl ?_
    refine r_iload_n dX7_leastFrom_43 rfl ?_
    refine r_iload_n dX7_leastFrom_44 rfl ?_
    refine r_iload dX7_leastFrom_45 rfl ?_
    refine r_iload_n dX7_leastFrom_47 rfl ?_
    exact r_callV (x := 22) (As := [.int x1, .int x2, .int x5, .int x3]) (rest := [.int x4]) dX7_leastFrom_48 mk_X7_106 mv_X7_priceWith rm_X7_leastFrom_X7_priceWith rfl rfl (by decide +kernel) (Nat.le_of_ble_eq_true rfl) (cal_i (lo' := [some (.ref (ad 22)), some (.int x1), some (.int x2), some (.int x3), none, some (.int x5)]) ⟨rfl, rfl, rfl, rfl, rfl, trivial⟩ (K2 c1))
theorem t_X7_leastFrom_51 {x1 : Int32} {x2 : Int32} {x3 : Int32} {x5 : Int32} {s2 : Int32} {s1 : Int32} 
    (K1 : Fw l D ad kA mX7_leastFrom 30 [some (.ref (ad 22)), some (.int x1), some (.int x2), some (.int x3), some (.int (imin s1 s2)), some (.int (x5 + 1))] [] M Q) : Fw l D ad kA mX7_leastFrom 51 [some (.ref (ad 22)), some (.int x1), some (.int x2), some (.int x3), none, some (.int x5)] [.int s2, .int s1] M Q := by
  refine q_mmin dX7_leastFrom_51 mk_X7_100 (by decide) (Nat.le_of_ble_eq_true rfl) ?_
  refine q_istore (lo' := [some (.ref (ad 22)), some (.int x1), some (.int x2), some (.int x3), some (.int (imin s1 s2)), some (.int x5)]) dX7_leastFrom_54 (by decide) rfl ?_
  refine q_iinc (v := x5 + 1) (lo' := [some (.ref (ad 22)), some (.int x1), some (.int x2), some (.int x3), some (.int (imin s1 s2)), some (.int (x5 + 1))]) dX7_leastFrom_56 rfl (congrArg (fun q => x5 + q) kI_1) (by decide) rfl ?_
  refine r_goto (tgt := 30) dX7_leastFrom_59 (by decide) ?_
  exact K1
theorem en_X7_leastFrom {x1 : Int32} {x2 : Int32} {x3 : Int32} (K : Fw l D ad kA mX7_leastFrom 0 [some (.ref (ad 22)), some (.int x1), some (.int x2), some (.int x3), none, none] [] M Q) : Cal l D ad kA mX7_leastFrom [.ref (ad 22), .int x1, .int x2, .int x3] M Q := Cal.of (by decide) rfl rfl (Nat.le_of_ble_eq_true rfl) K
theorem t_X7_handOut_0 {x1 : Int32} 
    (K1 : Fw l D ad kA mX7_handOut 4 [some (.ref (ad 22)), some (.int x1), some (.int 0), some (.int 0), none, none, none] [] M Q) : Fw l D ad kA mX7_handOut 0 [some (.ref (ad 22)), some (.int x1), none, none, none, none, none] [] M Q := by
  refine r_iconst (v := 0) dX7_handOut_0 kI_0 ?_
  refine q_istore_n (lo' := [some (.ref (ad 22)), some (.int x1), some (.int 0), none, none, none, none]) dX7_handOut_1 (by decide) rfl ?_
  refine r_iconst (v := 0) dX7_handOut_2 kI_0 ?_
  refine q_istore_n (lo' := [some (.ref (ad 22)), some (.int x1), some (.int 0), some (.int 0), none, none, none]) dX7_handOut_3 (by decide) rfl ?_
  exact K1
theorem t_X7_handOut_4 {x1 : Int32} {x2 : Int32} {x3 : Int32} 
    (g1 : (¬ ((gI M 22 6) ≤ x3)) → vp_in ((x3 * 49) + x2) 637)
    (K1 : ((gI M 22 6) ≤ x3) → Q (.returned none) (sI M 22 4 1))
    (K2 : (¬ ((gI M 22 6) ≤ x3)) → Fw l D ad kA mX7_handOut 28 [some (.ref (ad 22)), some (.int x1), some (.int x2), some (.int x3), some (.int (gI M 27 ((x3 * 49) + x2).toNatClampNeg)), some (.int 0), none] [] M Q) : Fw l D ad kA mX7_handOut 4 [some (.ref (ad 22)), some (.int x1), some (.int x2), some (.int x3), none, none, none] [] M Q := by
  refine r_iload_n dX7_handOut_4 rfl ?_
  refine r_aload_n dX7_handOut_5 rfl ?_
  refine r_getI dX7_handOut_6 fs_22_6 fk_X7_72 ?_
  refine r_icmp_ge (tgt := 105) dX7_handOut_9 (by decide) (fun c1 => ?_) (fun c1 => ?_)
  · skip
    refine r_aload_n dX7_handOut_105 rfl ?_
    refine r_iconst (v := 1) dX7_handOut_106 kI_1 ?_
    refine r_putZ dX7_handOut_107 fs_22_4 fk_X7_66 fp_X7_4 (Or.inr rfl) ?_
    exact r_vret dX7_handOut_110 rfl (K1 c1)
  · skip
    refine r_aload_n dX7_handOut_12 rfl ?_
    refine r_getR dX7_handOut_13 fs_22_12 fk_X7_26 ?_
    refine r_iload_n dX7_handOut_16 rfl ?_
    refine r_bipush (v := 49) dX7_handOut_17 kB_49 ?_
    refine r_imul dX7_handOut_19 ?_
    refine r_iload_n dX7_handOut_20 rfl ?_
    refine r_iadd dX7_handOut_21 ?_
    refine r_iald dX7_handOut_22 as_27 (g1 c1) ?_
    refine q_istore (lo' := [some (.ref (ad 22)), some (.int x1), some (.int x2), some (.int x3), some (.int (gI M 27 ((x3 * 49) + x2).toNatClampNeg)), none, none]) dX7_handOut_23 (by decide) rfl ?_
    refine r_iconst (v := 0) dX7_handOut_25 kI_0 ?_
    refine q_istore (lo' := [some (.ref (ad 22)), some (.int x1), some (.int x2), some (.int x3), some (.int (gI M 27 ((x3 * 49) + x2).toNatClampNeg)), some (.int 0), none]) dX7_handOut_26 (by decide) rfl ?_
    exact (K2 c1)
theorem t_X7_handOut_28 {x1 : Int32} {x2 : Int32} {x3 : Int32} {x4 : Int32} {x5 : Int32} 
    (K1 : ((v_X7_longestFrom M x2) ≤ x5) → Fw l D ad kA mX7_handOut 61 [some (.ref (ad 22)), some (.int x1), some (.int x2), some (.int x3), none, some (.int x5), some (.int x2)] [] M Q)
    (K2 : (¬ ((v_X7_longestFrom M x2) ≤ x5)) → Cal l D ad kA mX7_priceWith [.ref (ad 22), .int x3, .int x2, .int x5, .int x1] M (fun oc M2 => ∃ r : Int32, oc = .returned (some (.int r)) ∧ Fw l D ad kA mX7_handOut 47 [some (.ref (ad 22)), some (.int x1), some (.int x2), some (.int x3), some (.int x4), some (.int x5), none] [.int r] M2 Q)) : Fw l D ad kA mX7_handOut 28 [some (.ref (ad 22)), some (.int x1), some (.int x2), some (.int x3), some (.int x4), some (.int x5), none] [] M Q := by
  refine r_iload dX7_handOut_28 rfl ?_
  refine r_aload_n dX7_handOut_30 rfl ?_
  refine r_iload_n dX7_handOut_31 rfl ?_
  refine r_callV (x := 22) (As := [.int x2]) (rest := [.int x5]) dX7_handOut_32 mk_X7_87 mv_X7_longestFrom rm_X7_handOut_X7_longestFrom rfl rfl (by decide +kernel) (Nat.le_of_ble_eq_true rfl) (ct_X7_longestFrom (⟨_, rfl, ?_⟩))
  refine r_icmp_ge (tgt := 58) dX7_handOut_35 (by decide) (fun c1 => ?_) (fun c1 => ?_)
  · skip
    refine r_iload_n dX7_handOut_58 rfl ?_
    refine q_istore (lo' := [some (.ref (ad 22)), some (.int x1), some (.int x2), some (.int x3), some (.int x4), some (.int x5), some (.int x2)]) dX7_handOut_59 (by decide) rfl ?_
    exact q_weak (lo' := [some (.ref (ad 22)), some (.int x1), some (.int x2), some (.int x3), none, some (.int x5), some (.int x2)]) ⟨rfl, rfl, rfl, rfl, rfl, rfl, trivial⟩ (K1 c1)
  · skip
    refine r_aload_n dX7_handOut_38 rfl ?_
    refine r_iload_n dX7_handOut_39 rfl ?_
    refine r_iload_n dX7_handOut_40 rfl ?_
    refine r_iload dX7_handOut_41 rfl ?_
    refine r_iload_n dX7_handOut_43 rfl ?_
    exact r_callV (x := 22) (As := [.int x3, .int x2, .int x5, .int x1]) (rest := []) dX7_handOut_44 mk_X7_106 mv_X7_priceWith rm_X7_handOut_X7_priceWith rfl rfl (by decide +kernel) (Nat.le_of_ble_eq_true rfl) (cal_i (lo' := [some (.ref (ad 22)), some (.int x1), some (.int x2), some (.int x3), some (.int x4), some (.int x5), none]) ⟨rfl, rfl, rfl, rfl, rfl, rfl, trivial⟩ (K2 c1))
theorem t_X7_handOut_61 {x1 : Int32} {x2 : Int32} {x3 : Int32} {x5 : Int32} {x6 : Int32} 
    (g1 : (¬ ((x2 + x5) ≤ x6)) → vp_in x6 48)
    (g2 : (¬ ((x2 + x5) ≤ x6)) → vp_in x3 12)
    (g3 : (¬ ((x2 + x5) ≤ x6)) → vp_in (gI M 24 x6.toNatClampNeg) 48)
    (K1 : ((x2 + x5) ≤ x6) → Fw l D ad kA mX7_handOut 4 [some (.ref (ad 22)), some (.int x1), some (.int (x2 + x5)), some (.int (x3 + 1)), none, none, none] [] M Q)
    (K2 : (¬ ((x2 + x5) ≤ x6)) → Fw l D ad kA mX7_handOut 61 [some (.ref (ad 22)), some (.int x1), some (.int x2), some (.int x3), none, some (.int x5), some (.int (x6 + 1))] [] (sI M 23 (gI M 24 x6.toNatClampNeg).toNatClampNeg (gI M 25 x3.toNatClampNeg)) Q) : Fw l D ad kA mX7_handOut 61 [some (.ref (ad 22)), some (.int x1), some (.int x2), some (.int x3), none, some (.int x5), some (.int x6)] [] M Q := by
  refine r_iload dX7_handOut_61 rfl ?_
  refine r_iload_n dX7_handOut_63 rfl ?_
  refine r_iload dX7_handOut_64 rfl ?_
  refine r_iadd dX7_handOut_66 ?_
  refine r_icmp_ge (tgt := 94) dX7_handOut_67 (by decide) (fun c1 => ?_) (fun c1 => ?_)
  · skip
    refine r_iload_n dX7_handOut_94 rfl ?_
    refine r_iload dX7_handOut_95 rfl ?_
    refine r_iadd dX7_handOut_97 ?_
    refine q_istore_n (lo' := [some (.ref (ad 22)), some (.int x1), some (.int (x2 + x5)), some (.int x3), none, some (.int x5), some (.int x6)]) dX7_handOut_98 (by decide) rfl ?_
    refine q_iinc (v := x3 + 1) (lo' := [some (.ref (ad 22)), some (.int x1), some (.int (x2 + x5)), some (.int (x3 + 1)), none, some (.int x5), some (.int x6)]) dX7_handOut_99 rfl (congrArg (fun q => x3 + q) kI_1) (by decide) rfl ?_
    refine r_goto (tgt := 4) dX7_handOut_102 (by decide) ?_
    exact q_weak (lo' := [some (.ref (ad 22)), some (.int x1), some (.int (x2 + x5)), some (.int (x3 + 1)), none, none, none]) ⟨rfl, rfl, rfl, rfl, trivial⟩ (K1 c1)
  · skip
    refine r_aload_n dX7_handOut_70 rfl ?_
    refine r_getR dX7_handOut_71 fs_22_3 fk_X7_11 ?_
    refine r_aload_n dX7_handOut_74 rfl ?_
    refine r_getR dX7_handOut_75 fs_22_8 fk_X7_17 ?_
    refine r_iload dX7_handOut_78 rfl ?_
    refine r_iald dX7_handOut_80 as_24 (g1 c1) ?_
    refine r_aload_n dX7_handOut_81 rfl ?_
    refine r_getR dX7_handOut_82 fs_22_9 fk_X7_20 ?_
    refine r_iload_n dX7_handOut_85 rfl ?_
    refine r_iald dX7_handOut_86 as_25 (g2 c1) ?_
    refine r_iast dX7_handOut_87 as_23 (g3 c1) ?_
    refine q_iinc (v := x6 + 1) (lo' := [some (.ref (ad 22)), some (.int x1), some (.int x2), some (.int x3), none, some (.int x5), some (.int (x6 + 1))]) dX7_handOut_88 rfl (congrArg (fun q => x6 + q) kI_1) (by decide) rfl ?_
    refine r_goto (tgt := 61) dX7_handOut_91 (by decide) ?_
    exact (K2 c1)
theorem t_X7_handOut_47 {x1 : Int32} {x2 : Int32} {x3 : Int32} {x4 : Int32} {x5 : Int32} {s1 : Int32} 
    (K1 : (s1 = x4) → Fw l D ad kA mX7_handOut 61 [some (.ref (ad 22)), some (.int x1), some (.int x2), some (.int x3), none, some (.int x5), some (.int x2)] [] M Q)
    (K2 : (¬ (s1 = x4)) → Fw l D ad kA mX7_handOut 28 [some (.ref (ad 22)), some (.int x1), some (.int x2), some (.int x3), some (.int x4), some (.int (x5 + 1)), none] [] M Q) : Fw l D ad kA mX7_handOut 47 [some (.ref (ad 22)), some (.int x1), some (.int x2), some (.int x3), some (.int x4), some (.int x5), none] [.int s1] M Q := by
  refine r_iload dX7_handOut_47 rfl ?_
  refine r_icmp_eq (tgt := 58) dX7_handOut_49 (by decide) (fun c1 => ?_) (fun c1 => ?_)
  · skip
    refine r_iload_n dX7_handOut_58 rfl ?_
    refine q_istore (lo' := [some (.ref (ad 22)), some (.int x1), some (.int x2), some (.int x3), some (.int x4), some (.int x5), some (.int x2)]) dX7_handOut_59 (by decide) rfl ?_
    exact q_weak (lo' := [some (.ref (ad 22)), some (.int x1), some (.int x2), some (.int x3), none, some (.int x5), some (.int x2)]) ⟨rfl, rfl, rfl, rfl, rfl, rfl, trivial⟩ (K1 c1)
  · skip
    refine q_iinc (v := x5 + 1) (lo' := [some (.ref (ad 22)), some (.int x1), some (.int x2), some (.int x3), some (.int x4), some (.int (x5 + 1)), none]) dX7_handOut_52 rfl (congrArg (fun q => x5 + q) kI_1) (by decide) rfl ?_
    refine r_goto (tgt := 28) dX7_handOut_55 (by decide) ?_
    exact (K2 c1)
theorem en_X7_handOut {x1 : Int32} (K : Fw l D ad kA mX7_handOut 0 [some (.ref (ad 22)), some (.int x1), none, none, none, none, none] [] M Q) : Cal l D ad kA mX7_handOut [.ref (ad 22), .int x1] M Q := Cal.of (by decide) rfl rfl (Nat.le_of_ble_eq_true rfl) K
theorem t_X7_settle_0 {x1 : Int32} 
    (K1 : Cal l D ad kA mX7_weighPieces [.ref (ad 22)] M (fun oc M2 => oc = .returned none ∧ Fw l D ad kA mX7_settle 4 [some (.ref (ad 22)), some (.int x1), none, none] [] M2 Q)) : Fw l D ad kA mX7_settle 0 [some (.ref (ad 22)), some (.int x1), none, none] [] M Q := by
  refine r_aload_n dX7_settle_0 rfl ?_
  exact r_callV (x := 22) (As := []) (rest := []) dX7_settle_1 mk_X7_75 mv_X7_weighPieces rm_X7_settle_X7_weighPieces rfl rfl (by decide +kernel) (Nat.le_of_ble_eq_true rfl) (cal_v (lo' := [some (.ref (ad 22)), some (.int x1), none, none]) ⟨rfl, rfl, trivial⟩ K1)
theorem t_X7_settle_4 {x1 : Int32} 
    (K1 : Fw l D ad kA mX7_settle 9 [some (.ref (ad 22)), some (.int x1), some (.int (gI M 22 6)), none] [] M Q) : Fw l D ad kA mX7_settle 4 [some (.ref (ad 22)), some (.int x1), none, none] [] M Q := by
  refine r_aload_n dX7_settle_4 rfl ?_
  refine r_getI dX7_settle_5 fs_22_6 fk_X7_72 ?_
  refine q_istore_n (lo' := [some (.ref (ad 22)), some (.int x1), some (.int (gI M 22 6)), none]) dX7_settle_8 (by decide) rfl ?_
  exact K1
theorem t_X7_settle_9 {x1 : Int32} {x2 : Int32} 
    (K1 : (x2 < 0) → (16777216 ≤ (gI M 27 (0 : Int32).toNatClampNeg)) → Q (.returned (some (.int (gI M 27 (0 : Int32).toNatClampNeg)))) M)
    (K2 : (x2 < 0) → (¬ (16777216 ≤ (gI M 27 (0 : Int32).toNatClampNeg))) → Cal l D ad kA mX7_handOut [.ref (ad 22), .int x1] M (fun oc M2 => oc = .returned none ∧ Fw l D ad kA mX7_settle 70 [none, none, some (.int (gI M 27 (0 : Int32).toNatClampNeg)), none] [] M2 Q))
    (K3 : (¬ (x2 < 0)) → Fw l D ad kA mX7_settle 18 [some (.ref (ad 22)), some (.int x1), some (.int x2), some (.int (gI M 22 5))] [] M Q) : Fw l D ad kA mX7_settle 9 [some (.ref (ad 22)), some (.int x1), some (.int x2), none] [] M Q := by
  refine r_iload_n dX7_settle_9 rfl ?_
  refine r_if_lt (tgt := 52) dX7_settle_10 (by decide) (fun c1 => ?_) (fun c1 => ?_)
  · skip
    refine r_aload_n dX7_settle_52 rfl ?_
    refine r_getR dX7_settle_53 fs_22_12 fk_X7_26 ?_
    refine r_iconst (v := 0) dX7_settle_56 kI_0 ?_
    refine r_iald dX7_settle_57 as_27 (by unfold vp_in; decide) ?_
    refine q_istore_n (lo' := [some (.ref (ad 22)), some (.int x1), some (.int (gI M 27 (0 : Int32).toNatClampNeg)), none]) dX7_settle_58 (by decide) rfl ?_
    refine r_iload_n dX7_settle_59 rfl ?_
    refine r_ldc (v := 16777216) dX7_settle_60 co_X7_82 ?_
    refine r_icmp_ge (tgt := 70) dX7_settle_62 (by decide) (fun c2 => ?_) (fun c2 => ?_)
    · skip
      refine r_iload_n dX7_settle_70 rfl ?_
      exact r_iret dX7_settle_71 rfl (K1 c1 c2)
    · skip
      refine r_aload_n dX7_settle_65 rfl ?_
      refine r_iload_n dX7_settle_66 rfl ?_
      exact r_callV (x := 22) (As := [.int x1]) (rest := []) dX7_settle_67 mk_X7_83 mv_X7_handOut rm_X7_settle_X7_handOut rfl rfl (by decide +kernel) (Nat.le_of_ble_eq_true rfl) (cal_v (lo' := [none, none, some (.int (gI M 27 (0 : Int32).toNatClampNeg)), none]) ⟨rfl, trivial⟩ (K2 c1 c2))
  · skip
    refine r_aload_n dX7_settle_13 rfl ?_
    refine r_getI dX7_settle_14 fs_22_5 fk_X7_55 ?_
    refine q_istore_n (lo' := [some (.ref (ad 22)), some (.int x1), some (.int x2), some (.int (gI M 22 5))]) dX7_settle_17 (by decide) rfl ?_
    exact (K3 c1)
theorem t_X7_settle_70 {x2 : Int32} 
    (K1 : Q (.returned (some (.int x2))) M) : Fw l D ad kA mX7_settle 70 [none, none, some (.int x2), none] [] M Q := by
  refine r_iload_n dX7_settle_70 rfl ?_
  exact r_iret dX7_settle_71 rfl K1
theorem t_X7_settle_18 {x1 : Int32} {x2 : Int32} {x3 : Int32} 
    (K1 : (x3 < 0) → Fw l D ad kA mX7_settle 9 [some (.ref (ad 22)), some (.int x1), some (.int (x2 + (-1))), none] [] M Q)
    (K2 : (¬ (x3 < 0)) → Cal l D ad kA mX7_leastFrom [.ref (ad 22), .int x2, .int x3, .int x1] M (fun oc M2 => ∃ r : Int32, oc = .returned (some (.int r)) ∧ Fw l D ad kA mX7_settle 39 [some (.ref (ad 22)), some (.int x1), some (.int x2), some (.int x3)] [.int r, .int ((x2 * 49) + x3), .ref (ad 27)] M2 Q)) : Fw l D ad kA mX7_settle 18 [some (.ref (ad 22)), some (.int x1), some (.int x2), some (.int x3)] [] M Q := by
  refine r_iload_n dX7_settle_18 rfl ?_
  refine r_if_lt (tgt := 46) dX7_settle_19 (by decide) (fun c1 => ?_) (fun c1 => ?_)
  · skip
    refine q_iinc (v := x2 + (-1)) (lo' := [some (.ref (ad 22)), some (.int x1), some (.int (x2 + (-1))), some (.int x3)]) dX7_settle_46 rfl (congrArg (fun q => x2 + q) kI_m1) (by decide) rfl ?_
    refine r_goto (tgt := 9) dX7_settle_49 (by decide) ?_
    exact q_weak (lo' := [some (.ref (ad 22)), some (.int x1), some (.int (x2 + (-1))), none]) ⟨rfl, rfl, rfl, trivial⟩ (K1 c1)
  · skip
    refine r_aload_n dX7_settle_22 rfl ?_
    refine r_getR dX7_settle_23 fs_22_12 fk_X7_26 ?_
    refine r_iload_n dX7_settle_26 rfl ?_
    refine r_bipush (v := 49) dX7_settle_27 kB_49 ?_
    refine r_imul dX7_settle_29 ?_
    refine r_iload_n dX7_settle_30 rfl ?_
    refine r_iadd dX7_settle_31 ?_
    refine r_aload_n dX7_settle_32 rfl ?_
    refine r_iload_n dX7_settle_33 rfl ?_
    refine r_iload_n dX7_settle_34 rfl ?_
    refine r_iload_n dX7_settle_35 rfl ?_
    exact r_callV (x := 22) (As := [.int x2, .int x3, .int x1]) (rest := [.int ((x2 * 49) + x3), .ref (ad 27)]) dX7_settle_36 mk_X7_78 mv_X7_leastFrom rm_X7_settle_X7_leastFrom rfl rfl (by decide +kernel) (Nat.le_of_ble_eq_true rfl) (cal_i (lo' := [some (.ref (ad 22)), some (.int x1), some (.int x2), some (.int x3)]) ⟨rfl, rfl, rfl, rfl, trivial⟩ (K2 c1))
theorem t_X7_settle_39 {x1 : Int32} {x2 : Int32} {x3 : Int32} {s3 : Int32} {s2 : Int32} 
    (g1 : vp_in s2 637)
    (K1 : Fw l D ad kA mX7_settle 18 [some (.ref (ad 22)), some (.int x1), some (.int x2), some (.int (x3 + (-1)))] [] (sI M 27 s2.toNatClampNeg s3) Q) : Fw l D ad kA mX7_settle 39 [some (.ref (ad 22)), some (.int x1), some (.int x2), some (.int x3)] [.int s3, .int s2, .ref (ad 27)] M Q := by
  refine r_iast dX7_settle_39 as_27 g1 ?_
  refine q_iinc (v := x3 + (-1)) (lo' := [some (.ref (ad 22)), some (.int x1), some (.int x2), some (.int (x3 + (-1)))]) dX7_settle_40 rfl (congrArg (fun q => x3 + q) kI_m1) (by decide) rfl ?_
  refine r_goto (tgt := 18) dX7_settle_43 (by decide) ?_
  exact K1
theorem en_X7_settle {x1 : Int32} (K : Fw l D ad kA mX7_settle 0 [some (.ref (ad 22)), some (.int x1), none, none] [] M Q) : Cal l D ad kA mX7_settle [.ref (ad 22), .int x1] M Q := Cal.of (by decide) rfl rfl (Nat.le_of_ble_eq_true rfl) K
end W_ranges
