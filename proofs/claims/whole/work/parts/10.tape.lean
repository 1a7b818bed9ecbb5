/-! Tape: decode rows, links, walks from cut to cut (printed by wip/gen) -/
theorem dX11_isBell_0 : decode cX11_isBell 0 = .ok (.iload_n 0, 1) := by decide +kernel
theorem dX11_isBell_1 : decode cX11_isBell 1 = .ok (.ifCond .lt 13, 3) := by decide +kernel
theorem dX11_isBell_4 : decode cX11_isBell 4 = .ok (.iload_n 0, 1) := by decide +kernel
theorem dX11_isBell_5 : decode cX11_isBell 5 = .ok (.bipush 48, 2) := by decide +kernel
theorem dX11_isBell_7 : decode cX11_isBell 7 = .ok (.if_icmp .ge 7, 3) := by decide +kernel
theorem dX11_isBell_10 : decode cX11_isBell 10 = .ok (.iconst 1, 1) := by decide +kernel
theorem dX11_isBell_11 : decode cX11_isBell 11 = .ok (.goto 4, 3) := by decide +kernel
theorem dX11_isBell_14 : decode cX11_isBell 14 = .ok (.iconst 0, 1) := by decide +kernel
theorem dX11_isBell_15 : decode cX11_isBell 15 = .ok (.ireturn, 1) := by decide +kernel
theorem dX11_isDay_0 : decode cX11_isDay 0 = .ok (.iload_n 0, 1) := by decide +kernel
theorem dX11_isDay_1 : decode cX11_isDay 1 = .ok (.ifCond .lt 14, 3) := by decide +kernel
theorem dX11_isDay_4 : decode cX11_isDay 4 = .ok (.iload_n 0, 1) := by decide +kernel
theorem dX11_isDay_5 : decode cX11_isDay 5 = .ok (.sipush 1000, 3) := by decide +kernel
theorem dX11_isDay_8 : decode cX11_isDay 8 = .ok (.if_icmp .ge 7, 3) := by decide +kernel
theorem dX11_isDay_11 : decode cX11_isDay 11 = .ok (.iconst 1, 1) := by decide +kernel
theorem dX11_isDay_12 : decode cX11_isDay 12 = .ok (.goto 4, 3) := by decide +kernel
theorem dX11_isDay_15 : decode cX11_isDay 15 = .ok (.iconst 0, 1) := by decide +kernel
theorem dX11_isDay_16 : decode cX11_isDay 16 = .ok (.ireturn, 1) := by decide +kernel
theorem dX11_orNone_0 : decode cX11_orNone 0 = .ok (.iload_n 0, 1) := by decide +kernel
theorem dX11_orNone_1 : decode cX11_orNone 1 = .ok (.ldc 192, 2) := by decide +kernel
theorem dX11_orNone_3 : decode cX11_orNone 3 = .ok (.if_icmp .lt 7, 3) := by decide +kernel
theorem dX11_orNone_6 : decode cX11_orNone 6 = .ok (.iconst (-1), 1) := by decide +kernel
theorem dX11_orNone_7 : decode cX11_orNone 7 = .ok (.goto 4, 3) := by decide +kernel
theorem dX11_orNone_10 : decode cX11_orNone 10 = .ok (.iload_n 0, 1) := by decide +kernel
theorem dX11_orNone_11 : decode cX11_orNone 11 = .ok (.ireturn, 1) := by decide +kernel
theorem dX10_isBlank_0 : decode cX10_isBlank 0 = .ok (.iload_n 0, 1) := by decide +kernel
theorem dX10_isBlank_1 : decode cX10_isBlank 1 = .ok (.bipush 32, 2) := by decide +kernel
theorem dX10_isBlank_3 : decode cX10_isBlank 3 = .ok (.if_icmp .eq 9, 3) := by decide +kernel
theorem dX10_isBlank_6 : decode cX10_isBlank 6 = .ok (.iload_n 0, 1) := by decide +kernel
theorem dX10_isBlank_7 : decode cX10_isBlank 7 = .ok (.bipush 10, 2) := by decide +kernel
theorem dX10_isBlank_9 : decode cX10_isBlank 9 = .ok (.if_icmp .ne 7, 3) := by decide +kernel
theorem dX10_isBlank_12 : decode cX10_isBlank 12 = .ok (.iconst 1, 1) := by decide +kernel
theorem dX10_isBlank_13 : decode cX10_isBlank 13 = .ok (.goto 4, 3) := by decide +kernel
theorem dX10_isBlank_16 : decode cX10_isBlank 16 = .ok (.iconst 0, 1) := by decide +kernel
theorem dX10_isBlank_17 : decode cX10_isBlank 17 = .ok (.ireturn, 1) := by decide +kernel
theorem dX10_isLetter_0 : decode cX10_isLetter 0 = .ok (.iload_n 0, 1) := by decide +kernel
theorem dX10_isLetter_1 : decode cX10_isLetter 1 = .ok (.bipush 97, 2) := by decide +kernel
theorem dX10_isLetter_3 : decode cX10_isLetter 3 = .ok (.if_icmp .lt 13, 3) := by decide +kernel
theorem dX10_isLetter_6 : decode cX10_isLetter 6 = .ok (.iload_n 0, 1) := by decide +kernel
theorem dX10_isLetter_7 : decode cX10_isLetter 7 = .ok (.bipush 122, 2) := by decide +kernel
theorem dX10_isLetter_9 : decode cX10_isLetter 9 = .ok (.if_icmp .gt 7, 3) := by decide +kernel
theorem dX10_isLetter_12 : decode cX10_isLetter 12 = .ok (.iconst 1, 1) := by decide +kernel
theorem dX10_isLetter_13 : decode cX10_isLetter 13 = .ok (.goto 4, 3) := by decide +kernel
theorem dX10_isLetter_16 : decode cX10_isLetter 16 = .ok (.iconst 0, 1) := by decide +kernel
theorem dX10_isLetter_17 : decode cX10_isLetter 17 = .ok (.ireturn, 1) := by decide +kernel
theorem dX10_isDigit_0 : decode cX10_isDigit 0 = .ok (.iload_n 0, 1) := by decide +kernel
theorem dX10_isDigit_1 : decode cX10_isDigit 1 = .ok (.bipush 48, 2) := by decide +kernel
theorem dX10_isDigit_3 : decode cX10_isDigit 3 = .ok (.if_icmp .lt 13, 3) := by decide +kernel
theorem dX10_isDigit_6 : decode cX10_isDigit 6 = .ok (.iload_n 0, 1) := by decide +kernel
theorem dX10_isDigit_7 : decode cX10_isDigit 7 = .ok (.bipush 57, 2) := by decide +kernel
theorem dX10_isDigit_9 : decode cX10_isDigit 9 = .ok (.if_icmp .gt 7, 3) := by decide +kernel
theorem dX10_isDigit_12 : decode cX10_isDigit 12 = .ok (.iconst 1, 1) := by decide +kernel
theorem dX10_isDigit_13 : decode cX10_isDigit 13 = .ok (.goto 4, 3) := by decide +kernel
theorem dX10_isDigit_16 : decode cX10_isDigit 16 = .ok (.iconst 0, 1) := by decide +kernel
theorem dX10_isDigit_17 : decode cX10_isDigit 17 = .ok (.ireturn, 1) := by decide +kernel
theorem dX10_byteAt_0 : decode cX10_byteAt 0 = .ok (.iload_n 1, 1) := by decide +kernel
theorem dX10_byteAt_1 : decode cX10_byteAt 1 = .ok (.ifCond .lt 27, 3) := by decide +kernel
theorem dX10_byteAt_4 : decode cX10_byteAt 4 = .ok (.iload_n 1, 1) := by decide +kernel
theorem dX10_byteAt_5 : decode cX10_byteAt 5 = .ok (.aload_n 0, 1) := by decide +kernel
theorem dX10_byteAt_6 : decode cX10_byteAt 6 = .ok (.getfield 19, 3) := by decide +kernel
theorem dX10_byteAt_9 : decode cX10_byteAt 9 = .ok (.if_icmp .ge 19, 3) := by decide +kernel
theorem dX10_byteAt_12 : decode cX10_byteAt 12 = .ok (.iload_n 1, 1) := by decide +kernel
theorem dX10_byteAt_13 : decode cX10_byteAt 13 = .ok (.sipush 1200, 3) := by decide +kernel
theorem dX10_byteAt_16 : decode cX10_byteAt 16 = .ok (.if_icmp .ge 12, 3) := by decide +kernel
theorem dX10_byteAt_19 : decode cX10_byteAt 19 = .ok (.aload_n 0, 1) := by decide +kernel
theorem dX10_byteAt_20 : decode cX10_byteAt 20 = .ok (.getfield 15, 3) := by decide +kernel
theorem dX10_byteAt_23 : decode cX10_byteAt 23 = .ok (.iload_n 1, 1) := by decide +kernel
theorem dX10_byteAt_24 : decode cX10_byteAt 24 = .ok (.baload, 1) := by decide +kernel
theorem dX10_byteAt_25 : decode cX10_byteAt 25 = .ok (.goto 4, 3) := by decide +kernel
theorem dX10_byteAt_28 : decode cX10_byteAt 28 = .ok (.iconst 0, 1) := by decide +kernel
theorem dX10_byteAt_29 : decode cX10_byteAt 29 = .ok (.ireturn, 1) := by decide +kernel
theorem dX10_addFour_0 : decode cX10_addFour 0 = .ok (.bipush 24, 2) := by decide +kernel
theorem dX10_addFour_2 : decode cX10_addFour 2 = .ok (.istore_n 2, 1) := by decide +kernel
theorem dX10_addFour_3 : decode cX10_addFour 3 = .ok (.iload_n 2, 1) := by decide +kernel
theorem dX10_addFour_4 : decode cX10_addFour 4 = .ok (.ifCond .lt 42, 3) := by decide +kernel
theorem dX10_addFour_7 : decode cX10_addFour 7 = .ok (.aload_n 0, 1) := by decide +kernel
theorem dX10_addFour_8 : decode cX10_addFour 8 = .ok (.getfield 19, 3) := by decide +kernel
theorem dX10_addFour_11 : decode cX10_addFour 11 = .ok (.sipush 1200, 3) := by decide +kernel
theorem dX10_addFour_14 : decode cX10_addFour 14 = .ok (.if_icmp .ge 32, 3) := by decide +kernel
theorem dX10_addFour_17 : decode cX10_addFour 17 = .ok (.aload_n 0, 1) := by decide +kernel
theorem dX10_addFour_18 : decode cX10_addFour 18 = .ok (.getfield 15, 3) := by decide +kernel
theorem dX10_addFour_21 : decode cX10_addFour 21 = .ok (.aload_n 0, 1) := by decide +kernel
theorem dX10_addFour_22 : decode cX10_addFour 22 = .ok (.getfield 19, 3) := by decide +kernel
theorem dX10_addFour_25 : decode cX10_addFour 25 = .ok (.iload_n 1, 1) := by decide +kernel
theorem dX10_addFour_26 : decode cX10_addFour 26 = .ok (.iload_n 2, 1) := by decide +kernel
theorem dX10_addFour_27 : decode cX10_addFour 27 = .ok (.ishr, 1) := by decide +kernel
theorem dX10_addFour_28 : decode cX10_addFour 28 = .ok (.i2b, 1) := by decide +kernel
theorem dX10_addFour_29 : decode cX10_addFour 29 = .ok (.bastore, 1) := by decide +kernel
theorem dX10_addFour_30 : decode cX10_addFour 30 = .ok (.aload_n 0, 1) := by decide +kernel
theorem dX10_addFour_31 : decode cX10_addFour 31 = .ok (.dup, 1) := by decide +kernel
theorem dX10_addFour_32 : decode cX10_addFour 32 = .ok (.getfield 19, 3) := by decide +kernel
theorem dX10_addFour_35 : decode cX10_addFour 35 = .ok (.iconst 1, 1) := by decide +kernel
theorem dX10_addFour_36 : decode cX10_addFour 36 = .ok (.iadd, 1) := by decide +kernel
theorem dX10_addFour_37 : decode cX10_addFour 37 = .ok (.putfield 19, 3) := by decide +kernel
theorem dX10_addFour_40 : decode cX10_addFour 40 = .ok (.iinc 2 (-8), 3) := by decide +kernel
theorem dX10_addFour_43 : decode cX10_addFour 43 = .ok (.goto (-40), 3) := by decide +kernel
theorem dX10_addFour_46 : decode cX10_addFour 46 = .ok (.return_, 1) := by decide +kernel
theorem dX10_start_0 : decode cX10_start 0 = .ok (.aload_n 0, 1) := by decide +kernel
theorem dX10_start_1 : decode cX10_start 1 = .ok (.iconst 0, 1) := by decide +kernel
theorem dX10_start_2 : decode cX10_start 2 = .ok (.putfield 22, 3) := by decide +kernel
theorem dX10_start_5 : decode cX10_start 5 = .ok (.aload_n 0, 1) := by decide +kernel
theorem dX10_start_6 : decode cX10_start 6 = .ok (.iconst 0, 1) := by decide +kernel
theorem dX10_start_7 : decode cX10_start 7 = .ok (.putfield 25, 3) := by decide +kernel
theorem dX10_start_10 : decode cX10_start 10 = .ok (.aload_n 0, 1) := by decide +kernel
theorem dX10_start_11 : decode cX10_start 11 = .ok (.iconst (-1), 1) := by decide +kernel
theorem dX10_start_12 : decode cX10_start 12 = .ok (.putfield 9, 3) := by decide +kernel
theorem dX10_start_15 : decode cX10_start 15 = .ok (.return_, 1) := by decide +kernel
theorem dX10_refuse_0 : decode cX10_refuse 0 = .ok (.aload_n 0, 1) := by decide +kernel
theorem dX10_refuse_1 : decode cX10_refuse 1 = .ok (.iload_n 1, 1) := by decide +kernel
theorem dX10_refuse_2 : decode cX10_refuse 2 = .ok (.putfield 25, 3) := by decide +kernel
theorem dX10_refuse_5 : decode cX10_refuse 5 = .ok (.aload_n 0, 1) := by decide +kernel
theorem dX10_refuse_6 : decode cX10_refuse 6 = .ok (.aload_n 0, 1) := by decide +kernel
theorem dX10_refuse_7 : decode cX10_refuse 7 = .ok (.getfield 28, 3) := by decide +kernel
theorem dX10_refuse_10 : decode cX10_refuse 10 = .ok (.putfield 9, 3) := by decide +kernel
theorem dX10_refuse_13 : decode cX10_refuse 13 = .ok (.return_, 1) := by decide +kernel
theorem dX10_readWord_0 : decode cX10_readWord 0 = .ok (.aload_n 0, 1) := by decide +kernel
theorem dX10_readWord_1 : decode cX10_readWord 1 = .ok (.getfield 22, 3) := by decide +kernel
theorem dX10_readWord_4 : decode cX10_readWord 4 = .ok (.aload_n 0, 1) := by decide +kernel
theorem dX10_readWord_5 : decode cX10_readWord 5 = .ok (.getfield 19, 3) := by decide +kernel
theorem dX10_readWord_8 : decode cX10_readWord 8 = .ok (.if_icmp .ge 30, 3) := by decide +kernel
theorem dX10_readWord_11 : decode cX10_readWord 11 = .ok (.aload_n 0, 1) := by decide +kernel
theorem dX10_readWord_12 : decode cX10_readWord 12 = .ok (.aload_n 0, 1) := by decide +kernel
theorem dX10_readWord_13 : decode cX10_readWord 13 = .ok (.getfield 22, 3) := by decide +kernel
theorem dX10_readWord_16 : decode cX10_readWord 16 = .ok (.invokevirtual 31, 3) := by decide +kernel
theorem dX10_readWord_19 : decode cX10_readWord 19 = .ok (.invokestatic 42, 3) := by decide +kernel
theorem dX10_readWord_22 : decode cX10_readWord 22 = .ok (.ifCond .eq 16, 3) := by decide +kernel
theorem dX10_readWord_25 : decode cX10_readWord 25 = .ok (.aload_n 0, 1) := by decide +kernel
theorem dX10_readWord_26 : decode cX10_readWord 26 = .ok (.dup, 1) := by decide +kernel
theorem dX10_readWord_27 : decode cX10_readWord 27 = .ok (.getfield 22, 3) := by decide +kernel
theorem dX10_readWord_30 : decode cX10_readWord 30 = .ok (.iconst 1, 1) := by decide +kernel
theorem dX10_readWord_31 : decode cX10_readWord 31 = .ok (.iadd, 1) := by decide +kernel
theorem dX10_readWord_32 : decode cX10_readWord 32 = .ok (.putfield 22, 3) := by decide +kernel
theorem dX10_readWord_35 : decode cX10_readWord 35 = .ok (.goto (-35), 3) := by decide +kernel
theorem dX10_readWord_38 : decode cX10_readWord 38 = .ok (.aload_n 0, 1) := by decide +kernel
theorem dX10_readWord_39 : decode cX10_readWord 39 = .ok (.aload_n 0, 1) := by decide +kernel
theorem dX10_readWord_40 : decode cX10_readWord 40 = .ok (.getfield 22, 3) := by decide +kernel
theorem dX10_readWord_43 : decode cX10_readWord 43 = .ok (.aload_n 0, 1) := by decide +kernel
theorem dX10_readWord_44 : decode cX10_readWord 44 = .ok (.getfield 28, 3) := by decide +kernel
theorem dX10_readWord_47 : decode cX10_readWord 47 = .ok (.isub, 1) := by decide +kernel
theorem dX10_readWord_48 : decode cX10_readWord 48 = .ok (.bipush 8, 2) := by decide +kernel
theorem dX10_readWord_50 : decode cX10_readWord 50 = .ok (.if_icmp .le 7, 3) := by decide +kernel
theorem dX10_readWord_53 : decode cX10_readWord 53 = .ok (.iconst 4, 1) := by decide +kernel
theorem dX10_readWord_54 : decode cX10_readWord 54 = .ok (.goto 4, 3) := by decide +kernel
theorem dX10_readWord_57 : decode cX10_readWord 57 = .ok (.iconst 1, 1) := by decide +kernel
theorem dX10_readWord_58 : decode cX10_readWord 58 = .ok (.putfield 39, 3) := by decide +kernel
theorem dX10_readWord_61 : decode cX10_readWord 61 = .ok (.return_, 1) := by decide +kernel
theorem dX10_readNumber_0 : decode cX10_readNumber 0 = .ok (.aload_n 0, 1) := by decide +kernel
theorem dX10_readNumber_1 : decode cX10_readNumber 1 = .ok (.iconst 0, 1) := by decide +kernel
theorem dX10_readNumber_2 : decode cX10_readNumber 2 = .ok (.putfield 54, 3) := by decide +kernel
theorem dX10_readNumber_5 : decode cX10_readNumber 5 = .ok (.aload_n 0, 1) := by decide +kernel
theorem dX10_readNumber_6 : decode cX10_readNumber 6 = .ok (.getfield 22, 3) := by decide +kernel
theorem dX10_readNumber_9 : decode cX10_readNumber 9 = .ok (.aload_n 0, 1) := by decide +kernel
theorem dX10_readNumber_10 : decode cX10_readNumber 10 = .ok (.getfield 19, 3) := by decide +kernel
theorem dX10_readNumber_13 : decode cX10_readNumber 13 = .ok (.if_icmp .ge 53, 3) := by decide +kernel
theorem dX10_readNumber_16 : decode cX10_readNumber 16 = .ok (.aload_n 0, 1) := by decide +kernel
theorem dX10_readNumber_17 : decode cX10_readNumber 17 = .ok (.aload_n 0, 1) := by decide +kernel
theorem dX10_readNumber_18 : decode cX10_readNumber 18 = .ok (.getfield 22, 3) := by decide +kernel
theorem dX10_readNumber_21 : decode cX10_readNumber 21 = .ok (.invokevirtual 31, 3) := by decide +kernel
theorem dX10_readNumber_24 : decode cX10_readNumber 24 = .ok (.invokestatic 48, 3) := by decide +kernel
theorem dX10_readNumber_27 : decode cX10_readNumber 27 = .ok (.ifCond .eq 39, 3) := by decide +kernel
theorem dX10_readNumber_30 : decode cX10_readNumber 30 = .ok (.aload_n 0, 1) := by decide +kernel
theorem dX10_readNumber_31 : decode cX10_readNumber 31 = .ok (.aload_n 0, 1) := by decide +kernel
theorem dX10_readNumber_32 : decode cX10_readNumber 32 = .ok (.getfield 54, 3) := by decide +kernel
theorem dX10_readNumber_35 : decode cX10_readNumber 35 = .ok (.bipush 10, 2) := by decide +kernel
theorem dX10_readNumber_37 : decode cX10_readNumber 37 = .ok (.imul, 1) := by decide +kernel
theorem dX10_readNumber_38 : decode cX10_readNumber 38 = .ok (.aload_n 0, 1) := by decide +kernel
theorem dX10_readNumber_39 : decode cX10_readNumber 39 = .ok (.aload_n 0, 1) := by decide +kernel
theorem dX10_readNumber_40 : decode cX10_readNumber 40 = .ok (.getfield 22, 3) := by decide +kernel
theorem dX10_readNumber_43 : decode cX10_readNumber 43 = .ok (.invokevirtual 31, 3) := by decide +kernel
theorem dX10_readNumber_46 : decode cX10_readNumber 46 = .ok (.iadd, 1) := by decide +kernel
theorem dX10_readNumber_47 : decode cX10_readNumber 47 = .ok (.bipush 48, 2) := by decide +kernel
theorem dX10_readNumber_49 : decode cX10_readNumber 49 = .ok (.isub, 1) := by decide +kernel
theorem dX10_readNumber_50 : decode cX10_readNumber 50 = .ok (.putfield 54, 3) := by decide +kernel
theorem dX10_readNumber_53 : decode cX10_readNumber 53 = .ok (.aload_n 0, 1) := by decide +kernel
theorem dX10_readNumber_54 : decode cX10_readNumber 54 = .ok (.dup, 1) := by decide +kernel
theorem dX10_readNumber_55 : decode cX10_readNumber 55 = .ok (.getfield 22, 3) := by decide +kernel
theorem dX10_readNumber_58 : decode cX10_readNumber 58 = .ok (.iconst 1, 1) := by decide +kernel
theorem dX10_readNumber_59 : decode cX10_readNumber 59 = .ok (.iadd, 1) := by decide +kernel
theorem dX10_readNumber_60 : decode cX10_readNumber 60 = .ok (.putfield 22, 3) := by decide +kernel
theorem dX10_readNumber_63 : decode cX10_readNumber 63 = .ok (.goto (-58), 3) := by decide +kernel
theorem dX10_readNumber_66 : decode cX10_readNumber 66 = .ok (.aload_n 0, 1) := by decide +kernel
theorem dX10_readNumber_67 : decode cX10_readNumber 67 = .ok (.aload_n 0, 1) := by decide +kernel
theorem dX10_readNumber_68 : decode cX10_readNumber 68 = .ok (.getfield 22, 3) := by decide +kernel
theorem dX10_readNumber_71 : decode cX10_readNumber 71 = .ok (.aload_n 0, 1) := by decide +kernel
theorem dX10_readNumber_72 : decode cX10_readNumber 72 = .ok (.getfield 28, 3) := by decide +kernel
theorem dX10_readNumber_75 : decode cX10_readNumber 75 = .ok (.isub, 1) := by decide +kernel
theorem dX10_readNumber_76 : decode cX10_readNumber 76 = .ok (.iconst 3, 1) := by decide +kernel
theorem dX10_readNumber_77 : decode cX10_readNumber 77 = .ok (.if_icmp .le 7, 3) := by decide +kernel
theorem dX10_readNumber_80 : decode cX10_readNumber 80 = .ok (.iconst 4, 1) := by decide +kernel
theorem dX10_readNumber_81 : decode cX10_readNumber 81 = .ok (.goto 4, 3) := by decide +kernel
theorem dX10_readNumber_84 : decode cX10_readNumber 84 = .ok (.iconst 2, 1) := by decide +kernel
theorem dX10_readNumber_85 : decode cX10_readNumber 85 = .ok (.putfield 39, 3) := by decide +kernel
theorem dX10_readNumber_88 : decode cX10_readNumber 88 = .ok (.return_, 1) := by decide +kernel
theorem dX10_readToken_0 : decode cX10_readToken 0 = .ok (.aload_n 0, 1) := by decide +kernel
theorem dX10_readToken_1 : decode cX10_readToken 1 = .ok (.getfield 22, 3) := by decide +kernel
theorem dX10_readToken_4 : decode cX10_readToken 4 = .ok (.aload_n 0, 1) := by decide +kernel
theorem dX10_readToken_5 : decode cX10_readToken 5 = .ok (.getfield 19, 3) := by decide +kernel
theorem dX10_readToken_8 : decode cX10_readToken 8 = .ok (.if_icmp .ge 30, 3) := by decide +kernel
theorem dX10_readToken_11 : decode cX10_readToken 11 = .ok (.aload_n 0, 1) := by decide +kernel
theorem dX10_readToken_12 : decode cX10_readToken 12 = .ok (.aload_n 0, 1) := by decide +kernel
theorem dX10_readToken_13 : decode cX10_readToken 13 = .ok (.getfield 22, 3) := by decide +kernel
theorem dX10_readToken_16 : decode cX10_readToken 16 = .ok (.invokevirtual 31, 3) := by decide +kernel
theorem dX10_readToken_19 : decode cX10_readToken 19 = .ok (.invokestatic 35, 3) := by decide +kernel
theorem dX10_readToken_22 : decode cX10_readToken 22 = .ok (.ifCond .eq 16, 3) := by decide +kernel
theorem dX10_readToken_25 : decode cX10_readToken 25 = .ok (.aload_n 0, 1) := by decide +kernel
theorem dX10_readToken_26 : decode cX10_readToken 26 = .ok (.dup, 1) := by decide +kernel
theorem dX10_readToken_27 : decode cX10_readToken 27 = .ok (.getfield 22, 3) := by decide +kernel
theorem dX10_readToken_30 : decode cX10_readToken 30 = .ok (.iconst 1, 1) := by decide +kernel
theorem dX10_readToken_31 : decode cX10_readToken 31 = .ok (.iadd, 1) := by decide +kernel
theorem dX10_readToken_32 : decode cX10_readToken 32 = .ok (.putfield 22, 3) := by decide +kernel
theorem dX10_readToken_35 : decode cX10_readToken 35 = .ok (.goto (-35), 3) := by decide +kernel
theorem dX10_readToken_38 : decode cX10_readToken 38 = .ok (.aload_n 0, 1) := by decide +kernel
theorem dX10_readToken_39 : decode cX10_readToken 39 = .ok (.aload_n 0, 1) := by decide +kernel
theorem dX10_readToken_40 : decode cX10_readToken 40 = .ok (.getfield 22, 3) := by decide +kernel
theorem dX10_readToken_43 : decode cX10_readToken 43 = .ok (.putfield 28, 3) := by decide +kernel
theorem dX10_readToken_46 : decode cX10_readToken 46 = .ok (.aload_n 0, 1) := by decide +kernel
theorem dX10_readToken_47 : decode cX10_readToken 47 = .ok (.aload_n 0, 1) := by decide +kernel
theorem dX10_readToken_48 : decode cX10_readToken 48 = .ok (.getfield 22, 3) := by decide +kernel
theorem dX10_readToken_51 : decode cX10_readToken 51 = .ok (.invokevirtual 31, 3) := by decide +kernel
theorem dX10_readToken_54 : decode cX10_readToken 54 = .ok (.istore_n 1, 1) := by decide +kernel
theorem dX10_readToken_55 : decode cX10_readToken 55 = .ok (.aload_n 0, 1) := by decide +kernel
theorem dX10_readToken_56 : decode cX10_readToken 56 = .ok (.getfield 22, 3) := by decide +kernel
theorem dX10_readToken_59 : decode cX10_readToken 59 = .ok (.aload_n 0, 1) := by decide +kernel
theorem dX10_readToken_60 : decode cX10_readToken 60 = .ok (.getfield 19, 3) := by decide +kernel
theorem dX10_readToken_63 : decode cX10_readToken 63 = .ok (.if_icmp .lt 11, 3) := by decide +kernel
theorem dX10_readToken_66 : decode cX10_readToken 66 = .ok (.aload_n 0, 1) := by decide +kernel
theorem dX10_readToken_67 : decode cX10_readToken 67 = .ok (.iconst 0, 1) := by decide +kernel
theorem dX10_readToken_68 : decode cX10_readToken 68 = .ok (.putfield 39, 3) := by decide +kernel
theorem dX10_readToken_71 : decode cX10_readToken 71 = .ok (.goto 56, 3) := by decide +kernel
theorem dX10_readToken_74 : decode cX10_readToken 74 = .ok (.iload_n 1, 1) := by decide +kernel
theorem dX10_readToken_75 : decode cX10_readToken 75 = .ok (.invokestatic 42, 3) := by decide +kernel
theorem dX10_readToken_78 : decode cX10_readToken 78 = .ok (.ifCond .eq 10, 3) := by decide +kernel
theorem dX10_readToken_81 : decode cX10_readToken 81 = .ok (.aload_n 0, 1) := by decide +kernel
theorem dX10_readToken_82 : decode cX10_readToken 82 = .ok (.invokevirtual 45, 3) := by decide +kernel
theorem dX10_readToken_85 : decode cX10_readToken 85 = .ok (.goto 42, 3) := by decide +kernel
theorem dX10_readToken_88 : decode cX10_readToken 88 = .ok (.iload_n 1, 1) := by decide +kernel
theorem dX10_readToken_89 : decode cX10_readToken 89 = .ok (.invokestatic 48, 3) := by decide +kernel
theorem dX10_readToken_92 : decode cX10_readToken 92 = .ok (.ifCond .eq 10, 3) := by decide +kernel
theorem dX10_readToken_95 : decode cX10_readToken 95 = .ok (.aload_n 0, 1) := by decide +kernel
theorem dX10_readToken_96 : decode cX10_readToken 96 = .ok (.invokevirtual 51, 3) := by decide +kernel
theorem dX10_readToken_99 : decode cX10_readToken 99 = .ok (.goto 28, 3) := by decide +kernel
theorem dX10_readToken_102 : decode cX10_readToken 102 = .ok (.aload_n 0, 1) := by decide +kernel
theorem dX10_readToken_103 : decode cX10_readToken 103 = .ok (.iload_n 1, 1) := by decide +kernel
theorem dX10_readToken_104 : decode cX10_readToken 104 = .ok (.bipush 59, 2) := by decide +kernel
theorem dX10_readToken_106 : decode cX10_readToken 106 = .ok (.if_icmp .ne 7, 3) := by decide +kernel
theorem dX10_readToken_109 : decode cX10_readToken 109 = .ok (.iconst 3, 1) := by decide +kernel
theorem dX10_readToken_110 : decode cX10_readToken 110 = .ok (.goto 4, 3) := by decide +kernel
theorem dX10_readToken_113 : decode cX10_readToken 113 = .ok (.iconst 4, 1) := by decide +kernel
theorem dX10_readToken_114 : decode cX10_readToken 114 = .ok (.putfield 39, 3) := by decide +kernel
theorem dX10_readToken_117 : decode cX10_readToken 117 = .ok (.aload_n 0, 1) := by decide +kernel
theorem dX10_readToken_118 : decode cX10_readToken 118 = .ok (.dup, 1) := by decide +kernel
theorem dX10_readToken_119 : decode cX10_readToken 119 = .ok (.getfield 22, 3) := by decide +kernel
theorem dX10_readToken_122 : decode cX10_readToken 122 = .ok (.iconst 1, 1) := by decide +kernel
theorem dX10_readToken_123 : decode cX10_readToken 123 = .ok (.iadd, 1) := by decide +kernel
theorem dX10_readToken_124 : decode cX10_readToken 124 = .ok (.putfield 22, 3) := by decide +kernel
theorem dX10_readToken_127 : decode cX10_readToken 127 = .ok (.return_, 1) := by decide +kernel
abbrev mX11_isBell : MI := (yX11_isBell, cX11_isBell, 1, some .boolean, 1, 21, [])
abbrev mX11_isDay : MI := (yX11_isDay, cX11_isDay, 1, some .boolean, 1, 21, [])
abbrev mX11_orNone : MI := (yX11_orNone, cX11_orNone, 1, some .int, 1, 21, [])
abbrev mX10_isBlank : MI := (yX10_isBlank, cX10_isBlank, 1, some .boolean, 1, 21, [])
abbrev mX10_isLetter : MI := (yX10_isLetter, cX10_isLetter, 1, some .boolean, 1, 21, [])
abbrev mX10_isDigit : MI := (yX10_isDigit, cX10_isDigit, 1, some .boolean, 1, 21, [])
abbrev mX10_byteAt : MI := (yX10_byteAt, cX10_byteAt, 2, some .int, 1, 21, [])
abbrev mX10_addFour : MI := (yX10_addFour, cX10_addFour, 3, none, 1, 21, [])
abbrev mX10_start : MI := (yX10_start, cX10_start, 1, none, 1, 21, [])
abbrev mX10_refuse : MI := (yX10_refuse, cX10_refuse, 2, none, 1, 21, [])
abbrev mX10_readWord : MI := (yX10_readWord, cX10_readWord, 1, none, 2, 42, [])
abbrev mX10_readNumber : MI := (yX10_readNumber, cX10_readNumber, 1, none, 2, 42, [])
abbrev mX10_readToken : MI := (yX10_readToken, cX10_readToken, 2, none, 3, 62, [])
theorem kB_8 : (Int8.ofInt 8).toInt32 = 8 := by decide
theorem kB_10 : (Int8.ofInt 10).toInt32 = 10 := by decide
theorem kB_24 : (Int8.ofInt 24).toInt32 = 24 := by decide
theorem kB_32 : (Int8.ofInt 32).toInt32 = 32 := by decide
theorem kB_48 : (Int8.ofInt 48).toInt32 = 48 := by decide
theorem kB_57 : (Int8.ofInt 57).toInt32 = 57 := by decide
theorem kB_59 : (Int8.ofInt 59).toInt32 = 59 := by decide
theorem kB_97 : (Int8.ofInt 97).toInt32 = 97 := by decide
theorem kB_122 : (Int8.ofInt 122).toInt32 = 122 := by decide
theorem kI_m8 : Int32.ofInt (-8) = (-8) := by decide
theorem kI_m1 : Int32.ofInt (-1) = (-1) := by decide
theorem kI_0 : Int32.ofInt 0 = 0 := by decide
theorem kI_1 : Int32.ofInt 1 = 1 := by decide
theorem kI_2 : Int32.ofInt 2 = 2 := by decide
theorem kI_3 : Int32.ofInt 3 = 3 := by decide
theorem kI_4 : Int32.ofInt 4 = 4 := by decide
theorem kS_1000 : (Int16.ofInt 1000).toInt32 = 1000 := by decide
theorem kS_1200 : (Int16.ofInt 1200).toInt32 = 1200 := by decide
theorem co_X11_192 : Cond.constant RX11 192 16777216 ∈ lw_w := lw_in (i := 781) (by decide +kernel) (by decide +kernel)
theorem fk_X10_9 : Fk RX10 9 10 4 := ⟨RX10, TX10, 8, tyX10, rfl, inX10, by decide, lw_in (i := 49) (by decide +kernel) (by decide +kernel), tyX10_ok, nmX10⟩
theorem fk_X10_15 : Fk RX10 15 10 5 := ⟨RX10, TX10, 8, tyX10, rfl, inX10, by decide, lw_in (i := 51) (by decide +kernel) (by decide +kernel), tyX10_ok, nmX10⟩
theorem fk_X10_19 : Fk RX10 19 10 0 := ⟨RX10, TX10, 8, tyX10, rfl, inX10, by decide, lw_in (i := 38) (by decide +kernel) (by decide +kernel), tyX10_ok, nmX10⟩
theorem fk_X10_22 : Fk RX10 22 10 7 := ⟨RX10, TX10, 8, tyX10, rfl, inX10, by decide, lw_in (i := 53) (by decide +kernel) (by decide +kernel), tyX10_ok, nmX10⟩
theorem fk_X10_25 : Fk RX10 25 10 3 := ⟨RX10, TX10, 8, tyX10, rfl, inX10, by decide, lw_in (i := 47) (by decide +kernel) (by decide +kernel), tyX10_ok, nmX10⟩
theorem fk_X10_28 : Fk RX10 28 10 6 := ⟨RX10, TX10, 8, tyX10, rfl, inX10, by decide, lw_in (i := 52) (by decide +kernel) (by decide +kernel), tyX10_ok, nmX10⟩
theorem fk_X10_39 : Fk RX10 39 10 1 := ⟨RX10, TX10, 8, tyX10, rfl, inX10, by decide, lw_in (i := 41) (by decide +kernel) (by decide +kernel), tyX10_ok, nmX10⟩
theorem fk_X10_54 : Fk RX10 54 10 2 := ⟨RX10, TX10, 8, tyX10, rfl, inX10, by decide, lw_in (i := 44) (by decide +kernel) (by decide +kernel), tyX10_ok, nmX10⟩
theorem fp_X10_0 : Fp 10 0 .int := ⟨RX10, TX10, 8, rfl, rfl, by decide +kernel⟩
theorem fp_X10_1 : Fp 10 1 .int := ⟨RX10, TX10, 8, rfl, rfl, by decide +kernel⟩
theorem fp_X10_2 : Fp 10 2 .int := ⟨RX10, TX10, 8, rfl, rfl, by decide +kernel⟩
theorem fp_X10_3 : Fp 10 3 .int := ⟨RX10, TX10, 8, rfl, rfl, by decide +kernel⟩
theorem fp_X10_4 : Fp 10 4 .int := ⟨RX10, TX10, 8, rfl, rfl, by decide +kernel⟩
theorem fp_X10_6 : Fp 10 6 .int := ⟨RX10, TX10, 8, rfl, rfl, by decide +kernel⟩
theorem fp_X10_7 : Fp 10 7 .int := ⟨RX10, TX10, 8, rfl, rfl, by decide +kernel⟩
theorem ms_X10_isBlank : Cond.static mX10_isBlank.y ∈ lw_w := lw_in (i := 497) (by decide +kernel) (by decide +kernel)
theorem ms_X10_isDigit : Cond.static mX10_isDigit.y ∈ lw_w := lw_in (i := 507) (by decide +kernel) (by decide +kernel)
theorem ms_X10_isLetter : Cond.static mX10_isLetter.y ∈ lw_w := lw_in (i := 500) (by decide +kernel) (by decide +kernel)
theorem mv_X10_byteAt : MkV mX10_byteAt := ⟨lw_in (i := 494) (by decide +kernel) (by decide +kernel), lw_se (i := 0) (by decide +kernel) (by decide +kernel)⟩
theorem mv_X10_readNumber : MkV mX10_readNumber := ⟨lw_in (i := 511) (by decide +kernel) (by decide +kernel), lw_se (i := 2) (by decide +kernel) (by decide +kernel)⟩
theorem mv_X10_readWord : MkV mX10_readWord := ⟨lw_in (i := 504) (by decide +kernel) (by decide +kernel), lw_se (i := 1) (by decide +kernel) (by decide +kernel)⟩
theorem mk_X10_31 : Mk RX10 31 mX10_byteAt 1 := ⟨lw_in (i := 492) (by decide +kernel) (by decide +kernel), lw_in (i := 2) (by decide +kernel) (by decide +kernel), lw_in (i := 495) (by decide +kernel) (by decide +kernel), by decide +kernel⟩
theorem mk_X10_35 : Mk RX10 35 mX10_isBlank 1 := ⟨lw_in (i := 496) (by decide +kernel) (by decide +kernel), lw_in (i := 2) (by decide +kernel) (by decide +kernel), lw_in (i := 498) (by decide +kernel) (by decide +kernel), by decide +kernel⟩
theorem mk_X10_42 : Mk RX10 42 mX10_isLetter 1 := ⟨lw_in (i := 499) (by decide +kernel) (by decide +kernel), lw_in (i := 2) (by decide +kernel) (by decide +kernel), lw_in (i := 501) (by decide +kernel) (by decide +kernel), by decide +kernel⟩
theorem mk_X10_45 : Mk RX10 45 mX10_readWord 0 := ⟨lw_in (i := 502) (by decide +kernel) (by decide +kernel), lw_in (i := 2) (by decide +kernel) (by decide +kernel), lw_in (i := 505) (by decide +kernel) (by decide +kernel), by decide +kernel⟩
theorem mk_X10_48 : Mk RX10 48 mX10_isDigit 1 := ⟨lw_in (i := 506) (by decide +kernel) (by decide +kernel), lw_in (i := 2) (by decide +kernel) (by decide +kernel), lw_in (i := 508) (by decide +kernel) (by decide +kernel), by decide +kernel⟩
theorem mk_X10_51 : Mk RX10 51 mX10_readNumber 0 := ⟨lw_in (i := 509) (by decide +kernel) (by decide +kernel), lw_in (i := 2) (by decide +kernel) (by decide +kernel), lw_in (i := 512) (by decide +kernel) (by decide +kernel), by decide +kernel⟩
theorem rm_X10_readNumber_X10_byteAt : Rm mX10_readNumber mX10_byteAt := ⟨by decide, by decide⟩
theorem rm_X10_readNumber_X10_isDigit : Rm mX10_readNumber mX10_isDigit := ⟨by decide, by decide⟩
theorem rm_X10_readToken_X10_byteAt : Rm mX10_readToken mX10_byteAt := ⟨by decide, by decide⟩
theorem rm_X10_readToken_X10_isBlank : Rm mX10_readToken mX10_isBlank := ⟨by decide, by decide⟩
theorem rm_X10_readToken_X10_isDigit : Rm mX10_readToken mX10_isDigit := ⟨by decide, by decide⟩
theorem rm_X10_readToken_X10_isLetter : Rm mX10_readToken mX10_isLetter := ⟨by decide, by decide⟩
theorem rm_X10_readToken_X10_readNumber : Rm mX10_readToken mX10_readNumber := ⟨by decide, by decide⟩
theorem rm_X10_readToken_X10_readWord : Rm mX10_readToken mX10_readWord := ⟨by decide, by decide⟩
theorem rm_X10_readWord_X10_byteAt : Rm mX10_readWord mX10_byteAt := ⟨by decide, by decide⟩
theorem rm_X10_readWord_X10_isLetter : Rm mX10_readWord mX10_isLetter := ⟨by decide, by decide⟩
section W_tape
variable {l : Launch} {D : va_G} {ad : Nat → Nat} {kA : Nat → ClassId} {M : Mem} {Q : Outcome → Mem → Prop}
def v_X11_isBell (x0 : Int32) : Int32 := if x0 < 0 then 0 else if 48 ≤ x0 then 0 else 1
theorem ct_X11_isBell {x0 : Int32}  (h : Q (.returned (some (.int (v_X11_isBell x0)))) M) : Cal l D ad kA mX11_isBell [.int x0] M Q := by
  refine Cal.of (lo := [some (.int x0)]) (by decide) rfl rfl (Nat.le_of_ble_eq_true rfl) ?_
  refine r_iload_n dX11_isBell_0 rfl ?_
  suffices hJ1 : Fw l D ad kA mX11_isBell 15 [none] [.int (if x0 < 0 then 0 else if 48 ≤ x0 then 0 else 1)] M Q by
    refine r_if_lt (tgt := 14) dX11_isBell_1 (by decide) (fun c1 => ?_) (fun c1 => ?_)
    · skip
      refine r_iconst (v := 0) dX11_isBell_14 kI_0 ?_
      exact q_weak (lo' := [none]) trivial (by have h9 := hJ1; simp only [if_pos c1] at h9; first | exact h9 | (simp only [if_pos c1]; exact h9))
    · skip
      refine r_iload_n dX11_isBell_4 rfl ?_
      refine r_bipush (v := 48) dX11_isBell_5 kB_48 ?_
      refine r_icmp_ge (tgt := 14) dX11_isBell_7 (by decide) (fun c2 => ?_) (fun c2 => ?_)
      · skip
        refine r_iconst (v := 0) dX11_isBell_14 kI_0 ?_
        exact q_weak (lo' := [none]) trivial (by have h9 := hJ1; simp only [if_neg c1, if_pos c2] at h9; first | exact h9 | (simp only [if_neg c1, if_pos c2]; exact h9))
      · skip
        refine r_iconst (v := 1) dX11_isBell_10 kI_1 ?_
        refine r_goto (tgt := 15) dX11_isBell_11 (by decide) ?_
        exact q_weak (lo' := [none]) trivial (by have h9 := hJ1; simp only [if_neg c1, if_neg c2] at h9; first | exact h9 | (simp only [if_neg c1, if_neg c2]; exact h9))
  exact r_zret dX11_isBell_15 rfl (nar_z (ite01 (Or.inl rfl) (ite01 (Or.inl rfl) (Or.inr rfl)))).1 h
theorem z_X11_isBell {x0 : Int32} : v_X11_isBell x0 = 0 ∨ v_X11_isBell x0 = 1 := (ite01 (Or.inl rfl) (ite01 (Or.inl rfl) (Or.inr rfl)))
def v_X11_isDay (x0 : Int32) : Int32 := if x0 < 0 then 0 else if 1000 ≤ x0 then 0 else 1
theorem ct_X11_isDay {x0 : Int32}  (h : Q (.returned (some (.int (v_X11_isDay x0)))) M) : Cal l D ad kA mX11_isDay [.int x0] M Q := by
  refine Cal.of (lo := [some (.int x0)]) (by decide) rfl rfl (Nat.le_of_ble_eq_true rfl) ?_
  refine r_iload_n dX11_isDay_0 rfl ?_
  suffices hJ1 : Fw l D ad kA mX11_isDay 16 [none] [.int (if x0 < 0 then 0 else if 1000 ≤ x0 then 0 else 1)] M Q by
    refine r_if_lt (tgt := 15) dX11_isDay_1 (by decide) (fun c1 => ?_) (fun c1 => ?_)
    · skip
      refine r_iconst (v := 0) dX11_isDay_15 kI_0 ?_
      exact q_weak (lo' := [none]) trivial (by have h9 := hJ1; simp only [if_pos c1] at h9; first | exact h9 | (simp only [if_pos c1]; exact h9))
    · skip
      refine r_iload_n dX11_isDay_4 rfl ?_
      refine r_sipush (v := 1000) dX11_isDay_5 kS_1000 ?_
      refine r_icmp_ge (tgt := 15) dX11_isDay_8 (by decide) (fun c2 => ?_) (fun c2 => ?_)
      · skip
        refine r_iconst (v := 0) dX11_isDay_15 kI_0 ?_
        exact q_weak (lo' := [none]) trivial (by have h9 := hJ1; simp only [if_neg c1, if_pos c2] at h9; first | exact h9 | (simp only [if_neg c1, if_pos c2]; exact h9))
      · skip
        refine r_iconst (v := 1) dX11_isDay_11 kI_1 ?_
        refine r_goto (tgt := 16) dX11_isDay_12 (by decide) ?_
        exact q_weak (lo' := [none]) trivial (by have h9 := hJ1; simp only [if_neg c1, if_neg c2] at h9; first | exact h9 | (simp only [if_neg c1, if_neg c2]; exact h9))
  exact r_zret dX11_isDay_16 rfl (nar_z (ite01 (Or.inl rfl) (ite01 (Or.inl rfl) (Or.inr rfl)))).1 h
theorem z_X11_isDay {x0 : Int32} : v_X11_isDay x0 = 0 ∨ v_X11_isDay x0 = 1 := (ite01 (Or.inl rfl) (ite01 (Or.inl rfl) (Or.inr rfl)))
def v_X11_orNone (x0 : Int32) : Int32 := if x0 < 16777216 then x0 else (-1)
theorem ct_X11_orNone {x0 : Int32}  (h : Q (.returned (some (.int (v_X11_orNone x0)))) M) : Cal l D ad kA mX11_orNone [.int x0] M Q := by
  refine Cal.of (lo := [some (.int x0)]) (by decide) rfl rfl (Nat.le_of_ble_eq_true rfl) ?_
  refine r_iload_n dX11_orNone_0 rfl ?_
  refine r_ldc (v := 16777216) dX11_orNone_1 co_X11_192 ?_
  suffices hJ1 : Fw l D ad kA mX11_orNone 11 [none] [.int (if x0 < 16777216 then x0 else (-1))] M Q by
    refine r_icmp_lt (tgt := 10) dX11_orNone_3 (by decide) (fun c1 => ?_) (fun c1 => ?_)
    · skip
      refine r_iload_n dX11_orNone_10 rfl ?_
      exact q_weak (lo' := [none]) trivial (by have h9 := hJ1; simp only [if_pos c1] at h9; first | exact h9 | (simp only [if_pos c1]; exact h9))
    · skip
      refine r_iconst (v := (-1)) dX11_orNone_6 kI_m1 ?_
      refine r_goto (tgt := 11) dX11_orNone_7 (by decide) ?_
      exact q_weak (lo' := [none]) trivial (by have h9 := hJ1; simp only [if_neg c1] at h9; first | exact h9 | (simp only [if_neg c1]; exact h9))
  exact r_iret dX11_orNone_11 rfl h
def v_X10_isBlank (x0 : Int32) : Int32 := if x0 = 32 then 1 else if x0 = 10 then 1 else 0
theorem ct_X10_isBlank {x0 : Int32}  (h : Q (.returned (some (.int (v_X10_isBlank x0)))) M) : Cal l D ad kA mX10_isBlank [.int x0] M Q := by
  refine Cal.of (lo := [some (.int x0)]) (by decide) rfl rfl (Nat.le_of_ble_eq_true rfl) ?_
  refine r_iload_n dX10_isBlank_0 rfl ?_
  refine r_bipush (v := 32) dX10_isBlank_1 kB_32 ?_
  suffices hJ1 : Fw l D ad kA mX10_isBlank 17 [none] [.int (if x0 = 32 then 1 else if x0 = 10 then 1 else 0)] M Q by
    refine r_icmp_eq (tgt := 12) dX10_isBlank_3 (by decide) (fun c1 => ?_) (fun c1 => ?_)
    · skip
      refine r_iconst (v := 1) dX10_isBlank_12 kI_1 ?_
      refine r_goto (tgt := 17) dX10_isBlank_13 (by decide) ?_
      exact q_weak (lo' := [none]) trivial (by have h9 := hJ1; simp only [if_pos c1] at h9; first | exact h9 | (simp only [if_pos c1]; exact h9))
    · skip
      refine r_iload_n dX10_isBlank_6 rfl ?_
      refine r_bipush (v := 10) dX10_isBlank_7 kB_10 ?_
      refine r_icmp_ne (tgt := 16) dX10_isBlank_9 (by decide) (fun c2 => ?_) (fun c2 => ?_)
      · skip
        refine r_iconst (v := 0) dX10_isBlank_16 kI_0 ?_
        exact q_weak (lo' := [none]) trivial (by have h9 := hJ1; simp only [if_neg c1, if_neg c2] at h9; first | exact h9 | (simp only [if_neg c1, if_neg c2]; exact h9))
      · skip
        refine r_iconst (v := 1) dX10_isBlank_12 kI_1 ?_
        refine r_goto (tgt := 17) dX10_isBlank_13 (by decide) ?_
        exact q_weak (lo' := [none]) trivial (by have h9 := hJ1; simp only [if_neg c1, if_pos c2] at h9; first | exact h9 | (simp only [if_neg c1, if_pos c2]; exact h9))
  exact r_zret dX10_isBlank_17 rfl (nar_z (ite01 (Or.inr rfl) (ite01 (Or.inr rfl) (Or.inl rfl)))).1 h
theorem z_X10_isBlank {x0 : Int32} : v_X10_isBlank x0 = 0 ∨ v_X10_isBlank x0 = 1 := (ite01 (Or.inr rfl) (ite01 (Or.inr rfl) (Or.inl rfl)))
def v_X10_isLetter (x0 : Int32) : Int32 := if x0 < 97 then 0 else if 122 < x0 then 0 else 1
theorem ct_X10_isLetter {x0 : Int32}  (h : Q (.returned (some (.int (v_X10_isLetter x0)))) M) : Cal l D ad kA mX10_isLetter [.int x0] M Q := by
  refine Cal.of (lo := [some (.int x0)]) (by decide) rfl rfl (Nat.le_of_ble_eq_true rfl) ?_
  refine r_iload_n dX10_isLetter_0 rfl ?_
  refine r_bipush (v := 97) dX10_isLetter_1 kB_97 ?_
  suffices hJ1 : Fw l D ad kA mX10_isLetter 17 [none] [.int (if x0 < 97 then 0 else if 122 < x0 then 0 else 1)] M Q by
    refine r_icmp_lt (tgt := 16) dX10_isLetter_3 (by decide) (fun c1 => ?_) (fun c1 => ?_)
    · skip
      refine r_iconst (v := 0) dX10_isLetter_16 kI_0 ?_
      exact q_weak (lo' := [none]) trivial (by have h9 := hJ1; simp only [if_pos c1] at h9; first | exact h9 | (simp only [if_pos c1]; exact h9))
    · skip
      refine r_iload_n dX10_isLetter_6 rfl ?_
      refine r_bipush (v := 122) dX10_isLetter_7 kB_122 ?_
      refine r_icmp_gt (tgt := 16) dX10_isLetter_9 (by decide) (fun c2 => ?_) (fun c2 => ?_)
      · skip
        refine r_iconst (v := 0) dX10_isLetter_16 kI_0 ?_
        exact q_weak (lo' := [none]) trivial (by have h9 := hJ1; simp only [if_neg c1, if_pos c2] at h9; first | exact h9 | (simp only [if_neg c1, if_pos c2]; exact h9))
      · skip
        refine r_iconst (v := 1) dX10_isLetter_12 kI_1 ?_
        refine r_goto (tgt := 17) dX10_isLetter_13 (by decide) ?_
        exact q_weak (lo' := [none]) trivial (by have h9 := hJ1; simp only [if_neg c1, if_neg c2] at h9; first | exact h9 | (simp only [if_neg c1, if_neg c2]; exact h9))
  exact r_zret dX10_isLetter_17 rfl (nar_z (ite01 (Or.inl rfl) (ite01 (Or.inl rfl) (Or.inr rfl)))).1 h
theorem z_X10_isLetter {x0 : Int32} : v_X10_isLetter x0 = 0 ∨ v_X10_isLetter x0 = 1 := (ite01 (Or.inl rfl) (ite01 (Or.inl rfl) (Or.inr rfl)))
def v_X10_isDigit (x0 : Int32) : Int32 := if x0 < 48 then 0 else if 57 < x0 then 0 else 1
theorem ct_X10_isDigit {x0 : Int32}  (h : Q (.returned (some (.int (v_X10_isDigit x0)))) M) : Cal l D ad kA mX10_isDigit [.int x0] M Q := by
  refine Cal.of (lo := [some (.int x0)]) (by decide) rfl rfl (Nat.le_of_ble_eq_true rfl) ?_
  refine r_iload_n dX10_isDigit_0 rfl ?_
  refine r_bipush (v := 48) dX10_isDigit_1 kB_48 ?_
  suffices hJ1 : Fw l D ad kA mX10_isDigit 17 [none] [.int (if x0 < 48 then 0 else if 57 < x0 then 0 else 1)] M Q by
    refine r_icmp_lt (tgt := 16) dX10_isDigit_3 (by decide) (fun c1 => ?_) (fun c1 => ?_)
    · skip
      refine r_iconst (v := 0) dX10_isDigit_16 kI_0 ?_
      exact q_weak (lo' := [none]) trivial (by have h9 := hJ1; simp only [if_pos c1] at h9; first | exact h9 | (simp only [if_pos c1]; exact h9))
    · skip
      refine r_iload_n dX10_isDigit_6 rfl ?_
      refine r_bipush (v := 57) dX10_isDigit_7 kB_57 ?_
      refine r_icmp_gt (tgt := 16) dX10_isDigit_9 (by decide) (fun c2 => ?_) (fun c2 => ?_)
      · skip
        refine r_iconst (v := 0) dX10_isDigit_16 kI_0 ?_
        exact q_weak (lo' := [none]) trivial (by have h9 := hJ1; simp only [if_neg c1, if_pos c2] at h9; first | exact h9 | (simp only [if_neg c1, if_pos c2]; exact h9))
      · skip
        refine r_iconst (v := 1) dX10_isDigit_12 kI_1 ?_
        refine r_goto (tgt := 17) dX10_isDigit_13 (by decide) ?_
        exact q_weak (lo' := [none]) trivial (by have h9 := hJ1; simp only [if_neg c1, if_neg c2] at h9; first | exact h9 | (simp only [if_neg c1, if_neg c2]; exact h9))
  exact r_zret dX10_isDigit_17 rfl (nar_z (ite01 (Or.inl rfl) (ite01 (Or.inl rfl) (Or.inr rfl)))).1 h
theorem z_X10_isDigit {x0 : Int32} : v_X10_isDigit x0 = 0 ∨ v_X10_isDigit x0 = 1 := (ite01 (Or.inl rfl) (ite01 (Or.inl rfl) (Or.inr rfl)))
def v_X10_byteAt (M : Mem) (x1 : Int32) : Int32 := if x1 < 0 then 0 else if (gI M 1 0) ≤ x1 then 0 else if 1200 ≤ x1 then 0 else gI M 2 x1.toNatClampNeg
def g_X10_byteAt (M : Mem) (x1 : Int32) : Prop := ((¬ (x1 < 0)) → (¬ ((gI M 1 0) ≤ x1)) → (¬ (1200 ≤ x1)) → vp_in x1 1200)
theorem ct_X10_byteAt {x1 : Int32}  (g : g_X10_byteAt M x1) (h : Q (.returned (some (.int (v_X10_byteAt M x1)))) M) : Cal l D ad kA mX10_byteAt [.ref (ad 1), .int x1] M Q := by
  refine Cal.of (lo := [some (.ref (ad 1)), some (.int x1)]) (by decide) rfl rfl (Nat.le_of_ble_eq_true rfl) ?_
  have g1 := g
  refine r_iload_n dX10_byteAt_0 rfl ?_
  suffices hJ1 : Fw l D ad kA mX10_byteAt 29 [none, none] [.int (if x1 < 0 then 0 else if (gI M 1 0) ≤ x1 then 0 else if 1200 ≤ x1 then 0 else gI M 2 x1.toNatClampNeg)] M Q by
    refine r_if_lt (tgt := 28) dX10_byteAt_1 (by decide) (fun c1 => ?_) (fun c1 => ?_)
    · skip
      refine r_iconst (v := 0) dX10_byteAt_28 kI_0 ?_
      exact q_weak (lo' := [none, none]) trivial (by have h9 := hJ1; simp only [if_pos c1] at h9; first | exact h9 | (simp only [if_pos c1]; exact h9))
    · skip
      refine r_iload_n dX10_byteAt_4 rfl ?_
      refine r_aload_n dX10_byteAt_5 rfl ?_
      refine r_getI dX10_byteAt_6 fs_1_0 fk_X10_19 ?_
      refine r_icmp_ge (tgt := 28) dX10_byteAt_9 (by decide) (fun c2 => ?_) (fun c2 => ?_)
      · skip
        refine r_iconst (v := 0) dX10_byteAt_28 kI_0 ?_
        exact q_weak (lo' := [none, none]) trivial (by have h9 := hJ1; simp only [if_neg c1, if_pos c2] at h9; first | exact h9 | (simp only [if_neg c1, if_pos c2]; exact h9))
      · skip
        refine r_iload_n dX10_byteAt_12 rfl ?_
        refine r_sipush (v := 1200) dX10_byteAt_13 kS_1200 ?_
        refine r_icmp_ge (tgt := 28) dX10_byteAt_16 (by decide) (fun c3 => ?_) (fun c3 => ?_)
        · skip
          refine r_iconst (v := 0) dX10_byteAt_28 kI_0 ?_
          exact q_weak (lo' := [none, none]) trivial (by have h9 := hJ1; simp only [if_neg c1, if_neg c2, if_pos c3] at h9; first | exact h9 | (simp only [if_neg c1, if_neg c2, if_pos c3]; exact h9))
        · skip
          refine r_aload_n dX10_byteAt_19 rfl ?_
          refine r_getR dX10_byteAt_20 fs_1_5 fk_X10_15 ?_
          refine r_iload_n dX10_byteAt_23 rfl ?_
          refine r_bald dX10_byteAt_24 as_2 (g1 c1 c2 c3) ?_
          refine r_goto (tgt := 29) dX10_byteAt_25 (by decide) ?_
          exact q_weak (lo' := [none, none]) trivial (by have h9 := hJ1; simp only [if_neg c1, if_neg c2, if_neg c3] at h9; first | exact h9 | (simp only [if_neg c1, if_neg c2, if_neg c3]; exact h9))
  exact r_iret dX10_byteAt_29 rfl h
theorem t_X10_addFour_0 {x1 : Int32} 
    (K1 : Fw l D ad kA mX10_addFour 3 [some (.ref (ad 1)), some (.int x1), some (.int 24)] [] M Q) : Fw l D ad kA mX10_addFour 0 [some (.ref (ad 1)), some (.int x1), none] [] M Q := by
  refine r_bipush (v := 24) dX10_addFour_0 kB_24 ?_
  refine q_istore_n (lo' := [some (.ref (ad 1)), some (.int x1), some (.int 24)]) dX10_addFour_2 (by decide) rfl ?_
  exact K1
theorem t_X10_addFour_3 {x1 : Int32} {x2 : Int32} 
    (g1 : (¬ (x2 < 0)) → (¬ (1200 ≤ (gI M 1 0))) → vp_in (gI M 1 0) 1200)
    (K1 : (x2 < 0) → Q (.returned none) M)
    (K2 : (¬ (x2 < 0)) → (1200 ≤ (gI M 1 0)) → Q (.returned none) M)
    (K3 : (¬ (x2 < 0)) → (¬ (1200 ≤ (gI M 1 0))) → Fw l D ad kA mX10_addFour 3 [some (.ref (ad 1)), some (.int x1), some (.int (x2 + (-8)))] [] (sI (sI M 2 (gI M 1 0).toNatClampNeg (vp_nar .byte ((x1 >>> (x2 &&& 31)).toInt8.toInt32))) 1 0 ((gI M 1 0) + 1)) Q) : Fw l D ad kA mX10_addFour 3 [some (.ref (ad 1)), some (.int x1), some (.int x2)] [] M Q := by
  refine r_iload_n dX10_addFour_3 rfl ?_
  refine r_if_lt (tgt := 46) dX10_addFour_4 (by decide) (fun c1 => ?_) (fun c1 => ?_)
  · skip
    exact r_vret dX10_addFour_46 rfl (K1 c1)
  · skip
    refine r_aload_n dX10_addFour_7 rfl ?_
    refine r_getI dX10_addFour_8 fs_1_0 fk_X10_19 ?_
    refine r_sipush (v := 1200) dX10_addFour_11 kS_1200 ?_
    refine r_icmp_ge (tgt := 46) dX10_addFour_14 (by decide) (fun c2 => ?_) (fun c2 => ?_)
    · skip
      exact r_vret dX10_addFour_46 rfl (K2 c1 c2)
    · skip
      refine r_aload_n dX10_addFour_17 rfl ?_
      refine r_getR dX10_addFour_18 fs_1_5 fk_X10_15 ?_
      refine r_aload_n dX10_addFour_21 rfl ?_
      refine r_getI dX10_addFour_22 fs_1_0 fk_X10_19 ?_
      refine r_iload_n dX10_addFour_25 rfl ?_
      refine r_iload_n dX10_addFour_26 rfl ?_
      refine r_ishr dX10_addFour_27 ?_
      refine r_i2b dX10_addFour_28 ?_
      refine r_bast dX10_addFour_29 as_2 (g1 c1 c2) ?_
      refine r_aload_n dX10_addFour_30 rfl ?_
      refine r_dup dX10_addFour_31 rfl ?_
      refine q_getI (v := gI M 1 0) dX10_addFour_32 fs_1_0 fk_X10_19 rfl ?_
      refine r_iconst (v := 1) dX10_addFour_35 kI_1 ?_
      refine r_iadd dX10_addFour_36 ?_
      refine r_putI dX10_addFour_37 fs_1_0 fk_X10_19 fp_X10_0 ?_
      refine q_iinc (v := x2 + (-8)) (lo' := [some (.ref (ad 1)), some (.int x1), some (.int (x2 + (-8)))]) dX10_addFour_40 rfl (congrArg (fun q => x2 + q) kI_m8) (by decide) rfl ?_
      refine r_goto (tgt := 3) dX10_addFour_43 (by decide) ?_
      exact (K3 c1 c2)
theorem en_X10_addFour {x1 : Int32} (K : Fw l D ad kA mX10_addFour 0 [some (.ref (ad 1)), some (.int x1), none] [] M Q) : Cal l D ad kA mX10_addFour [.ref (ad 1), .int x1] M Q := Cal.of (by decide) rfl rfl (Nat.le_of_ble_eq_true rfl) K
theorem t_X10_start_0  
    (K1 : Q (.returned none) (sI (sI (sI M 1 7 0) 1 3 0) 1 4 (-1))) : Fw l D ad kA mX10_start 0 [some (.ref (ad 1))] [] M Q := by
  refine r_aload_n dX10_start_0 rfl ?_
  refine r_iconst (v := 0) dX10_start_1 kI_0 ?_
  refine r_putI dX10_start_2 fs_1_7 fk_X10_22 fp_X10_7 ?_
  refine r_aload_n dX10_start_5 rfl ?_
  refine r_iconst (v := 0) dX10_start_6 kI_0 ?_
  refine r_putI dX10_start_7 fs_1_3 fk_X10_25 fp_X10_3 ?_
  refine r_aload_n dX10_start_10 rfl ?_
  refine r_iconst (v := (-1)) dX10_start_11 kI_m1 ?_
  refine r_putI dX10_start_12 fs_1_4 fk_X10_9 fp_X10_4 ?_
  exact r_vret dX10_start_15 rfl K1
theorem en_X10_start  (K : Fw l D ad kA mX10_start 0 [some (.ref (ad 1))] [] M Q) : Cal l D ad kA mX10_start [.ref (ad 1)] M Q := Cal.of (by decide) rfl rfl (Nat.le_of_ble_eq_true rfl) K
theorem t_X10_refuse_0 {x1 : Int32} 
    (K1 : Q (.returned none) (sI (sI M 1 3 x1) 1 4 (gI M 1 6))) : Fw l D ad kA mX10_refuse 0 [some (.ref (ad 1)), some (.int x1)] [] M Q := by
  refine r_aload_n dX10_refuse_0 rfl ?_
  refine r_iload_n dX10_refuse_1 rfl ?_
  refine r_putI dX10_refuse_2 fs_1_3 fk_X10_25 fp_X10_3 ?_
  refine r_aload_n dX10_refuse_5 rfl ?_
  refine r_aload_n dX10_refuse_6 rfl ?_
  refine q_getI (v := gI M 1 6) dX10_refuse_7 fs_1_6 fk_X10_28 rfl ?_
  refine r_putI dX10_refuse_10 fs_1_4 fk_X10_9 fp_X10_4 ?_
  exact r_vret dX10_refuse_13 rfl K1
theorem en_X10_refuse {x1 : Int32} (K : Fw l D ad kA mX10_refuse 0 [some (.ref (ad 1)), some (.int x1)] [] M Q) : Cal l D ad kA mX10_refuse [.ref (ad 1), .int x1] M Q := Cal.of (by decide) rfl rfl (Nat.le_of_ble_eq_true rfl) K
theorem t_X10_readWord_0  
    (g1 : (¬ ((gI M 1 0) ≤ (gI M 1 7))) → g_X10_byteAt M (gI M 1 7))
    (K1 : ((gI M 1 0) ≤ (gI M 1 7)) → Q (.returned none) (sI M 1 1 (if ((gI M 1 7) - (gI M 1 6)) ≤ 8 then 1 else 4)))
    (K2 : (¬ ((gI M 1 0) ≤ (gI M 1 7))) → ((v_X10_isLetter (v_X10_byteAt M (gI M 1 7))) = 0) → Q (.returned none) (sI M 1 1 (if ((gI M 1 7) - (gI M 1 6)) ≤ 8 then 1 else 4)))
    (K3 : (¬ ((gI M 1 0) ≤ (gI M 1 7))) → (¬ ((v_X10_isLetter (v_X10_byteAt M (gI M 1 7))) = 0)) → Fw l D ad kA mX10_readWord 0 [some (.ref (ad 1))] [] (sI M 1 7 ((gI M 1 7) + 1)) Q) : Fw l D ad kA mX10_readWord 0 [some (.ref (ad 1))] [] M Q := by
  refine r_aload_n dX10_readWord_0 rfl ?_
  refine r_getI dX10_readWord_1 fs_1_7 fk_X10_22 ?_
  refine r_aload_n dX10_readWord_4 rfl ?_
  refine r_getI dX10_readWord_5 fs_1_0 fk_X10_19 ?_
  refine r_icmp_ge (tgt := 38) dX10_readWord_8 (by decide) (fun c1 => ?_) (fun c1 => ?_)
  · skip
    refine r_aload_n dX10_readWord_38 rfl ?_
    refine r_aload_n dX10_readWord_39 rfl ?_
    refine r_getI dX10_readWord_40 fs_1_7 fk_X10_22 ?_
    refine r_aload_n dX10_readWord_43 rfl ?_
    refine r_getI dX10_readWord_44 fs_1_6 fk_X10_28 ?_
    refine r_isub dX10_readWord_47 ?_
    refine r_bipush (v := 8) dX10_readWord_48 kB_8 ?_
    suffices hJ1 : Fw l D ad kA mX10_readWord 58 [none] [.int (if ((gI M 1 7) - (gI M 1 6)) ≤ 8 then 1 else 4), .ref (ad 1)] M Q by
      refine r_icmp_le (tgt := 57) dX10_readWord_50 (by decide) (fun c2 => ?_) (fun c2 => ?_)
      · skip
        refine r_iconst (v := 1) dX10_readWord_57 kI_1 ?_
        exact q_weak (lo' := [none]) trivial (by have h9 := hJ1; simp only [if_pos c2] at h9; first | exact h9 | (simp only [if_pos c2]; exact h9))
      · skip
        refine r_iconst (v := 4) dX10_readWord_53 kI_4 ?_
        refine r_goto (tgt := 58) dX10_readWord_54 (by decide) ?_
        exact q_weak (lo' := [none]) trivial (by have h9 := hJ1; simp only [if_neg c2] at h9; first | exact h9 | (simp only [if_neg c2]; exact h9))
    refine r_putI dX10_readWord_58 fs_1_1 fk_X10_39 fp_X10_1 ?_
    exact r_vret dX10_readWord_61 rfl (K1 c1)
  · skip
    refine r_aload_n dX10_readWord_11 rfl ?_
    refine r_aload_n dX10_readWord_12 rfl ?_
    refine r_getI dX10_readWord_13 fs_1_7 fk_X10_22 ?_
    refine r_callV (x := 1) (As := [.int (gI M 1 7)]) (rest := []) dX10_readWord_16 mk_X10_31 mv_X10_byteAt rm_X10_readWord_X10_byteAt rfl rfl (by decide +kernel) (Nat.le_of_ble_eq_true rfl) (ct_X10_byteAt (g1 c1) (⟨_, rfl, ?_⟩))
    refine r_callS (As := [.int (v_X10_byteAt M (gI M 1 7))]) (rest := []) dX10_readWord_19 mk_X10_42 ms_X10_isLetter rm_X10_readWord_X10_isLetter rfl rfl (Nat.le_of_ble_eq_true rfl) (ct_X10_isLetter (⟨_, rfl, ?_⟩))
    refine r_if_eq (tgt := 38) dX10_readWord_22 (by decide) (fun c3 => ?_) (fun c3 => ?_)
    · skip
      refine r_aload_n dX10_readWord_38 rfl ?_
      refine r_aload_n dX10_readWord_39 rfl ?_
      refine r_getI dX10_readWord_40 fs_1_7 fk_X10_22 ?_
      refine r_aload_n dX10_readWord_43 rfl ?_
      refine r_getI dX10_readWord_44 fs_1_6 fk_X10_28 ?_
      refine r_isub dX10_readWord_47 ?_
      refine r_bipush (v := 8) dX10_readWord_48 kB_8 ?_
      suffices hJ2 : Fw l D ad kA mX10_readWord 58 [none] [.int (if ((gI M 1 7) - (gI M 1 6)) ≤ 8 then 1 else 4), .ref (ad 1)] M Q by
        refine r_icmp_le (tgt := 57) dX10_readWord_50 (by decide) (fun c4 => ?_) (fun c4 => ?_)
        · skip
          refine r_iconst (v := 1) dX10_readWord_57 kI_1 ?_
          exact q_weak (lo' := [none]) trivial (by have h9 := hJ2; simp only [if_pos c4] at h9; first | exact h9 | (simp only [if_pos c4]; exact h9))
        · skip
          refine r_iconst (v := 4) dX10_readWord_53 kI_4 ?_
          refine r_goto (tgt := 58) dX10_readWord_54 (by decide) ?_
          exact q_weak (lo' := [none]) trivial (by have h9 := hJ2; simp only [if_neg c4] at h9; first | exact h9 | (simp only [if_neg c4]; exact h9))
      refine r_putI dX10_readWord_58 fs_1_1 fk_X10_39 fp_X10_1 ?_
      exact r_vret dX10_readWord_61 rfl (K2 c1 c3)
    · skip
      refine r_aload_n dX10_readWord_25 rfl ?_
      refine r_dup dX10_readWord_26 rfl ?_
      refine r_getI dX10_readWord_27 fs_1_7 fk_X10_22 ?_
      refine r_iconst (v := 1) dX10_readWord_30 kI_1 ?_
      refine r_iadd dX10_readWord_31 ?_
      refine r_putI dX10_readWord_32 fs_1_7 fk_X10_22 fp_X10_7 ?_
      refine r_goto (tgt := 0) dX10_readWord_35 (by decide) ?_
      exact (K3 c1 c3)
theorem en_X10_readWord  (K : Fw l D ad kA mX10_readWord 0 [some (.ref (ad 1))] [] M Q) : Cal l D ad kA mX10_readWord [.ref (ad 1)] M Q := Cal.of (by decide) rfl rfl (Nat.le_of_ble_eq_true rfl) K
theorem t_X10_readNumber_0  
    (K1 : Fw l D ad kA mX10_readNumber 5 [some (.ref (ad 1))] [] (sI M 1 2 0) Q) : Fw l D ad kA mX10_readNumber 0 [some (.ref (ad 1))] [] M Q := by
  refine r_aload_n dX10_readNumber_0 rfl ?_
  refine r_iconst (v := 0) dX10_readNumber_1 kI_0 ?_
  refine r_putI dX10_readNumber_2 fs_1_2 fk_X10_54 fp_X10_2 ?_
  exact K1
theorem t_X10_readNumber_5  
    (g1 : (¬ ((gI M 1 0) ≤ (gI M 1 7))) → g_X10_byteAt M (gI M 1 7))
    (K1 : ((gI M 1 0) ≤ (gI M 1 7)) → Q (.returned none) (sI M 1 1 (if ((gI M 1 7) - (gI M 1 6)) ≤ 3 then 2 else 4)))
    (K2 : (¬ ((gI M 1 0) ≤ (gI M 1 7))) → ((v_X10_isDigit (v_X10_byteAt M (gI M 1 7))) = 0) → Q (.returned none) (sI M 1 1 (if ((gI M 1 7) - (gI M 1 6)) ≤ 3 then 2 else 4)))
    (K3 : (¬ ((gI M 1 0) ≤ (gI M 1 7))) → (¬ ((v_X10_isDigit (v_X10_byteAt M (gI M 1 7))) = 0)) → Fw l D ad kA mX10_readNumber 5 [some (.ref (ad 1))] [] (sI (sI M 1 2 ((((gI M 1 2) * 10) + (v_X10_byteAt M (gI M 1 7))) - 48)) 1 7 ((gI M 1 7) + 1)) Q) : Fw l D ad kA mX10_readNumber 5 [some (.ref (ad 1))] [] M Q := by
  refine r_aload_n dX10_readNumber_5 rfl ?_
  refine r_getI dX10_readNumber_6 fs_1_7 fk_X10_22 ?_
  refine r_aload_n dX10_readNumber_9 rfl ?_
  refine r_getI dX10_readNumber_10 fs_1_0 fk_X10_19 ?_
  refine r_icmp_ge (tgt := 66) dX10_readNumber_13 (by decide) (fun c1 => ?_) (fun c1 => ?_)
  · skip
    refine r_aload_n dX10_readNumber_66 rfl ?_
    refine r_aload_n dX10_readNumber_67 rfl ?_
    refine r_getI dX10_readNumber_68 fs_1_7 fk_X10_22 ?_
    refine r_aload_n dX10_readNumber_71 rfl ?_
    refine r_getI dX10_readNumber_72 fs_1_6 fk_X10_28 ?_
    refine r_isub dX10_readNumber_75 ?_
    refine r_iconst (v := 3) dX10_readNumber_76 kI_3 ?_
    suffices hJ1 : Fw l D ad kA mX10_readNumber 85 [none] [.int (if ((gI M 1 7) - (gI M 1 6)) ≤ 3 then 2 else 4), .ref (ad 1)] M Q by
      refine r_icmp_le (tgt := 84) dX10_readNumber_77 (by decide) (fun c2 => ?_) (fun c2 => ?_)
      · skip
        refine r_iconst (v := 2) dX10_readNumber_84 kI_2 ?_
        exact q_weak (lo' := [none]) trivial (by have h9 := hJ1; simp only [if_pos c2] at h9; first | exact h9 | (simp only [if_pos c2]; exact h9))
      · skip
        refine r_iconst (v := 4) dX10_readNumber_80 kI_4 ?_
        refine r_goto (tgt := 85) dX10_readNumber_81 (by decide) ?_
        exact q_weak (lo' := [none]) trivial (by have h9 := hJ1; simp only [if_neg c2] at h9; first | exact h9 | (simp only [if_neg c2]; exact h9))
    refine r_putI dX10_readNumber_85 fs_1_1 fk_X10_39 fp_X10_1 ?_
    exact r_vret dX10_readNumber_88 rfl (K1 c1)
  · skip
    refine r_aload_n dX10_readNumber_16 rfl ?_
    refine r_aload_n dX10_readNumber_17 rfl ?_
    refine r_getI dX10_readNumber_18 fs_1_7 fk_X10_22 ?_
    refine r_callV (x := 1) (As := [.int (gI M 1 7)]) (rest := []) dX10_readNumber_21 mk_X10_31 mv_X10_byteAt rm_X10_readNumber_X10_byteAt rfl rfl (by decide +kernel) (Nat.le_of_ble_eq_true rfl) (ct_X10_byteAt (g1 c1) (⟨_, rfl, ?_⟩))
    refine r_callS (As := [.int (v_X10_byteAt M (gI M 1 7))]) (rest := []) dX10_readNumber_24 mk_X10_48 ms_X10_isDigit rm_X10_readNumber_X10_isDigit rfl rfl (Nat.le_of_ble_eq_true rfl) (ct_X10_isDigit (⟨_, rfl, ?_⟩))
    refine r_if_eq (tgt := 66) dX10_readNumber_27 (by decide) (fun c3 => ?_) (fun c3 => ?_)
    · skip
      refine r_aload_n dX10_readNumber_66 rfl ?_
      refine r_aload_n dX10_readNumber_67 rfl ?_
      refine r_getI dX10_readNumber_68 fs_1_7 fk_X10_22 ?_
      refine r_aload_n dX10_readNumber_71 rfl ?_
      refine r_getI dX10_readNumber_72 fs_1_6 fk_X10_28 ?_
      refine r_isub dX10_readNumber_75 ?_
      refine r_iconst (v := 3) dX10_readNumber_76 kI_3 ?_
      suffices hJ2 : Fw l D ad kA mX10_readNumber 85 [none] [.int (if ((gI M 1 7) - (gI M 1 6)) ≤ 3 then 2 else 4), .ref (ad 1)] M Q by
        refine r_icmp_le (tgt := 84) dX10_readNumber_77 (by decide) (fun c4 => ?_) (fun c4 => ?_)
        · skip
          refine r_iconst (v := 2) dX10_readNumber_84 kI_2 ?_
          exact q_weak (lo' := [none]) trivial (by have h9 := hJ2; simp only [if_pos c4] at h9; first | exact h9 | (simp only [if_pos c4]; exact h9))
        · skip
          refine r_iconst (v := 4) dX10_readNumber_80 kI_4 ?_
          refine r_goto (tgt := 85) dX10_readNumber_81 (by decide) ?_
          exact q_weak (lo' := [none]) trivial (by have h9 := hJ2; simp only [if_neg c4] at h9; first | exact h9 | (simp only [if_neg c4]; exact h9))
      refine r_putI dX10_readNumber_85 fs_1_1 fk_X10_39 fp_X10_1 ?_
      exact r_vret dX10_readNumber_88 rfl (K2 c1 c3)
    · skip
      refine r_aload_n dX10_readNumber_30 rfl ?_
      refine r_aload_n dX10_readNumber_31 rfl ?_
      refine r_getI dX10_readNumber_32 fs_1_2 fk_X10_54 ?_
      refine r_bipush (v := 10) dX10_readNumber_35 kB_10 ?_
      refine r_imul dX10_readNumber_37 ?_
      refine r_aload_n dX10_readNumber_38 rfl ?_
      refine r_aload_n dX10_readNumber_39 rfl ?_
      refine r_getI dX10_readNumber_40 fs_1_7 fk_X10_22 ?_
      refine r_callV (x := 1) (As := [.int (gI M 1 7)]) (rest := [.int ((gI M 1 2) * 10), .ref (ad 1)]) dX10_readNumber_43 mk_X10_31 mv_X10_byteAt rm_X10_readNumber_X10_byteAt rfl rfl (by decide +kernel) (Nat.le_of_ble_eq_true rfl) (ct_X10_byteAt (g1 c1) (⟨_, rfl, ?_⟩))
      refine r_iadd dX10_readNumber_46 ?_
      refine r_bipush (v := 48) dX10_readNumber_47 kB_48 ?_
      refine r_isub dX10_readNumber_49 ?_
      refine r_putI dX10_readNumber_50 fs_1_2 fk_X10_54 fp_X10_2 ?_
      refine r_aload_n dX10_readNumber_53 rfl ?_
      refine r_dup dX10_readNumber_54 rfl ?_
      refine q_getI (v := gI M 1 7) dX10_readNumber_55 fs_1_7 fk_X10_22 rfl ?_
      refine r_iconst (v := 1) dX10_readNumber_58 kI_1 ?_
      refine r_iadd dX10_readNumber_59 ?_
      refine r_putI dX10_readNumber_60 fs_1_7 fk_X10_22 fp_X10_7 ?_
      refine r_goto (tgt := 5) dX10_readNumber_63 (by decide) ?_
      exact (K3 c1 c3)
theorem en_X10_readNumber  (K : Fw l D ad kA mX10_readNumber 0 [some (.ref (ad 1))] [] M Q) : Cal l D ad kA mX10_readNumber [.ref (ad 1)] M Q := Cal.of (by decide) rfl rfl (Nat.le_of_ble_eq_true rfl) K
theorem t_X10_readToken_0  
    (g1 : ((gI M 1 0) ≤ (gI M 1 7)) → g_X10_byteAt (sI M 1 6 (gI M 1 7)) (gI M 1 7))
    (g2 : (¬ ((gI M 1 0) ≤ (gI M 1 7))) → g_X10_byteAt M (gI M 1 7))
    (g3 : (¬ ((gI M 1 0) ≤ (gI M 1 7))) → ((v_X10_isBlank (v_X10_byteAt M (gI M 1 7))) = 0) → g_X10_byteAt (sI M 1 6 (gI M 1 7)) (gI M 1 7))
    (K1 : ((gI M 1 0) ≤ (gI M 1 7)) → ((gI M 1 7) < (gI M 1 0)) → ((v_X10_isLetter (v_X10_byteAt (sI M 1 6 (gI M 1 7)) (gI M 1 7))) = 0) → ((v_X10_isDigit (v_X10_byteAt (sI M 1 6 (gI M 1 7)) (gI M 1 7))) = 0) → Q (.returned none) (sI (sI (sI M 1 6 (gI M 1 7)) 1 1 (if (v_X10_byteAt (sI M 1 6 (gI M 1 7)) (gI M 1 7)) = 59 then 3 else 4)) 1 7 ((gI M 1 7) + 1)))
    (K2 : ((gI M 1 0) ≤ (gI M 1 7)) → ((gI M 1 7) < (gI M 1 0)) → ((v_X10_isLetter (v_X10_byteAt (sI M 1 6 (gI M 1 7)) (gI M 1 7))) = 0) → (¬ ((v_X10_isDigit (v_X10_byteAt (sI M 1 6 (gI M 1 7)) (gI M 1 7))) = 0)) → Cal l D ad kA mX10_readNumber [.ref (ad 1)] (sI M 1 6 (gI M 1 7)) (fun oc M2 => oc = .returned none ∧ Fw l D ad kA mX10_readToken 99 [none, none] [] M2 Q))
    (K3 : ((gI M 1 0) ≤ (gI M 1 7)) → ((gI M 1 7) < (gI M 1 0)) → (¬ ((v_X10_isLetter (v_X10_byteAt (sI M 1 6 (gI M 1 7)) (gI M 1 7))) = 0)) → Cal l D ad kA mX10_readWord [.ref (ad 1)] (sI M 1 6 (gI M 1 7)) (fun oc M2 => oc = .returned none ∧ Fw l D ad kA mX10_readToken 85 [none, none] [] M2 Q))
    (K4 : ((gI M 1 0) ≤ (gI M 1 7)) → (¬ ((gI M 1 7) < (gI M 1 0))) → Q (.returned none) (sI (sI M 1 6 (gI M 1 7)) 1 1 0))
    (K5 : (¬ ((gI M 1 0) ≤ (gI M 1 7))) → ((v_X10_isBlank (v_X10_byteAt M (gI M 1 7))) = 0) → ((gI M 1 7) < (gI M 1 0)) → ((v_X10_isLetter (v_X10_byteAt (sI M 1 6 (gI M 1 7)) (gI M 1 7))) = 0) → ((v_X10_isDigit (v_X10_byteAt (sI M 1 6 (gI M 1 7)) (gI M 1 7))) = 0) → Q (.returned none) (sI (sI (sI M 1 6 (gI M 1 7)) 1 1 (if (v_X10_byteAt (sI M 1 6 (gI M 1 7)) (gI M 1 7)) = 59 then 3 else 4)) 1 7 ((gI M 1 7) + 1)))
    (K6 : (¬ ((gI M 1 0) ≤ (gI M 1 7))) → ((v_X10_isBlank (v_X10_byteAt M (gI M 1 7))) = 0) → ((gI M 1 7) < (gI M 1 0)) → ((v_X10_isLetter (v_X10_byteAt (sI M 1 6 (gI M 1 7)) (gI M 1 7))) = 0) → (¬ ((v_X10_isDigit (v_X10_byteAt (sI M 1 6 (gI M 1 7)) (gI M 1 7))) = 0)) → Cal l D ad kA mX10_readNumber [.ref (ad 1)] (sI M 1 6 (gI M 1 7)) (fun oc M2 => oc = .returned none ∧ Fw l D ad kA mX10_readToken 99 [none, none] [] M2 Q))
    (K7 : (¬ ((gI M 1 0) ≤ (gI M 1 7))) → ((v_X10_isBlank (v_X10_byteAt M (gI M 1 7))) = 0) → ((gI M 1 7) < (gI M 1 0)) → (¬ ((v_X10_isLetter (v_X10_byteAt (sI M 1 6 (gI M 1 7)) (gI M 1 7))) = 0)) → Cal l D ad kA mX10_readWord [.ref (ad 1)] (sI M 1 6 (gI M 1 7)) (fun oc M2 => oc = .returned none ∧ Fw l D ad kA mX10_readToken 85 [none, none] [] M2 Q))
    (K8 : (¬ ((gI M 1 0) ≤ (gI M 1 7))) → ((v_X10_isBlank (v_X10_byteAt M (gI M 1 7))) = 0) → (¬ ((gI M 1 7) < (gI M 1 0))) → Q (.returned none) (sI (sI M 1 6 (gI M 1 7)) 1 1 0))
    (K9 : (¬ ((gI M 1 0) ≤ (gI M 1 7))) → (¬ ((v_X10_isBlank (v_X10_byteAt M (gI M 1 7))) = 0)) → Fw l D ad kA mX10_readToken 0 [some (.ref (ad 1)), none] [] (sI M 1 7 ((gI M 1 7) + 1)) Q) : Fw l D ad kA mX10_readToken 0 [some (.ref (ad 1)), none] [] M Q := by
  refine r_aload_n dX10_readToken_0 rfl ?_
  refine r_getI dX10_readToken_1 fs_1_7 fk_X10_22 ?_
  refine r_aload_n dX10_readToken_4 rfl ?_
  refine r_getI dX10_readToken_5 fs_1_0 fk_X10_19 ?_
  refine r_icmp_ge (tgt := 38) dX10_readToken_8 (by decide) (fun c1 => ?_) (fun c1 => ?_)
  · skip
    refine r_aload_n dX10_readToken_38 rfl ?_
    refine r_aload_n dX10_readToken_39 rfl ?_
    refine r_getI dX10_readToken_40 fs_1_7 fk_X10_22 ?_
    refine r_putI dX10_readToken_43 fs_1_6 fk_X10_28 fp_X10_6 ?_
    refine r_aload_n dX10_readToken_46 rfl ?_
    refine r_aload_n dX10_readToken_47 rfl ?_
    refine q_getI (v := gI M 1 7) dX10_readToken_48 fs_1_7 fk_X10_22 rfl ?_
    refine r_callV (x := 1) (As := [.int (gI M 1 7)]) (rest := []) dX10_readToken_51 mk_X10_31 mv_X10_byteAt rm_X10_readToken_X10_byteAt rfl rfl (by decide +kernel) (Nat.le_of_ble_eq_true rfl) (ct_X10_byteAt (g1 c1) (⟨_, rfl, ?_⟩))
    refine q_istore_n (lo' := [some (.ref (ad 1)), some (.int (v_X10_byteAt (sI M 1 6 (gI M 1 7)) (gI M 1 7)))]) dX10_readToken_54 (by decide) rfl ?_
    refine r_aload_n dX10_readToken_55 rfl ?_
    refine q_getI (v := gI M 1 7) dX10_readToken_56 fs_1_7 fk_X10_22 rfl ?_
    refine r_aload_n dX10_readToken_59 rfl ?_
    refine q_getI (v := gI M 1 0) dX10_readToken_60 fs_1_0 fk_X10_19 rfl ?_
    refine r_icmp_lt (tgt := 74) dX10_readToken_63 (by decide) (fun c2 => ?_) (fun c2 => ?_)
    · skip
      refine r_iload_n dX10_readToken_74 rfl ?_
      refine r_callS (As := [.int (v_X10_byteAt (sI M 1 6 (gI M 1 7)) (gI M 1 7))]) (rest := []) dX10_readToken_75 mk_X10_42 ms_X10_isLetter rm_X10_readToken_X10_isLetter rfl rfl (Nat.le_of_ble_eq_true rfl) (ct_X10_isLetter (⟨_, rfl, ?_⟩))
      refine r_if_eq (tgt := 88) dX10_readToken_78 (by decide) (fun c3 => ?_) (fun c3 => ?_)
      · skip
        refine r_iload_n dX10_readToken_88 rfl ?_
        refine r_callS (As := [.int (v_X10_byteAt (sI M 1 6 (gI M 1 7)) (gI M 1 7))]) (rest := []) dX10_readToken_89 mk_X10_48 ms_X10_isDigit rm_X10_readToken_X10_isDigit rfl rfl (Nat.le_of_ble_eq_true rfl) (ct_X10_isDigit (⟨_, rfl, ?_⟩))
        refine r_if_eq (tgt := 102) dX10_readToken_92 (by decide) (fun c4 => ?_) (fun c4 => ?_)
        · skip
          refine r_aload_n dX10_readToken_102 rfl ?_
          refine r_iload_n dX10_readToken_103 rfl ?_
          refine r_bipush (v := 59) dX10_readToken_104 kB_59 ?_
          suffices hJ1 : Fw l D ad kA mX10_readToken 114 [some (.ref (ad 1)), none] [.int (if (v_X10_byteAt (sI M 1 6 (gI M 1 7)) (gI M 1 7)) = 59 then 3 else 4), .ref (ad 1)] (sI M 1 6 (gI M 1 7)) Q by
            refine r_icmp_ne (tgt := 113) dX10_readToken_106 (by decide) (fun c5 => ?_) (fun c5 => ?_)
            · skip
              refine r_iconst (v := 4) dX10_readToken_113 kI_4 ?_
              exact q_weak (lo' := [some (.ref (ad 1)), none]) ⟨rfl, trivial⟩ (by have h9 := hJ1; simp only [if_neg c5] at h9; first | exact h9 | (simp only [if_neg c5]; exact h9))
            · skip
              refine r_iconst (v := 3) dX10_readToken_109 kI_3 ?_
              refine r_goto (tgt := 114) dX10_readToken_110 (by decide) ?_
              exact q_weak (lo' := [some (.ref (ad 1)), none]) ⟨rfl, trivial⟩ (by have h9 := hJ1; simp only [if_pos c5] at h9; first | exact h9 | (simp only [if_pos c5]; exact h9))
          refine r_putI dX10_readToken_114 fs_1_1 fk_X10_39 fp_X10_1 ?_
          refine r_aload_n dX10_readToken_117 rfl ?_
          refine r_dup dX10_readToken_118 rfl ?_
          refine q_getI (v := gI M 1 7) dX10_readToken_119 fs_1_7 fk_X10_22 rfl ?_
          refine r_iconst (v := 1) dX10_readToken_122 kI_1 ?_
          refine r_iadd dX10_readToken_123 ?_
          refine r_putI dX10_readToken_124 fs_1_7 fk_X10_22 fp_X10_7 ?_
          exact r_vret dX10_readToken_127 rfl (K1 c1 c2 c3 c4)
        · skip
          refine r_aload_n dX10_readToken_95 rfl ?_
          exact r_callV (x := 1) (As := []) (rest := []) dX10_readToken_96 mk_X10_51 mv_X10_readNumber rm_X10_readToken_X10_readNumber rfl rfl (by decide +kernel) (Nat.le_of_ble_eq_true rfl) (cal_v (lo' := [none, none]) trivial (K2 c1 c2 c3 c4))
      · skip
        refine r_aload_n dX10_readToken_81 rfl ?_
        exact r_callV (x := 1) (As := []) (rest := []) dX10_readToken_82 mk_X10_45 mv_X10_readWord rm_X10_readToken_X10_readWord rfl rfl (by decide +kernel) (Nat.le_of_ble_eq_true rfl) (cal_v (lo' := [none, none]) trivial (K3 c1 c2 c3))
    · skip
      refine r_aload_n dX10_readToken_66 rfl ?_
      refine r_iconst (v := 0) dX10_readToken_67 kI_0 ?_
      refine r_putI dX10_readToken_68 fs_1_1 fk_X10_39 fp_X10_1 ?_
      refine r_goto (tgt := 127) dX10_readToken_71 (by decide) ?_
      exact r_vret dX10_readToken_127 rfl (K4 c1 c2)
  · skip
    refine r_aload_n dX10_readToken_11 rfl ?_
    refine r_aload_n dX10_readToken_12 rfl ?_
    refine r_getI dX10_readToken_13 fs_1_7 fk_X10_22 ?_
    refine r_callV (x := 1) (As := [.int (gI M 1 7)]) (rest := []) dX10_readToken_16 mk_X10_31 mv_X10_byteAt rm_X10_readToken_X10_byteAt rfl rfl (by decide +kernel) (Nat.le_of_ble_eq_true rfl) (ct_X10_byteAt (g2 c1) (⟨_, rfl, ?_⟩))
    refine r_callS (As := [.int (v_X10_byteAt M (gI M 1 7))]) (rest := []) dX10_readToken_19 mk_X10_35 ms_X10_isBlank rm_X10_readToken_X10_isBlank rfl rfl (Nat.le_of_ble_eq_true rfl) (ct_X10_isBlank (⟨_, rfl, ?_⟩))
    refine r_if_eq (tgt := 38) dX10_readToken_22 (by decide) (fun c6 => ?_) (fun c6 => ?_)
    · skip
      refine r_aload_n dX10_readToken_38 rfl ?_
      refine r_aload_n dX10_readToken_39 rfl ?_
      refine r_getI dX10_readToken_40 fs_1_7 fk_X10_22 ?_
      refine r_putI dX10_readToken_43 fs_1_6 fk_X10_28 fp_X10_6 ?_
      refine r_aload_n dX10_readToken_46 rfl ?_
      refine r_aload_n dX10_readToken_47 rfl ?_
      refine q_getI (v := gI M 1 7) dX10_readToken_48 fs_1_7 fk_X10_22 rfl ?_
      refine r_callV (x := 1) (As := [.int (gI M 1 7)]) (rest := []) dX10_readToken_51 mk_X10_31 mv_X10_byteAt rm_X10_readToken_X10_byteAt rfl rfl (by decide +kernel) (Nat.le_of_ble_eq_true rfl) (ct_X10_byteAt (g3 c1 c6) (⟨_, rfl, ?_⟩))
      refine q_istore_n (lo' := [some (.ref (ad 1)), some (.int (v_X10_byteAt (sI M 1 6 (gI M 1 7)) (gI M 1 7)))]) dX10_readToken_54 (by decide) rfl ?_
      refine r_aload_n dX10_readToken_55 rfl ?_
      refine q_getI (v := gI M 1 7) dX10_readToken_56 fs_1_7 fk_X10_22 rfl ?_
      refine r_aload_n dX10_readToken_59 rfl ?_
      refine q_getI (v := gI M 1 0) dX10_readToken_60 fs_1_0 fk_X10_19 rfl ?_
      refine r_icmp_lt (tgt := 74) dX10_readToken_63 (by decide) (fun c7 => ?_) (fun c7 => ?_)
      · skip
        refine r_iload_n dX10_readToken_74 rfl ?_
        refine r_callS (As := [.int (v_X10_byteAt (sI M 1 6 (gI M 1 7)) (gI M 1 7))]) (rest := []) dX10_readToken_75 mk_X10_42 ms_X10_isLetter rm_X10_readToken_X10_isLetter rfl rfl (Nat.le_of_ble_eq_true rfl) (ct_X10_isLetter (⟨_, rfl, ?_⟩))
        refine r_if_eq (tgt := 88) dX10_readToken_78 (by decide) (fun c8 => ?_) (fun c8 => ?_)
        · skip
          refine r_iload_n dX10_readToken_88 rfl ?_
          refine r_callS (As := [.int (v_X10_byteAt (sI M 1 6 (gI M 1 7)) (gI M 1 7))]) (rest := []) dX10_readToken_89 mk_X10_48 ms_X10_isDigit rm_X10_readToken_X10_isDigit rfl rfl (Nat.le_of_ble_eq_true rfl) (ct_X10_isDigit (⟨_, rfl, ?_⟩))
          refine r_if_eq (tgt := 102) dX10_readToken_92 (by decide) (fun c9 => ?_) (fun c9 => ?_)
          · skip
            refine r_aload_n dX10_readToken_102 rfl ?_
            refine r_iload_n dX10_readToken_103 rfl ?_
            refine r_bipush (v := 59) dX10_readToken_104 kB_59 ?_
            suffices hJ2 : Fw l D ad kA mX10_readToken 114 [some (.ref (ad 1)), none] [.int (if (v_X10_byteAt (sI M 1 6 (gI M 1 7)) (gI M 1 7)) = 59 then 3 else 4), .ref (ad 1)] (sI M 1 6 (gI M 1 7)) Q by
              refine r_icmp_ne (tgt := 113) dX10_readToken_106 (by decide) (fun c10 => ?_) (fun c10 => ?_)
              · skip
                refine r_iconst (v := 4) dX10_readToken_113 kI_4 ?_
                exact q_weak (lo' := [some (.ref (ad 1)), none]) ⟨rfl, trivial⟩ (by have h9 := hJ2; simp only [if_neg c10] at h9; first | exact h9 | (simp only [if_neg c10]; exact h9))
              · skip
                refine r_iconst (v := 3) dX10_readToken_109 kI_3 ?_
                refine r_goto (tgt := 114) dX10_readToken_110 (by decide) ?_
                exact q_weak (lo' := [some (.ref (ad 1)), none]) ⟨rfl, trivial⟩ (by have h9 := hJ2; simp only [if_pos c10] at h9; first | exact h9 | (simp only [if_pos c10]; exact h9))
            refine r_putI dX10_readToken_114 fs_1_1 fk_X10_39 fp_X10_1 ?_
            refine r_aload_n dX10_readToken_117 rfl ?_
            refine r_dup dX10_readToken_118 rfl ?_
            refine q_getI (v := gI M 1 7) dX10_readToken_119 fs_1_7 fk_X10_22 rfl ?_
            refine r_iconst (v := 1) dX10_readToken_122 kI_1 ?_
            refine r_iadd dX10_readToken_123 ?_
            refine r_putI dX10_readToken_124 fs_1_7 fk_X10_22 fp_X10_7 ?_
            exact r_vret dX10_readToken_127 rfl (K5 c1 c6 c7 c8 c9)
          · skip
            refine r_aload_n dX10_readToken_95 rfl ?_
            exact r_callV (x := 1) (As := []) (rest := []) dX10_readToken_96 mk_X10_51 mv_X10_readNumber rm_X10_readToken_X10_readNumber rfl rfl (by decide +kernel) (Nat.le_of_ble_eq_true rfl) (cal_v (lo' := [none, none]) trivial (K6 c1 c6 c7 c8 c9))
        · skip
          refine r_aload_n dX10_readToken_81 rfl ?_
          exact r_callV (x := 1) (As := []) (rest := []) dX10_readToken_82 mk_X10_45 mv_X10_readWord rm_X10_readToken_X10_readWord rfl rfl (by decide +kernel) (Nat.le_of_ble_eq_true rfl) (cal_v (lo' := [none, none]) trivial (K7 c1 c6 c7 c8))
      · skip
        refine r_aload_n dX10_readToken_66 rfl ?_
        refine r_iconst (v := 0) dX10_readToken_67 kI_0 ?_
        refine r_putI dX10_readToken_68 fs_1_1 fk_X10_39 fp_X10_1 ?_
        refine r_goto (tgt := 127) dX10_readToken_71 (by decide) ?_
        exact r_vret dX10_readToken_127 rfl (K8 c1 c6 c7)
    · skip
      refine r_aload_n dX10_readToken_25 rfl ?_
      refine r_dup dX10_readToken_26 rfl ?_
      refine r_getI dX10_readToken_27 fs_1_7 fk_X10_22 ?_
      refine r_iconst (v := 1) dX10_readToken_30 kI_1 ?_
      refine r_iadd dX10_readToken_31 ?_
      refine r_putI dX10_readToken_32 fs_1_7 fk_X10_22 fp_X10_7 ?_
      refine r_goto (tgt := 0) dX10_readToken_35 (by decide) ?_
      exact (K9 c1 c6)
theorem t_X10_readToken_99  
    (K1 : Q (.returned none) M) : Fw l D ad kA mX10_readToken 99 [none, none] [] M Q := by
  refine r_goto (tgt := 127) dX10_readToken_99 (by decide) ?_
  exact r_vret dX10_readToken_127 rfl K1
theorem t_X10_readToken_85  
    (K1 : Q (.returned none) M) : Fw l D ad kA mX10_readToken 85 [none, none] [] M Q := by
  refine r_goto (tgt := 127) dX10_readToken_85 (by decide) ?_
  exact r_vret dX10_readToken_127 rfl K1
theorem en_X10_readToken  (K : Fw l D ad kA mX10_readToken 0 [some (.ref (ad 1)), none] [] M Q) : Cal l D ad kA mX10_readToken [.ref (ad 1)] M Q := Cal.of (by decide) rfl rfl (Nat.le_of_ble_eq_true rfl) K
end W_tape
