/-! Strokes: decode rows, links, walks from cut to cut (printed by wip/gen) -/
theorem dX9_hasNumber_0 : decode cX9_hasNumber 0 = .ok (.iload_n 1, 1) := by decide +kernel
theorem dX9_hasNumber_1 : decode cX9_hasNumber 1 = .ok (.ifCond .lt 15, 3) := by decide +kernel
theorem dX9_hasNumber_4 : decode cX9_hasNumber 4 = .ok (.iload_n 1, 1) := by decide +kernel
theorem dX9_hasNumber_5 : decode cX9_hasNumber 5 = .ok (.aload_n 0, 1) := by decide +kernel
theorem dX9_hasNumber_6 : decode cX9_hasNumber 6 = .ok (.getfield 24, 3) := by decide +kernel
theorem dX9_hasNumber_9 : decode cX9_hasNumber 9 = .ok (.if_icmp .ge 7, 3) := by decide +kernel
theorem dX9_hasNumber_12 : decode cX9_hasNumber 12 = .ok (.iconst 1, 1) := by decide +kernel
theorem dX9_hasNumber_13 : decode cX9_hasNumber 13 = .ok (.goto 4, 3) := by decide +kernel
theorem dX9_hasNumber_16 : decode cX9_hasNumber 16 = .ok (.iconst 0, 1) := by decide +kernel
theorem dX9_hasNumber_17 : decode cX9_hasNumber 17 = .ok (.ireturn, 1) := by decide +kernel
theorem dX9_isOn_0 : decode cX9_isOn 0 = .ok (.lload_n 1, 1) := by decide +kernel
theorem dX9_isOn_1 : decode cX9_isOn 1 = .ok (.aload_n 0, 1) := by decide +kernel
theorem dX9_isOn_2 : decode cX9_isOn 2 = .ok (.getfield 15, 3) := by decide +kernel
theorem dX9_isOn_5 : decode cX9_isOn 5 = .ok (.iload_n 3, 1) := by decide +kernel
theorem dX9_isOn_6 : decode cX9_isOn 6 = .ok (.iaload, 1) := by decide +kernel
theorem dX9_isOn_7 : decode cX9_isOn 7 = .ok (.lushr, 1) := by decide +kernel
theorem dX9_isOn_8 : decode cX9_isOn 8 = .ok (.lconst 1, 1) := by decide +kernel
theorem dX9_isOn_9 : decode cX9_isOn 9 = .ok (.land, 1) := by decide +kernel
theorem dX9_isOn_10 : decode cX9_isOn 10 = .ok (.lconst 0, 1) := by decide +kernel
theorem dX9_isOn_11 : decode cX9_isOn 11 = .ok (.lcmp, 1) := by decide +kernel
theorem dX9_isOn_12 : decode cX9_isOn 12 = .ok (.ifCond .eq 7, 3) := by decide +kernel
theorem dX9_isOn_15 : decode cX9_isOn 15 = .ok (.iconst 1, 1) := by decide +kernel
theorem dX9_isOn_16 : decode cX9_isOn 16 = .ok (.goto 4, 3) := by decide +kernel
theorem dX9_isOn_19 : decode cX9_isOn 19 = .ok (.iconst 0, 1) := by decide +kernel
theorem dX9_isOn_20 : decode cX9_isOn 20 = .ok (.ireturn, 1) := by decide +kernel
theorem dX9_hasAt_0 : decode cX9_hasAt 0 = .ok (.iconst 0, 1) := by decide +kernel
theorem dX9_hasAt_1 : decode cX9_hasAt 1 = .ok (.istore_n 3, 1) := by decide +kernel
theorem dX9_hasAt_2 : decode cX9_hasAt 2 = .ok (.aload_n 0, 1) := by decide +kernel
theorem dX9_hasAt_3 : decode cX9_hasAt 3 = .ok (.getfield 24, 3) := by decide +kernel
theorem dX9_hasAt_6 : decode cX9_hasAt 6 = .ok (.iconst 1, 1) := by decide +kernel
theorem dX9_hasAt_7 : decode cX9_hasAt 7 = .ok (.isub, 1) := by decide +kernel
theorem dX9_hasAt_8 : decode cX9_hasAt 8 = .ok (.istore 4, 2) := by decide +kernel
theorem dX9_hasAt_10 : decode cX9_hasAt 10 = .ok (.iload 4, 2) := by decide +kernel
theorem dX9_hasAt_12 : decode cX9_hasAt 12 = .ok (.ifCond .lt 41, 3) := by decide +kernel
theorem dX9_hasAt_15 : decode cX9_hasAt 15 = .ok (.aload_n 0, 1) := by decide +kernel
theorem dX9_hasAt_16 : decode cX9_hasAt 16 = .ok (.getfield 9, 3) := by decide +kernel
theorem dX9_hasAt_19 : decode cX9_hasAt 19 = .ok (.iload 4, 2) := by decide +kernel
theorem dX9_hasAt_21 : decode cX9_hasAt 21 = .ok (.iaload, 1) := by decide +kernel
theorem dX9_hasAt_22 : decode cX9_hasAt 22 = .ok (.iload_n 1, 1) := by decide +kernel
theorem dX9_hasAt_23 : decode cX9_hasAt 23 = .ok (.if_icmp .ne 30, 3) := by decide +kernel
theorem dX9_hasAt_26 : decode cX9_hasAt 26 = .ok (.iload_n 3, 1) := by decide +kernel
theorem dX9_hasAt_27 : decode cX9_hasAt 27 = .ok (.ifCond .ne 26, 3) := by decide +kernel
theorem dX9_hasAt_30 : decode cX9_hasAt 30 = .ok (.aload_n 0, 1) := by decide +kernel
theorem dX9_hasAt_31 : decode cX9_hasAt 31 = .ok (.getfield 15, 3) := by decide +kernel
theorem dX9_hasAt_34 : decode cX9_hasAt 34 = .ok (.iload 4, 2) := by decide +kernel
theorem dX9_hasAt_36 : decode cX9_hasAt 36 = .ok (.iaload, 1) := by decide +kernel
theorem dX9_hasAt_37 : decode cX9_hasAt 37 = .ok (.iload_n 2, 1) := by decide +kernel
theorem dX9_hasAt_38 : decode cX9_hasAt 38 = .ok (.if_icmp .ne 7, 3) := by decide +kernel
theorem dX9_hasAt_41 : decode cX9_hasAt 41 = .ok (.iconst 1, 1) := by decide +kernel
theorem dX9_hasAt_42 : decode cX9_hasAt 42 = .ok (.goto 4, 3) := by decide +kernel
theorem dX9_hasAt_45 : decode cX9_hasAt 45 = .ok (.iconst 0, 1) := by decide +kernel
theorem dX9_hasAt_46 : decode cX9_hasAt 46 = .ok (.istore_n 3, 1) := by decide +kernel
theorem dX9_hasAt_47 : decode cX9_hasAt 47 = .ok (.iinc 4 (-1), 3) := by decide +kernel
theorem dX9_hasAt_50 : decode cX9_hasAt 50 = .ok (.goto (-40), 3) := by decide +kernel
theorem dX9_hasAt_53 : decode cX9_hasAt 53 = .ok (.iload_n 3, 1) := by decide +kernel
theorem dX9_hasAt_54 : decode cX9_hasAt 54 = .ok (.ireturn, 1) := by decide +kernel
theorem dX9_insert_0 : decode cX9_insert 0 = .ok (.aload_n 0, 1) := by decide +kernel
theorem dX9_insert_1 : decode cX9_insert 1 = .ok (.getfield 24, 3) := by decide +kernel
theorem dX9_insert_4 : decode cX9_insert 4 = .ok (.istore_n 3, 1) := by decide +kernel
theorem dX9_insert_5 : decode cX9_insert 5 = .ok (.iload_n 3, 1) := by decide +kernel
theorem dX9_insert_6 : decode cX9_insert 6 = .ok (.ifCond .le 89, 3) := by decide +kernel
theorem dX9_insert_9 : decode cX9_insert 9 = .ok (.aload_n 0, 1) := by decide +kernel
theorem dX9_insert_10 : decode cX9_insert 10 = .ok (.getfield 9, 3) := by decide +kernel
theorem dX9_insert_13 : decode cX9_insert 13 = .ok (.iload_n 3, 1) := by decide +kernel
theorem dX9_insert_14 : decode cX9_insert 14 = .ok (.iconst 1, 1) := by decide +kernel
theorem dX9_insert_15 : decode cX9_insert 15 = .ok (.isub, 1) := by decide +kernel
theorem dX9_insert_16 : decode cX9_insert 16 = .ok (.iaload, 1) := by decide +kernel
theorem dX9_insert_17 : decode cX9_insert 17 = .ok (.iload_n 1, 1) := by decide +kernel
theorem dX9_insert_18 : decode cX9_insert 18 = .ok (.if_icmp .ne 77, 3) := by decide +kernel
theorem dX9_insert_21 : decode cX9_insert 21 = .ok (.aload_n 0, 1) := by decide +kernel
theorem dX9_insert_22 : decode cX9_insert 22 = .ok (.getfield 15, 3) := by decide +kernel
theorem dX9_insert_25 : decode cX9_insert 25 = .ok (.iload_n 3, 1) := by decide +kernel
theorem dX9_insert_26 : decode cX9_insert 26 = .ok (.iconst 1, 1) := by decide +kernel
theorem dX9_insert_27 : decode cX9_insert 27 = .ok (.isub, 1) := by decide +kernel
theorem dX9_insert_28 : decode cX9_insert 28 = .ok (.iaload, 1) := by decide +kernel
theorem dX9_insert_29 : decode cX9_insert 29 = .ok (.iload_n 2, 1) := by decide +kernel
theorem dX9_insert_30 : decode cX9_insert 30 = .ok (.if_icmp .le 65, 3) := by decide +kernel
theorem dX9_insert_33 : decode cX9_insert 33 = .ok (.aload_n 0, 1) := by decide +kernel
theorem dX9_insert_34 : decode cX9_insert 34 = .ok (.getfield 15, 3) := by decide +kernel
theorem dX9_insert_37 : decode cX9_insert 37 = .ok (.iload_n 3, 1) := by decide +kernel
theorem dX9_insert_38 : decode cX9_insert 38 = .ok (.aload_n 0, 1) := by decide +kernel
theorem dX9_insert_39 : decode cX9_insert 39 = .ok (.getfield 15, 3) := by decide +kernel
theorem dX9_insert_42 : decode cX9_insert 42 = .ok (.iload_n 3, 1) := by decide +kernel
theorem dX9_insert_43 : decode cX9_insert 43 = .ok (.iconst 1, 1) := by decide +kernel
theorem dX9_insert_44 : decode cX9_insert 44 = .ok (.isub, 1) := by decide +kernel
theorem dX9_insert_45 : decode cX9_insert 45 = .ok (.iaload, 1) := by decide +kernel
theorem dX9_insert_46 : decode cX9_insert 46 = .ok (.iastore, 1) := by decide +kernel
theorem dX9_insert_47 : decode cX9_insert 47 = .ok (.aload_n 0, 1) := by decide +kernel
theorem dX9_insert_48 : decode cX9_insert 48 = .ok (.getfield 9, 3) := by decide +kernel
theorem dX9_insert_51 : decode cX9_insert 51 = .ok (.iload_n 3, 1) := by decide +kernel
theorem dX9_insert_52 : decode cX9_insert 52 = .ok (.aload_n 0, 1) := by decide +kernel
theorem dX9_insert_53 : decode cX9_insert 53 = .ok (.getfield 9, 3) := by decide +kernel
theorem dX9_insert_56 : decode cX9_insert 56 = .ok (.iload_n 3, 1) := by decide +kernel
theorem dX9_insert_57 : decode cX9_insert 57 = .ok (.iconst 1, 1) := by decide +kernel
theorem dX9_insert_58 : decode cX9_insert 58 = .ok (.isub, 1) := by decide +kernel
theorem dX9_insert_59 : decode cX9_insert 59 = .ok (.iaload, 1) := by decide +kernel
theorem dX9_insert_60 : decode cX9_insert 60 = .ok (.iastore, 1) := by decide +kernel
theorem dX9_insert_61 : decode cX9_insert 61 = .ok (.aload_n 0, 1) := by decide +kernel
theorem dX9_insert_62 : decode cX9_insert 62 = .ok (.getfield 18, 3) := by decide +kernel
theorem dX9_insert_65 : decode cX9_insert 65 = .ok (.iload_n 3, 1) := by decide +kernel
theorem dX9_insert_66 : decode cX9_insert 66 = .ok (.aload_n 0, 1) := by decide +kernel
theorem dX9_insert_67 : decode cX9_insert 67 = .ok (.getfield 18, 3) := by decide +kernel
theorem dX9_insert_70 : decode cX9_insert 70 = .ok (.iload_n 3, 1) := by decide +kernel
theorem dX9_insert_71 : decode cX9_insert 71 = .ok (.iconst 1, 1) := by decide +kernel
theorem dX9_insert_72 : decode cX9_insert 72 = .ok (.isub, 1) := by decide +kernel
theorem dX9_insert_73 : decode cX9_insert 73 = .ok (.iaload, 1) := by decide +kernel
theorem dX9_insert_74 : decode cX9_insert 74 = .ok (.iastore, 1) := by decide +kernel
theorem dX9_insert_75 : decode cX9_insert 75 = .ok (.aload_n 0, 1) := by decide +kernel
theorem dX9_insert_76 : decode cX9_insert 76 = .ok (.getfield 21, 3) := by decide +kernel
theorem dX9_insert_79 : decode cX9_insert 79 = .ok (.iload_n 3, 1) := by decide +kernel
theorem dX9_insert_80 : decode cX9_insert 80 = .ok (.aload_n 0, 1) := by decide +kernel
theorem dX9_insert_81 : decode cX9_insert 81 = .ok (.getfield 21, 3) := by decide +kernel
theorem dX9_insert_84 : decode cX9_insert 84 = .ok (.iload_n 3, 1) := by decide +kernel
theorem dX9_insert_85 : decode cX9_insert 85 = .ok (.iconst 1, 1) := by decide +kernel
theorem dX9_insert_86 : decode cX9_insert 86 = .ok (.isub, 1) := by decide +kernel
theorem dX9_insert_87 : decode cX9_insert 87 = .ok (.iaload, 1) := by decide +kernel
theorem dX9_insert_88 : decode cX9_insert 88 = .ok (.iastore, 1) := by decide +kernel
theorem dX9_insert_89 : decode cX9_insert 89 = .ok (.iinc 3 (-1), 3) := by decide +kernel
theorem dX9_insert_92 : decode cX9_insert 92 = .ok (.goto (-87), 3) := by decide +kernel
theorem dX9_insert_95 : decode cX9_insert 95 = .ok (.aload_n 0, 1) := by decide +kernel
theorem dX9_insert_96 : decode cX9_insert 96 = .ok (.getfield 9, 3) := by decide +kernel
theorem dX9_insert_99 : decode cX9_insert 99 = .ok (.iload_n 3, 1) := by decide +kernel
theorem dX9_insert_100 : decode cX9_insert 100 = .ok (.iload_n 1, 1) := by decide +kernel
theorem dX9_insert_101 : decode cX9_insert 101 = .ok (.iastore, 1) := by decide +kernel
theorem dX9_insert_102 : decode cX9_insert 102 = .ok (.aload_n 0, 1) := by decide +kernel
theorem dX9_insert_103 : decode cX9_insert 103 = .ok (.getfield 15, 3) := by decide +kernel
theorem dX9_insert_106 : decode cX9_insert 106 = .ok (.iload_n 3, 1) := by decide +kernel
theorem dX9_insert_107 : decode cX9_insert 107 = .ok (.iload_n 2, 1) := by decide +kernel
theorem dX9_insert_108 : decode cX9_insert 108 = .ok (.iastore, 1) := by decide +kernel
theorem dX9_insert_109 : decode cX9_insert 109 = .ok (.aload_n 0, 1) := by decide +kernel
theorem dX9_insert_110 : decode cX9_insert 110 = .ok (.getfield 18, 3) := by decide +kernel
theorem dX9_insert_113 : decode cX9_insert 113 = .ok (.iload_n 3, 1) := by decide +kernel
theorem dX9_insert_114 : decode cX9_insert 114 = .ok (.iconst 1, 1) := by decide +kernel
theorem dX9_insert_115 : decode cX9_insert 115 = .ok (.iastore, 1) := by decide +kernel
theorem dX9_insert_116 : decode cX9_insert 116 = .ok (.aload_n 0, 1) := by decide +kernel
theorem dX9_insert_117 : decode cX9_insert 117 = .ok (.getfield 21, 3) := by decide +kernel
theorem dX9_insert_120 : decode cX9_insert 120 = .ok (.iload_n 3, 1) := by decide +kernel
theorem dX9_insert_121 : decode cX9_insert 121 = .ok (.iconst 0, 1) := by decide +kernel
theorem dX9_insert_122 : decode cX9_insert 122 = .ok (.iastore, 1) := by decide +kernel
theorem dX9_insert_123 : decode cX9_insert 123 = .ok (.aload_n 0, 1) := by decide +kernel
theorem dX9_insert_124 : decode cX9_insert 124 = .ok (.dup, 1) := by decide +kernel
theorem dX9_insert_125 : decode cX9_insert 125 = .ok (.getfield 24, 3) := by decide +kernel
theorem dX9_insert_128 : decode cX9_insert 128 = .ok (.iconst 1, 1) := by decide +kernel
theorem dX9_insert_129 : decode cX9_insert 129 = .ok (.iadd, 1) := by decide +kernel
theorem dX9_insert_130 : decode cX9_insert 130 = .ok (.putfield 24, 3) := by decide +kernel
theorem dX9_insert_133 : decode cX9_insert 133 = .ok (.iload_n 3, 1) := by decide +kernel
theorem dX9_insert_134 : decode cX9_insert 134 = .ok (.ireturn, 1) := by decide +kernel
theorem dX9_copyFrom_0 : decode cX9_copyFrom 0 = .ok (.aload_n 0, 1) := by decide +kernel
theorem dX9_copyFrom_1 : decode cX9_copyFrom 1 = .ok (.aload_n 1, 1) := by decide +kernel
theorem dX9_copyFrom_2 : decode cX9_copyFrom 2 = .ok (.getfield 24, 3) := by decide +kernel
theorem dX9_copyFrom_5 : decode cX9_copyFrom 5 = .ok (.putfield 24, 3) := by decide +kernel
theorem dX9_copyFrom_8 : decode cX9_copyFrom 8 = .ok (.aload_n 1, 1) := by decide +kernel
theorem dX9_copyFrom_9 : decode cX9_copyFrom 9 = .ok (.getfield 9, 3) := by decide +kernel
theorem dX9_copyFrom_12 : decode cX9_copyFrom 12 = .ok (.iconst 0, 1) := by decide +kernel
theorem dX9_copyFrom_13 : decode cX9_copyFrom 13 = .ok (.aload_n 0, 1) := by decide +kernel
theorem dX9_copyFrom_14 : decode cX9_copyFrom 14 = .ok (.getfield 9, 3) := by decide +kernel
theorem dX9_copyFrom_17 : decode cX9_copyFrom 17 = .ok (.iconst 0, 1) := by decide +kernel
theorem dX9_copyFrom_18 : decode cX9_copyFrom 18 = .ok (.aload_n 0, 1) := by decide +kernel
theorem dX9_copyFrom_19 : decode cX9_copyFrom 19 = .ok (.getfield 24, 3) := by decide +kernel
theorem dX9_copyFrom_22 : decode cX9_copyFrom 22 = .ok (.invokestatic 28, 3) := by decide +kernel
theorem dX9_copyFrom_25 : decode cX9_copyFrom 25 = .ok (.aload_n 1, 1) := by decide +kernel
theorem dX9_copyFrom_26 : decode cX9_copyFrom 26 = .ok (.getfield 15, 3) := by decide +kernel
theorem dX9_copyFrom_29 : decode cX9_copyFrom 29 = .ok (.iconst 0, 1) := by decide +kernel
theorem dX9_copyFrom_30 : decode cX9_copyFrom 30 = .ok (.aload_n 0, 1) := by decide +kernel
theorem dX9_copyFrom_31 : decode cX9_copyFrom 31 = .ok (.getfield 15, 3) := by decide +kernel
theorem dX9_copyFrom_34 : decode cX9_copyFrom 34 = .ok (.iconst 0, 1) := by decide +kernel
theorem dX9_copyFrom_35 : decode cX9_copyFrom 35 = .ok (.aload_n 0, 1) := by decide +kernel
theorem dX9_copyFrom_36 : decode cX9_copyFrom 36 = .ok (.getfield 24, 3) := by decide +kernel
theorem dX9_copyFrom_39 : decode cX9_copyFrom 39 = .ok (.invokestatic 28, 3) := by decide +kernel
theorem dX9_copyFrom_42 : decode cX9_copyFrom 42 = .ok (.aload_n 1, 1) := by decide +kernel
theorem dX9_copyFrom_43 : decode cX9_copyFrom 43 = .ok (.getfield 18, 3) := by decide +kernel
theorem dX9_copyFrom_46 : decode cX9_copyFrom 46 = .ok (.iconst 0, 1) := by decide +kernel
theorem dX9_copyFrom_47 : decode cX9_copyFrom 47 = .ok (.aload_n 0, 1) := by decide +kernel
theorem dX9_copyFrom_48 : decode cX9_copyFrom 48 = .ok (.getfield 18, 3) := by decide +kernel
theorem dX9_copyFrom_51 : decode cX9_copyFrom 51 = .ok (.iconst 0, 1) := by decide +kernel
theorem dX9_copyFrom_52 : decode cX9_copyFrom 52 = .ok (.aload_n 0, 1) := by decide +kernel
theorem dX9_copyFrom_53 : decode cX9_copyFrom 53 = .ok (.getfield 24, 3) := by decide +kernel
theorem dX9_copyFrom_56 : decode cX9_copyFrom 56 = .ok (.invokestatic 28, 3) := by decide +kernel
theorem dX9_copyFrom_59 : decode cX9_copyFrom 59 = .ok (.aload_n 1, 1) := by decide +kernel
theorem dX9_copyFrom_60 : decode cX9_copyFrom 60 = .ok (.getfield 21, 3) := by decide +kernel
theorem dX9_copyFrom_63 : decode cX9_copyFrom 63 = .ok (.iconst 0, 1) := by decide +kernel
theorem dX9_copyFrom_64 : decode cX9_copyFrom 64 = .ok (.aload_n 0, 1) := by decide +kernel
theorem dX9_copyFrom_65 : decode cX9_copyFrom 65 = .ok (.getfield 21, 3) := by decide +kernel
theorem dX9_copyFrom_68 : decode cX9_copyFrom 68 = .ok (.iconst 0, 1) := by decide +kernel
theorem dX9_copyFrom_69 : decode cX9_copyFrom 69 = .ok (.aload_n 0, 1) := by decide +kernel
theorem dX9_copyFrom_70 : decode cX9_copyFrom 70 = .ok (.getfield 24, 3) := by decide +kernel
theorem dX9_copyFrom_73 : decode cX9_copyFrom 73 = .ok (.invokestatic 28, 3) := by decide +kernel
theorem dX9_copyFrom_76 : decode cX9_copyFrom 76 = .ok (.return_, 1) := by decide +kernel
abbrev mX9_hasNumber : MI := (yX9_hasNumber, cX9_hasNumber, 2, some .boolean, 1, 21, [])
abbrev mX9_isOn : MI := (yX9_isOn, cX9_isOn, 4, some .boolean, 1, 21, [])
abbrev mX9_hasAt : MI := (yX9_hasAt, cX9_hasAt, 5, some .boolean, 1, 21, [])
abbrev mX9_insert : MI := (yX9_insert, cX9_insert, 4, some .int, 1, 21, [])
abbrev mX9_copyFrom : MI := (yX9_copyFrom, cX9_copyFrom, 2, none, 1, 80, [])
theorem kL_0 : Int64.ofNat ((0 : Fin 2) : Nat) = 0 := by decide
theorem kL_1 : Int64.ofNat ((1 : Fin 2) : Nat) = 1 := by decide
theorem fk_X9_9 : Fk RX9 9 9 0 := ⟨RX9, TX9, 5, tyX9, rfl, inX9, by decide, lw_in (i := 84) (by decide +kernel) (by decide +kernel), tyX9_ok, nmX9⟩
theorem fk_X9_15 : Fk RX9 15 9 1 := ⟨RX9, TX9, 5, tyX9, rfl, inX9, by decide, lw_in (i := 89) (by decide +kernel) (by decide +kernel), tyX9_ok, nmX9⟩
theorem fk_X9_18 : Fk RX9 18 9 2 := ⟨RX9, TX9, 5, tyX9, rfl, inX9, by decide, lw_in (i := 96) (by decide +kernel) (by decide +kernel), tyX9_ok, nmX9⟩
theorem fk_X9_21 : Fk RX9 21 9 3 := ⟨RX9, TX9, 5, tyX9, rfl, inX9, by decide, lw_in (i := 101) (by decide +kernel) (by decide +kernel), tyX9_ok, nmX9⟩
theorem fk_X9_24 : Fk RX9 24 9 4 := ⟨RX9, TX9, 5, tyX9, rfl, inX9, by decide, lw_in (i := 105) (by decide +kernel) (by decide +kernel), tyX9_ok, nmX9⟩
theorem fp_X9_4 : Fp 9 4 .int := ⟨RX9, TX9, 5, rfl, rfl, by decide +kernel⟩
theorem mk_X9_28 : Cond.methodLink RX9 28 arraycopyName ∈ lw_w := lw_in (i := 612) (by decide +kernel) (by decide +kernel)
section W_strokes
variable {l : Launch} {D : va_G} {ad : Nat → Nat} {kA : Nat → ClassId} {M : Mem} {Q : Outcome → Mem → Prop}
def v_X9_hasNumber (M : Mem) (x1 : Int32) : Int32 := if x1 < 0 then 0 else if (gI M 9 4) ≤ x1 then 0 else 1
theorem ct_X9_hasNumber {x1 : Int32}  (h : Q (.returned (some (.int (v_X9_hasNumber M x1)))) M) : Cal l D ad kA mX9_hasNumber [.ref (ad 9), .int x1] M Q := by
  refine Cal.of (lo := [some (.ref (ad 9)), some (.int x1)]) (by decide) rfl rfl (Nat.le_of_ble_eq_true rfl) ?_
  refine r_iload_n dX9_hasNumber_0 rfl ?_
  suffices hJ1 : Fw l D ad kA mX9_hasNumber 17 [none, none] [.int (if x1 < 0 then 0 else if (gI M 9 4) ≤ x1 then 0 else 1)] M Q by
    refine r_if_lt (tgt := 16) dX9_hasNumber_1 (by decide) (fun c1 => ?_) (fun c1 => ?_)
    · skip
      refine r_iconst (v := 0) dX9_hasNumber_16 kI_0 ?_
      exact q_weak (lo' := [none, none]) trivial (by have h9 := hJ1; simp only [if_pos c1] at h9; first | exact h9 | (simp only [if_pos c1]; exact h9))
    · skip
      refine r_iload_n dX9_hasNumber_4 rfl ?_
      refine r_aload_n dX9_hasNumber_5 rfl ?_
      refine r_getI dX9_hasNumber_6 fs_9_4 fk_X9_24 ?_
      refine r_icmp_ge (tgt := 16) dX9_hasNumber_9 (by decide) (fun c2 => ?_) (fun c2 => ?_)
      · skip
        refine r_iconst (v := 0) dX9_hasNumber_16 kI_0 ?_
        exact q_weak (lo' := [none, none]) trivial (by have h9 := hJ1; simp only [if_neg c1, if_pos c2] at h9; first | exact h9 | (simp only [if_neg c1, if_pos c2]; exact h9))
      · skip
        refine r_iconst (v := 1) dX9_hasNumber_12 kI_1 ?_
        refine r_goto (tgt := 17) dX9_hasNumber_13 (by decide) ?_
        exact q_weak (lo' := [none, none]) trivial (by have h9 := hJ1; simp only [if_neg c1, if_neg c2] at h9; first | exact h9 | (simp only [if_neg c1, if_neg c2]; exact h9))
  exact r_zret dX9_hasNumber_17 rfl (nar_z (ite01 (Or.inl rfl) (ite01 (Or.inl rfl) (Or.inr rfl)))).1 h
theorem z_X9_hasNumber {M : Mem} {x1 : Int32} : v_X9_hasNumber M x1 = 0 ∨ v_X9_hasNumber M x1 = 1 := (ite01 (Or.inl rfl) (ite01 (Or.inl rfl) (Or.inr rfl)))
def v_X9_isOn (M : Mem) (z1 : Int64) (x3 : Int32) : Int32 := if (lg_cmp ((lushr z1 (gI M 11 x3.toNatClampNeg)) &&& 1) 0) = 0 then 0 else 1
def g_X9_isOn (M : Mem) (z1 : Int64) (x3 : Int32) : Prop := (vp_in x3 160)
theorem ct_X9_isOn {z1 : Int64} {x3 : Int32}  (g : g_X9_isOn M z1 x3) (h : Q (.returned (some (.int (v_X9_isOn M z1 x3)))) M) : Cal l D ad kA mX9_isOn [.ref (ad 9), .long z1, .int x3] M Q := by
  refine Cal.of (lo := [some (.ref (ad 9)), some (.long z1), none, some (.int x3)]) (by decide) rfl rfl (Nat.le_of_ble_eq_true rfl) ?_
  have g1 := g
  refine r_lload_n dX9_isOn_0 rfl ?_
  refine r_aload_n dX9_isOn_1 rfl ?_
  refine r_getR dX9_isOn_2 fs_9_1 fk_X9_15 ?_
  refine r_iload_n dX9_isOn_5 rfl ?_
  refine r_iald dX9_isOn_6 as_11 g1 ?_
  refine q_lushr dX9_isOn_7 ?_
  refine r_lconst (v := 1) dX9_isOn_8 kL_1 ?_
  refine r_land dX9_isOn_9 ?_
  refine r_lconst (v := 0) dX9_isOn_10 kL_0 ?_
  refine r_lcmp dX9_isOn_11 ?_
  suffices hJ1 : Fw l D ad kA mX9_isOn 20 [none, none, none, none] [.int (if (lg_cmp ((lushr z1 (gI M 11 x3.toNatClampNeg)) &&& 1) 0) = 0 then 0 else 1)] M Q by
    refine r_if_eq (tgt := 19) dX9_isOn_12 (by decide) (fun c1 => ?_) (fun c1 => ?_)
    · skip
      refine r_iconst (v := 0) dX9_isOn_19 kI_0 ?_
      exact q_weak (lo' := [none, none, none, none]) trivial (by have h9 := hJ1; simp only [if_pos c1] at h9; first | exact h9 | (simp only [if_pos c1]; exact h9))
    · skip
      refine r_iconst (v := 1) dX9_isOn_15 kI_1 ?_
      refine r_goto (tgt := 20) dX9_isOn_16 (by decide) ?_
      exact q_weak (lo' := [none, none, none, none]) trivial (by have h9 := hJ1; simp only [if_neg c1] at h9; first | exact h9 | (simp only [if_neg c1]; exact h9))
  exact r_zret dX9_isOn_20 rfl (nar_z (ite01 (Or.inl rfl) (Or.inr rfl))).1 h
theorem z_X9_isOn {M : Mem} {z1 : Int64} {x3 : Int32} : v_X9_isOn M z1 x3 = 0 ∨ v_X9_isOn M z1 x3 = 1 := (ite01 (Or.inl rfl) (Or.inr rfl))
theorem t_X9_hasAt_0 {x1 : Int32} {x2 : Int32} 
    (K1 : Fw l D ad kA mX9_hasAt 10 [some (.ref (ad 4)), some (.int x1), some (.int x2), some (.int 0), some (.int ((gI M 4 4) - 1))] [] M Q) : Fw l D ad kA mX9_hasAt 0 [some (.ref (ad 4)), some (.int x1), some (.int x2), none, none] [] M Q := by
  refine r_iconst (v := 0) dX9_hasAt_0 kI_0 ?_
  refine q_istore_n (lo' := [some (.ref (ad 4)), some (.int x1), some (.int x2), some (.int 0), none]) dX9_hasAt_1 (by decide) rfl ?_
  refine r_aload_n dX9_hasAt_2 rfl ?_
  refine r_getI dX9_hasAt_3 fs_4_4 fk_X9_24 ?_
  refine r_iconst (v := 1) dX9_hasAt_6 kI_1 ?_
  refine r_isub dX9_hasAt_7 ?_
  refine q_istore (lo' := [some (.ref (ad 4)), some (.int x1), some (.int x2), some (.int 0), some (.int ((gI M 4 4) - 1))]) dX9_hasAt_8 (by decide) rfl ?_
  exact K1
theorem t_X9_hasAt_10 {x1 : Int32} {x2 : Int32} {x3 : Int32} {x4 : Int32} 
    (g1 : (x4 < 0) → x3 = 0 ∨ x3 = 1)
    (g2 : (¬ (x4 < 0)) → vp_in x4 160)
    (g3 : (¬ (x4 < 0)) → (¬ ((gI M 5 x4.toNatClampNeg) = x1)) → x3 = 0 ∨ x3 = 1)
    (g4 : (¬ (x4 < 0)) → ((gI M 5 x4.toNatClampNeg) = x1) → (¬ (x3 = 0)) → x3 = 0 ∨ x3 = 1)
    (K1 : (x4 < 0) → Q (.returned (some (.int x3))) M)
    (K2 : (¬ (x4 < 0)) → (¬ ((gI M 5 x4.toNatClampNeg) = x1)) → Q (.returned (some (.int x3))) M)
    (K3 : (¬ (x4 < 0)) → ((gI M 5 x4.toNatClampNeg) = x1) → (¬ (x3 = 0)) → Q (.returned (some (.int x3))) M)
    (K4 : (¬ (x4 < 0)) → ((gI M 5 x4.toNatClampNeg) = x1) → (x3 = 0) → Fw l D ad kA mX9_hasAt 10 [some (.ref (ad 4)), some (.int x1), some (.int x2), some (.int (if (gI M 6 x4.toNatClampNeg) = x2 then 1 else 0)), some (.int (x4 + (-1)))] [] M Q) : Fw l D ad kA mX9_hasAt 10 [some (.ref (ad 4)), some (.int x1), some (.int x2), some (.int x3), some (.int x4)] [] M Q := by
  refine r_iload dX9_hasAt_10 rfl ?_
  refine r_if_lt (tgt := 53) dX9_hasAt_12 (by decide) (fun c1 => ?_) (fun c1 => ?_)
  · skip
    refine r_iload_n dX9_hasAt_53 rfl ?_
    exact r_zret dX9_hasAt_54 rfl (nar_z (g1 c1)).1 (K1 c1)
  · skip
    refine r_aload_n dX9_hasAt_15 rfl ?_
    refine r_getR dX9_hasAt_16 fs_4_0 fk_X9_9 ?_
    refine r_iload dX9_hasAt_19 rfl ?_
    refine r_iald dX9_hasAt_21 as_5 (g2 c1) ?_
    refine r_iload_n dX9_hasAt_22 rfl ?_
    refine r_icmp_ne (tgt := 53) dX9_hasAt_23 (by decide) (fun c2 => ?_) (fun c2 => ?_)
    · skip
      refine r_iload_n dX9_hasAt_53 rfl ?_
      exact r_zret dX9_hasAt_54 rfl (nar_z (g3 c1 c2)).1 (K2 c1 c2)
    · skip
      refine r_iload_n dX9_hasAt_26 rfl ?_
      refine r_if_ne (tgt := 53) dX9_hasAt_27 (by decide) (fun c3 => ?_) (fun c3 => ?_)
      · skip
        refine r_iload_n dX9_hasAt_53 rfl ?_
        exact r_zret dX9_hasAt_54 rfl (nar_z (g4 c1 c2 c3)).1 (K3 c1 c2 c3)
      · skip
        refine r_aload_n dX9_hasAt_30 rfl ?_
        refine r_getR dX9_hasAt_31 fs_4_1 fk_X9_15 ?_
        refine r_iload dX9_hasAt_34 rfl ?_
        refine r_iald dX9_hasAt_36 as_6 (g2 c1) ?_
        refine r_iload_n dX9_hasAt_37 rfl ?_
        suffices hJ1 : Fw l D ad kA mX9_hasAt 46 [some (.ref (ad 4)), some (.int x1), some (.int x2), none, some (.int x4)] [.int (if (gI M 6 x4.toNatClampNeg) = x2 then 1 else 0)] M Q by
          refine r_icmp_ne (tgt := 45) dX9_hasAt_38 (by decide) (fun c4 => ?_) (fun c4 => ?_)
          · skip
            refine r_iconst (v := 0) dX9_hasAt_45 kI_0 ?_
            exact q_weak (lo' := [some (.ref (ad 4)), some (.int x1), some (.int x2), none, some (.int x4)]) ⟨rfl, rfl, rfl, rfl, trivial⟩ (by have h9 := hJ1; simp only [if_neg c4] at h9; first | exact h9 | (simp only [if_neg c4]; exact h9))
          · skip
            refine r_iconst (v := 1) dX9_hasAt_41 kI_1 ?_
            refine r_goto (tgt := 46) dX9_hasAt_42 (by decide) ?_
            exact q_weak (lo' := [some (.ref (ad 4)), some (.int x1), some (.int x2), none, some (.int x4)]) ⟨rfl, rfl, rfl, rfl, trivial⟩ (by have h9 := hJ1; simp only [if_pos c4] at h9; first | exact h9 | (simp only [if_pos c4]; exact h9))
        refine q_istore_n (lo' := [some (.ref (ad 4)), some (.int x1), some (.int x2), some (.int (if (gI M 6 x4.toNatClampNeg) = x2 then 1 else 0)), some (.int x4)]) dX9_hasAt_46 (by decide) rfl ?_
        refine q_iinc (v := x4 + (-1)) (lo' := [some (.ref (ad 4)), some (.int x1), some (.int x2), some (.int (if (gI M 6 x4.toNatClampNeg) = x2 then 1 else 0)), some (.int (x4 + (-1)))]) dX9_hasAt_47 rfl (congrArg (fun q => x4 + q) kI_m1) (by decide) rfl ?_
        refine r_goto (tgt := 10) dX9_hasAt_50 (by decide) ?_
        exact (K4 c1 c2 c3)
theorem en_X9_hasAt {x1 : Int32} {x2 : Int32} (K : Fw l D ad kA mX9_hasAt 0 [some (.ref (ad 4)), some (.int x1), some (.int x2), none, none] [] M Q) : Cal l D ad kA mX9_hasAt [.ref (ad 4), .int x1, .int x2] M Q := Cal.of (by decide) rfl rfl (Nat.le_of_ble_eq_true rfl) K
theorem t_X9_insert_0 {x1 : Int32} {x2 : Int32} 
    (K1 : Fw l D ad kA mX9_insert 5 [some (.ref (ad 4)), some (.int x1), some (.int x2), some (.int (gI M 4 4))] [] M Q) : Fw l D ad kA mX9_insert 0 [some (.ref (ad 4)), some (.int x1), some (.int x2), none] [] M Q := by
  refine r_aload_n dX9_insert_0 rfl ?_
  refine r_getI dX9_insert_1 fs_4_4 fk_X9_24 ?_
  refine q_istore_n (lo' := [some (.ref (ad 4)), some (.int x1), some (.int x2), some (.int (gI M 4 4))]) dX9_insert_4 (by decide) rfl ?_
  exact K1
theorem t_X9_insert_5 {x1 : Int32} {x2 : Int32} {x3 : Int32} 
    (g1 : (x3 ≤ 0) → vp_in x3 160)
    (g2 : (¬ (x3 ≤ 0)) → vp_in (x3 - 1) 160)
    (g3 : (¬ (x3 ≤ 0)) → (¬ ((gI M 5 (x3 - 1).toNatClampNeg) = x1)) → vp_in x3 160)
    (g4 : (¬ (x3 ≤ 0)) → ((gI M 5 (x3 - 1).toNatClampNeg) = x1) → ((gI M 6 (x3 - 1).toNatClampNeg) ≤ x2) → vp_in x3 160)
    (g5 : (¬ (x3 ≤ 0)) → ((gI M 5 (x3 - 1).toNatClampNeg) = x1) → (¬ ((gI M 6 (x3 - 1).toNatClampNeg) ≤ x2)) → vp_in x3 160)
    (K1 : (x3 ≤ 0) → Q (.returned (some (.int x3))) (sI (sI (sI (sI (sI M 5 x3.toNatClampNeg x1) 6 x3.toNatClampNeg x2) 7 x3.toNatClampNeg 1) 8 x3.toNatClampNeg 0) 4 4 ((gI M 4 4) + 1)))
    (K2 : (¬ (x3 ≤ 0)) → (¬ ((gI M 5 (x3 - 1).toNatClampNeg) = x1)) → Q (.returned (some (.int x3))) (sI (sI (sI (sI (sI M 5 x3.toNatClampNeg x1) 6 x3.toNatClampNeg x2) 7 x3.toNatClampNeg 1) 8 x3.toNatClampNeg 0) 4 4 ((gI M 4 4) + 1)))
    (K3 : (¬ (x3 ≤ 0)) → ((gI M 5 (x3 - 1).toNatClampNeg) = x1) → ((gI M 6 (x3 - 1).toNatClampNeg) ≤ x2) → Q (.returned (some (.int x3))) (sI (sI (sI (sI (sI M 5 x3.toNatClampNeg x1) 6 x3.toNatClampNeg x2) 7 x3.toNatClampNeg 1) 8 x3.toNatClampNeg 0) 4 4 ((gI M 4 4) + 1)))
    (K4 : (¬ (x3 ≤ 0)) → ((gI M 5 (x3 - 1).toNatClampNeg) = x1) → (¬ ((gI M 6 (x3 - 1).toNatClampNeg) ≤ x2)) → Fw l D ad kA mX9_insert 5 [some (.ref (ad 4)), some (.int x1), some (.int x2), some (.int (x3 + (-1)))] [] (sI (sI (sI (sI M 6 x3.toNatClampNeg (gI M 6 (x3 - 1).toNatClampNeg)) 5 x3.toNatClampNeg (gI M 5 (x3 - 1).toNatClampNeg)) 7 x3.toNatClampNeg (gI M 7 (x3 - 1).toNatClampNeg)) 8 x3.toNatClampNeg (gI M 8 (x3 - 1).toNatClampNeg)) Q) : Fw l D ad kA mX9_insert 5 [some (.ref (ad 4)), some (.int x1), some (.int x2), some (.int x3)] [] M Q := by
  refine r_iload_n dX9_insert_5 rfl ?_
  refine r_if_le (tgt := 95) dX9_insert_6 (by decide) (fun c1 => ?_) (fun c1 => ?_)
  · skip
    refine r_aload_n dX9_insert_95 rfl ?_
    refine r_getR dX9_insert_96 fs_4_0 fk_X9_9 ?_
    refine r_iload_n dX9_insert_99 rfl ?_
    refine r_iload_n dX9_insert_100 rfl ?_
    refine r_iast dX9_insert_101 as_5 (g1 c1) ?_
    refine r_aload_n dX9_insert_102 rfl ?_
    refine r_getR dX9_insert_103 fs_4_1 fk_X9_15 ?_
    refine r_iload_n dX9_insert_106 rfl ?_
    refine r_iload_n dX9_insert_107 rfl ?_
    refine r_iast dX9_insert_108 as_6 (g1 c1) ?_
    refine r_aload_n dX9_insert_109 rfl ?_
    refine r_getR dX9_insert_110 fs_4_2 fk_X9_18 ?_
    refine r_iload_n dX9_insert_113 rfl ?_
    refine r_iconst (v := 1) dX9_insert_114 kI_1 ?_
    refine r_iast dX9_insert_115 as_7 (g1 c1) ?_
    refine r_aload_n dX9_insert_116 rfl ?_
    refine r_getR dX9_insert_117 fs_4_3 fk_X9_21 ?_
    refine r_iload_n dX9_insert_120 rfl ?_
    refine r_iconst (v := 0) dX9_insert_121 kI_0 ?_
    refine r_iast dX9_insert_122 as_8 (g1 c1) ?_
    refine r_aload_n dX9_insert_123 rfl ?_
    refine r_dup dX9_insert_124 rfl ?_
    refine q_getI (v := gI M 4 4) dX9_insert_125 fs_4_4 fk_X9_24 rfl ?_
    refine r_iconst (v := 1) dX9_insert_128 kI_1 ?_
    refine r_iadd dX9_insert_129 ?_
    refine r_putI dX9_insert_130 fs_4_4 fk_X9_24 fp_X9_4 ?_
    refine r_iload_n dX9_insert_133 rfl ?_
    exact r_iret dX9_insert_134 rfl (K1 c1)
  · skip
    refine r_aload_n dX9_insert_9 rfl ?_
    refine r_getR dX9_insert_10 fs_4_0 fk_X9_9 ?_
    refine r_iload_n dX9_insert_13 rfl ?_
    refine r_iconst (v := 1) dX9_insert_14 kI_1 ?_
    refine r_isub dX9_insert_15 ?_
    refine r_iald dX9_insert_16 as_5 (g2 c1) ?_
    refine r_iload_n dX9_insert_17 rfl ?_
    refine r_icmp_ne (tgt := 95) dX9_insert_18 (by decide) (fun c2 => ?_) (fun c2 => ?_)
    · skip
      refine r_aload_n dX9_insert_95 rfl ?_
      refine r_getR dX9_insert_96 fs_4_0 fk_X9_9 ?_
      refine r_iload_n dX9_insert_99 rfl ?_
      refine r_iload_n dX9_insert_100 rfl ?_
      refine r_iast dX9_insert_101 as_5 (g3 c1 c2) ?_
      refine r_aload_n dX9_insert_102 rfl ?_
      refine r_getR dX9_insert_103 fs_4_1 fk_X9_15 ?_
      refine r_iload_n dX9_insert_106 rfl ?_
      refine r_iload_n dX9_insert_107 rfl ?_
      refine r_iast dX9_insert_108 as_6 (g3 c1 c2) ?_
      refine r_aload_n dX9_insert_109 rfl ?_
      refine r_getR dX9_insert_110 fs_4_2 fk_X9_18 ?_
      refine r_iload_n dX9_insert_113 rfl ?_
      refine r_iconst (v := 1) dX9_insert_114 kI_1 ?_
      refine r_iast dX9_insert_115 as_7 (g3 c1 c2) ?_
      refine r_aload_n dX9_insert_116 rfl ?_
      refine r_getR dX9_insert_117 fs_4_3 fk_X9_21 ?_
      refine r_iload_n dX9_insert_120 rfl ?_
      refine r_iconst (v := 0) dX9_insert_121 kI_0 ?_
      refine r_iast dX9_insert_122 as_8 (g3 c1 c2) ?_
      refine r_aload_n dX9_insert_123 rfl ?_
      refine r_dup dX9_insert_124 rfl ?_
      refine q_getI (v := gI M 4 4) dX9_insert_125 fs_4_4 fk_X9_24 rfl ?_
      refine r_iconst (v := 1) dX9_insert_128 kI_1 ?_
      refine r_iadd dX9_insert_129 ?_
      refine r_putI dX9_insert_130 fs_4_4 fk_X9_24 fp_X9_4 ?_
      refine r_iload_n dX9_insert_133 rfl ?_
      exact r_iret dX9_insert_134 rfl (K2 c1 c2)
    · skip
      refine r_aload_n dX9_insert_21 rfl ?_
      refine r_getR dX9_insert_22 fs_4_1 fk_X9_15 ?_
      refine r_iload_n dX9_insert_25 rfl ?_
      refine r_iconst (v := 1) dX9_insert_26 kI_1 ?_
      refine r_isub dX9_insert_27 ?_
      refine r_iald dX9_insert_28 as_6 (g2 c1) ?_
      refine r_iload_n dX9_insert_29 rfl ?_
      refine r_icmp_le (tgt := 95) dX9_insert_30 (by decide) (fun c3 => ?_) (fun c3 => ?_)
      · skip
        refine r_aload_n dX9_insert_95 rfl ?_
        refine r_getR dX9_insert_96 fs_4_0 fk_X9_9 ?_
        refine r_iload_n dX9_insert_99 rfl ?_
        refine r_iload_n dX9_insert_100 rfl ?_
        refine r_iast dX9_insert_101 as_5 (g4 c1 c2 c3) ?_
        refine r_aload_n dX9_insert_102 rfl ?_
        refine r_getR dX9_insert_103 fs_4_1 fk_X9_15 ?_
        refine r_iload_n dX9_insert_106 rfl ?_
        refine r_iload_n dX9_insert_107 rfl ?_
        refine r_iast dX9_insert_108 as_6 (g4 c1 c2 c3) ?_
        refine r_aload_n dX9_insert_109 rfl ?_
        refine r_getR dX9_insert_110 fs_4_2 fk_X9_18 ?_
        refine r_iload_n dX9_insert_113 rfl ?_
        refine r_iconst (v := 1) dX9_insert_114 kI_1 ?_
        refine r_iast dX9_insert_115 as_7 (g4 c1 c2 c3) ?_
        refine r_aload_n dX9_insert_116 rfl ?_
        refine r_getR dX9_insert_117 fs_4_3 fk_X9_21 ?_
        refine r_iload_n dX9_insert_120 rfl ?_
        refine r_iconst (v := 0) dX9_insert_121 kI_0 ?_
        refine r_iast dX9_insert_122 as_8 (g4 c1 c2 c3) ?_
        refine r_aload_n dX9_insert_123 rfl ?_
        refine r_dup dX9_insert_124 rfl ?_
        refine q_getI (v := gI M 4 4) dX9_insert_125 fs_4_4 fk_X9_24 rfl ?_
        refine r_iconst (v := 1) dX9_insert_128 kI_1 ?_
        refine r_iadd dX9_insert_129 ?_
        refine r_putI dX9_insert_130 fs_4_4 fk_X9_24 fp_X9_4 ?_
        refine r_iload_n dX9_insert_133 rfl ?_
        exact r_iret dX9_insert_134 rfl (K3 c1 c2 c3)
      · skip
        refine r_aload_n dX9_insert_33 rfl ?_
        refine r_getR dX9_insert_34 fs_4_1 fk_X9_15 ?_
        refine r_iload_n dX9_insert_37 rfl ?_
        refine r_aload_n dX9_insert_38 rfl ?_
        refine r_getR dX9_insert_39 fs_4_1 fk_X9_15 ?_
        refine r_iload_n dX9_insert_42 rfl ?_
        refine r_iconst (v := 1) dX9_insert_43 kI_1 ?_
        refine r_isub dX9_insert_44 ?_
        refine r_iald dX9_insert_45 as_6 (g2 c1) ?_
        refine r_iast dX9_insert_46 as_6 (g5 c1 c2 c3) ?_
        refine r_aload_n dX9_insert_47 rfl ?_
        refine r_getR dX9_insert_48 fs_4_0 fk_X9_9 ?_
        refine r_iload_n dX9_insert_51 rfl ?_
        refine r_aload_n dX9_insert_52 rfl ?_
        refine r_getR dX9_insert_53 fs_4_0 fk_X9_9 ?_
        refine r_iload_n dX9_insert_56 rfl ?_
        refine r_iconst (v := 1) dX9_insert_57 kI_1 ?_
        refine r_isub dX9_insert_58 ?_
        refine q_iald (v := gI M 5 (x3 - 1).toNatClampNeg) dX9_insert_59 as_5 (g2 c1) rfl ?_
        refine r_iast dX9_insert_60 as_5 (g5 c1 c2 c3) ?_
        refine r_aload_n dX9_insert_61 rfl ?_
        refine r_getR dX9_insert_62 fs_4_2 fk_X9_18 ?_
        refine r_iload_n dX9_insert_65 rfl ?_
        refine r_aload_n dX9_insert_66 rfl ?_
        refine r_getR dX9_insert_67 fs_4_2 fk_X9_18 ?_
        refine r_iload_n dX9_insert_70 rfl ?_
        refine r_iconst (v := 1) dX9_insert_71 kI_1 ?_
        refine r_isub dX9_insert_72 ?_
        refine q_iald (v := gI M 7 (x3 - 1).toNatClampNeg) dX9_insert_73 as_7 (g2 c1) rfl ?_
        refine r_iast dX9_insert_74 as_7 (g5 c1 c2 c3) ?_
        refine r_aload_n dX9_insert_75 rfl ?_
        refine r_getR dX9_insert_76 fs_4_3 fk_X9_21 ?_
        refine r_iload_n dX9_insert_79 rfl ?_
        refine r_aload_n dX9_insert_80 rfl ?_
        refine r_getR dX9_insert_81 fs_4_3 fk_X9_21 ?_
        refine r_iload_n dX9_insert_84 rfl ?_
        refine r_iconst (v := 1) dX9_insert_85 kI_1 ?_
        refine r_isub dX9_insert_86 ?_
        refine q_iald (v := gI M 8 (x3 - 1).toNatClampNeg) dX9_insert_87 as_8 (g2 c1) rfl ?_
        refine r_iast dX9_insert_88 as_8 (g5 c1 c2 c3) ?_
        refine q_iinc (v := x3 + (-1)) (lo' := [some (.ref (ad 4)), some (.int x1), some (.int x2), some (.int (x3 + (-1)))]) dX9_insert_89 rfl (congrArg (fun q => x3 + q) kI_m1) (by decide) rfl ?_
        refine r_goto (tgt := 5) dX9_insert_92 (by decide) ?_
        exact (K4 c1 c2 c3)
theorem en_X9_insert {x1 : Int32} {x2 : Int32} (K : Fw l D ad kA mX9_insert 0 [some (.ref (ad 4)), some (.int x1), some (.int x2), none] [] M Q) : Cal l D ad kA mX9_insert [.ref (ad 4), .int x1, .int x2] M Q := Cal.of (by decide) rfl rfl (Nat.le_of_ble_eq_true rfl) K
theorem t_X9_copyFrom_0  
    (g1 : ¬ (gI M 4 4) < 0)
    (g2 : (gI M 4 4).toNatClampNeg ≤ 160)
    (K1 : Q (.returned none) (mcp (mcp (mcp (mcp (sI M 9 4 (gI M 4 4)) 5 10 (gI M 4 4).toNatClampNeg) 6 11 (gI M 4 4).toNatClampNeg) 7 12 (gI M 4 4).toNatClampNeg) 8 13 (gI M 4 4).toNatClampNeg)) : Fw l D ad kA mX9_copyFrom 0 [some (.ref (ad 9)), some (.ref (ad 4))] [] M Q := by
  refine r_aload_n dX9_copyFrom_0 rfl ?_
  refine r_aload_n dX9_copyFrom_1 rfl ?_
  refine r_getI dX9_copyFrom_2 fs_4_4 fk_X9_24 ?_
  refine r_putI dX9_copyFrom_5 fs_9_4 fk_X9_24 fp_X9_4 ?_
  refine r_aload_n dX9_copyFrom_8 rfl ?_
  refine r_getR dX9_copyFrom_9 fs_4_0 fk_X9_9 ?_
  refine r_iconst (v := 0) dX9_copyFrom_12 kI_0 ?_
  refine r_aload_n dX9_copyFrom_13 rfl ?_
  refine r_getR dX9_copyFrom_14 fs_9_0 fk_X9_9 ?_
  refine r_iconst (v := 0) dX9_copyFrom_17 kI_0 ?_
  refine r_aload_n dX9_copyFrom_18 rfl ?_
  refine q_getI (v := gI M 4 4) dX9_copyFrom_19 fs_9_4 fk_X9_24 rfl ?_
  refine r_copy dX9_copyFrom_22 mk_X9_28 (by decide) (Nat.le_of_ble_eq_true (by decide +kernel)) as_5 as_10 g1 g2 g2 ?_
  refine r_aload_n dX9_copyFrom_25 rfl ?_
  refine r_getR dX9_copyFrom_26 fs_4_1 fk_X9_15 ?_
  refine r_iconst (v := 0) dX9_copyFrom_29 kI_0 ?_
  refine r_aload_n dX9_copyFrom_30 rfl ?_
  refine r_getR dX9_copyFrom_31 fs_9_1 fk_X9_15 ?_
  refine r_iconst (v := 0) dX9_copyFrom_34 kI_0 ?_
  refine r_aload_n dX9_copyFrom_35 rfl ?_
  refine q_getI (v := gI M 4 4) dX9_copyFrom_36 fs_9_4 fk_X9_24 rfl ?_
  refine r_copy dX9_copyFrom_39 mk_X9_28 (by decide) (Nat.le_of_ble_eq_true (by decide +kernel)) as_6 as_11 g1 g2 g2 ?_
  refine r_aload_n dX9_copyFrom_42 rfl ?_
  refine r_getR dX9_copyFrom_43 fs_4_2 fk_X9_18 ?_
  refine r_iconst (v := 0) dX9_copyFrom_46 kI_0 ?_
  refine r_aload_n dX9_copyFrom_47 rfl ?_
  refine r_getR dX9_copyFrom_48 fs_9_2 fk_X9_18 ?_
  refine r_iconst (v := 0) dX9_copyFrom_51 kI_0 ?_
  refine r_aload_n dX9_copyFrom_52 rfl ?_
  refine q_getI (v := gI M 4 4) dX9_copyFrom_53 fs_9_4 fk_X9_24 rfl ?_
  refine r_copy dX9_copyFrom_56 mk_X9_28 (by decide) (Nat.le_of_ble_eq_true (by decide +kernel)) as_7 as_12 g1 g2 g2 ?_
  refine r_aload_n dX9_copyFrom_59 rfl ?_
  refine r_getR dX9_copyFrom_60 fs_4_3 fk_X9_21 ?_
  refine r_iconst (v := 0) dX9_copyFrom_63 kI_0 ?_
  refine r_aload_n dX9_copyFrom_64 rfl ?_
  refine r_getR dX9_copyFrom_65 fs_9_3 fk_X9_21 ?_
  refine r_iconst (v := 0) dX9_copyFrom_68 kI_0 ?_
  refine r_aload_n dX9_copyFrom_69 rfl ?_
  refine q_getI (v := gI M 4 4) dX9_copyFrom_70 fs_9_4 fk_X9_24 rfl ?_
  refine r_copy dX9_copyFrom_73 mk_X9_28 (by decide) (Nat.le_of_ble_eq_true (by decide +kernel)) as_8 as_13 g1 g2 g2 ?_
  exact r_vret dX9_copyFrom_76 rfl K1
theorem en_X9_copyFrom  (K : Fw l D ad kA mX9_copyFrom 0 [some (.ref (ad 9)), some (.ref (ad 4))] [] M Q) : Cal l D ad kA mX9_copyFrom [.ref (ad 9), .ref (ad 4)] M Q := Cal.of (by decide) rfl rfl (Nat.le_of_ble_eq_true rfl) K
end W_strokes
