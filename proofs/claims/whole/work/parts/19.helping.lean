/-! Helping: decode rows, links, walks from cut to cut (printed by wip/gen) -/
theorem dX4_forget_0 : decode cX4_forget 0 = .ok (.aload_n 0, 1) := by decide +kernel
theorem dX4_forget_1 : decode cX4_forget 1 = .ok (.iconst (-1), 1) := by decide +kernel
theorem dX4_forget_2 : decode cX4_forget 2 = .ok (.putfield 9, 3) := by decide +kernel
theorem dX4_forget_5 : decode cX4_forget 5 = .ok (.aload_n 0, 1) := by decide +kernel
theorem dX4_forget_6 : decode cX4_forget 6 = .ok (.iconst (-1), 1) := by decide +kernel
theorem dX4_forget_7 : decode cX4_forget 7 = .ok (.putfield 15, 3) := by decide +kernel
theorem dX4_forget_10 : decode cX4_forget 10 = .ok (.return_, 1) := by decide +kernel
theorem dX4_keepIfLess_0 : decode cX4_keepIfLess 0 = .ok (.aload_n 0, 1) := by decide +kernel
theorem dX4_keepIfLess_1 : decode cX4_keepIfLess 1 = .ok (.getfield 18, 3) := by decide +kernel
theorem dX4_keepIfLess_4 : decode cX4_keepIfLess 4 = .ok (.iload_n 1, 1) := by decide +kernel
theorem dX4_keepIfLess_5 : decode cX4_keepIfLess 5 = .ok (.iaload, 1) := by decide +kernel
theorem dX4_keepIfLess_6 : decode cX4_keepIfLess 6 = .ok (.iload_n 3, 1) := by decide +kernel
theorem dX4_keepIfLess_7 : decode cX4_keepIfLess 7 = .ok (.iadd, 1) := by decide +kernel
theorem dX4_keepIfLess_8 : decode cX4_keepIfLess 8 = .ok (.istore 4, 2) := by decide +kernel
theorem dX4_keepIfLess_10 : decode cX4_keepIfLess 10 = .ok (.iload_n 2, 1) := by decide +kernel
theorem dX4_keepIfLess_11 : decode cX4_keepIfLess 11 = .ok (.iconst (-1), 1) := by decide +kernel
theorem dX4_keepIfLess_12 : decode cX4_keepIfLess 12 = .ok (.if_icmp .eq 28, 3) := by decide +kernel
theorem dX4_keepIfLess_15 : decode cX4_keepIfLess 15 = .ok (.iload 4, 2) := by decide +kernel
theorem dX4_keepIfLess_17 : decode cX4_keepIfLess 17 = .ok (.aload_n 0, 1) := by decide +kernel
theorem dX4_keepIfLess_18 : decode cX4_keepIfLess 18 = .ok (.getfield 57, 3) := by decide +kernel
theorem dX4_keepIfLess_21 : decode cX4_keepIfLess 21 = .ok (.if_icmp .ge 19, 3) := by decide +kernel
theorem dX4_keepIfLess_24 : decode cX4_keepIfLess 24 = .ok (.aload_n 0, 1) := by decide +kernel
theorem dX4_keepIfLess_25 : decode cX4_keepIfLess 25 = .ok (.iload 4, 2) := by decide +kernel
theorem dX4_keepIfLess_27 : decode cX4_keepIfLess 27 = .ok (.putfield 57, 3) := by decide +kernel
theorem dX4_keepIfLess_30 : decode cX4_keepIfLess 30 = .ok (.aload_n 0, 1) := by decide +kernel
theorem dX4_keepIfLess_31 : decode cX4_keepIfLess 31 = .ok (.iload_n 1, 1) := by decide +kernel
theorem dX4_keepIfLess_32 : decode cX4_keepIfLess 32 = .ok (.putfield 9, 3) := by decide +kernel
theorem dX4_keepIfLess_35 : decode cX4_keepIfLess 35 = .ok (.aload_n 0, 1) := by decide +kernel
theorem dX4_keepIfLess_36 : decode cX4_keepIfLess 36 = .ok (.iload_n 2, 1) := by decide +kernel
theorem dX4_keepIfLess_37 : decode cX4_keepIfLess 37 = .ok (.putfield 15, 3) := by decide +kernel
theorem dX4_keepIfLess_40 : decode cX4_keepIfLess 40 = .ok (.return_, 1) := by decide +kernel
theorem dX4_seek_0 : decode cX4_seek 0 = .ok (.aload_n 0, 1) := by decide +kernel
theorem dX4_seek_1 : decode cX4_seek 1 = .ok (.getfield 36, 3) := by decide +kernel
theorem dX4_seek_4 : decode cX4_seek 4 = .ok (.iload_n 1, 1) := by decide +kernel
theorem dX4_seek_5 : decode cX4_seek 5 = .ok (.invokevirtual 40, 3) := by decide +kernel
theorem dX4_seek_8 : decode cX4_seek 8 = .ok (.lstore 4, 2) := by decide +kernel
theorem dX4_seek_10 : decode cX4_seek 10 = .ok (.aload_n 0, 1) := by decide +kernel
theorem dX4_seek_11 : decode cX4_seek 11 = .ok (.getfield 32, 3) := by decide +kernel
theorem dX4_seek_14 : decode cX4_seek 14 = .ok (.lload 4, 2) := by decide +kernel
theorem dX4_seek_16 : decode cX4_seek 16 = .ok (.aload_n 0, 1) := by decide +kernel
theorem dX4_seek_17 : decode cX4_seek 17 = .ok (.getfield 18, 3) := by decide +kernel
theorem dX4_seek_20 : decode cX4_seek 20 = .ok (.invokevirtual 46, 3) := by decide +kernel
theorem dX4_seek_23 : decode cX4_seek 23 = .ok (.iload_n 2, 1) := by decide +kernel
theorem dX4_seek_24 : decode cX4_seek 24 = .ok (.iconst (-1), 1) := by decide +kernel
theorem dX4_seek_25 : decode cX4_seek 25 = .ok (.if_icmp .eq 24, 3) := by decide +kernel
theorem dX4_seek_28 : decode cX4_seek 28 = .ok (.aload_n 0, 1) := by decide +kernel
theorem dX4_seek_29 : decode cX4_seek 29 = .ok (.getfield 32, 3) := by decide +kernel
theorem dX4_seek_32 : decode cX4_seek 32 = .ok (.aload_n 0, 1) := by decide +kernel
theorem dX4_seek_33 : decode cX4_seek 33 = .ok (.getfield 36, 3) := by decide +kernel
theorem dX4_seek_36 : decode cX4_seek 36 = .ok (.iload_n 2, 1) := by decide +kernel
theorem dX4_seek_37 : decode cX4_seek 37 = .ok (.invokevirtual 40, 3) := by decide +kernel
theorem dX4_seek_40 : decode cX4_seek 40 = .ok (.lload 4, 2) := by decide +kernel
theorem dX4_seek_42 : decode cX4_seek 42 = .ok (.aload_n 0, 1) := by decide +kernel
theorem dX4_seek_43 : decode cX4_seek 43 = .ok (.getfield 22, 3) := by decide +kernel
theorem dX4_seek_46 : decode cX4_seek 46 = .ok (.invokevirtual 52, 3) := by decide +kernel
theorem dX4_seek_49 : decode cX4_seek 49 = .ok (.iload_n 3, 1) := by decide +kernel
theorem dX4_seek_50 : decode cX4_seek 50 = .ok (.iconst (-1), 1) := by decide +kernel
theorem dX4_seek_51 : decode cX4_seek 51 = .ok (.if_icmp .eq 24, 3) := by decide +kernel
theorem dX4_seek_54 : decode cX4_seek 54 = .ok (.aload_n 0, 1) := by decide +kernel
theorem dX4_seek_55 : decode cX4_seek 55 = .ok (.getfield 32, 3) := by decide +kernel
theorem dX4_seek_58 : decode cX4_seek 58 = .ok (.aload_n 0, 1) := by decide +kernel
theorem dX4_seek_59 : decode cX4_seek 59 = .ok (.getfield 36, 3) := by decide +kernel
theorem dX4_seek_62 : decode cX4_seek 62 = .ok (.iload_n 3, 1) := by decide +kernel
theorem dX4_seek_63 : decode cX4_seek 63 = .ok (.invokevirtual 40, 3) := by decide +kernel
theorem dX4_seek_66 : decode cX4_seek 66 = .ok (.lload 4, 2) := by decide +kernel
theorem dX4_seek_68 : decode cX4_seek 68 = .ok (.aload_n 0, 1) := by decide +kernel
theorem dX4_seek_69 : decode cX4_seek 69 = .ok (.getfield 25, 3) := by decide +kernel
theorem dX4_seek_72 : decode cX4_seek 72 = .ok (.invokevirtual 52, 3) := by decide +kernel
theorem dX4_seek_75 : decode cX4_seek 75 = .ok (.aload_n 0, 1) := by decide +kernel
theorem dX4_seek_76 : decode cX4_seek 76 = .ok (.ldc 56, 2) := by decide +kernel
theorem dX4_seek_78 : decode cX4_seek 78 = .ok (.putfield 57, 3) := by decide +kernel
theorem dX4_seek_81 : decode cX4_seek 81 = .ok (.iconst 0, 1) := by decide +kernel
theorem dX4_seek_82 : decode cX4_seek 82 = .ok (.istore 6, 2) := by decide +kernel
theorem dX4_seek_84 : decode cX4_seek 84 = .ok (.iload 6, 2) := by decide +kernel
theorem dX4_seek_86 : decode cX4_seek 86 = .ok (.aload_n 0, 1) := by decide +kernel
theorem dX4_seek_87 : decode cX4_seek 87 = .ok (.getfield 28, 3) := by decide +kernel
theorem dX4_seek_90 : decode cX4_seek 90 = .ok (.getfield 60, 3) := by decide +kernel
theorem dX4_seek_93 : decode cX4_seek 93 = .ok (.if_icmp .ge 51, 3) := by decide +kernel
theorem dX4_seek_96 : decode cX4_seek 96 = .ok (.aload_n 0, 1) := by decide +kernel
theorem dX4_seek_97 : decode cX4_seek 97 = .ok (.getfield 28, 3) := by decide +kernel
theorem dX4_seek_100 : decode cX4_seek 100 = .ok (.lload 4, 2) := by decide +kernel
theorem dX4_seek_102 : decode cX4_seek 102 = .ok (.iload 6, 2) := by decide +kernel
theorem dX4_seek_104 : decode cX4_seek 104 = .ok (.invokevirtual 65, 3) := by decide +kernel
theorem dX4_seek_107 : decode cX4_seek 107 = .ok (.ifCond .eq 31, 3) := by decide +kernel
theorem dX4_seek_110 : decode cX4_seek 110 = .ok (.aload_n 0, 1) := by decide +kernel
theorem dX4_seek_111 : decode cX4_seek 111 = .ok (.iload 6, 2) := by decide +kernel
theorem dX4_seek_113 : decode cX4_seek 113 = .ok (.iload_n 2, 1) := by decide +kernel
theorem dX4_seek_114 : decode cX4_seek 114 = .ok (.aload_n 0, 1) := by decide +kernel
theorem dX4_seek_115 : decode cX4_seek 115 = .ok (.getfield 22, 3) := by decide +kernel
theorem dX4_seek_118 : decode cX4_seek 118 = .ok (.iload 6, 2) := by decide +kernel
theorem dX4_seek_120 : decode cX4_seek 120 = .ok (.iaload, 1) := by decide +kernel
theorem dX4_seek_121 : decode cX4_seek 121 = .ok (.invokevirtual 69, 3) := by decide +kernel
theorem dX4_seek_124 : decode cX4_seek 124 = .ok (.aload_n 0, 1) := by decide +kernel
theorem dX4_seek_125 : decode cX4_seek 125 = .ok (.iload 6, 2) := by decide +kernel
theorem dX4_seek_127 : decode cX4_seek 127 = .ok (.iload_n 3, 1) := by decide +kernel
theorem dX4_seek_128 : decode cX4_seek 128 = .ok (.aload_n 0, 1) := by decide +kernel
theorem dX4_seek_129 : decode cX4_seek 129 = .ok (.getfield 25, 3) := by decide +kernel
theorem dX4_seek_132 : decode cX4_seek 132 = .ok (.iload 6, 2) := by decide +kernel
theorem dX4_seek_134 : decode cX4_seek 134 = .ok (.iaload, 1) := by decide +kernel
theorem dX4_seek_135 : decode cX4_seek 135 = .ok (.invokevirtual 69, 3) := by decide +kernel
theorem dX4_seek_138 : decode cX4_seek 138 = .ok (.iinc 6 1, 3) := by decide +kernel
theorem dX4_seek_141 : decode cX4_seek 141 = .ok (.goto (-57), 3) := by decide +kernel
theorem dX4_seek_144 : decode cX4_seek 144 = .ok (.aload_n 0, 1) := by decide +kernel
theorem dX4_seek_145 : decode cX4_seek 145 = .ok (.getfield 57, 3) := by decide +kernel
theorem dX4_seek_148 : decode cX4_seek 148 = .ok (.ireturn, 1) := by decide +kernel
abbrev mX4_forget : MI := (yX4_forget, cX4_forget, 1, none, 1, 21, [])
abbrev mX4_keepIfLess : MI := (yX4_keepIfLess, cX4_keepIfLess, 5, none, 1, 21, [])
abbrev mX4_seek : MI := (yX4_seek, cX4_seek, 7, some .int, 6, 153, [])
theorem co_X4_56 : Cond.constant RX4 56 16777216 ∈ lw_w := lw_in (i := 905) (by decide +kernel) (by decide +kernel)
theorem fk_X4_9 : Fk RX4 9 4 3 := ⟨RX4, TX4, 9, tyX4, rfl, inX4, by decide, lw_in (i := 270) (by decide +kernel) (by decide +kernel), tyX4_ok, nmX4⟩
theorem fk_X4_15 : Fk RX4 15 4 4 := ⟨RX4, TX4, 9, tyX4, rfl, inX4, by decide, lw_in (i := 272) (by decide +kernel) (by decide +kernel), tyX4_ok, nmX4⟩
theorem fk_X4_18 : Fk RX4 18 4 5 := ⟨RX4, TX4, 9, tyX4, rfl, inX4, by decide, lw_in (i := 274) (by decide +kernel) (by decide +kernel), tyX4_ok, nmX4⟩
theorem fk_X4_22 : Fk RX4 22 4 6 := ⟨RX4, TX4, 9, tyX4, rfl, inX4, by decide, lw_in (i := 275) (by decide +kernel) (by decide +kernel), tyX4_ok, nmX4⟩
theorem fk_X4_25 : Fk RX4 25 4 7 := ⟨RX4, TX4, 9, tyX4, rfl, inX4, by decide, lw_in (i := 276) (by decide +kernel) (by decide +kernel), tyX4_ok, nmX4⟩
theorem fk_X4_28 : Fk RX4 28 4 0 := ⟨RX4, TX4, 9, tyX4, rfl, inX4, by decide, lw_in (i := 267) (by decide +kernel) (by decide +kernel), tyX4_ok, nmX4⟩
theorem fk_X4_32 : Fk RX4 32 4 1 := ⟨RX4, TX4, 9, tyX4, rfl, inX4, by decide, lw_in (i := 268) (by decide +kernel) (by decide +kernel), tyX4_ok, nmX4⟩
theorem fk_X4_36 : Fk RX4 36 4 2 := ⟨RX4, TX4, 9, tyX4, rfl, inX4, by decide, lw_in (i := 269) (by decide +kernel) (by decide +kernel), tyX4_ok, nmX4⟩
theorem fk_X4_57 : Fk RX4 57 4 8 := ⟨RX4, TX4, 9, tyX4, rfl, inX4, by decide, lw_in (i := 277) (by decide +kernel) (by decide +kernel), tyX4_ok, nmX4⟩
theorem fk_X4_60 : Fk RX4 60 9 4 := ⟨RX9, TX9, 5, tyX9, rfl, inX9, by decide, lw_in (i := 108) (by decide +kernel) (by decide +kernel), tyX9_ok, nmX9⟩
theorem fp_X4_3 : Fp 4 3 .int := ⟨RX4, TX4, 9, rfl, rfl, by decide +kernel⟩
theorem fp_X4_4 : Fp 4 4 .int := ⟨RX4, TX4, 9, rfl, rfl, by decide +kernel⟩
theorem fp_X4_8 : Fp 4 8 .int := ⟨RX4, TX4, 9, rfl, rfl, by decide +kernel⟩
theorem mv_X3_weighWith : MkV mX3_weighWith := ⟨lw_in (i := 890) (by decide +kernel) (by decide +kernel), lw_in (i := 891) (by decide +kernel) (by decide +kernel)⟩
theorem mv_X3_weighWithout : MkV mX3_weighWithout := ⟨lw_in (i := 872) (by decide +kernel) (by decide +kernel), lw_in (i := 873) (by decide +kernel) (by decide +kernel)⟩
theorem mv_X4_keepIfLess : MkV mX4_keepIfLess := ⟨lw_in (i := 909) (by decide +kernel) (by decide +kernel), lw_se (i := 36) (by decide +kernel) (by decide +kernel)⟩
theorem mv_X7_bellsOf : MkV mX7_bellsOf := ⟨lw_in (i := 847) (by decide +kernel) (by decide +kernel), lw_in (i := 848) (by decide +kernel) (by decide +kernel)⟩
theorem mk_X4_40 : Mk RX4 40 mX7_bellsOf 1 := ⟨lw_in (i := 870) (by decide +kernel) (by decide +kernel), lw_in (i := 8) (by decide +kernel) (by decide +kernel), lw_in (i := 849) (by decide +kernel) (by decide +kernel), by decide +kernel⟩
theorem mk_X4_46 : Mk RX4 46 mX3_weighWithout 2 := ⟨lw_in (i := 871) (by decide +kernel) (by decide +kernel), lw_in (i := 7) (by decide +kernel) (by decide +kernel), lw_in (i := 874) (by decide +kernel) (by decide +kernel), by decide +kernel⟩
theorem mk_X4_52 : Mk RX4 52 mX3_weighWith 3 := ⟨lw_in (i := 889) (by decide +kernel) (by decide +kernel), lw_in (i := 7) (by decide +kernel) (by decide +kernel), lw_in (i := 892) (by decide +kernel) (by decide +kernel), by decide +kernel⟩
theorem mk_X4_65 : Mk RX4 65 mX9_isOn 2 := ⟨lw_in (i := 906) (by decide +kernel) (by decide +kernel), lw_in (i := 4) (by decide +kernel) (by decide +kernel), lw_in (i := 736) (by decide +kernel) (by decide +kernel), by decide +kernel⟩
theorem mk_X4_69 : Mk RX4 69 mX4_keepIfLess 3 := ⟨lw_in (i := 907) (by decide +kernel) (by decide +kernel), lw_in (i := 9) (by decide +kernel) (by decide +kernel), lw_in (i := 910) (by decide +kernel) (by decide +kernel), by decide +kernel⟩
theorem rm_X4_seek_X3_weighWith : Rm mX4_seek mX3_weighWith := ⟨by decide, by decide⟩
theorem rm_X4_seek_X3_weighWithout : Rm mX4_seek mX3_weighWithout := ⟨by decide, by decide⟩
theorem rm_X4_seek_X4_keepIfLess : Rm mX4_seek mX4_keepIfLess := ⟨by decide, by decide⟩
theorem rm_X4_seek_X7_bellsOf : Rm mX4_seek mX7_bellsOf := ⟨by decide, by decide⟩
theorem rm_X4_seek_X9_isOn : Rm mX4_seek mX9_isOn := ⟨by decide, by decide⟩
section W_helping
variable {l : Launch} {D : va_G} {ad : Nat → Nat} {kA : Nat → ClassId} {M : Mem} {Q : Outcome → Mem → Prop}
theorem t_X4_forget_0  
    (K1 : Q (.returned none) (sI (sI M 28 3 (-1)) 28 4 (-1))) : Fw l D ad kA mX4_forget 0 [some (.ref (ad 28))] [] M Q := by
  refine r_aload_n dX4_forget_0 rfl ?_
  refine r_iconst (v := (-1)) dX4_forget_1 kI_m1 ?_
  refine r_putI dX4_forget_2 fs_28_3 fk_X4_9 fp_X4_3 ?_
  refine r_aload_n dX4_forget_5 rfl ?_
  refine r_iconst (v := (-1)) dX4_forget_6 kI_m1 ?_
  refine r_putI dX4_forget_7 fs_28_4 fk_X4_15 fp_X4_4 ?_
  exact r_vret dX4_forget_10 rfl K1
theorem en_X4_forget  (K : Fw l D ad kA mX4_forget 0 [some (.ref (ad 28))] [] M Q) : Cal l D ad kA mX4_forget [.ref (ad 28)] M Q := Cal.of (by decide) rfl rfl (Nat.le_of_ble_eq_true rfl) K
theorem t_X4_keepIfLess_0 {x1 : Int32} {x2 : Int32} {x3 : Int32} 
    (g1 : vp_in x1 160)
    (K1 : (x2 = (-1)) → Q (.returned none) M)
    (K2 : (¬ (x2 = (-1))) → ((gI M 28 8) ≤ ((gI M 29 x1.toNatClampNeg) + x3)) → Q (.returned none) M)
    (K3 : (¬ (x2 = (-1))) → (¬ ((gI M 28 8) ≤ ((gI M 29 x1.toNatClampNeg) + x3))) → Q (.returned none) (sI (sI (sI M 28 8 ((gI M 29 x1.toNatClampNeg) + x3)) 28 3 x1) 28 4 x2)) : Fw l D ad kA mX4_keepIfLess 0 [some (.ref (ad 28)), some (.int x1), some (.int x2), some (.int x3), none] [] M Q := by
  refine r_aload_n dX4_keepIfLess_0 rfl ?_
  refine r_getR dX4_keepIfLess_1 fs_28_5 fk_X4_18 ?_
  refine r_iload_n dX4_keepIfLess_4 rfl ?_
  refine r_iald dX4_keepIfLess_5 as_29 g1 ?_
  refine r_iload_n dX4_keepIfLess_6 rfl ?_
  refine r_iadd dX4_keepIfLess_7 ?_
  refine q_istore (lo' := [some (.ref (ad 28)), some (.int x1), some (.int x2), some (.int x3), some (.int ((gI M 29 x1.toNatClampNeg) + x3))]) dX4_keepIfLess_8 (by decide) rfl ?_
  refine r_iload_n dX4_keepIfLess_10 rfl ?_
  refine r_iconst (v := (-1)) dX4_keepIfLess_11 kI_m1 ?_
  refine r_icmp_eq (tgt := 40) dX4_keepIfLess_12 (by decide) (fun c1 => ?_) (fun c1 => ?_)
  · skip
    exact r_vret dX4_keepIfLess_40 rfl (K1 c1)
  · skip
    refine r_iload dX4_keepIfLess_15 rfl ?_
    refine r_aload_n dX4_keepIfLess_17 rfl ?_
    refine r_getI dX4_keepIfLess_18 fs_28_8 fk_X4_57 ?_
    refine r_icmp_ge (tgt := 40) dX4_keepIfLess_21 (by decide) (fun c2 => ?_) (fun c2 => ?_)
    · skip
      exact r_vret dX4_keepIfLess_40 rfl (K2 c1 c2)
    · skip
      refine r_aload_n dX4_keepIfLess_24 rfl ?_
      refine r_iload dX4_keepIfLess_25 rfl ?_
      refine r_putI dX4_keepIfLess_27 fs_28_8 fk_X4_57 fp_X4_8 ?_
      refine r_aload_n dX4_keepIfLess_30 rfl ?_
      refine r_iload_n dX4_keepIfLess_31 rfl ?_
      refine r_putI dX4_keepIfLess_32 fs_28_3 fk_X4_9 fp_X4_3 ?_
      refine r_aload_n dX4_keepIfLess_35 rfl ?_
      refine r_iload_n dX4_keepIfLess_36 rfl ?_
      refine r_putI dX4_keepIfLess_37 fs_28_4 fk_X4_15 fp_X4_4 ?_
      exact r_vret dX4_keepIfLess_40 rfl (K3 c1 c2)
theorem en_X4_keepIfLess {x1 : Int32} {x2 : Int32} {x3 : Int32} (K : Fw l D ad kA mX4_keepIfLess 0 [some (.ref (ad 28)), some (.int x1), some (.int x2), some (.int x3), none] [] M Q) : Cal l D ad kA mX4_keepIfLess [.ref (ad 28), .int x1, .int x2, .int x3] M Q := Cal.of (by decide) rfl rfl (Nat.le_of_ble_eq_true rfl) K
theorem t_X4_seek_0 {x1 : Int32} {x2 : Int32} {x3 : Int32} 
    (K1 : Cal l D ad kA mX7_bellsOf [.ref (ad 22), .int x1] M (fun oc M2 => ∃ r : Int64, oc = .returned (some (.long r)) ∧ Fw l D ad kA mX4_seek 8 [some (.ref (ad 28)), none, some (.int x2), some (.int x3), none, none, none] [.long r] M2 Q)) : Fw l D ad kA mX4_seek 0 [some (.ref (ad 28)), some (.int x1), some (.int x2), some (.int x3), none, none, none] [] M Q := by
  refine r_aload_n dX4_seek_0 rfl ?_
  refine r_getR dX4_seek_1 fs_28_2 fk_X4_36 ?_
  refine r_iload_n dX4_seek_4 rfl ?_
  exact r_callV (x := 22) (As := [.int x1]) (rest := []) dX4_seek_5 mk_X4_40 mv_X7_bellsOf rm_X4_seek_X7_bellsOf rfl rfl (by decide +kernel) (Nat.le_of_ble_eq_true rfl) (cal_l (lo' := [some (.ref (ad 28)), none, some (.int x2), some (.int x3), none, none, none]) ⟨rfl, rfl, rfl, trivial⟩ K1)
theorem t_X4_seek_8 {x2 : Int32} {x3 : Int32} {t1 : Int64} 
    (K1 : Cal l D ad kA mX3_weighWithout [.ref (ad 17), .long t1, .ref (ad 29)] M (fun oc M2 => oc = .returned none ∧ Fw l D ad kA mX4_seek 23 [some (.ref (ad 28)), none, some (.int x2), some (.int x3), some (.long t1), none, none] [] M2 Q)) : Fw l D ad kA mX4_seek 8 [some (.ref (ad 28)), none, some (.int x2), some (.int x3), none, none, none] [.long t1] M Q := by
  refine q_lstore (lo' := [some (.ref (ad 28)), none, some (.int x2), some (.int x3), some (.long t1), none, none]) dX4_seek_8 (by decide) rfl ?_
  refine r_aload_n dX4_seek_10 rfl ?_
  refine r_getR dX4_seek_11 fs_28_1 fk_X4_32 ?_
  refine r_lload dX4_seek_14 rfl ?_
  refine r_aload_n dX4_seek_16 rfl ?_
  refine r_getR dX4_seek_17 fs_28_5 fk_X4_18 ?_
  exact r_callV (x := 17) (As := [.long t1, .ref (ad 29)]) (rest := []) dX4_seek_20 mk_X4_46 mv_X3_weighWithout rm_X4_seek_X3_weighWithout rfl rfl (by decide +kernel) (Nat.le_of_ble_eq_true rfl) (cal_v (lo' := [some (.ref (ad 28)), none, some (.int x2), some (.int x3), some (.long t1), none, none]) ⟨rfl, rfl, rfl, rfl, trivial⟩ K1)
theorem t_X4_seek_23 {x2 : Int32} {x3 : Int32} {z4 : Int64} 
    (K1 : (x2 = (-1)) → (x3 = (-1)) → Fw l D ad kA mX4_seek 84 [some (.ref (ad 28)), none, some (.int x2), some (.int x3), some (.long z4), none, some (.int 0)] [] (sI M 28 8 16777216) Q)
    (K2 : (x2 = (-1)) → (¬ (x3 = (-1))) → Cal l D ad kA mX7_bellsOf [.ref (ad 22), .int x3] M (fun oc M2 => ∃ r : Int64, oc = .returned (some (.long r)) ∧ Fw l D ad kA mX4_seek 66 [some (.ref (ad 28)), none, some (.int x2), some (.int x3), some (.long z4), none, none] [.long r, .ref (ad 17)] M2 Q))
    (K3 : (¬ (x2 = (-1))) → Cal l D ad kA mX7_bellsOf [.ref (ad 22), .int x2] M (fun oc M2 => ∃ r : Int64, oc = .returned (some (.long r)) ∧ Fw l D ad kA mX4_seek 40 [some (.ref (ad 28)), none, some (.int x2), some (.int x3), some (.long z4), none, none] [.long r, .ref (ad 17)] M2 Q)) : Fw l D ad kA mX4_seek 23 [some (.ref (ad 28)), none, some (.int x2), some (.int x3), some (.long z4), none, none] [] M Q := by
  refine r_iload_n dX4_seek_23 rfl ?_
  refine r_iconst (v := (-1)) dX4_seek_24 kI_m1 ?_
  refine r_icmp_eq (tgt := 49) dX4_seek_25 (by decide) (fun c1 => ?_) (fun c1 => ?_)
  · skip
    refine r_iload_n dX4_seek_49 rfl ?_
    refine r_iconst (v := (-1)) dX4_seek_50 kI_m1 ?_
    refine r_icmp_eq (tgt := 75) dX4_seek_51 (by decide) (fun c2 => ?_) (fun c2 => ?_)
    · skip
      refine r_aload_n dX4_seek_75 rfl ?_
      refine r_ldc (v := 16777216) dX4_seek_76 co_X4_56 ?_
      refine r_putI dX4_seek_78 fs_28_8 fk_X4_57 fp_X4_8 ?_
      refine r_iconst (v := 0) dX4_seek_81 kI_0 ?_
      refine q_istore (lo' := [some (.ref (ad 28)), none, some (.int x2), some (.int x3), some (.long z4), none, some (.int 0)]) dX4_seek_82 (by decide) rfl ?_
      exact (K1 c1 c2)
    · skip
      refine r_aload_n dX4_seek_54 rfl ?_
      refine r_getR dX4_seek_55 fs_28_1 fk_X4_32 ?_
      refine r_aload_n dX4_seek_58 rfl ?_
      refine r_getR dX4_seek_59 fs_28_2 fk_X4_36 ?_
      refine r_iload_n dX4_seek_62 rfl ?_
      exact r_callV (x := 22) (As := [.int x3]) (rest := [.ref (ad 17)]) dX4_seek_63 mk_X4_40 mv_X7_bellsOf rm_X4_seek_X7_bellsOf rfl rfl (by decide +kernel) (Nat.le_of_ble_eq_true rfl) (cal_l (lo' := [some (.ref (ad 28)), none, some (.int x2), some (.int x3), some (.long z4), none, none]) ⟨rfl, rfl, rfl, rfl, trivial⟩ (K2 c1 c2))
  · skip
    refine r_aload_n dX4_seek_28 rfl ?_
    refine r_getR dX4_seek_29 fs_28_1 fk_X4_32 ?_
    refine r_aload_n dX4_seek_32 rfl ?_
    refine r_getR dX4_seek_33 fs_28_2 fk_X4_36 ?_
    refine r_iload_n dX4_seek_36 rfl ?_
    exact r_callV (x := 22) (As := [.int x2]) (rest := [.ref (ad 17)]) dX4_seek_37 mk_X4_40 mv_X7_bellsOf rm_X4_seek_X7_bellsOf rfl rfl (by decide +kernel) (Nat.le_of_ble_eq_true rfl) (cal_l (lo' := [some (.ref (ad 28)), none, some (.int x2), some (.int x3), some (.long z4), none, none]) ⟨rfl, rfl, rfl, rfl, trivial⟩ (K3 c1))
theorem t_X4_seek_84 {x2 : Int32} {x3 : Int32} {z4 : Int64} {x6 : Int32} 
    (g1 : (¬ ((gI M 9 4) ≤ x6)) → g_X9_isOn M z4 x6)
    (g2 : (¬ ((gI M 9 4) ≤ x6)) → (¬ ((v_X9_isOn M z4 x6) = 0)) → vp_in x6 160)
    (K1 : ((gI M 9 4) ≤ x6) → Q (.returned (some (.int (gI M 28 8)))) M)
    (K2 : (¬ ((gI M 9 4) ≤ x6)) → ((v_X9_isOn M z4 x6) = 0) → Fw l D ad kA mX4_seek 84 [some (.ref (ad 28)), none, some (.int x2), some (.int x3), some (.long z4), none, some (.int (x6 + 1))] [] M Q)
    (K3 : (¬ ((gI M 9 4) ≤ x6)) → (¬ ((v_X9_isOn M z4 x6) = 0)) → Cal l D ad kA mX4_keepIfLess [.ref (ad 28), .int x6, .int x2, .int (gI M 30 x6.toNatClampNeg)] M (fun oc M2 => oc = .returned none ∧ Fw l D ad kA mX4_seek 124 [some (.ref (ad 28)), none, some (.int x2), some (.int x3), some (.long z4), none, some (.int x6)] [] M2 Q)) : Fw l D ad kA mX4_seek 84 [some (.ref (ad 28)), none, some (.int x2), some (.int x3), some (.long z4), none, some (.int x6)] [] M Q := by
  refine r_iload dX4_seek_84 rfl ?_
  refine r_aload_n dX4_seek_86 rfl ?_
  refine r_getR dX4_seek_87 fs_28_0 fk_X4_28 ?_
  refine r_getI dX4_seek_90 fs_9_4 fk_X4_60 ?_
  refine r_icmp_ge (tgt := 144) dX4_seek_93 (by decide) (fun c1 => ?_) (fun c1 => ?_)
  · skip
    refine r_aload_n dX4_seek_144 rfl ?_
    refine r_getI dX4_seek_145 fs_28_8 fk_X4_57 ?_
    exact r_iret dX4_seek_148 rfl (K1 c1)
  · skip
    refine r_aload_n dX4_seek_96 rfl ?_
    refine r_getR dX4_seek_97 fs_28_0 fk_X4_28 ?_
    refine r_lload dX4_seek_100 rfl ?_
    refine r_iload dX4_seek_102 rfl ?_
    refine r_callV (x := 9) (As := [.long z4, .int x6]) (rest := []) dX4_seek_104 mk_X4_65 mv_X9_isOn rm_X4_seek_X9_isOn rfl rfl (by decide +kernel) (Nat.le_of_ble_eq_true rfl) (ct_X9_isOn (g1 c1) (⟨_, rfl, ?_⟩))
    refine r_if_eq (tgt := 138) dX4_seek_107 (by decide) (fun c2 => ?_) (fun c2 => ?_)
    · skip
      refine q_iinc (v := x6 + 1) (lo' := [some (.ref (ad 28)), none, some (.int x2), some (.int x3), some (.long z4), none, some (.int (x6 + 1))]) dX4_seek_138 rfl (congrArg (fun q => x6 + q) kI_1) (by decide) rfl ?_
      refine r_goto (tgt := 84) dX4_seek_141 (by decide) ?_
      exact (K2 c1 c2)
    · skip
      refine r_aload_n dX4_seek_110 rfl ?_
      refine r_iload dX4_seek_111 rfl ?_
      refine r_iload_n dX4_seek_113 rfl ?_
      refine r_aload_n dX4_seek_114 rfl ?_
      refine r_getR dX4_seek_115 fs_28_6 fk_X4_22 ?_
      refine r_iload dX4_seek_118 rfl ?_
      refine r_iald dX4_seek_120 as_30 (g2 c1 c2) ?_
      exact r_callV (x := 28) (As := [.int x6, .int x2, .int (gI M 30 x6.toNatClampNeg)]) (rest := []) dX4_seek_121 mk_X4_69 mv_X4_keepIfLess rm_X4_seek_X4_keepIfLess rfl rfl (by decide +kernel) (Nat.le_of_ble_eq_true rfl) (cal_v (lo' := [some (.ref (ad 28)), none, some (.int x2), some (.int x3), some (.long z4), none, some (.int x6)]) ⟨rfl, rfl, rfl, rfl, rfl, trivial⟩ (K3 c1 c2))
theorem t_X4_seek_66 {x2 : Int32} {x3 : Int32} {z4 : Int64} {t2 : Int64} 
    (K1 : Cal l D ad kA mX3_weighWith [.ref (ad 17), .long t2, .long z4, .ref (ad 31)] M (fun oc M2 => oc = .returned none ∧ Fw l D ad kA mX4_seek 75 [some (.ref (ad 28)), none, some (.int x2), some (.int x3), some (.long z4), none, none] [] M2 Q)) : Fw l D ad kA mX4_seek 66 [some (.ref (ad 28)), none, some (.int x2), some (.int x3), some (.long z4), none, none] [.long t2, .ref (ad 17)] M Q := by
  refine r_lload dX4_seek_66 rfl ?_
  refine r_aload_n dX4_seek_68 rfl ?_
  refine r_getR dX4_seek_69 fs_28_7 fk_X4_25 ?_
  exact r_callV (x := 17) (As := [.long t2, .long z4, .ref (ad 31)]) (rest := []) dX4_seek_72 mk_X4_52 mv_X3_weighWith rm_X4_seek_X3_weighWith rfl rfl (by decide +kernel) (Nat.le_of_ble_eq_true rfl) (cal_v (lo' := [some (.ref (ad 28)), none, some (.int x2), some (.int x3), some (.long z4), none, none]) ⟨rfl, rfl, rfl, rfl, trivial⟩ K1)
theorem t_X4_seek_40 {x2 : Int32} {x3 : Int32} {z4 : Int64} {t2 : Int64} 
    (K1 : Cal l D ad kA mX3_weighWith [.ref (ad 17), .long t2, .long z4, .ref (ad 30)] M (fun oc M2 => oc = .returned none ∧ Fw l D ad kA mX4_seek 49 [some (.ref (ad 28)), none, some (.int x2), some (.int x3), some (.long z4), none, none] [] M2 Q)) : Fw l D ad kA mX4_seek 40 [some (.ref (ad 28)), none, some (.int x2), some (.int x3), some (.long z4), none, none] [.long t2, .ref (ad 17)] M Q := by
  refine r_lload dX4_seek_40 rfl ?_
  refine r_aload_n dX4_seek_42 rfl ?_
  refine r_getR dX4_seek_43 fs_28_6 fk_X4_22 ?_
  exact r_callV (x := 17) (As := [.long t2, .long z4, .ref (ad 30)]) (rest := []) dX4_seek_46 mk_X4_52 mv_X3_weighWith rm_X4_seek_X3_weighWith rfl rfl (by decide +kernel) (Nat.le_of_ble_eq_true rfl) (cal_v (lo' := [some (.ref (ad 28)), none, some (.int x2), some (.int x3), some (.long z4), none, none]) ⟨rfl, rfl, rfl, rfl, trivial⟩ K1)
theorem t_X4_seek_124 {x2 : Int32} {x3 : Int32} {z4 : Int64} {x6 : Int32} 
    (g1 : vp_in x6 160)
    (K1 : Cal l D ad kA mX4_keepIfLess [.ref (ad 28), .int x6, .int x3, .int (gI M 31 x6.toNatClampNeg)] M (fun oc M2 => oc = .returned none ∧ Fw l D ad kA mX4_seek 138 [some (.ref (ad 28)), none, some (.int x2), some (.int x3), some (.long z4), none, some (.int x6)] [] M2 Q)) : Fw l D ad kA mX4_seek 124 [some (.ref (ad 28)), none, some (.int x2), some (.int x3), some (.long z4), none, some (.int x6)] [] M Q := by
  refine r_aload_n dX4_seek_124 rfl ?_
  refine r_iload dX4_seek_125 rfl ?_
  refine r_iload_n dX4_seek_127 rfl ?_
  refine r_aload_n dX4_seek_128 rfl ?_
  refine r_getR dX4_seek_129 fs_28_7 fk_X4_25 ?_
  refine r_iload dX4_seek_132 rfl ?_
  refine r_iald dX4_seek_134 as_31 g1 ?_
  exact r_callV (x := 28) (As := [.int x6, .int x3, .int (gI M 31 x6.toNatClampNeg)]) (rest := []) dX4_seek_135 mk_X4_69 mv_X4_keepIfLess rm_X4_seek_X4_keepIfLess rfl rfl (by decide +kernel) (Nat.le_of_ble_eq_true rfl) (cal_v (lo' := [some (.ref (ad 28)), none, some (.int x2), some (.int x3), some (.long z4), none, some (.int x6)]) ⟨rfl, rfl, rfl, rfl, rfl, trivial⟩ K1)
theorem t_X4_seek_75 {x2 : Int32} {x3 : Int32} {z4 : Int64} 
    (K1 : Fw l D ad kA mX4_seek 84 [some (.ref (ad 28)), none, some (.int x2), some (.int x3), some (.long z4), none, some (.int 0)] [] (sI M 28 8 16777216) Q) : Fw l D ad kA mX4_seek 75 [some (.ref (ad 28)), none, some (.int x2), some (.int x3), some (.long z4), none, none] [] M Q := by
  refine r_aload_n dX4_seek_75 rfl ?_
  refine r_ldc (v := 16777216) dX4_seek_76 co_X4_56 ?_
  refine r_putI dX4_seek_78 fs_28_8 fk_X4_57 fp_X4_8 ?_
  refine r_iconst (v := 0) dX4_seek_81 kI_0 ?_
  refine q_istore (lo' := [some (.ref (ad 28)), none, some (.int x2), some (.int x3), some (.long z4), none, some (.int 0)]) dX4_seek_82 (by decide) rfl ?_
  exact K1
theorem t_X4_seek_49 {x2 : Int32} {x3 : Int32} {z4 : Int64} 
    (K1 : (x3 = (-1)) → Fw l D ad kA mX4_seek 84 [some (.ref (ad 28)), none, some (.int x2), some (.int x3), some (.long z4), none, some (.int 0)] [] (sI M 28 8 16777216) Q)
    (K2 : (¬ (x3 = (-1))) → Cal l D ad kA mX7_bellsOf [.ref (ad 22), .int x3] M (fun oc M2 => ∃ r : Int64, oc = .returned (some (.long r)) ∧ Fw l D ad kA mX4_seek 66 [some (.ref (ad 28)), none, some (.int x2), some (.int x3), some (.long z4), none, none] [.long r, .ref (ad 17)] M2 Q)) : Fw l D ad kA mX4_seek 49 [some (.ref (ad 28)), none, some (.int x2), some (.int x3), some (.long z4), none, none] [] M Q := by
  refine r_iload_n dX4_seek_49 rfl ?_
  refine r_iconst (v := (-1)) dX4_seek_50 kI_m1 ?_
  refine r_icmp_eq (tgt := 75) dX4_seek_51 (by decide) (fun c1 => ?_) (fun c1 => ?_)
  · skip
    refine r_aload_n dX4_seek_75 rfl ?_
    refine r_ldc (v := 16777216) dX4_seek_76 co_X4_56 ?_
    refine r_putI dX4_seek_78 fs_28_8 fk_X4_57 fp_X4_8 ?_
    refine r_iconst (v := 0) dX4_seek_81 kI_0 ?_
    refine q_istore (lo' := [some (.ref (ad 28)), none, some (.int x2), some (.int x3), some (.long z4), none, some (.int 0)]) dX4_seek_82 (by decide) rfl ?_
    exact (K1 c1)
  · skip
    refine r_aload_n dX4_seek_54 rfl ?_
    refine r_getR dX4_seek_55 fs_28_1 fk_X4_32 ?_
    refine r_aload_n dX4_seek_58 rfl ?_
    refine r_getR dX4_seek_59 fs_28_2 fk_X4_36 ?_
    refine r_iload_n dX4_seek_62 rfl ?_
    exact r_callV (x := 22) (As := [.int x3]) (rest := [.ref (ad 17)]) dX4_seek_63 mk_X4_40 mv_X7_bellsOf rm_X4_seek_X7_bellsOf rfl rfl (by decide +kernel) (Nat.le_of_ble_eq_true rfl) (cal_l (lo' := [some (.ref (ad 28)), none, some (.int x2), some (.int x3), some (.long z4), none, none]) ⟨rfl, rfl, rfl, rfl, trivial⟩ (K2 c1))
theorem t_X4_seek_138 {x2 : Int32} {x3 : Int32} {z4 : Int64} {x6 : Int32} 
    (K1 : Fw l D ad kA mX4_seek 84 [some (.ref (ad 28)), none, some (.int x2), some (.int x3), some (.long z4), none, some (.int (x6 + 1))] [] M Q) : Fw l D ad kA mX4_seek 138 [some (.ref (ad 28)), none, some (.int x2), some (.int x3), some (.long z4), none, some (.int x6)] [] M Q := by
  refine q_iinc (v := x6 + 1) (lo' := [some (.ref (ad 28)), none, some (.int x2), some (.int x3), some (.long z4), none, some (.int (x6 + 1))]) dX4_seek_138 rfl (congrArg (fun q => x6 + q) kI_1) (by decide) rfl ?_
  refine r_goto (tgt := 84) dX4_seek_141 (by decide) ?_
  exact K1
theorem en_X4_seek {x1 : Int32} {x2 : Int32} {x3 : Int32} (K : Fw l D ad kA mX4_seek 0 [some (.ref (ad 28)), some (.int x1), some (.int x2), some (.int x3), none, none, none] [] M Q) : Cal l D ad kA mX4_seek [.ref (ad 28), .int x1, .int x2, .int x3] M Q := Cal.of (by decide) rfl rfl (Nat.le_of_ble_eq_true rfl) K
end W_helping
