/-! the model: go: decode rows, links, walks from cut to cut (printed by wip/gen) -/
theorem dX13_cell_0 : decode cX13_cell 0 = .ok (.iload_n 0, 1) := by decide +kernel
theorem dX13_cell_1 : decode cX13_cell 1 = .ok (.iconst 2, 1) := by decide +kernel
theorem dX13_cell_2 : decode cX13_cell 2 = .ok (.imul, 1) := by decide +kernel
theorem dX13_cell_3 : decode cX13_cell 3 = .ok (.iload_n 1, 1) := by decide +kernel
theorem dX13_cell_4 : decode cX13_cell 4 = .ok (.iadd, 1) := by decide +kernel
theorem dX13_cell_5 : decode cX13_cell 5 = .ok (.sipush 161, 3) := by decide +kernel
theorem dX13_cell_8 : decode cX13_cell 8 = .ok (.imul, 1) := by decide +kernel
theorem dX13_cell_9 : decode cX13_cell 9 = .ok (.iload_n 2, 1) := by decide +kernel
theorem dX13_cell_10 : decode cX13_cell 10 = .ok (.iadd, 1) := by decide +kernel
theorem dX13_cell_11 : decode cX13_cell 11 = .ok (.ireturn, 1) := by decide +kernel
theorem dX13_heldBell_0 : decode cX13_heldBell 0 = .ok (.iload_n 1, 1) := by decide +kernel
theorem dX13_heldBell_1 : decode cX13_heldBell 1 = .ok (.sipush 160, 3) := by decide +kernel
theorem dX13_heldBell_4 : decode cX13_heldBell 4 = .ok (.if_icmp .eq 18, 3) := by decide +kernel
theorem dX13_heldBell_7 : decode cX13_heldBell 7 = .ok (.aload_n 0, 1) := by decide +kernel
theorem dX13_heldBell_8 : decode cX13_heldBell 8 = .ok (.getfield 134, 3) := by decide +kernel
theorem dX13_heldBell_11 : decode cX13_heldBell 11 = .ok (.aload_n 0, 1) := by decide +kernel
theorem dX13_heldBell_12 : decode cX13_heldBell 12 = .ok (.getfield 156, 3) := by decide +kernel
theorem dX13_heldBell_15 : decode cX13_heldBell 15 = .ok (.iload_n 1, 1) := by decide +kernel
theorem dX13_heldBell_16 : decode cX13_heldBell 16 = .ok (.iaload, 1) := by decide +kernel
theorem dX13_heldBell_17 : decode cX13_heldBell 17 = .ok (.iaload, 1) := by decide +kernel
theorem dX13_heldBell_18 : decode cX13_heldBell 18 = .ok (.iconst 1, 1) := by decide +kernel
theorem dX13_heldBell_19 : decode cX13_heldBell 19 = .ok (.if_icmp .ne 7, 3) := by decide +kernel
theorem dX13_heldBell_22 : decode cX13_heldBell 22 = .ok (.iconst (-1), 1) := by decide +kernel
theorem dX13_heldBell_23 : decode cX13_heldBell 23 = .ok (.goto 14, 3) := by decide +kernel
theorem dX13_heldBell_26 : decode cX13_heldBell 26 = .ok (.aload_n 0, 1) := by decide +kernel
theorem dX13_heldBell_27 : decode cX13_heldBell 27 = .ok (.getfield 128, 3) := by decide +kernel
theorem dX13_heldBell_30 : decode cX13_heldBell 30 = .ok (.aload_n 0, 1) := by decide +kernel
theorem dX13_heldBell_31 : decode cX13_heldBell 31 = .ok (.getfield 156, 3) := by decide +kernel
theorem dX13_heldBell_34 : decode cX13_heldBell 34 = .ok (.iload_n 1, 1) := by decide +kernel
theorem dX13_heldBell_35 : decode cX13_heldBell 35 = .ok (.iaload, 1) := by decide +kernel
theorem dX13_heldBell_36 : decode cX13_heldBell 36 = .ok (.iaload, 1) := by decide +kernel
theorem dX13_heldBell_37 : decode cX13_heldBell 37 = .ok (.ireturn, 1) := by decide +kernel
theorem dX13_go_0 : decode cX13_go 0 = .ok (.iload_n 1, 1) := by decide +kernel
theorem dX13_go_1 : decode cX13_go 1 = .ok (.sipush 160, 3) := by decide +kernel
theorem dX13_go_4 : decode cX13_go 4 = .ok (.if_icmp .ne 5, 3) := by decide +kernel
theorem dX13_go_7 : decode cX13_go 7 = .ok (.iconst 0, 1) := by decide +kernel
theorem dX13_go_8 : decode cX13_go 8 = .ok (.ireturn, 1) := by decide +kernel
theorem dX13_go_9 : decode cX13_go 9 = .ok (.aload_n 0, 1) := by decide +kernel
theorem dX13_go_10 : decode cX13_go 10 = .ok (.getfield 156, 3) := by decide +kernel
theorem dX13_go_13 : decode cX13_go 13 = .ok (.iload_n 1, 1) := by decide +kernel
theorem dX13_go_14 : decode cX13_go 14 = .ok (.iaload, 1) := by decide +kernel
theorem dX13_go_15 : decode cX13_go 15 = .ok (.istore_n 3, 1) := by decide +kernel
theorem dX13_go_16 : decode cX13_go 16 = .ok (.aload_n 0, 1) := by decide +kernel
theorem dX13_go_17 : decode cX13_go 17 = .ok (.getfield 156, 3) := by decide +kernel
theorem dX13_go_20 : decode cX13_go 20 = .ok (.iload_n 2, 1) := by decide +kernel
theorem dX13_go_21 : decode cX13_go 21 = .ok (.iaload, 1) := by decide +kernel
theorem dX13_go_22 : decode cX13_go 22 = .ok (.istore 4, 2) := by decide +kernel
theorem dX13_go_24 : decode cX13_go 24 = .ok (.aload_n 0, 1) := by decide +kernel
theorem dX13_go_25 : decode cX13_go 25 = .ok (.getfield 125, 3) := by decide +kernel
theorem dX13_go_28 : decode cX13_go 28 = .ok (.iload 4, 2) := by decide +kernel
theorem dX13_go_30 : decode cX13_go 30 = .ok (.iaload, 1) := by decide +kernel
theorem dX13_go_31 : decode cX13_go 31 = .ok (.aload_n 0, 1) := by decide +kernel
theorem dX13_go_32 : decode cX13_go 32 = .ok (.getfield 125, 3) := by decide +kernel
theorem dX13_go_35 : decode cX13_go 35 = .ok (.iload_n 3, 1) := by decide +kernel
theorem dX13_go_36 : decode cX13_go 36 = .ok (.iaload, 1) := by decide +kernel
theorem dX13_go_37 : decode cX13_go 37 = .ok (.isub, 1) := by decide +kernel
theorem dX13_go_38 : decode cX13_go 38 = .ok (.istore 5, 2) := by decide +kernel
theorem dX13_go_40 : decode cX13_go 40 = .ok (.aload_n 0, 1) := by decide +kernel
theorem dX13_go_41 : decode cX13_go 41 = .ok (.getfield 134, 3) := by decide +kernel
theorem dX13_go_44 : decode cX13_go 44 = .ok (.iload_n 3, 1) := by decide +kernel
theorem dX13_go_45 : decode cX13_go 45 = .ok (.iaload, 1) := by decide +kernel
theorem dX13_go_46 : decode cX13_go 46 = .ok (.iconst 1, 1) := by decide +kernel
theorem dX13_go_47 : decode cX13_go 47 = .ok (.if_icmp .ne 7, 3) := by decide +kernel
theorem dX13_go_50 : decode cX13_go 50 = .ok (.iconst 1, 1) := by decide +kernel
theorem dX13_go_51 : decode cX13_go 51 = .ok (.goto 4, 3) := by decide +kernel
theorem dX13_go_54 : decode cX13_go 54 = .ok (.iconst 0, 1) := by decide +kernel
theorem dX13_go_55 : decode cX13_go 55 = .ok (.istore 6, 2) := by decide +kernel
theorem dX13_go_57 : decode cX13_go 57 = .ok (.aload_n 0, 1) := by decide +kernel
theorem dX13_go_58 : decode cX13_go 58 = .ok (.getfield 134, 3) := by decide +kernel
theorem dX13_go_61 : decode cX13_go 61 = .ok (.iload 4, 2) := by decide +kernel
theorem dX13_go_63 : decode cX13_go 63 = .ok (.iaload, 1) := by decide +kernel
theorem dX13_go_64 : decode cX13_go 64 = .ok (.iconst 1, 1) := by decide +kernel
theorem dX13_go_65 : decode cX13_go 65 = .ok (.if_icmp .ne 7, 3) := by decide +kernel
theorem dX13_go_68 : decode cX13_go 68 = .ok (.iconst 1, 1) := by decide +kernel
theorem dX13_go_69 : decode cX13_go 69 = .ok (.goto 4, 3) := by decide +kernel
theorem dX13_go_72 : decode cX13_go 72 = .ok (.iconst 0, 1) := by decide +kernel
theorem dX13_go_73 : decode cX13_go 73 = .ok (.istore 7, 2) := by decide +kernel
theorem dX13_go_75 : decode cX13_go 75 = .ok (.iload 6, 2) := by decide +kernel
theorem dX13_go_77 : decode cX13_go 77 = .ok (.ifCond .eq 22, 3) := by decide +kernel
theorem dX13_go_80 : decode cX13_go 80 = .ok (.iload 7, 2) := by decide +kernel
theorem dX13_go_82 : decode cX13_go 82 = .ok (.ifCond .eq 17, 3) := by decide +kernel
theorem dX13_go_85 : decode cX13_go 85 = .ok (.iload 5, 2) := by decide +kernel
theorem dX13_go_87 : decode cX13_go 87 = .ok (.iconst 1, 1) := by decide +kernel
theorem dX13_go_88 : decode cX13_go 88 = .ok (.if_icmp .lt 7, 3) := by decide +kernel
theorem dX13_go_91 : decode cX13_go 91 = .ok (.iconst 0, 1) := by decide +kernel
theorem dX13_go_92 : decode cX13_go 92 = .ok (.goto 6, 3) := by decide +kernel
theorem dX13_go_95 : decode cX13_go 95 = .ok (.ldc_w 282, 3) := by decide +kernel
theorem dX13_go_98 : decode cX13_go 98 = .ok (.ireturn, 1) := by decide +kernel
theorem dX13_go_99 : decode cX13_go 99 = .ok (.iload 6, 2) := by decide +kernel
theorem dX13_go_101 : decode cX13_go 101 = .ok (.ifCond .ne 57, 3) := by decide +kernel
theorem dX13_go_104 : decode cX13_go 104 = .ok (.iload 7, 2) := by decide +kernel
theorem dX13_go_106 : decode cX13_go 106 = .ok (.ifCond .ne 52, 3) := by decide +kernel
theorem dX13_go_109 : decode cX13_go 109 = .ok (.aload_n 0, 1) := by decide +kernel
theorem dX13_go_110 : decode cX13_go 110 = .ok (.getfield 128, 3) := by decide +kernel
theorem dX13_go_113 : decode cX13_go 113 = .ok (.iload_n 3, 1) := by decide +kernel
theorem dX13_go_114 : decode cX13_go 114 = .ok (.iaload, 1) := by decide +kernel
theorem dX13_go_115 : decode cX13_go 115 = .ok (.aload_n 0, 1) := by decide +kernel
theorem dX13_go_116 : decode cX13_go 116 = .ok (.getfield 128, 3) := by decide +kernel
theorem dX13_go_119 : decode cX13_go 119 = .ok (.iload 4, 2) := by decide +kernel
theorem dX13_go_121 : decode cX13_go 121 = .ok (.iaload, 1) := by decide +kernel
theorem dX13_go_122 : decode cX13_go 122 = .ok (.if_icmp .ne 36, 3) := by decide +kernel
theorem dX13_go_125 : decode cX13_go 125 = .ok (.iload 5, 2) := by decide +kernel
theorem dX13_go_127 : decode cX13_go 127 = .ok (.aload_n 0, 1) := by decide +kernel
theorem dX13_go_128 : decode cX13_go 128 = .ok (.getfield 134, 3) := by decide +kernel
theorem dX13_go_131 : decode cX13_go 131 = .ok (.iload_n 3, 1) := by decide +kernel
theorem dX13_go_132 : decode cX13_go 132 = .ok (.iaload, 1) := by decide +kernel
theorem dX13_go_133 : decode cX13_go 133 = .ok (.iconst 2, 1) := by decide +kernel
theorem dX13_go_134 : decode cX13_go 134 = .ok (.if_icmp .ne 12, 3) := by decide +kernel
theorem dX13_go_137 : decode cX13_go 137 = .ok (.aload_n 0, 1) := by decide +kernel
theorem dX13_go_138 : decode cX13_go 138 = .ok (.getfield 131, 3) := by decide +kernel
theorem dX13_go_141 : decode cX13_go 141 = .ok (.iload_n 3, 1) := by decide +kernel
theorem dX13_go_142 : decode cX13_go 142 = .ok (.iaload, 1) := by decide +kernel
theorem dX13_go_143 : decode cX13_go 143 = .ok (.goto 4, 3) := by decide +kernel
theorem dX13_go_146 : decode cX13_go 146 = .ok (.iconst 1, 1) := by decide +kernel
theorem dX13_go_147 : decode cX13_go 147 = .ok (.if_icmp .lt 7, 3) := by decide +kernel
theorem dX13_go_150 : decode cX13_go 150 = .ok (.iconst 0, 1) := by decide +kernel
theorem dX13_go_151 : decode cX13_go 151 = .ok (.goto 6, 3) := by decide +kernel
theorem dX13_go_154 : decode cX13_go 154 = .ok (.ldc_w 282, 3) := by decide +kernel
theorem dX13_go_157 : decode cX13_go 157 = .ok (.ireturn, 1) := by decide +kernel
theorem dX13_go_158 : decode cX13_go 158 = .ok (.iload 6, 2) := by decide +kernel
theorem dX13_go_160 : decode cX13_go 160 = .ok (.ifCond .eq 7, 3) := by decide +kernel
theorem dX13_go_163 : decode cX13_go 163 = .ok (.iconst 1, 1) := by decide +kernel
theorem dX13_go_164 : decode cX13_go 164 = .ok (.goto 9, 3) := by decide +kernel
theorem dX13_go_167 : decode cX13_go 167 = .ok (.aload_n 0, 1) := by decide +kernel
theorem dX13_go_168 : decode cX13_go 168 = .ok (.getfield 131, 3) := by decide +kernel
theorem dX13_go_171 : decode cX13_go 171 = .ok (.iload_n 3, 1) := by decide +kernel
theorem dX13_go_172 : decode cX13_go 172 = .ok (.iaload, 1) := by decide +kernel
theorem dX13_go_173 : decode cX13_go 173 = .ok (.aload_n 0, 1) := by decide +kernel
theorem dX13_go_174 : decode cX13_go 174 = .ok (.getfield 140, 3) := by decide +kernel
theorem dX13_go_177 : decode cX13_go 177 = .ok (.iconst 0, 1) := by decide +kernel
theorem dX13_go_178 : decode cX13_go 178 = .ok (.iaload, 1) := by decide +kernel
theorem dX13_go_179 : decode cX13_go 179 = .ok (.iadd, 1) := by decide +kernel
theorem dX13_go_180 : decode cX13_go 180 = .ok (.iload 6, 2) := by decide +kernel
theorem dX13_go_182 : decode cX13_go 182 = .ok (.ifCond .ne 8, 3) := by decide +kernel
theorem dX13_go_185 : decode cX13_go 185 = .ok (.iload 7, 2) := by decide +kernel
theorem dX13_go_187 : decode cX13_go 187 = .ok (.ifCond .eq 12, 3) := by decide +kernel
theorem dX13_go_190 : decode cX13_go 190 = .ok (.aload_n 0, 1) := by decide +kernel
theorem dX13_go_191 : decode cX13_go 191 = .ok (.getfield 140, 3) := by decide +kernel
theorem dX13_go_194 : decode cX13_go 194 = .ok (.iconst 3, 1) := by decide +kernel
theorem dX13_go_195 : decode cX13_go 195 = .ok (.iaload, 1) := by decide +kernel
theorem dX13_go_196 : decode cX13_go 196 = .ok (.goto 4, 3) := by decide +kernel
theorem dX13_go_199 : decode cX13_go 199 = .ok (.iconst 0, 1) := by decide +kernel
theorem dX13_go_200 : decode cX13_go 200 = .ok (.iadd, 1) := by decide +kernel
theorem dX13_go_201 : decode cX13_go 201 = .ok (.istore 8, 2) := by decide +kernel
theorem dX13_go_203 : decode cX13_go 203 = .ok (.iload 5, 2) := by decide +kernel
theorem dX13_go_205 : decode cX13_go 205 = .ok (.iload 8, 2) := by decide +kernel
theorem dX13_go_207 : decode cX13_go 207 = .ok (.if_icmp .lt 7, 3) := by decide +kernel
theorem dX13_go_210 : decode cX13_go 210 = .ok (.iconst 1, 1) := by decide +kernel
theorem dX13_go_211 : decode cX13_go 211 = .ok (.goto 6, 3) := by decide +kernel
theorem dX13_go_214 : decode cX13_go 214 = .ok (.ldc_w 282, 3) := by decide +kernel
theorem dX13_go_217 : decode cX13_go 217 = .ok (.ireturn, 1) := by decide +kernel
abbrev mX13_cell : MI := (yX13_cell, cX13_cell, 3, some .int, 1, 21, [])
abbrev mX13_heldBell : MI := (yX13_heldBell, cX13_heldBell, 2, some .int, 1, 21, [])
abbrev mX13_go : MI := (yX13_go, cX13_go, 9, some .int, 1, 21, [])
theorem kS_161 : (Int16.ofInt 161).toInt32 = 161 := by decide
theorem co_X13_282 : Cond.constant RX13 282 1000000 ∈ lw_w := lw_in (i := 1485) (by decide +kernel) (by decide +kernel)
theorem fk_X13_156 : Fk RX13 156 13 27 := ⟨RX13, TX13, 66, tyX13, rfl, inX13, by decide, lw_in (i := 1184) (by decide +kernel) (by decide +kernel), tyX13_ok, nmX13⟩
section W_model2
variable {l : Launch} {D : va_G} {ad : Nat → Nat} {kA : Nat → ClassId} {M : Mem} {Q : Outcome → Mem → Prop}
def v_X13_cell (x0 : Int32) (x1 : Int32) (x2 : Int32) : Int32 := (((x0 * 2) + x1) * 161) + x2
theorem ct_X13_cell {x0 : Int32} {x1 : Int32} {x2 : Int32}  (h : Q (.returned (some (.int (v_X13_cell x0 x1 x2)))) M) : Cal l D ad kA mX13_cell [.int x0, .int x1, .int x2] M Q := by
  refine Cal.of (lo := [some (.int x0), some (.int x1), some (.int x2)]) (by decide) rfl rfl (Nat.le_of_ble_eq_true rfl) ?_
  refine r_iload_n dX13_cell_0 rfl ?_
  refine r_iconst (v := 2) dX13_cell_1 kI_2 ?_
  refine r_imul dX13_cell_2 ?_
  refine r_iload_n dX13_cell_3 rfl ?_
  refine r_iadd dX13_cell_4 ?_
  refine r_sipush (v := 161) dX13_cell_5 kS_161 ?_
  refine r_imul dX13_cell_8 ?_
  refine r_iload_n dX13_cell_9 rfl ?_
  refine r_iadd dX13_cell_10 ?_
  exact r_iret dX13_cell_11 rfl h
def v_X13_heldBell (M : Mem) (x1 : Int32) : Int32 := if x1 = 160 then (-1) else if (gI M 59 (gI M 69 x1.toNatClampNeg).toNatClampNeg) = 1 then (-1) else gI M 57 (gI M 69 x1.toNatClampNeg).toNatClampNeg
def g_X13_heldBell (M : Mem) (x1 : Int32) : Prop := ((¬ (x1 = 160)) → vp_in x1 160) ∧ ((¬ (x1 = 160)) → vp_in (gI M 69 x1.toNatClampNeg) 160)
theorem ct_X13_heldBell {x1 : Int32}  (g : g_X13_heldBell M x1) (h : Q (.returned (some (.int (v_X13_heldBell M x1)))) M) : Cal l D ad kA mX13_heldBell [.ref (ad 54), .int x1] M Q := by
  refine Cal.of (lo := [some (.ref (ad 54)), some (.int x1)]) (by decide) rfl rfl (Nat.le_of_ble_eq_true rfl) ?_
  obtain ⟨g1, g2⟩ := g
  refine r_iload_n dX13_heldBell_0 rfl ?_
  refine r_sipush (v := 160) dX13_heldBell_1 kS_160 ?_
  suffices hJ1 : Fw l D ad kA mX13_heldBell 37 [none, none] [.int (if x1 = 160 then (-1) else if (gI M 59 (gI M 69 x1.toNatClampNeg).toNatClampNeg) = 1 then (-1) else gI M 57 (gI M 69 x1.toNatClampNeg).toNatClampNeg)] M Q by
    refine r_icmp_eq (tgt := 22) dX13_heldBell_4 (by decide) (fun c1 => ?_) (fun c1 => ?_)
    · skip
      refine r_iconst (v := (-1)) dX13_heldBell_22 kI_m1 ?_
      refine r_goto (tgt := 37) dX13_heldBell_23 (by decide) ?_
      exact q_weak (lo' := [none, none]) trivial (by have h9 := hJ1; simp only [if_pos c1] at h9; first | exact h9 | (simp only [if_pos c1]; exact h9))
    · skip
      refine r_aload_n dX13_heldBell_7 rfl ?_
      refine r_getR dX13_heldBell_8 fs_54_15 fk_X13_134 ?_
      refine r_aload_n dX13_heldBell_11 rfl ?_
      refine r_getR dX13_heldBell_12 fs_54_27 fk_X13_156 ?_
      refine r_iload_n dX13_heldBell_15 rfl ?_
      refine r_iald dX13_heldBell_16 as_69 (g1 c1) ?_
      refine r_iald dX13_heldBell_17 as_59 (g2 c1) ?_
      refine r_iconst (v := 1) dX13_heldBell_18 kI_1 ?_
      refine r_icmp_ne (tgt := 26) dX13_heldBell_19 (by decide) (fun c2 => ?_) (fun c2 => ?_)
      · skip
        refine r_aload_n dX13_heldBell_26 rfl ?_
        refine r_getR dX13_heldBell_27 fs_54_13 fk_X13_128 ?_
        refine r_aload_n dX13_heldBell_30 rfl ?_
        refine r_getR dX13_heldBell_31 fs_54_27 fk_X13_156 ?_
        refine r_iload_n dX13_heldBell_34 rfl ?_
        refine r_iald dX13_heldBell_35 as_69 (g1 c1) ?_
        refine r_iald dX13_heldBell_36 as_57 (g2 c1) ?_
        exact q_weak (lo' := [none, none]) trivial (by have h9 := hJ1; simp only [if_neg c1, if_neg c2] at h9; first | exact h9 | (simp only [if_neg c1, if_neg c2]; exact h9))
      · skip
        refine r_iconst (v := (-1)) dX13_heldBell_22 kI_m1 ?_
        refine r_goto (tgt := 37) dX13_heldBell_23 (by decide) ?_
        exact q_weak (lo' := [none, none]) trivial (by have h9 := hJ1; simp only [if_neg c1, if_pos c2] at h9; first | exact h9 | (simp only [if_neg c1, if_pos c2]; exact h9))
  exact r_iret dX13_heldBell_37 rfl h
theorem t_X13_go_0 {x1 : Int32} {x2 : Int32} 
    (g1 : (¬ (x1 = 160)) → vp_in x1 160)
    (g2 : (¬ (x1 = 160)) → vp_in x2 160)
    (K1 : (¬ (x1 = 160)) → Fw l D ad kA mX13_go 24 [some (.ref (ad 54)), none, none, some (.int (gI M 69 x1.toNatClampNeg)), some (.int (gI M 69 x2.toNatClampNeg)), none, none, none, none] [] M Q)
    (K2 : (x1 = 160) → Q (.returned (some (.int 0))) M) : Fw l D ad kA mX13_go 0 [some (.ref (ad 54)), some (.int x1), some (.int x2), none, none, none, none, none, none] [] M Q := by
  refine r_iload_n dX13_go_0 rfl ?_
  refine r_sipush (v := 160) dX13_go_1 kS_160 ?_
  refine r_icmp_ne (tgt := 9) dX13_go_4 (by decide) (fun c1 => ?_) (fun c1 => ?_)
  · skip
    refine r_aload_n dX13_go_9 rfl ?_
    refine r_getR dX13_go_10 fs_54_27 fk_X13_156 ?_
    refine r_iload_n dX13_go_13 rfl ?_
    refine r_iald dX13_go_14 as_69 (g1 c1) ?_
    refine q_istore_n (lo' := [some (.ref (ad 54)), some (.int x1), some (.int x2), some (.int (gI M 69 x1.toNatClampNeg)), none, none, none, none, none]) dX13_go_15 (by decide) rfl ?_
    refine r_aload_n dX13_go_16 rfl ?_
    refine r_getR dX13_go_17 fs_54_27 fk_X13_156 ?_
    refine r_iload_n dX13_go_20 rfl ?_
    refine r_iald dX13_go_21 as_69 (g2 c1) ?_
    refine q_istore (lo' := [some (.ref (ad 54)), some (.int x1), some (.int x2), some (.int (gI M 69 x1.toNatClampNeg)), some (.int (gI M 69 x2.toNatClampNeg)), none, none, none, none]) dX13_go_22 (by decide) rfl ?_
    exact q_weak (lo' := [some (.ref (ad 54)), none, none, some (.int (gI M 69 x1.toNatClampNeg)), some (.int (gI M 69 x2.toNatClampNeg)), none, none, none, none]) ⟨rfl, rfl, rfl, trivial⟩ (K1 c1)
  · skip
    refine r_iconst (v := 0) dX13_go_7 kI_0 ?_
    exact r_iret dX13_go_8 rfl (K2 c1)
theorem t_X13_go_24 {x3 : Int32} {x4 : Int32} 
    (g1 : vp_in x4 160)
    (g2 : vp_in x3 160)
    (K1 : Fw l D ad kA mX13_go 75 [some (.ref (ad 54)), none, none, some (.int x3), some (.int x4), some (.int ((gI M 56 x4.toNatClampNeg) - (gI M 56 x3.toNatClampNeg))), some (.int (if (gI M 59 x3.toNatClampNeg) = 1 then 1 else 0)), some (.int (if (gI M 59 x4.toNatClampNeg) = 1 then 1 else 0)), none] [] M Q) : Fw l D ad kA mX13_go 24 [some (.ref (ad 54)), none, none, some (.int x3), some (.int x4), none, none, none, none] [] M Q := by
  refine r_aload_n dX13_go_24 rfl ?_
  refine r_getR dX13_go_25 fs_54_12 fk_X13_125 ?_
  refine r_iload dX13_go_28 rfl ?_
  refine r_iald dX13_go_30 as_56 g1 ?_
  refine r_aload_n dX13_go_31 rfl ?_
  refine r_getR dX13_go_32 fs_54_12 fk_X13_125 ?_
  refine r_iload_n dX13_go_35 rfl ?_
  refine r_iald dX13_go_36 as_56 g2 ?_
  refine r_isub dX13_go_37 ?_
  refine q_istore (lo' := [some (.ref (ad 54)), none, none, some (.int x3), some (.int x4), some (.int ((gI M 56 x4.toNatClampNeg) - (gI M 56 x3.toNatClampNeg))), none, none, none]) dX13_go_38 (by decide) rfl ?_
  refine r_aload_n dX13_go_40 rfl ?_
  refine r_getR dX13_go_41 fs_54_15 fk_X13_134 ?_
  refine r_iload_n dX13_go_44 rfl ?_
  refine r_iald dX13_go_45 as_59 g2 ?_
  refine r_iconst (v := 1) dX13_go_46 kI_1 ?_
  suffices hJ1 : Fw l D ad kA mX13_go 55 [some (.ref (ad 54)), none, none, some (.int x3), some (.int x4), some (.int ((gI M 56 x4.toNatClampNeg) - (gI M 56 x3.toNatClampNeg))), none, none, none] [.int (if (gI M 59 x3.toNatClampNeg) = 1 then 1 else 0)] M Q by
    refine r_icmp_ne (tgt := 54) dX13_go_47 (by decide) (fun c1 => ?_) (fun c1 => ?_)
    · skip
      refine r_iconst (v := 0) dX13_go_54 kI_0 ?_
      exact q_weak (lo' := [some (.ref (ad 54)), none, none, some (.int x3), some (.int x4), some (.int ((gI M 56 x4.toNatClampNeg) - (gI M 56 x3.toNatClampNeg))), none, none, none]) ⟨rfl, rfl, rfl, rfl, trivial⟩ (by have h9 := hJ1; simp only [if_neg c1] at h9; first | exact h9 | (simp only [if_neg c1]; exact h9))
    · skip
      refine r_iconst (v := 1) dX13_go_50 kI_1 ?_
      refine r_goto (tgt := 55) dX13_go_51 (by decide) ?_
      exact q_weak (lo' := [some (.ref (ad 54)), none, none, some (.int x3), some (.int x4), some (.int ((gI M 56 x4.toNatClampNeg) - (gI M 56 x3.toNatClampNeg))), none, none, none]) ⟨rfl, rfl, rfl, rfl, trivial⟩ (by have h9 := hJ1; simp only [if_pos c1] at h9; first | exact h9 | (simp only [if_pos c1]; exact h9))
  refine q_istore (lo' := [some (.ref (ad 54)), none, none, some (.int x3), some (.int x4), some (.int ((gI M 56 x4.toNatClampNeg) - (gI M 56 x3.toNatClampNeg))), some (.int (if (gI M 59 x3.toNatClampNeg) = 1 then 1 else 0)), none, none]) dX13_go_55 (by decide) rfl ?_
  refine r_aload_n dX13_go_57 rfl ?_
  refine r_getR dX13_go_58 fs_54_15 fk_X13_134 ?_
  refine r_iload dX13_go_61 rfl ?_
  refine r_iald dX13_go_63 as_59 g1 ?_
  refine r_iconst (v := 1) dX13_go_64 kI_1 ?_
  suffices hJ2 : Fw l D ad kA mX13_go 73 [some (.ref (ad 54)), none, none, some (.int x3), some (.int x4), some (.int ((gI M 56 x4.toNatClampNeg) - (gI M 56 x3.toNatClampNeg))), some (.int (if (gI M 59 x3.toNatClampNeg) = 1 then 1 else 0)), none, none] [.int (if (gI M 59 x4.toNatClampNeg) = 1 then 1 else 0)] M Q by
    refine r_icmp_ne (tgt := 72) dX13_go_65 (by decide) (fun c2 => ?_) (fun c2 => ?_)
    · skip
      refine r_iconst (v := 0) dX13_go_72 kI_0 ?_
      exact q_weak (lo' := [some (.ref (ad 54)), none, none, some (.int x3), some (.int x4), some (.int ((gI M 56 x4.toNatClampNeg) - (gI M 56 x3.toNatClampNeg))), some (.int (if (gI M 59 x3.toNatClampNeg) = 1 then 1 else 0)), none, none]) ⟨rfl, rfl, rfl, rfl, rfl, trivial⟩ (by have h9 := hJ2; simp only [if_neg c2] at h9; first | exact h9 | (simp only [if_neg c2]; exact h9))
    · skip
      refine r_iconst (v := 1) dX13_go_68 kI_1 ?_
      refine r_goto (tgt := 73) dX13_go_69 (by decide) ?_
      exact q_weak (lo' := [some (.ref (ad 54)), none, none, some (.int x3), some (.int x4), some (.int ((gI M 56 x4.toNatClampNeg) - (gI M 56 x3.toNatClampNeg))), some (.int (if (gI M 59 x3.toNatClampNeg) = 1 then 1 else 0)), none, none]) ⟨rfl, rfl, rfl, rfl, rfl, trivial⟩ (by have h9 := hJ2; simp only [if_pos c2] at h9; first | exact h9 | (simp only [if_pos c2]; exact h9))
  refine q_istore (lo' := [some (.ref (ad 54)), none, none, some (.int x3), some (.int x4), some (.int ((gI M 56 x4.toNatClampNeg) - (gI M 56 x3.toNatClampNeg))), some (.int (if (gI M 59 x3.toNatClampNeg) = 1 then 1 else 0)), some (.int (if (gI M 59 x4.toNatClampNeg) = 1 then 1 else 0)), none]) dX13_go_73 (by decide) rfl ?_
  exact K1
theorem t_X13_go_75 {x3 : Int32} {x4 : Int32} {x5 : Int32} {x6 : Int32} {x7 : Int32} 
    (g1 : (x6 = 0) → (x7 = 0) → vp_in x3 160)
    (g2 : (x6 = 0) → (x7 = 0) → vp_in x4 160)
    (K1 : (x6 = 0) → (¬ (x7 = 0)) → Fw l D ad kA mX13_go 158 [some (.ref (ad 54)), none, none, some (.int x3), none, some (.int x5), some (.int x6), some (.int x7), none] [] M Q)
    (K2 : (x6 = 0) → (x7 = 0) → (¬ ((gI M 57 x3.toNatClampNeg) = (gI M 57 x4.toNatClampNeg))) → Fw l D ad kA mX13_go 158 [some (.ref (ad 54)), none, none, some (.int x3), none, some (.int x5), some (.int x6), some (.int x7), none] [] M Q)
    (K3 : (x6 = 0) → (x7 = 0) → ((gI M 57 x3.toNatClampNeg) = (gI M 57 x4.toNatClampNeg)) → Q (.returned (some (.int (if x5 < (if (gI M 59 x3.toNatClampNeg) = 2 then gI M 58 x3.toNatClampNeg else 1 : Int32) then 1000000 else 0)))) M)
    (K4 : (¬ (x6 = 0)) → (x7 = 0) → Fw l D ad kA mX13_go 158 [some (.ref (ad 54)), none, none, some (.int x3), none, some (.int x5), some (.int x6), some (.int x7), none] [] M Q)
    (K5 : (¬ (x6 = 0)) → (¬ (x7 = 0)) → Q (.returned (some (.int (if x5 < 1 then 1000000 else 0)))) M) : Fw l D ad kA mX13_go 75 [some (.ref (ad 54)), none, none, some (.int x3), some (.int x4), some (.int x5), some (.int x6), some (.int x7), none] [] M Q := by
  refine r_iload dX13_go_75 rfl ?_
  refine r_if_eq (tgt := 99) dX13_go_77 (by decide) (fun c1 => ?_) (fun c1 => ?_)
  · skip
    refine r_iload dX13_go_99 rfl ?_
    refine r_if_ne (tgt := 158) dX13_go_101 (by decide) (fun q => absurd c1 q) (fun _ => ?_)
    refine r_iload dX13_go_104 rfl ?_
    refine r_if_ne (tgt := 158) dX13_go_106 (by decide) (fun c2 => ?_) (fun c2 => ?_)
    · skip
      exact q_weak (lo' := [some (.ref (ad 54)), none, none, some (.int x3), none, some (.int x5), some (.int x6), some (.int x7), none]) ⟨rfl, rfl, rfl, rfl, rfl, trivial⟩ (K1 c1 c2)
    · skip
      refine r_aload_n dX13_go_109 rfl ?_
      refine r_getR dX13_go_110 fs_54_13 fk_X13_128 ?_
      refine r_iload_n dX13_go_113 rfl ?_
      refine r_iald dX13_go_114 as_57 (g1 c1 c2) ?_
      refine r_aload_n dX13_go_115 rfl ?_
      refine r_getR dX13_go_116 fs_54_13 fk_X13_128 ?_
      refine r_iload dX13_go_119 rfl ?_
      refine r_iald dX13_go_121 as_57 (g2 c1 c2) ?_
      refine r_icmp_ne (tgt := 158) dX13_go_122 (by decide) (fun c3 => ?_) (fun c3 => ?_)
      · skip
        exact q_weak (lo' := [some (.ref (ad 54)), none, none, some (.int x3), none, some (.int x5), some (.int x6), some (.int x7), none]) ⟨rfl, rfl, rfl, rfl, rfl, trivial⟩ (K2 c1 c2 c3)
      · skip
        refine r_iload dX13_go_125 rfl ?_
        refine r_aload_n dX13_go_127 rfl ?_
        refine r_getR dX13_go_128 fs_54_15 fk_X13_134 ?_
        refine r_iload_n dX13_go_131 rfl ?_
        refine r_iald dX13_go_132 as_59 (g1 c1 c2) ?_
        refine r_iconst (v := 2) dX13_go_133 kI_2 ?_
        suffices hJ1 : Fw l D ad kA mX13_go 147 [none, none, none, none, none, none, none, none, none] [.int (if (gI M 59 x3.toNatClampNeg) = 2 then gI M 58 x3.toNatClampNeg else 1), .int x5] M Q by
          refine r_icmp_ne (tgt := 146) dX13_go_134 (by decide) (fun c4 => ?_) (fun c4 => ?_)
          · skip
            refine r_iconst (v := 1) dX13_go_146 kI_1 ?_
            exact q_weak (lo' := [none, none, none, none, none, none, none, none, none]) trivial (by have h9 := hJ1; simp only [if_neg c4] at h9; first | exact h9 | (simp only [if_neg c4]; exact h9))
          · skip
            refine r_aload_n dX13_go_137 rfl ?_
            refine r_getR dX13_go_138 fs_54_14 fk_X13_131 ?_
            refine r_iload_n dX13_go_141 rfl ?_
            refine r_iald dX13_go_142 as_58 (g1 c1 c2) ?_
            refine r_goto (tgt := 147) dX13_go_143 (by decide) ?_
            exact q_weak (lo' := [none, none, none, none, none, none, none, none, none]) trivial (by have h9 := hJ1; simp only [if_pos c4] at h9; first | exact h9 | (simp only [if_pos c4]; exact h9))
        suffices hJ2 : Fw l D ad kA mX13_go 157 [none, none, none, none, none, none, none, none, none] [.int (if x5 < (if (gI M 59 x3.toNatClampNeg) = 2 then gI M 58 x3.toNatClampNeg else 1 : Int32) then 1000000 else 0)] M Q by
          refine r_icmp_lt (tgt := 154) dX13_go_147 (by decide) (fun c5 => ?_) (fun c5 => ?_)
          · skip
            refine r_ldcw (v := 1000000) dX13_go_154 co_X13_282 ?_
            exact q_weak (lo' := [none, none, none, none, none, none, none, none, none]) trivial (by have h9 := hJ2; simp only [if_pos c5] at h9; first | exact h9 | (simp only [if_pos c5]; exact h9))
          · skip
            refine r_iconst (v := 0) dX13_go_150 kI_0 ?_
            refine r_goto (tgt := 157) dX13_go_151 (by decide) ?_
            exact q_weak (lo' := [none, none, none, none, none, none, none, none, none]) trivial (by have h9 := hJ2; simp only [if_neg c5] at h9; first | exact h9 | (simp only [if_neg c5]; exact h9))
        exact r_iret dX13_go_157 rfl (K3 c1 c2 c3)
  · skip
    refine r_iload dX13_go_80 rfl ?_
    refine r_if_eq (tgt := 99) dX13_go_82 (by decide) (fun c6 => ?_) (fun c6 => ?_)
    · skip
      refine r_iload dX13_go_99 rfl ?_
      refine r_if_ne (tgt := 158) dX13_go_101 (by decide) (fun _ => ?_) (fun q => absurd q c1)
      exact q_weak (lo' := [some (.ref (ad 54)), none, none, some (.int x3), none, some (.int x5), some (.int x6), some (.int x7), none]) ⟨rfl, rfl, rfl, rfl, rfl, trivial⟩ (K4 c1 c6)
    · skip
      refine r_iload dX13_go_85 rfl ?_
      refine r_iconst (v := 1) dX13_go_87 kI_1 ?_
      suffices hJ3 : Fw l D ad kA mX13_go 98 [none, none, none, none, none, none, none, none, none] [.int (if x5 < 1 then 1000000 else 0)] M Q by
        refine r_icmp_lt (tgt := 95) dX13_go_88 (by decide) (fun c7 => ?_) (fun c7 => ?_)
        · skip
          refine r_ldcw (v := 1000000) dX13_go_95 co_X13_282 ?_
          exact q_weak (lo' := [none, none, none, none, none, none, none, none, none]) trivial (by have h9 := hJ3; simp only [if_pos c7] at h9; first | exact h9 | (simp only [if_pos c7]; exact h9))
        · skip
          refine r_iconst (v := 0) dX13_go_91 kI_0 ?_
          refine r_goto (tgt := 98) dX13_go_92 (by decide) ?_
          exact q_weak (lo' := [none, none, none, none, none, none, none, none, none]) trivial (by have h9 := hJ3; simp only [if_neg c7] at h9; first | exact h9 | (simp only [if_neg c7]; exact h9))
      exact r_iret dX13_go_98 rfl (K5 c1 c6)
theorem t_X13_go_158 {x3 : Int32} {x5 : Int32} {x6 : Int32} {x7 : Int32} 
    (g1 : (x6 = 0) → vp_in x3 160)
    (K1 : Q (.returned (some (.int (if x5 < (((if x6 = 0 then gI M 58 x3.toNatClampNeg else 1) + (gI M 65 (0 : Int32).toNatClampNeg)) + (if x6 = 0 then if x7 = 0 then 0 else gI M 65 (3 : Int32).toNatClampNeg else gI M 65 (3 : Int32).toNatClampNeg)) then 1000000 else 1)))) M) : Fw l D ad kA mX13_go 158 [some (.ref (ad 54)), none, none, some (.int x3), none, some (.int x5), some (.int x6), some (.int x7), none] [] M Q := by
  refine r_iload dX13_go_158 rfl ?_
  suffices hJ1 : Fw l D ad kA mX13_go 173 [some (.ref (ad 54)), none, none, none, none, some (.int x5), some (.int x6), some (.int x7), none] [.int (if x6 = 0 then gI M 58 x3.toNatClampNeg else 1)] M Q by
    refine r_if_eq (tgt := 167) dX13_go_160 (by decide) (fun c1 => ?_) (fun c1 => ?_)
    · skip
      refine r_aload_n dX13_go_167 rfl ?_
      refine r_getR dX13_go_168 fs_54_14 fk_X13_131 ?_
      refine r_iload_n dX13_go_171 rfl ?_
      refine r_iald dX13_go_172 as_58 (g1 c1) ?_
      exact q_weak (lo' := [some (.ref (ad 54)), none, none, none, none, some (.int x5), some (.int x6), some (.int x7), none]) ⟨rfl, rfl, rfl, rfl, trivial⟩ (by have h9 := hJ1; simp only [if_pos c1] at h9; first | exact h9 | (simp only [if_pos c1]; exact h9))
    · skip
      refine r_iconst (v := 1) dX13_go_163 kI_1 ?_
      refine r_goto (tgt := 173) dX13_go_164 (by decide) ?_
      exact q_weak (lo' := [some (.ref (ad 54)), none, none, none, none, some (.int x5), some (.int x6), some (.int x7), none]) ⟨rfl, rfl, rfl, rfl, trivial⟩ (by have h9 := hJ1; simp only [if_neg c1] at h9; first | exact h9 | (simp only [if_neg c1]; exact h9))
  refine r_aload_n dX13_go_173 rfl ?_
  refine r_getR dX13_go_174 fs_54_21 fk_X13_140 ?_
  refine r_iconst (v := 0) dX13_go_177 kI_0 ?_
  refine r_iald dX13_go_178 as_65 (by unfold vp_in; decide) ?_
  refine r_iadd dX13_go_179 ?_
  refine r_iload dX13_go_180 rfl ?_
  suffices hJ2 : Fw l D ad kA mX13_go 200 [none, none, none, none, none, some (.int x5), none, none, none] [.int (if x6 = 0 then if x7 = 0 then 0 else gI M 65 (3 : Int32).toNatClampNeg else gI M 65 (3 : Int32).toNatClampNeg), .int ((if x6 = 0 then gI M 58 x3.toNatClampNeg else 1) + (gI M 65 (0 : Int32).toNatClampNeg))] M Q by
    refine r_if_ne (tgt := 190) dX13_go_182 (by decide) (fun c2 => ?_) (fun c2 => ?_)
    · skip
      refine r_aload_n dX13_go_190 rfl ?_
      refine r_getR dX13_go_191 fs_54_21 fk_X13_140 ?_
      refine r_iconst (v := 3) dX13_go_194 kI_3 ?_
      refine r_iald dX13_go_195 as_65 (by unfold vp_in; decide) ?_
      refine r_goto (tgt := 200) dX13_go_196 (by decide) ?_
      exact q_weak (lo' := [none, none, none, none, none, some (.int x5), none, none, none]) ⟨rfl, trivial⟩ (by have h9 := hJ2; simp only [if_neg c2] at h9; first | exact h9 | (simp only [if_neg c2]; exact h9))
    · skip
      refine r_iload dX13_go_185 rfl ?_
      refine r_if_eq (tgt := 199) dX13_go_187 (by decide) (fun c3 => ?_) (fun c3 => ?_)
      · skip
        refine r_iconst (v := 0) dX13_go_199 kI_0 ?_
        exact q_weak (lo' := [none, none, none, none, none, some (.int x5), none, none, none]) ⟨rfl, trivial⟩ (by have h9 := hJ2; simp only [if_pos c2, if_pos c3] at h9; first | exact h9 | (simp only [if_pos c2, if_pos c3]; exact h9))
      · skip
        refine r_aload_n dX13_go_190 rfl ?_
        refine r_getR dX13_go_191 fs_54_21 fk_X13_140 ?_
        refine r_iconst (v := 3) dX13_go_194 kI_3 ?_
        refine r_iald dX13_go_195 as_65 (by unfold vp_in; decide) ?_
        refine r_goto (tgt := 200) dX13_go_196 (by decide) ?_
        exact q_weak (lo' := [none, none, none, none, none, some (.int x5), none, none, none]) ⟨rfl, trivial⟩ (by have h9 := hJ2; simp only [if_pos c2, if_neg c3] at h9; first | exact h9 | (simp only [if_pos c2, if_neg c3]; exact h9))
  refine r_iadd dX13_go_200 ?_
  refine q_istore (lo' := [none, none, none, none, none, some (.int x5), none, none, some (.int (((if x6 = 0 then gI M 58 x3.toNatClampNeg else 1) + (gI M 65 (0 : Int32).toNatClampNeg)) + (if x6 = 0 then if x7 = 0 then 0 else gI M 65 (3 : Int32).toNatClampNeg else gI M 65 (3 : Int32).toNatClampNeg)))]) dX13_go_201 (by decide) rfl ?_
  refine r_iload dX13_go_203 rfl ?_
  refine r_iload dX13_go_205 rfl ?_
  suffices hJ3 : Fw l D ad kA mX13_go 217 [none, none, none, none, none, none, none, none, none] [.int (if x5 < (((if x6 = 0 then gI M 58 x3.toNatClampNeg else 1) + (gI M 65 (0 : Int32).toNatClampNeg)) + (if x6 = 0 then if x7 = 0 then 0 else gI M 65 (3 : Int32).toNatClampNeg else gI M 65 (3 : Int32).toNatClampNeg)) then 1000000 else 1)] M Q by
    refine r_icmp_lt (tgt := 214) dX13_go_207 (by decide) (fun c4 => ?_) (fun c4 => ?_)
    · skip
      refine r_ldcw (v := 1000000) dX13_go_214 co_X13_282 ?_
      exact q_weak (lo' := [none, none, none, none, none, none, none, none, none]) trivial (by have h9 := hJ3; simp only [if_pos c4] at h9; first | exact h9 | (simp only [if_pos c4]; exact h9))
    · skip
      refine r_iconst (v := 1) dX13_go_210 kI_1 ?_
      refine r_goto (tgt := 217) dX13_go_211 (by decide) ?_
      exact q_weak (lo' := [none, none, none, none, none, none, none, none, none]) trivial (by have h9 := hJ3; simp only [if_neg c4] at h9; first | exact h9 | (simp only [if_neg c4]; exact h9))
  exact r_iret dX13_go_217 rfl K1
theorem en_X13_go {x1 : Int32} {x2 : Int32} (K : Fw l D ad kA mX13_go 0 [some (.ref (ad 54)), some (.int x1), some (.int x2), none, none, none, none, none, none] [] M Q) : Cal l D ad kA mX13_go [.ref (ad 54), .int x1, .int x2] M Q := Cal.of (by decide) rfl rfl (Nat.le_of_ble_eq_true rfl) K
end W_model2
