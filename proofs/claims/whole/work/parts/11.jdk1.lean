/-! String length: decode rows, links, walks from cut to cut (printed by wip/gen) -/
theorem dJ0_coder_7d493_0 : decode cJ0_coder_7d493 0 = .ok (.getstatic 38, 3) := by decide +kernel
theorem dJ0_coder_7d493_3 : decode cJ0_coder_7d493 3 = .ok (.ifCond .eq 10, 3) := by decide +kernel
theorem dJ0_coder_7d493_6 : decode cJ0_coder_7d493 6 = .ok (.aload_n 0, 1) := by decide +kernel
theorem dJ0_coder_7d493_7 : decode cJ0_coder_7d493 7 = .ok (.getfield 15, 3) := by decide +kernel
theorem dJ0_coder_7d493_10 : decode cJ0_coder_7d493 10 = .ok (.goto 4, 3) := by decide +kernel
theorem dJ0_coder_7d493_13 : decode cJ0_coder_7d493 13 = .ok (.iconst 1, 1) := by decide +kernel
theorem dJ0_coder_7d493_14 : decode cJ0_coder_7d493 14 = .ok (.ireturn, 1) := by decide +kernel
theorem dJ0_isLatin1_aae02_0 : decode cJ0_isLatin1_aae02 0 = .ok (.getstatic 38, 3) := by decide +kernel
theorem dJ0_isLatin1_aae02_3 : decode cJ0_isLatin1_aae02 3 = .ok (.ifCond .eq 14, 3) := by decide +kernel
theorem dJ0_isLatin1_aae02_6 : decode cJ0_isLatin1_aae02 6 = .ok (.aload_n 0, 1) := by decide +kernel
theorem dJ0_isLatin1_aae02_7 : decode cJ0_isLatin1_aae02 7 = .ok (.getfield 15, 3) := by decide +kernel
theorem dJ0_isLatin1_aae02_10 : decode cJ0_isLatin1_aae02 10 = .ok (.ifCond .ne 7, 3) := by decide +kernel
theorem dJ0_isLatin1_aae02_13 : decode cJ0_isLatin1_aae02 13 = .ok (.iconst 1, 1) := by decide +kernel
theorem dJ0_isLatin1_aae02_14 : decode cJ0_isLatin1_aae02 14 = .ok (.goto 4, 3) := by decide +kernel
theorem dJ0_isLatin1_aae02_17 : decode cJ0_isLatin1_aae02 17 = .ok (.iconst 0, 1) := by decide +kernel
theorem dJ0_isLatin1_aae02_18 : decode cJ0_isLatin1_aae02 18 = .ok (.ireturn, 1) := by decide +kernel
theorem dJ0_length_8abf5_0 : decode cJ0_length_8abf5 0 = .ok (.aload_n 0, 1) := by decide +kernel
theorem dJ0_length_8abf5_1 : decode cJ0_length_8abf5 1 = .ok (.getfield 9, 3) := by decide +kernel
theorem dJ0_length_8abf5_4 : decode cJ0_length_8abf5 4 = .ok (.arraylength, 1) := by decide +kernel
theorem dJ0_length_8abf5_5 : decode cJ0_length_8abf5 5 = .ok (.aload_n 0, 1) := by decide +kernel
theorem dJ0_length_8abf5_6 : decode cJ0_length_8abf5 6 = .ok (.invokevirtual 335, 3) := by decide +kernel
theorem dJ0_length_8abf5_9 : decode cJ0_length_8abf5 9 = .ok (.ishr, 1) := by decide +kernel
theorem dJ0_length_8abf5_10 : decode cJ0_length_8abf5 10 = .ok (.ireturn, 1) := by decide +kernel
abbrev mJ0_coder_7d493 : MI := (yJ0_coder_7d493, cJ0_coder_7d493, 1, some .byte, 1, 21, [])
abbrev mJ0_isLatin1_aae02 : MI := (yJ0_isLatin1_aae02, cJ0_isLatin1_aae02, 1, some .boolean, 1, 21, [])
abbrev mJ0_length_8abf5 : MI := (yJ0_length_8abf5, cJ0_length_8abf5, 1, some .int, 2, 41, [])
theorem fl_J0_9 : Cond.fieldLink RJ0 9 "java/lang/String" "value" "[B" ∈ lw_w := lw_in (i := 1674) (by decide +kernel) (by decide +kernel)
theorem fl_J0_15 : Cond.fieldLink RJ0 15 "java/lang/String" "coder" "B" ∈ lw_w := lw_in (i := 1675) (by decide +kernel) (by decide +kernel)
theorem fl_J0_38 : Cond.fieldLink RJ0 38 "java/lang/String" "COMPACT_STRINGS" "Z" ∈ lw_w := lw_in (i := 530) (by decide +kernel) (by decide +kernel)
theorem mv_J0_coder_7d493 : MkV mJ0_coder_7d493 := ⟨lw_in (i := 527) (by decide +kernel) (by decide +kernel), lw_in (i := 528) (by decide +kernel) (by decide +kernel)⟩
theorem mk_J0_335 : Mk RJ0 335 mJ0_coder_7d493 0 := ⟨lw_in (i := 526) (by decide +kernel) (by decide +kernel), lw_in (i := 18) (by decide +kernel) (by decide +kernel), lw_in (i := 529) (by decide +kernel) (by decide +kernel), by decide +kernel⟩
theorem rm_J0_length_8abf5_J0_coder_7d493 : Rm mJ0_length_8abf5 mJ0_coder_7d493 := ⟨by decide, by decide⟩
section W_jdk1
variable {l : Launch} {D : va_G} {ad : Nat → Nat} {kA : Nat → ClassId} {M : Mem} {Q : Outcome → Mem → Prop}
def v_J0_coder_7d493 (w : Nat) : Int32 := 0
theorem ct_J0_coder_7d493 {w : Nat} (hw : w < 15) (h : Q (.returned (some (.int (0)))) M) : Cal l D ad kA mJ0_coder_7d493 [.ref (ad (210 + w))] M Q := by
  refine Cal.of (lo := [some (.ref (ad (210 + w)))]) (by decide) rfl rfl (Nat.le_of_ble_eq_true rfl) ?_
  refine r_getcs dJ0_coder_7d493_0 fl_J0_38 ?_
  refine r_if_eq (tgt := 13) dJ0_coder_7d493_3 (by decide) (fun q => absurd q (by decide)) (fun _ => ?_)
  refine r_aload_n dJ0_coder_7d493_6 rfl ?_
  refine r_scCoder (i := w) dJ0_coder_7d493_7 hw fl_J0_15 ?_
  refine r_goto (tgt := 14) dJ0_coder_7d493_10 (by decide) ?_
  exact r_zret dJ0_coder_7d493_14 rfl (by decide) h
def v_J0_isLatin1_aae02 (w : Nat) : Int32 := 1
theorem ct_J0_isLatin1_aae02 {w : Nat} (hw : w < 15) (h : Q (.returned (some (.int (1)))) M) : Cal l D ad kA mJ0_isLatin1_aae02 [.ref (ad (210 + w))] M Q := by
  refine Cal.of (lo := [some (.ref (ad (210 + w)))]) (by decide) rfl rfl (Nat.le_of_ble_eq_true rfl) ?_
  refine r_getcs dJ0_isLatin1_aae02_0 fl_J0_38 ?_
  refine r_if_eq (tgt := 17) dJ0_isLatin1_aae02_3 (by decide) (fun q => absurd q (by decide)) (fun _ => ?_)
  refine r_aload_n dJ0_isLatin1_aae02_6 rfl ?_
  refine r_scCoder (i := w) dJ0_isLatin1_aae02_7 hw fl_J0_15 ?_
  refine r_if_ne (tgt := 17) dJ0_isLatin1_aae02_10 (by decide) (fun q => absurd q (by decide)) (fun _ => ?_)
  refine r_iconst (v := 1) dJ0_isLatin1_aae02_13 kI_1 ?_
  refine r_goto (tgt := 18) dJ0_isLatin1_aae02_14 (by decide) ?_
  exact r_zret dJ0_isLatin1_aae02_18 rfl (by decide) h
theorem z_J0_isLatin1_aae02 {w : Nat} : v_J0_isLatin1_aae02 w = 0 ∨ v_J0_isLatin1_aae02 w = 1 := (Or.inr rfl)
def v_J0_length_8abf5 (w : Nat) : Int32 := (Int32.ofNat (scB.getD w []).length) >>> ((0 : Int32) &&& 31)
theorem ct_J0_length_8abf5 {w : Nat} (hw : w < 15) (h : Q (.returned (some (.int (v_J0_length_8abf5 w)))) M) : Cal l D ad kA mJ0_length_8abf5 [.ref (ad (210 + w))] M Q := by
  refine Cal.of (lo := [some (.ref (ad (210 + w)))]) (by decide) rfl rfl (Nat.le_of_ble_eq_true rfl) ?_
  refine r_aload_n dJ0_length_8abf5_0 rfl ?_
  refine r_scValue (i := w) dJ0_length_8abf5_1 hw fl_J0_9 ?_
  refine r_sclen (j := w) dJ0_length_8abf5_4 hw rfl ?_
  refine r_aload_n dJ0_length_8abf5_5 rfl ?_
  refine r_callT (i := w) (As := []) (rest := [.int (Int32.ofNat (scB.getD w []).length)]) dJ0_length_8abf5_6 mk_J0_335 mv_J0_coder_7d493 rm_J0_length_8abf5_J0_coder_7d493 rfl rfl hw rfl (Nat.le_of_ble_eq_true rfl) (ct_J0_coder_7d493 hw (⟨_, rfl, ?_⟩))
  refine r_ishr dJ0_length_8abf5_9 ?_
  exact r_iret dJ0_length_8abf5_10 rfl h
end W_jdk1
