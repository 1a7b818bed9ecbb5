theorem dJ3_checkIndex_8e157_0 : decode cJ3_checkIndex_8e157 0 = .ok (.iload_n 0, 1) := by decide +kernel
theorem dJ3_checkIndex_8e157_1 : decode cJ3_checkIndex_8e157 1 = .ok (.ifCond .lt 8, 3) := by decide +kernel
theorem dJ3_checkIndex_8e157_4 : decode cJ3_checkIndex_8e157 4 = .ok (.iload_n 0, 1) := by decide +kernel
theorem dJ3_checkIndex_8e157_5 : decode cJ3_checkIndex_8e157 5 = .ok (.iload_n 1, 1) := by decide +kernel
theorem dJ3_checkIndex_8e157_6 : decode cJ3_checkIndex_8e157 6 = .ok (.if_icmp .lt 10, 3) := by decide +kernel
theorem dJ3_checkIndex_8e157_9 : decode cJ3_checkIndex_8e157 9 = .ok (.aload_n 2, 1) := by decide +kernel
theorem dJ3_checkIndex_8e157_10 : decode cJ3_checkIndex_8e157 10 = .ok (.iload_n 0, 1) := by decide +kernel
theorem dJ3_checkIndex_8e157_11 : decode cJ3_checkIndex_8e157 11 = .ok (.iload_n 1, 1) := by decide +kernel
theorem dJ3_checkIndex_8e157_12 : decode cJ3_checkIndex_8e157 12 = .ok (.invokestatic 95, 3) := by decide +kernel
theorem dJ3_checkIndex_8e157_15 : decode cJ3_checkIndex_8e157 15 = .ok (.athrow, 1) := by decide +kernel
theorem dJ3_checkIndex_8e157_16 : decode cJ3_checkIndex_8e157 16 = .ok (.iload_n 0, 1) := by decide +kernel
theorem dJ3_checkIndex_8e157_17 : decode cJ3_checkIndex_8e157 17 = .ok (.ireturn, 1) := by decide +kernel
abbrev mJ3_checkIndex_8e157 : MI := (yJ3_checkIndex_8e157, cJ3_checkIndex_8e157, 3, some .int, 1, 21, [])
theorem dJ0_checkIndex_df160_0 : decode cJ0_checkIndex_df160 0 = .ok (.iload_n 0, 1) := by decide +kernel
theorem dJ0_checkIndex_df160_1 : decode cJ0_checkIndex_df160 1 = .ok (.iload_n 1, 1) := by decide +kernel
theorem dJ0_checkIndex_df160_2 : decode cJ0_checkIndex_df160 2 = .ok (.getstatic 1053, 3) := by decide +kernel
theorem dJ0_checkIndex_df160_5 : decode cJ0_checkIndex_df160 5 = .ok (.invokestatic 1059, 3) := by decide +kernel
theorem dJ0_checkIndex_df160_8 : decode cJ0_checkIndex_df160 8 = .ok (.pop, 1) := by decide +kernel
theorem dJ0_checkIndex_df160_9 : decode cJ0_checkIndex_df160 9 = .ok (.return_, 1) := by decide +kernel
abbrev mJ0_checkIndex_df160 : MI := (yJ0_checkIndex_df160, cJ0_checkIndex_df160, 2, none, 2, 43, [])
theorem dJ1_charAt_3b067_0 : decode cJ1_charAt_3b067 0 = .ok (.iload_n 1, 1) := by decide +kernel
theorem dJ1_charAt_3b067_1 : decode cJ1_charAt_3b067 1 = .ok (.aload_n 0, 1) := by decide +kernel
theorem dJ1_charAt_3b067_2 : decode cJ1_charAt_3b067 2 = .ok (.arraylength, 1) := by decide +kernel
theorem dJ1_charAt_3b067_3 : decode cJ1_charAt_3b067 3 = .ok (.invokestatic 9, 3) := by decide +kernel
theorem dJ1_charAt_3b067_6 : decode cJ1_charAt_3b067 6 = .ok (.aload_n 0, 1) := by decide +kernel
theorem dJ1_charAt_3b067_7 : decode cJ1_charAt_3b067 7 = .ok (.iload_n 1, 1) := by decide +kernel
theorem dJ1_charAt_3b067_8 : decode cJ1_charAt_3b067 8 = .ok (.baload, 1) := by decide +kernel
theorem dJ1_charAt_3b067_9 : decode cJ1_charAt_3b067 9 = .ok (.sipush 255, 3) := by decide +kernel
theorem dJ1_charAt_3b067_12 : decode cJ1_charAt_3b067 12 = .ok (.iand, 1) := by decide +kernel
theorem dJ1_charAt_3b067_13 : decode cJ1_charAt_3b067 13 = .ok (.i2c, 1) := by decide +kernel
theorem dJ1_charAt_3b067_14 : decode cJ1_charAt_3b067 14 = .ok (.ireturn, 1) := by decide +kernel
abbrev mJ1_charAt_3b067 : MI := (yJ1_charAt_3b067, cJ1_charAt_3b067, 2, some .char, 3, 64, [])
theorem dJ0_charAt_5068e_0 : decode cJ0_charAt_5068e 0 = .ok (.aload_n 0, 1) := by decide +kernel
theorem dJ0_charAt_5068e_1 : decode cJ0_charAt_5068e 1 = .ok (.invokevirtual 492, 3) := by decide +kernel
theorem dJ0_charAt_5068e_4 : decode cJ0_charAt_5068e 4 = .ok (.ifCond .eq 12, 3) := by decide +kernel
theorem dJ0_charAt_5068e_7 : decode cJ0_charAt_5068e 7 = .ok (.aload_n 0, 1) := by decide +kernel
theorem dJ0_charAt_5068e_8 : decode cJ0_charAt_5068e 8 = .ok (.getfield 9, 3) := by decide +kernel
theorem dJ0_charAt_5068e_11 : decode cJ0_charAt_5068e 11 = .ok (.iload_n 1, 1) := by decide +kernel
theorem dJ0_charAt_5068e_12 : decode cJ0_charAt_5068e 12 = .ok (.invokestatic 495, 3) := by decide +kernel
theorem dJ0_charAt_5068e_15 : decode cJ0_charAt_5068e 15 = .ok (.ireturn, 1) := by decide +kernel
theorem dJ0_charAt_5068e_16 : decode cJ0_charAt_5068e 16 = .ok (.aload_n 0, 1) := by decide +kernel
theorem dJ0_charAt_5068e_17 : decode cJ0_charAt_5068e 17 = .ok (.getfield 9, 3) := by decide +kernel
theorem dJ0_charAt_5068e_20 : decode cJ0_charAt_5068e 20 = .ok (.iload_n 1, 1) := by decide +kernel
theorem dJ0_charAt_5068e_21 : decode cJ0_charAt_5068e 21 = .ok (.invokestatic 498, 3) := by decide +kernel
theorem dJ0_charAt_5068e_24 : decode cJ0_charAt_5068e 24 = .ok (.ireturn, 1) := by decide +kernel
abbrev mJ0_charAt_5068e : MI := (yJ0_charAt_5068e, cJ0_charAt_5068e, 2, some .char, 4, 85, [])
theorem fl_J0_1053 : Cond.fieldLink RJ0 1053 "jdk/internal/util/Preconditions" "SIOOBE_FORMATTER" "Ljava/util/function/BiFunction;" ∈ lw_w := lw_in (i := 546) (by decide +kernel) (by decide +kernel)
theorem mk_J0_1059 : Mk RJ0 1059 mJ3_checkIndex_8e157 3 := ⟨lw_in (i := 548) (by decide +kernel) (by decide +kernel), lw_in (i := 20) (by decide +kernel) (by decide +kernel), lw_in (i := 550) (by decide +kernel) (by decide +kernel), by decide +kernel⟩
theorem ms_J3_checkIndex_8e157 : Cond.static mJ3_checkIndex_8e157.y ∈ lw_w := lw_in (i := 549) (by decide +kernel) (by decide +kernel)
theorem mk_J1_9 : Mk RJ1 9 mJ0_checkIndex_df160 2 := ⟨lw_in (i := 543) (by decide +kernel) (by decide +kernel), lw_in (i := 18) (by decide +kernel) (by decide +kernel), lw_in (i := 545) (by decide +kernel) (by decide +kernel), by decide +kernel⟩
theorem ms_J0_checkIndex_df160 : Cond.static mJ0_checkIndex_df160.y ∈ lw_w := lw_in (i := 544) (by decide +kernel) (by decide +kernel)
theorem mk_J0_495 : Mk RJ0 495 mJ1_charAt_3b067 2 := ⟨lw_in (i := 540) (by decide +kernel) (by decide +kernel), lw_in (i := 19) (by decide +kernel) (by decide +kernel), lw_in (i := 542) (by decide +kernel) (by decide +kernel), by decide +kernel⟩
theorem ms_J1_charAt_3b067 : Cond.static mJ1_charAt_3b067.y ∈ lw_w := lw_in (i := 541) (by decide +kernel) (by decide +kernel)
theorem mk_J0_492 : Mk RJ0 492 mJ0_isLatin1_aae02 0 := ⟨lw_in (i := 536) (by decide +kernel) (by decide +kernel), lw_in (i := 18) (by decide +kernel) (by decide +kernel), lw_in (i := 539) (by decide +kernel) (by decide +kernel), by decide +kernel⟩
theorem mv_J0_isLatin1_aae02 : MkV mJ0_isLatin1_aae02 := ⟨lw_in (i := 537) (by decide +kernel) (by decide +kernel), lw_in (i := 538) (by decide +kernel) (by decide +kernel)⟩
theorem rm_J0_checkIndex_df160_J3_checkIndex_8e157 : Rm mJ0_checkIndex_df160 mJ3_checkIndex_8e157 := ⟨by decide, by decide⟩
theorem rm_J1_charAt_3b067_J0_checkIndex_df160 : Rm mJ1_charAt_3b067 mJ0_checkIndex_df160 := ⟨by decide, by decide⟩
theorem rm_J0_charAt_5068e_J1_charAt_3b067 : Rm mJ0_charAt_5068e mJ1_charAt_3b067 := ⟨by decide, by decide⟩
theorem rm_J0_charAt_5068e_J0_isLatin1_aae02 : Rm mJ0_charAt_5068e mJ0_isLatin1_aae02 := ⟨by decide, by decide⟩
section W_jdk2
variable {l : Launch} {D : va_G} {ad : Nat → Nat} {kA : Nat → ClassId} {M : Mem} {Q : Outcome → Mem → Prop}
theorem ct_J3_checkIndex_8e157 {x0 x1 : Int32} {v : Value} (hv : v = .null ∨ ∃ t, v = .ref t) (h0 : ¬ x0 < 0) (h1 : x0 < x1) (h : Q (.returned (some (.int x0))) M) : Cal l D ad kA mJ3_checkIndex_8e157 [.int x0, .int x1, v] M Q := by
  have go : Fw l D ad kA mJ3_checkIndex_8e157 0 [some (.int x0), some (.int x1), none] [] M Q := by
    refine r_iload_n dJ3_checkIndex_8e157_0 rfl ?_
    refine r_if_lt (tgt := 9) dJ3_checkIndex_8e157_1 (by decide) (fun c => absurd c h0) (fun _ => ?_)
    refine r_iload_n dJ3_checkIndex_8e157_4 rfl ?_
    refine r_iload_n dJ3_checkIndex_8e157_5 rfl ?_
    refine r_icmp_lt (tgt := 16) dJ3_checkIndex_8e157_6 (by decide) (fun _ => ?_) (fun c => absurd h1 c)
    refine r_iload_n dJ3_checkIndex_8e157_16 rfl ?_
    exact r_iret dJ3_checkIndex_8e157_17 rfl h
  rcases hv with rfl | ⟨t, rfl⟩
  · exact Cal.of (lo := [some (.int x0), some (.int x1), some .null]) (by decide) rfl rfl (Nat.le_of_ble_eq_true rfl) (q_weak (lo' := [some (.int x0), some (.int x1), none]) ⟨rfl, rfl, trivial⟩ go)
  · exact Cal.of (lo := [some (.int x0), some (.int x1), some (.ref t)]) (by decide) rfl rfl (Nat.le_of_ble_eq_true rfl) (q_weak (lo' := [some (.int x0), some (.int x1), none]) ⟨rfl, rfl, trivial⟩ go)
theorem ct_J0_checkIndex_df160 {x0 x1 : Int32} (h0 : ¬ x0 < 0) (h1 : x0 < x1) (h : Q (.returned none) M) : Cal l D ad kA mJ0_checkIndex_df160 [.int x0, .int x1] M Q := by
  refine Cal.of (lo := [some (.int x0), some (.int x1)]) (by decide) rfl rfl (Nat.le_of_ble_eq_true rfl) ?_
  refine r_iload_n dJ0_checkIndex_df160_0 rfl ?_
  refine r_iload_n dJ0_checkIndex_df160_1 rfl ?_
  refine r_getfmt dJ0_checkIndex_df160_2 fl_J0_1053 (fun v hv => ?_)
  refine r_callS (As := [.int x0, .int x1, v]) (rest := []) dJ0_checkIndex_df160_5 mk_J0_1059 ms_J3_checkIndex_8e157 rm_J0_checkIndex_df160_J3_checkIndex_8e157 rfl rfl (Nat.le_of_ble_eq_true rfl) (ct_J3_checkIndex_8e157 hv h0 h1 ⟨_, rfl, ?_⟩)
  refine r_pop dJ0_checkIndex_df160_8 rfl ?_
  exact r_vret dJ0_checkIndex_df160_9 rfl h
def v_J1_charAt_3b067 (w : Nat) (x1 : Int32) : Int32 := (((scB.getD w []).getD x1.toNatClampNeg 0 &&& 255).toUInt32 % 65536).toInt32
theorem ct_J1_charAt_3b067 {w : Nat} {x1 : Int32} (hw : w < 15) (g : vp_in x1 (scB.getD w []).length) (h : Q (.returned (some (.int (v_J1_charAt_3b067 w x1)))) M) : Cal l D ad kA mJ1_charAt_3b067 [.ref (ad (230 + w)), .int x1] M Q := by
  refine Cal.of (lo := [some (.ref (ad (230 + w))), some (.int x1)]) (by decide) rfl rfl (Nat.le_of_ble_eq_true rfl) ?_
  have hl : (scB.getD w []).length < 2 ^ 31 := by
    have : ∀ w, w < 15 → (scB.getD w []).length < 2 ^ 31 := by decide
    exact this w hw
  obtain ⟨j, hj, rfl⟩ := vp_in_of g hl
  refine r_iload_n dJ1_charAt_3b067_0 rfl ?_
  refine r_aload_n dJ1_charAt_3b067_1 rfl ?_
  refine r_sclen (j := w) dJ1_charAt_3b067_2 hw rfl ?_
  refine r_callS (As := [.int (nI j), .int (Int32.ofNat (scB.getD w []).length)]) (rest := []) dJ1_charAt_3b067_3 mk_J1_9 ms_J0_checkIndex_df160 rm_J1_charAt_3b067_J0_checkIndex_df160 rfl rfl (Nat.le_of_ble_eq_true rfl) (ct_J0_checkIndex_df160 (nI_pos (by omega)) (nI_lt hj hl) ⟨_, rfl, ?_⟩)
  refine r_aload_n dJ1_charAt_3b067_6 rfl ?_
  refine r_iload_n dJ1_charAt_3b067_7 rfl ?_
  refine r_scald (j := w) dJ1_charAt_3b067_8 hw g ?_
  refine r_sipush (v := 255) dJ1_charAt_3b067_9 (by decide) ?_
  refine r_iand dJ1_charAt_3b067_12 ?_
  refine r_i2c dJ1_charAt_3b067_13 ?_
  exact r_zret dJ1_charAt_3b067_14 rfl (pk_nc _) h
def v_J0_charAt_5068e (w : Nat) (x1 : Int32) : Int32 := v_J1_charAt_3b067 w x1
def g_J0_charAt_5068e (M : Mem) (w : Nat) (x1 : Int32) : Prop := vp_in x1 (scB.getD w []).length
theorem ct_J0_charAt_5068e {w : Nat} {x1 : Int32} (hw : w < 15) (g : g_J0_charAt_5068e M w x1) (h : Q (.returned (some (.int (v_J0_charAt_5068e w x1)))) M) : Cal l D ad kA mJ0_charAt_5068e [.ref (ad (210 + w)), .int x1] M Q := by
  refine Cal.of (lo := [some (.ref (ad (210 + w))), some (.int x1)]) (by decide) rfl rfl (Nat.le_of_ble_eq_true rfl) ?_
  refine r_aload_n dJ0_charAt_5068e_0 rfl ?_
  refine r_callT (i := w) (As := []) (rest := []) dJ0_charAt_5068e_1 mk_J0_492 mv_J0_isLatin1_aae02 rm_J0_charAt_5068e_J0_isLatin1_aae02 rfl rfl hw rfl (Nat.le_of_ble_eq_true rfl) (ct_J0_isLatin1_aae02 hw ⟨_, rfl, ?_⟩)
  refine r_if_eq (x := 1) (tgt := 16) dJ0_charAt_5068e_4 (by decide) (fun q => absurd q (by decide)) (fun _ => ?_)
  refine r_aload_n dJ0_charAt_5068e_7 rfl ?_
  refine r_scValue (i := w) dJ0_charAt_5068e_8 hw fl_J0_9 ?_
  refine r_iload_n dJ0_charAt_5068e_11 rfl ?_
  refine r_callS (As := [.ref (ad (230 + w)), .int x1]) (rest := []) dJ0_charAt_5068e_12 mk_J0_495 ms_J1_charAt_3b067 rm_J0_charAt_5068e_J1_charAt_3b067 rfl rfl (Nat.le_of_ble_eq_true rfl) (ct_J1_charAt_3b067 hw g ⟨_, rfl, ?_⟩)
  exact r_zret dJ0_charAt_5068e_15 rfl (pk_nc _) h
end W_jdk2

