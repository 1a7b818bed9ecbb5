/-! THE LAW's loop (printed by wip/gen/genS.py) -/
theorem and31 (x : Int32) : ∃ k : Nat, k < 32 ∧ x &&& 31 = nI k := by
  refine ⟨(x.toBitVec &&& 31#32).toNat, ?_, ?_⟩
  · rw [BitVec.toNat_and]
    exact Nat.lt_of_le_of_lt Nat.and_le_right (by decide)
  · apply Int32.toBitVec_inj.mp
    rw [Int32.toBitVec_and]
    show x.toBitVec &&& (31 : Int32).toBitVec = BitVec.ofNat 32 (x.toBitVec &&& 31#32).toNat
    rw [BitVec.ofNat_toNat, BitVec.setWidth_eq]
    rfl
section Law4
variable {l : Launch} {D : va_G} {ad : Nat → Nat} {kA : Nat → ClassId} {b L : Nat} {xs : Nat → Int32}
theorem law_loop (hL : L ≤ 3072) : ∀ (n i : Nat) (M : Mem), i ≤ L → L - i < n → Rel M → Lw l D ad kA b L xs 18 (loL ad b i) [] M := by
  intro n
  induction n with
  | zero => intro i M _ h; omega
  | succ n ih =>
    intro i M hiL hn hR
    refine k_iload d_law_18 rfl (k_aload d_law_19 rfl (k_slen d_law_20 (k_bipush (v := 6) d_law_21 (by decide) (k_isub d_law_23 ?_))))
    refine k_gt (tgt := 1044) d_law_24 (by decide) (fun c => ?_) (fun c => ?_)
    · exact k_iconst (v := 1) d_law_1044 (by decide) (k_ret d_law_1045)
    · have hi : i + 6 ≤ L := by
        have h6 : (6 : Int32).toInt = 6 := rfl
        have hl : (Int32.ofNat L).toInt = L := i_nI (by omega)
        have e1 := i_sub (x := Int32.ofNat L) (y := 6) (by omega) (by omega)
        rw [i_lt, e1, hl, h6, i_nI (by omega)] at c
        omega
      refine k_aload d_law_27 rfl (k_iload d_law_28 rfl (k_sld (vp_in_nI (by omega) (by omega)) d_law_29 ?_))
      rw [nI_clamp (by omega)]
      refine k_bipush (v := 31) d_law_30 (by decide) (k_iand d_law_32 ?_)
      obtain ⟨k, hk, e⟩ := and31 (xs i)
      rw [e]
      have K : ∀ M2, Rel M2 → Lw l D ad kA b L xs 1038 (loL ad b i) [] M2 := by
        intro M2 h2
        refine k_iinc (v := nI (i + 6)) d_law_1038 rfl (nI_add i 6) (by decide) ?_
        refine k_goto (tgt := 18) d_law_1041 (by decide) (k_weak ?_ (ih (i + 6) M2 hi (by omega) h2))
        intro j v h
        unfold lset
        rw [List.getElem?_mapIdx]
        match j, h with
        | 0, h => cases h; rfl
        | 1, h => cases h; rfl
        | 2, h => cases h; rfl
        | 3, h => cases h; rfl
        | j + 4, h => simp at h
      match k, hk with
      | 0, _ => exact k_table (off := 143) (tgt := 176) d_law_33 (by decide +kernel) (by decide +kernel) (by decide +kernel) (by decide) (lc_0 hL hi hR K)
      | 1, _ => exact k_table (off := 206) (tgt := 239) d_law_33 (by decide +kernel) (by decide +kernel) (by decide +kernel) (by decide) (lc_1 hL hi hR K)
      | 2, _ => exact k_table (off := 229) (tgt := 262) d_law_33 (by decide +kernel) (by decide +kernel) (by decide +kernel) (by decide) (lc_2 hL hi hR K)
      | 3, _ => exact k_table (off := 242) (tgt := 275) d_law_33 (by decide +kernel) (by decide +kernel) (by decide +kernel) (by decide) (lc_3 hL hi hR K)
      | 4, _ => exact k_table (off := 255) (tgt := 288) d_law_33 (by decide +kernel) (by decide +kernel) (by decide +kernel) (by decide) (lc_4 hL hi hR K)
      | 5, _ => exact k_table (off := 278) (tgt := 311) d_law_33 (by decide +kernel) (by decide +kernel) (by decide +kernel) (by decide) (lc_5 hL hi hR K)
      | 6, _ => exact k_table (off := 301) (tgt := 334) d_law_33 (by decide +kernel) (by decide +kernel) (by decide +kernel) (by decide) (lc_6 hL hi hR K)
      | 7, _ => exact k_table (off := 334) (tgt := 367) d_law_33 (by decide +kernel) (by decide +kernel) (by decide +kernel) (by decide) (lc_7 hL hi hR K)
      | 8, _ => exact k_table (off := 357) (tgt := 390) d_law_33 (by decide +kernel) (by decide +kernel) (by decide +kernel) (by decide) (lc_8 hL hi hR K)
      | 9, _ => exact k_table (off := 406) (tgt := 439) d_law_33 (by decide +kernel) (by decide +kernel) (by decide +kernel) (by decide) (lc_9 hL hi hR K)
      | 10, _ => exact k_table (off := 459) (tgt := 492) d_law_33 (by decide +kernel) (by decide +kernel) (by decide +kernel) (by decide) (lc_10 hL hi hR K)
      | 11, _ => exact k_table (off := 482) (tgt := 515) d_law_33 (by decide +kernel) (by decide +kernel) (by decide +kernel) (by decide) (lc_11 hL hi hR K)
      | 12, _ => exact k_table (off := 495) (tgt := 528) d_law_33 (by decide +kernel) (by decide +kernel) (by decide +kernel) (by decide) (lc_12 hL hi hR K)
      | 13, _ => exact k_table (off := 528) (tgt := 561) d_law_33 (by decide +kernel) (by decide +kernel) (by decide +kernel) (by decide) (lc_13 hL hi hR K)
      | 14, _ => exact k_table (off := 551) (tgt := 584) d_law_33 (by decide +kernel) (by decide +kernel) (by decide +kernel) (by decide) (lc_14 hL hi hR K)
      | 15, _ => exact k_table (off := 574) (tgt := 607) d_law_33 (by decide +kernel) (by decide +kernel) (by decide +kernel) (by decide) (lc_15 hL hi hR K)
      | 16, _ => exact k_table (off := 597) (tgt := 630) d_law_33 (by decide +kernel) (by decide +kernel) (by decide +kernel) (by decide) (lc_16 hL hi hR K)
      | 17, _ => exact k_table (off := 620) (tgt := 653) d_law_33 (by decide +kernel) (by decide +kernel) (by decide +kernel) (by decide) (lc_17 hL hi hR K)
      | 18, _ => exact k_table (off := 643) (tgt := 676) d_law_33 (by decide +kernel) (by decide +kernel) (by decide +kernel) (by decide) (lc_18 hL hi hR K)
      | 19, _ => exact k_table (off := 656) (tgt := 689) d_law_33 (by decide +kernel) (by decide +kernel) (by decide +kernel) (by decide) (lc_19 hL hi hR K)
      | 20, _ => exact k_table (off := 689) (tgt := 722) d_law_33 (by decide +kernel) (by decide +kernel) (by decide +kernel) (by decide) (lc_20 hL hi hR K)
      | 21, _ => exact k_table (off := 702) (tgt := 735) d_law_33 (by decide +kernel) (by decide +kernel) (by decide +kernel) (by decide) (lc_21 hL hi hR K)
      | 22, _ => exact k_table (off := 715) (tgt := 748) d_law_33 (by decide +kernel) (by decide +kernel) (by decide +kernel) (by decide) (lc_22 hL hi hR K)
      | 23, _ => exact k_table (off := 748) (tgt := 781) d_law_33 (by decide +kernel) (by decide +kernel) (by decide +kernel) (by decide) (lc_23 hL hi hR K)
      | 24, _ => exact k_table (off := 761) (tgt := 794) d_law_33 (by decide +kernel) (by decide +kernel) (by decide +kernel) (by decide) (lc_24 hL hi hR K)
      | 25, _ => exact k_table (off := 784) (tgt := 817) d_law_33 (by decide +kernel) (by decide +kernel) (by decide +kernel) (by decide) (lc_25 hL hi hR K)
      | 26, _ => exact k_table (off := 807) (tgt := 840) d_law_33 (by decide +kernel) (by decide +kernel) (by decide +kernel) (by decide) (lc_26 hL hi hR K)
      | 27, _ => exact k_table (off := 850) (tgt := 883) d_law_33 (by decide +kernel) (by decide +kernel) (by decide +kernel) (by decide) (lc_27 hL hi hR K)
      | 28, _ => exact k_table (off := 883) (tgt := 916) d_law_33 (by decide +kernel) (by decide +kernel) (by decide +kernel) (by decide) (lc_28 hL hi hR K)
      | 29, _ => exact k_table (off := 926) (tgt := 959) d_law_33 (by decide +kernel) (by decide +kernel) (by decide +kernel) (by decide) (lc_29 hL hi hR K)
      | 30, _ => exact k_table (off := 959) (tgt := 992) d_law_33 (by decide +kernel) (by decide +kernel) (by decide +kernel) (by decide) (lc_30 hL hi hR K)
      | 31, _ => exact k_table (off := 982) (tgt := 1015) d_law_33 (by decide +kernel) (by decide +kernel) (by decide +kernel) (by decide) (lc_31 hL hi hR K)
      | k + 32, hk => omega
end Law4
