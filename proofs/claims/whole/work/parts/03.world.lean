/-! THE WORLD behind the two constructors: its cells by number, arrays (kind, length) and objects (class, fields) -/
abbrev Mem : Type := (Nat → Nat → Int32) × (Nat → Nat → Int64)
abbrev Shp : Type := (Nat × Nat) ⊕ (Nat × List (Nat × Nat))
def shL : List Shp := [
  .inr (11, [(1, 1), (1, 3), (1, 9), (1, 14), (1, 17), (1, 22), (1, 28), (1, 32), (1, 35), (1, 44), (1, 52), (0, 0)]),
  .inr (10, [(0, 0), (0, 0), (0, 0), (0, 0), (0, 0), (1, 2), (0, 0), (0, 0)]),
  .inl (1, 1200),
  .inr (0, [(1, 1), (1, 4), (0, 0), (0, 0), (0, 0)]),
  .inr (9, [(1, 5), (1, 6), (1, 7), (1, 8), (0, 0)]),
  .inl (0, 160),
  .inl (0, 160),
  .inl (0, 160),
  .inl (0, 160),
  .inr (9, [(1, 10), (1, 11), (1, 12), (1, 13), (0, 0)]),
  .inl (0, 160),
  .inl (0, 160),
  .inl (0, 160),
  .inl (0, 160),
  .inr (6, [(1, 15), (1, 16), (0, 0), (0, 0), (0, 0)]),
  .inl (0, 4),
  .inl (0, 4),
  .inr (3, [(1, 9), (1, 14), (1, 18), (0, 0), (1, 19), (0, 0), (1, 20), (0, 0), (1, 21)]),
  .inl (0, 160),
  .inl (0, 160),
  .inl (0, 12880),
  .inl (0, 160),
  .inr (7, [(1, 9), (1, 14), (1, 17), (1, 23), (0, 0), (0, 0), (0, 0), (2, 0), (1, 24), (1, 25), (1, 26), (0, 0), (1, 27)]),
  .inl (0, 48),
  .inl (0, 48),
  .inl (0, 12),
  .inl (0, 624),
  .inl (0, 637),
  .inr (4, [(1, 9), (1, 17), (1, 22), (0, 0), (0, 0), (1, 29), (1, 30), (1, 31), (0, 0)]),
  .inl (0, 160),
  .inl (0, 160),
  .inl (0, 160),
  .inr (8, [(1, 9), (1, 33), (0, 0), (0, 0), (1, 34)]),
  .inl (0, 160),
  .inl (0, 48),
  .inr (5, [(1, 9), (1, 36), (1, 37), (0, 0), (0, 0), (1, 38), (1, 39), (1, 40), (1, 42)]),
  .inl (0, 160),
  .inl (0, 160),
  .inl (0, 48),
  .inl (0, 161),
  .inr (1, [(1, 41)]),
  .inl (3, 483),
  .inr (1, [(1, 43)]),
  .inl (3, 483),
  .inr (2, [(1, 9), (0, 0), (0, 0), (0, 0), (0, 0), (0, 0), (0, 0), (1, 45), (1, 46), (1, 47), (1, 48), (1, 49), (1, 50), (1, 51)]),
  .inl (0, 60),
  .inl (0, 60),
  .inl (0, 60),
  .inl (0, 60),
  .inl (0, 60),
  .inl (0, 60),
  .inl (2, 48),
  .inl (2, 12),
  .inr (12, [(3, 0), (3, 0), (3, 0), (3, 0), (3, 0), (0, 0)]),
  .inr (13, [(1, 53), (1, 55), (0, 0), (0, 0), (0, 0), (0, 0), (0, 0), (0, 0), (0, 0), (0, 0), (0, 0), (0, 0), (1, 56), (1, 57), (1, 58), (1, 59), (1, 60), (1, 61), (1, 62), (1, 63), (1, 64), (1, 65), (1, 66), (0, 0), (1, 67), (1, 68), (0, 0), (1, 69), (1, 70), (1, 71), (1, 72), (0, 0), (0, 0), (1, 73), (1, 74), (1, 75), (1, 76), (1, 77), (1, 78), (1, 79), (0, 0), (0, 0), (0, 0), (0, 0), (0, 0), (0, 0), (0, 0), (1, 80), (1, 81), (1, 82), (1, 83), (1, 84), (0, 0), (0, 0), (0, 0), (0, 0), (0, 0), (0, 0), (1, 85), (1, 86), (1, 87), (1, 88), (1, 89), (1, 90), (1, 91), (0, 0)]),
  .inl (1, 1200),
  .inl (0, 160),
  .inl (0, 160),
  .inl (0, 160),
  .inl (0, 160),
  .inl (0, 160),
  .inl (0, 160),
  .inl (0, 160),
  .inl (0, 160),
  .inl (0, 4),
  .inl (0, 4),
  .inl (2, 4),
  .inl (2, 12),
  .inl (0, 48),
  .inl (0, 160),
  .inl (0, 51842),
  .inl (0, 160),
  .inl (0, 2),
  .inl (0, 48),
  .inl (0, 12),
  .inl (0, 2352),
  .inl (0, 637),
  .inl (0, 637),
  .inl (0, 637),
  .inl (0, 48),
  .inl (0, 160),
  .inl (0, 160),
  .inl (0, 160),
  .inl (0, 25921),
  .inl (2, 160),
  .inl (0, 60),
  .inl (0, 60),
  .inl (0, 60),
  .inl (0, 60),
  .inl (0, 60),
  .inl (0, 60),
  .inl (2, 60)]
theorem shL_len : shL.length = 92 := by decide +kernel
def nC : Nat := 92
/-- the words that stay good -/
def lw_w : List Cond := lw_tbl.filter goodWord
theorem lw_in {w : Cond} {i : Nat} (h : tables_1[i]? = some w) (g : goodWord w = true) : w ∈ lw_w := List.mem_filter.mpr ⟨List.mem_append_right _ (List.mem_of_getElem? h), g⟩
theorem lw_se {w : Cond} {i : Nat} (h : (k2_sels lw_privs)[i]? = some w) (g : goodWord w = true) : w ∈ lw_w := List.mem_filter.mpr ⟨List.mem_append_left _ (List.mem_of_getElem? h), g⟩
abbrev cls : List vw_C := [(RX0, TX0, 5), (RX1, TX1, 1), (RX2, TX2, 14), (RX3, TX3, 9), (RX4, TX4, 9), (RX5, TX5, 9), (RX6, TX6, 5), (RX7, TX7, 13), (RX8, TX8, 5), (RX9, TX9, 5), (RX10, TX10, 8), (RX11, TX11, 12), (RX12, TX12, 6), (RX13, TX13, 66)]
theorem inX0 : ∀ w ∈ u_ws RX0 TX0 5, w ∈ lw_w := by decide +kernel
theorem inX1 : ∀ w ∈ u_ws RX1 TX1 1, w ∈ lw_w := by decide +kernel
theorem inX2 : ∀ w ∈ u_ws RX2 TX2 14, w ∈ lw_w := by decide +kernel
theorem inX3 : ∀ w ∈ u_ws RX3 TX3 9, w ∈ lw_w := by decide +kernel
theorem inX4 : ∀ w ∈ u_ws RX4 TX4 9, w ∈ lw_w := by decide +kernel
theorem inX5 : ∀ w ∈ u_ws RX5 TX5 9, w ∈ lw_w := by decide +kernel
theorem inX6 : ∀ w ∈ u_ws RX6 TX6 5, w ∈ lw_w := by decide +kernel
theorem inX7 : ∀ w ∈ u_ws RX7 TX7 13, w ∈ lw_w := by decide +kernel
theorem inX8 : ∀ w ∈ u_ws RX8 TX8 5, w ∈ lw_w := by decide +kernel
theorem inX9 : ∀ w ∈ u_ws RX9 TX9 5, w ∈ lw_w := by decide +kernel
theorem inX10 : ∀ w ∈ u_ws RX10 TX10 8, w ∈ lw_w := by decide +kernel
theorem inX11 : ∀ w ∈ u_ws RX11 TX11 12, w ∈ lw_w := by decide +kernel
theorem inX12 : ∀ w ∈ u_ws RX12 TX12 6, w ∈ lw_w := by decide +kernel
theorem inX13 : ∀ w ∈ u_ws RX13 TX13 66, w ∈ lw_w := by decide +kernel
theorem as_2 : shL[2]? = some (.inl (1, 1200)) := by decide +kernel
theorem as_5 : shL[5]? = some (.inl (0, 160)) := by decide +kernel
theorem as_6 : shL[6]? = some (.inl (0, 160)) := by decide +kernel
theorem as_7 : shL[7]? = some (.inl (0, 160)) := by decide +kernel
theorem as_8 : shL[8]? = some (.inl (0, 160)) := by decide +kernel
theorem as_10 : shL[10]? = some (.inl (0, 160)) := by decide +kernel
theorem as_11 : shL[11]? = some (.inl (0, 160)) := by decide +kernel
theorem as_12 : shL[12]? = some (.inl (0, 160)) := by decide +kernel
theorem as_13 : shL[13]? = some (.inl (0, 160)) := by decide +kernel
theorem as_15 : shL[15]? = some (.inl (0, 4)) := by decide +kernel
theorem as_16 : shL[16]? = some (.inl (0, 4)) := by decide +kernel
theorem as_18 : shL[18]? = some (.inl (0, 160)) := by decide +kernel
theorem as_19 : shL[19]? = some (.inl (0, 160)) := by decide +kernel
theorem as_20 : shL[20]? = some (.inl (0, 12880)) := by decide +kernel
theorem as_21 : shL[21]? = some (.inl (0, 160)) := by decide +kernel
theorem as_23 : shL[23]? = some (.inl (0, 48)) := by decide +kernel
theorem as_24 : shL[24]? = some (.inl (0, 48)) := by decide +kernel
theorem as_25 : shL[25]? = some (.inl (0, 12)) := by decide +kernel
theorem as_26 : shL[26]? = some (.inl (0, 624)) := by decide +kernel
theorem as_27 : shL[27]? = some (.inl (0, 637)) := by decide +kernel
theorem as_29 : shL[29]? = some (.inl (0, 160)) := by decide +kernel
theorem as_30 : shL[30]? = some (.inl (0, 160)) := by decide +kernel
theorem as_31 : shL[31]? = some (.inl (0, 160)) := by decide +kernel
theorem as_33 : shL[33]? = some (.inl (0, 160)) := by decide +kernel
theorem as_34 : shL[34]? = some (.inl (0, 48)) := by decide +kernel
theorem as_36 : shL[36]? = some (.inl (0, 160)) := by decide +kernel
theorem as_37 : shL[37]? = some (.inl (0, 160)) := by decide +kernel
theorem as_38 : shL[38]? = some (.inl (0, 48)) := by decide +kernel
theorem as_39 : shL[39]? = some (.inl (0, 161)) := by decide +kernel
theorem as_41 : shL[41]? = some (.inl (3, 483)) := by decide +kernel
theorem as_43 : shL[43]? = some (.inl (3, 483)) := by decide +kernel
theorem as_45 : shL[45]? = some (.inl (0, 60)) := by decide +kernel
theorem as_46 : shL[46]? = some (.inl (0, 60)) := by decide +kernel
theorem as_47 : shL[47]? = some (.inl (0, 60)) := by decide +kernel
theorem as_48 : shL[48]? = some (.inl (0, 60)) := by decide +kernel
theorem as_49 : shL[49]? = some (.inl (0, 60)) := by decide +kernel
theorem as_50 : shL[50]? = some (.inl (0, 60)) := by decide +kernel
theorem as_51 : shL[51]? = some (.inl (2, 48)) := by decide +kernel
theorem as_52 : shL[52]? = some (.inl (2, 12)) := by decide +kernel
theorem as_55 : shL[55]? = some (.inl (1, 1200)) := by decide +kernel
theorem as_56 : shL[56]? = some (.inl (0, 160)) := by decide +kernel
theorem as_57 : shL[57]? = some (.inl (0, 160)) := by decide +kernel
theorem as_58 : shL[58]? = some (.inl (0, 160)) := by decide +kernel
theorem as_59 : shL[59]? = some (.inl (0, 160)) := by decide +kernel
theorem as_60 : shL[60]? = some (.inl (0, 160)) := by decide +kernel
theorem as_61 : shL[61]? = some (.inl (0, 160)) := by decide +kernel
theorem as_62 : shL[62]? = some (.inl (0, 160)) := by decide +kernel
theorem as_63 : shL[63]? = some (.inl (0, 160)) := by decide +kernel
theorem as_64 : shL[64]? = some (.inl (0, 4)) := by decide +kernel
theorem as_65 : shL[65]? = some (.inl (0, 4)) := by decide +kernel
theorem as_66 : shL[66]? = some (.inl (2, 4)) := by decide +kernel
theorem as_67 : shL[67]? = some (.inl (2, 12)) := by decide +kernel
theorem as_68 : shL[68]? = some (.inl (0, 48)) := by decide +kernel
theorem as_69 : shL[69]? = some (.inl (0, 160)) := by decide +kernel
theorem as_70 : shL[70]? = some (.inl (0, 51842)) := by decide +kernel
theorem as_71 : shL[71]? = some (.inl (0, 160)) := by decide +kernel
theorem as_72 : shL[72]? = some (.inl (0, 2)) := by decide +kernel
theorem as_73 : shL[73]? = some (.inl (0, 48)) := by decide +kernel
theorem as_74 : shL[74]? = some (.inl (0, 12)) := by decide +kernel
theorem as_75 : shL[75]? = some (.inl (0, 2352)) := by decide +kernel
theorem as_76 : shL[76]? = some (.inl (0, 637)) := by decide +kernel
theorem as_77 : shL[77]? = some (.inl (0, 637)) := by decide +kernel
theorem as_78 : shL[78]? = some (.inl (0, 637)) := by decide +kernel
theorem as_79 : shL[79]? = some (.inl (0, 48)) := by decide +kernel
theorem as_80 : shL[80]? = some (.inl (0, 160)) := by decide +kernel
theorem as_81 : shL[81]? = some (.inl (0, 160)) := by decide +kernel
theorem as_82 : shL[82]? = some (.inl (0, 160)) := by decide +kernel
theorem as_83 : shL[83]? = some (.inl (0, 25921)) := by decide +kernel
theorem as_84 : shL[84]? = some (.inl (2, 160)) := by decide +kernel
theorem as_85 : shL[85]? = some (.inl (0, 60)) := by decide +kernel
theorem as_86 : shL[86]? = some (.inl (0, 60)) := by decide +kernel
theorem as_87 : shL[87]? = some (.inl (0, 60)) := by decide +kernel
theorem as_88 : shL[88]? = some (.inl (0, 60)) := by decide +kernel
theorem as_89 : shL[89]? = some (.inl (0, 60)) := by decide +kernel
theorem as_90 : shL[90]? = some (.inl (0, 60)) := by decide +kernel
theorem as_91 : shL[91]? = some (.inl (2, 60)) := by decide +kernel
/-- the kind of a field: its class, its tag (0 a number of 32 bits, 1 a reference, 2 a long, 3 null), where a reference goes -/
def fsh (c k : Nat) : Option (Nat × Nat × Nat) := match shL[c]? with
  | some (.inr q) => (q.2[k]?).map (fun f => (q.1, f.1, f.2))
  | _ => none
theorem fs_0_0 : fsh 0 0 = some (11, 1, 1) := by decide +kernel
theorem fs_0_1 : fsh 0 1 = some (11, 1, 3) := by decide +kernel
theorem fs_0_2 : fsh 0 2 = some (11, 1, 9) := by decide +kernel
theorem fs_0_3 : fsh 0 3 = some (11, 1, 14) := by decide +kernel
theorem fs_0_4 : fsh 0 4 = some (11, 1, 17) := by decide +kernel
theorem fs_0_5 : fsh 0 5 = some (11, 1, 22) := by decide +kernel
theorem fs_0_6 : fsh 0 6 = some (11, 1, 28) := by decide +kernel
theorem fs_0_7 : fsh 0 7 = some (11, 1, 32) := by decide +kernel
theorem fs_0_8 : fsh 0 8 = some (11, 1, 35) := by decide +kernel
theorem fs_0_9 : fsh 0 9 = some (11, 1, 44) := by decide +kernel
theorem fs_0_10 : fsh 0 10 = some (11, 1, 52) := by decide +kernel
theorem fs_0_11 : fsh 0 11 = some (11, 0, 0) := by decide +kernel
theorem fs_1_0 : fsh 1 0 = some (10, 0, 0) := by decide +kernel
theorem fs_1_1 : fsh 1 1 = some (10, 0, 0) := by decide +kernel
theorem fs_1_2 : fsh 1 2 = some (10, 0, 0) := by decide +kernel
theorem fs_1_3 : fsh 1 3 = some (10, 0, 0) := by decide +kernel
theorem fs_1_4 : fsh 1 4 = some (10, 0, 0) := by decide +kernel
theorem fs_1_5 : fsh 1 5 = some (10, 1, 2) := by decide +kernel
theorem fs_1_6 : fsh 1 6 = some (10, 0, 0) := by decide +kernel
theorem fs_1_7 : fsh 1 7 = some (10, 0, 0) := by decide +kernel
theorem fs_3_0 : fsh 3 0 = some (0, 1, 1) := by decide +kernel
theorem fs_3_1 : fsh 3 1 = some (0, 1, 4) := by decide +kernel
theorem fs_3_2 : fsh 3 2 = some (0, 0, 0) := by decide +kernel
theorem fs_3_3 : fsh 3 3 = some (0, 0, 0) := by decide +kernel
theorem fs_3_4 : fsh 3 4 = some (0, 0, 0) := by decide +kernel
theorem fs_4_0 : fsh 4 0 = some (9, 1, 5) := by decide +kernel
theorem fs_4_1 : fsh 4 1 = some (9, 1, 6) := by decide +kernel
theorem fs_4_2 : fsh 4 2 = some (9, 1, 7) := by decide +kernel
theorem fs_4_3 : fsh 4 3 = some (9, 1, 8) := by decide +kernel
theorem fs_4_4 : fsh 4 4 = some (9, 0, 0) := by decide +kernel
theorem fs_9_0 : fsh 9 0 = some (9, 1, 10) := by decide +kernel
theorem fs_9_1 : fsh 9 1 = some (9, 1, 11) := by decide +kernel
theorem fs_9_2 : fsh 9 2 = some (9, 1, 12) := by decide +kernel
theorem fs_9_3 : fsh 9 3 = some (9, 1, 13) := by decide +kernel
theorem fs_9_4 : fsh 9 4 = some (9, 0, 0) := by decide +kernel
theorem fs_14_0 : fsh 14 0 = some (6, 1, 15) := by decide +kernel
theorem fs_14_1 : fsh 14 1 = some (6, 1, 16) := by decide +kernel
theorem fs_14_2 : fsh 14 2 = some (6, 0, 0) := by decide +kernel
theorem fs_14_3 : fsh 14 3 = some (6, 0, 0) := by decide +kernel
theorem fs_14_4 : fsh 14 4 = some (6, 0, 0) := by decide +kernel
theorem fs_17_0 : fsh 17 0 = some (3, 1, 9) := by decide +kernel
theorem fs_17_1 : fsh 17 1 = some (3, 1, 14) := by decide +kernel
theorem fs_17_2 : fsh 17 2 = some (3, 1, 18) := by decide +kernel
theorem fs_17_3 : fsh 17 3 = some (3, 0, 0) := by decide +kernel
theorem fs_17_4 : fsh 17 4 = some (3, 1, 19) := by decide +kernel
theorem fs_17_5 : fsh 17 5 = some (3, 0, 0) := by decide +kernel
theorem fs_17_6 : fsh 17 6 = some (3, 1, 20) := by decide +kernel
theorem fs_17_7 : fsh 17 7 = some (3, 0, 0) := by decide +kernel
theorem fs_17_8 : fsh 17 8 = some (3, 1, 21) := by decide +kernel
theorem fs_22_0 : fsh 22 0 = some (7, 1, 9) := by decide +kernel
theorem fs_22_1 : fsh 22 1 = some (7, 1, 14) := by decide +kernel
theorem fs_22_2 : fsh 22 2 = some (7, 1, 17) := by decide +kernel
theorem fs_22_3 : fsh 22 3 = some (7, 1, 23) := by decide +kernel
theorem fs_22_4 : fsh 22 4 = some (7, 0, 0) := by decide +kernel
theorem fs_22_5 : fsh 22 5 = some (7, 0, 0) := by decide +kernel
theorem fs_22_6 : fsh 22 6 = some (7, 0, 0) := by decide +kernel
theorem fs_22_7 : fsh 22 7 = some (7, 2, 0) := by decide +kernel
theorem fs_22_8 : fsh 22 8 = some (7, 1, 24) := by decide +kernel
theorem fs_22_9 : fsh 22 9 = some (7, 1, 25) := by decide +kernel
theorem fs_22_10 : fsh 22 10 = some (7, 1, 26) := by decide +kernel
theorem fs_22_11 : fsh 22 11 = some (7, 0, 0) := by decide +kernel
theorem fs_22_12 : fsh 22 12 = some (7, 1, 27) := by decide +kernel
theorem fs_28_0 : fsh 28 0 = some (4, 1, 9) := by decide +kernel
theorem fs_28_1 : fsh 28 1 = some (4, 1, 17) := by decide +kernel
theorem fs_28_2 : fsh 28 2 = some (4, 1, 22) := by decide +kernel
theorem fs_28_3 : fsh 28 3 = some (4, 0, 0) := by decide +kernel
theorem fs_28_4 : fsh 28 4 = some (4, 0, 0) := by decide +kernel
theorem fs_28_5 : fsh 28 5 = some (4, 1, 29) := by decide +kernel
theorem fs_28_6 : fsh 28 6 = some (4, 1, 30) := by decide +kernel
theorem fs_28_7 : fsh 28 7 = some (4, 1, 31) := by decide +kernel
theorem fs_28_8 : fsh 28 8 = some (4, 0, 0) := by decide +kernel
theorem fs_32_0 : fsh 32 0 = some (8, 1, 9) := by decide +kernel
theorem fs_32_1 : fsh 32 1 = some (8, 1, 33) := by decide +kernel
theorem fs_32_2 : fsh 32 2 = some (8, 0, 0) := by decide +kernel
theorem fs_32_3 : fsh 32 3 = some (8, 0, 0) := by decide +kernel
theorem fs_32_4 : fsh 32 4 = some (8, 1, 34) := by decide +kernel
theorem fs_35_0 : fsh 35 0 = some (5, 1, 9) := by decide +kernel
theorem fs_35_1 : fsh 35 1 = some (5, 1, 36) := by decide +kernel
theorem fs_35_2 : fsh 35 2 = some (5, 1, 37) := by decide +kernel
theorem fs_35_3 : fsh 35 3 = some (5, 0, 0) := by decide +kernel
theorem fs_35_4 : fsh 35 4 = some (5, 0, 0) := by decide +kernel
theorem fs_35_5 : fsh 35 5 = some (5, 1, 38) := by decide +kernel
theorem fs_35_6 : fsh 35 6 = some (5, 1, 39) := by decide +kernel
theorem fs_35_7 : fsh 35 7 = some (5, 1, 40) := by decide +kernel
theorem fs_35_8 : fsh 35 8 = some (5, 1, 42) := by decide +kernel
theorem fs_40_0 : fsh 40 0 = some (1, 1, 41) := by decide +kernel
theorem fs_42_0 : fsh 42 0 = some (1, 1, 43) := by decide +kernel
theorem fs_44_0 : fsh 44 0 = some (2, 1, 9) := by decide +kernel
theorem fs_44_1 : fsh 44 1 = some (2, 0, 0) := by decide +kernel
theorem fs_44_2 : fsh 44 2 = some (2, 0, 0) := by decide +kernel
theorem fs_44_3 : fsh 44 3 = some (2, 0, 0) := by decide +kernel
theorem fs_44_4 : fsh 44 4 = some (2, 0, 0) := by decide +kernel
theorem fs_44_5 : fsh 44 5 = some (2, 0, 0) := by decide +kernel
theorem fs_44_6 : fsh 44 6 = some (2, 0, 0) := by decide +kernel
theorem fs_44_7 : fsh 44 7 = some (2, 1, 45) := by decide +kernel
theorem fs_44_8 : fsh 44 8 = some (2, 1, 46) := by decide +kernel
theorem fs_44_9 : fsh 44 9 = some (2, 1, 47) := by decide +kernel
theorem fs_44_10 : fsh 44 10 = some (2, 1, 48) := by decide +kernel
theorem fs_44_11 : fsh 44 11 = some (2, 1, 49) := by decide +kernel
theorem fs_44_12 : fsh 44 12 = some (2, 1, 50) := by decide +kernel
theorem fs_44_13 : fsh 44 13 = some (2, 1, 51) := by decide +kernel
theorem fs_53_0 : fsh 53 0 = some (12, 3, 0) := by decide +kernel
theorem fs_53_1 : fsh 53 1 = some (12, 3, 0) := by decide +kernel
theorem fs_53_2 : fsh 53 2 = some (12, 3, 0) := by decide +kernel
theorem fs_53_3 : fsh 53 3 = some (12, 3, 0) := by decide +kernel
theorem fs_53_4 : fsh 53 4 = some (12, 3, 0) := by decide +kernel
theorem fs_53_5 : fsh 53 5 = some (12, 0, 0) := by decide +kernel
theorem fs_54_0 : fsh 54 0 = some (13, 1, 53) := by decide +kernel
theorem fs_54_1 : fsh 54 1 = some (13, 1, 55) := by decide +kernel
theorem fs_54_2 : fsh 54 2 = some (13, 0, 0) := by decide +kernel
theorem fs_54_3 : fsh 54 3 = some (13, 0, 0) := by decide +kernel
theorem fs_54_4 : fsh 54 4 = some (13, 0, 0) := by decide +kernel
theorem fs_54_5 : fsh 54 5 = some (13, 0, 0) := by decide +kernel
theorem fs_54_6 : fsh 54 6 = some (13, 0, 0) := by decide +kernel
theorem fs_54_7 : fsh 54 7 = some (13, 0, 0) := by decide +kernel
theorem fs_54_8 : fsh 54 8 = some (13, 0, 0) := by decide +kernel
theorem fs_54_9 : fsh 54 9 = some (13, 0, 0) := by decide +kernel
theorem fs_54_10 : fsh 54 10 = some (13, 0, 0) := by decide +kernel
theorem fs_54_11 : fsh 54 11 = some (13, 0, 0) := by decide +kernel
theorem fs_54_12 : fsh 54 12 = some (13, 1, 56) := by decide +kernel
theorem fs_54_13 : fsh 54 13 = some (13, 1, 57) := by decide +kernel
theorem fs_54_14 : fsh 54 14 = some (13, 1, 58) := by decide +kernel
theorem fs_54_15 : fsh 54 15 = some (13, 1, 59) := by decide +kernel
theorem fs_54_16 : fsh 54 16 = some (13, 1, 60) := by decide +kernel
theorem fs_54_17 : fsh 54 17 = some (13, 1, 61) := by decide +kernel
theorem fs_54_18 : fsh 54 18 = some (13, 1, 62) := by decide +kernel
theorem fs_54_19 : fsh 54 19 = some (13, 1, 63) := by decide +kernel
theorem fs_54_20 : fsh 54 20 = some (13, 1, 64) := by decide +kernel
theorem fs_54_21 : fsh 54 21 = some (13, 1, 65) := by decide +kernel
theorem fs_54_22 : fsh 54 22 = some (13, 1, 66) := by decide +kernel
theorem fs_54_23 : fsh 54 23 = some (13, 0, 0) := by decide +kernel
theorem fs_54_24 : fsh 54 24 = some (13, 1, 67) := by decide +kernel
theorem fs_54_25 : fsh 54 25 = some (13, 1, 68) := by decide +kernel
theorem fs_54_26 : fsh 54 26 = some (13, 0, 0) := by decide +kernel
theorem fs_54_27 : fsh 54 27 = some (13, 1, 69) := by decide +kernel
theorem fs_54_28 : fsh 54 28 = some (13, 1, 70) := by decide +kernel
theorem fs_54_29 : fsh 54 29 = some (13, 1, 71) := by decide +kernel
theorem fs_54_30 : fsh 54 30 = some (13, 1, 72) := by decide +kernel
theorem fs_54_31 : fsh 54 31 = some (13, 0, 0) := by decide +kernel
theorem fs_54_32 : fsh 54 32 = some (13, 0, 0) := by decide +kernel
theorem fs_54_33 : fsh 54 33 = some (13, 1, 73) := by decide +kernel
theorem fs_54_34 : fsh 54 34 = some (13, 1, 74) := by decide +kernel
theorem fs_54_35 : fsh 54 35 = some (13, 1, 75) := by decide +kernel
theorem fs_54_36 : fsh 54 36 = some (13, 1, 76) := by decide +kernel
theorem fs_54_37 : fsh 54 37 = some (13, 1, 77) := by decide +kernel
theorem fs_54_38 : fsh 54 38 = some (13, 1, 78) := by decide +kernel
theorem fs_54_39 : fsh 54 39 = some (13, 1, 79) := by decide +kernel
theorem fs_54_40 : fsh 54 40 = some (13, 0, 0) := by decide +kernel
theorem fs_54_41 : fsh 54 41 = some (13, 0, 0) := by decide +kernel
theorem fs_54_42 : fsh 54 42 = some (13, 0, 0) := by decide +kernel
theorem fs_54_43 : fsh 54 43 = some (13, 0, 0) := by decide +kernel
theorem fs_54_44 : fsh 54 44 = some (13, 0, 0) := by decide +kernel
theorem fs_54_45 : fsh 54 45 = some (13, 0, 0) := by decide +kernel
theorem fs_54_46 : fsh 54 46 = some (13, 0, 0) := by decide +kernel
theorem fs_54_47 : fsh 54 47 = some (13, 1, 80) := by decide +kernel
theorem fs_54_48 : fsh 54 48 = some (13, 1, 81) := by decide +kernel
theorem fs_54_49 : fsh 54 49 = some (13, 1, 82) := by decide +kernel
theorem fs_54_50 : fsh 54 50 = some (13, 1, 83) := by decide +kernel
theorem fs_54_51 : fsh 54 51 = some (13, 1, 84) := by decide +kernel
theorem fs_54_52 : fsh 54 52 = some (13, 0, 0) := by decide +kernel
theorem fs_54_53 : fsh 54 53 = some (13, 0, 0) := by decide +kernel
theorem fs_54_54 : fsh 54 54 = some (13, 0, 0) := by decide +kernel
theorem fs_54_55 : fsh 54 55 = some (13, 0, 0) := by decide +kernel
theorem fs_54_56 : fsh 54 56 = some (13, 0, 0) := by decide +kernel
theorem fs_54_57 : fsh 54 57 = some (13, 0, 0) := by decide +kernel
theorem fs_54_58 : fsh 54 58 = some (13, 1, 85) := by decide +kernel
theorem fs_54_59 : fsh 54 59 = some (13, 1, 86) := by decide +kernel
theorem fs_54_60 : fsh 54 60 = some (13, 1, 87) := by decide +kernel
theorem fs_54_61 : fsh 54 61 = some (13, 1, 88) := by decide +kernel
theorem fs_54_62 : fsh 54 62 = some (13, 1, 89) := by decide +kernel
theorem fs_54_63 : fsh 54 63 = some (13, 1, 90) := by decide +kernel
theorem fs_54_64 : fsh 54 64 = some (13, 1, 91) := by decide +kernel
theorem fs_54_65 : fsh 54 65 = some (13, 0, 0) := by decide +kernel
