section
-- ===== PART A: goes FIRST, ahead of the names: the tables' words, and 'selects' of the private methods out of them =====
/-- a private method of a class that the tables say can be made, by its rows of tables_1 -/
def lw_okq (q : MethodName × Nat) : Prop := (q.1.cls ≠ "java/lang/invoke/MethodHandle" ∧ q.1.cls ≠ "java/lang/invoke/VarHandle") ∧ Cond.instantiable q.1.cls q.2 ∈ tables_1 ∧ Cond.privateMethod q.1 ∈ tables_1 ∧ Cond.instanceMethod q.1 ∈ tables_1
theorem lw_p0 : lw_okq (⟨"BellTable$Tape", "byteAt", "(I)I"⟩, 8) := ⟨⟨by decide +kernel, by decide +kernel⟩, List.mem_of_getElem? (i := 32) (by decide +kernel), List.mem_of_getElem? (i := 493) (by decide +kernel), List.mem_of_getElem? (i := 494) (by decide +kernel)⟩
theorem lw_p1 : lw_okq (⟨"BellTable$Tape", "readWord", "()V"⟩, 8) := ⟨⟨by decide +kernel, by decide +kernel⟩, List.mem_of_getElem? (i := 32) (by decide +kernel), List.mem_of_getElem? (i := 503) (by decide +kernel), List.mem_of_getElem? (i := 504) (by decide +kernel)⟩
theorem lw_p2 : lw_okq (⟨"BellTable$Tape", "readNumber", "()V"⟩, 8) := ⟨⟨by decide +kernel, by decide +kernel⟩, List.mem_of_getElem? (i := 32) (by decide +kernel), List.mem_of_getElem? (i := 510) (by decide +kernel), List.mem_of_getElem? (i := 511) (by decide +kernel)⟩
theorem lw_p3 : lw_okq (⟨"BellTable$BeatText", "take", "(Z)V"⟩, 5) := ⟨⟨by decide +kernel, by decide +kernel⟩, List.mem_of_getElem? (i := 73) (by decide +kernel), List.mem_of_getElem? (i := 514) (by decide +kernel), List.mem_of_getElem? (i := 515) (by decide +kernel)⟩
theorem lw_p4 : lw_okq (⟨"BellTable$BeatText", "goOnIf", "(ZI)V"⟩, 5) := ⟨⟨by decide +kernel, by decide +kernel⟩, List.mem_of_getElem? (i := 73) (by decide +kernel), List.mem_of_getElem? (i := 571) (by decide +kernel), List.mem_of_getElem? (i := 572) (by decide +kernel)⟩
theorem lw_p5 : lw_okq (⟨"BellTable$BeatText", "takeBeat", "()V"⟩, 5) := ⟨⟨by decide +kernel, by decide +kernel⟩, List.mem_of_getElem? (i := 73) (by decide +kernel), List.mem_of_getElem? (i := 579) (by decide +kernel), List.mem_of_getElem? (i := 580) (by decide +kernel)⟩
theorem lw_p6 : lw_okq (⟨"BellTable$BeatText", "takeLength", "()V"⟩, 5) := ⟨⟨by decide +kernel, by decide +kernel⟩, List.mem_of_getElem? (i := 73) (by decide +kernel), List.mem_of_getElem? (i := 583) (by decide +kernel), List.mem_of_getElem? (i := 584) (by decide +kernel)⟩
theorem lw_p7 : lw_okq (⟨"BellTable$BeatText", "takeBell", "(Z)V"⟩, 5) := ⟨⟨by decide +kernel, by decide +kernel⟩, List.mem_of_getElem? (i := 73) (by decide +kernel), List.mem_of_getElem? (i := 587) (by decide +kernel), List.mem_of_getElem? (i := 588) (by decide +kernel)⟩
theorem lw_p8 : lw_okq (⟨"BellTable$BeatText", "takeWord", "()V"⟩, 5) := ⟨⟨by decide +kernel, by decide +kernel⟩, List.mem_of_getElem? (i := 73) (by decide +kernel), List.mem_of_getElem? (i := 602) (by decide +kernel), List.mem_of_getElem? (i := 603) (by decide +kernel)⟩
theorem lw_p9 : lw_okq (⟨"BellTable$Manners", "take", "(LBellTable$Tape;)V"⟩, 5) := ⟨⟨by decide +kernel, by decide +kernel⟩, List.mem_of_getElem? (i := 146) (by decide +kernel), List.mem_of_getElem? (i := 657) (by decide +kernel), List.mem_of_getElem? (i := 658) (by decide +kernel)⟩
theorem lw_p10 : lw_okq (⟨"BellTable$Manners", "takeWord", "(LBellTable$Tape;)V"⟩, 5) := ⟨⟨by decide +kernel, by decide +kernel⟩, List.mem_of_getElem? (i := 146) (by decide +kernel), List.mem_of_getElem? (i := 661) (by decide +kernel), List.mem_of_getElem? (i := 662) (by decide +kernel)⟩
theorem lw_p11 : lw_okq (⟨"BellTable$Manners", "takeNumber", "(LBellTable$Tape;)V"⟩, 5) := ⟨⟨by decide +kernel, by decide +kernel⟩, List.mem_of_getElem? (i := 146) (by decide +kernel), List.mem_of_getElem? (i := 674) (by decide +kernel), List.mem_of_getElem? (i := 675) (by decide +kernel)⟩
theorem lw_p12 : lw_okq (⟨"BellTable", "isRinger", "(I)Z"⟩, 12) := ⟨⟨by decide +kernel, by decide +kernel⟩, List.mem_of_getElem? (i := 24) (by decide +kernel), List.mem_of_getElem? (i := 714) (by decide +kernel), List.mem_of_getElem? (i := 715) (by decide +kernel)⟩
theorem lw_p13 : lw_okq (⟨"BellTable$Hands", "gather", "(J)V"⟩, 9) := ⟨⟨by decide +kernel, by decide +kernel⟩, List.mem_of_getElem? (i := 176) (by decide +kernel), List.mem_of_getElem? (i := 730) (by decide +kernel), List.mem_of_getElem? (i := 731) (by decide +kernel)⟩
theorem lw_p14 : lw_okq (⟨"BellTable$Hands", "weighRest", "()I"⟩, 9) := ⟨⟨by decide +kernel, by decide +kernel⟩, List.mem_of_getElem? (i := 176) (by decide +kernel), List.mem_of_getElem? (i := 738) (by decide +kernel), List.mem_of_getElem? (i := 739) (by decide +kernel)⟩
theorem lw_p15 : lw_okq (⟨"BellTable$Hands", "stepBack", "(I)Z"⟩, 9) := ⟨⟨by decide +kernel, by decide +kernel⟩, List.mem_of_getElem? (i := 176) (by decide +kernel), List.mem_of_getElem? (i := 745) (by decide +kernel), List.mem_of_getElem? (i := 746) (by decide +kernel)⟩
def lw_privs_1 : List (MethodName × Nat) := [(⟨"BellTable$Tape", "byteAt", "(I)I"⟩, 8), (⟨"BellTable$Tape", "readWord", "()V"⟩, 8), (⟨"BellTable$Tape", "readNumber", "()V"⟩, 8), (⟨"BellTable$BeatText", "take", "(Z)V"⟩, 5), (⟨"BellTable$BeatText", "goOnIf", "(ZI)V"⟩, 5), (⟨"BellTable$BeatText", "takeBeat", "()V"⟩, 5), (⟨"BellTable$BeatText", "takeLength", "()V"⟩, 5), (⟨"BellTable$BeatText", "takeBell", "(Z)V"⟩, 5), (⟨"BellTable$BeatText", "takeWord", "()V"⟩, 5), (⟨"BellTable$Manners", "take", "(LBellTable$Tape;)V"⟩, 5), (⟨"BellTable$Manners", "takeWord", "(LBellTable$Tape;)V"⟩, 5), (⟨"BellTable$Manners", "takeNumber", "(LBellTable$Tape;)V"⟩, 5), (⟨"BellTable", "isRinger", "(I)Z"⟩, 12), (⟨"BellTable$Hands", "gather", "(J)V"⟩, 9), (⟨"BellTable$Hands", "weighRest", "()I"⟩, 9), (⟨"BellTable$Hands", "stepBack", "(I)Z"⟩, 9)]
theorem lw_r1 : ∀ q ∈ lw_privs_1, lw_okq q := List.forall_mem_cons.mpr ⟨lw_p0, List.forall_mem_cons.mpr ⟨lw_p1, List.forall_mem_cons.mpr ⟨lw_p2, List.forall_mem_cons.mpr ⟨lw_p3, List.forall_mem_cons.mpr ⟨lw_p4, List.forall_mem_cons.mpr ⟨lw_p5, List.forall_mem_cons.mpr ⟨lw_p6, List.forall_mem_cons.mpr ⟨lw_p7, List.forall_mem_cons.mpr ⟨lw_p8, List.forall_mem_cons.mpr ⟨lw_p9, List.forall_mem_cons.mpr ⟨lw_p10, List.forall_mem_cons.mpr ⟨lw_p11, List.forall_mem_cons.mpr ⟨lw_p12, List.forall_mem_cons.mpr ⟨lw_p13, List.forall_mem_cons.mpr ⟨lw_p14, List.forall_mem_cons.mpr ⟨lw_p15, fun _ h => absurd h List.not_mem_nil⟩⟩⟩⟩⟩⟩⟩⟩⟩⟩⟩⟩⟩⟩⟩⟩
theorem lw_p16 : lw_okq (⟨"BellTable$Hands", "move", "(II)I"⟩, 9) := ⟨⟨by decide +kernel, by decide +kernel⟩, List.mem_of_getElem? (i := 176) (by decide +kernel), List.mem_of_getElem? (i := 749) (by decide +kernel), List.mem_of_getElem? (i := 750) (by decide +kernel)⟩
theorem lw_p17 : lw_okq (⟨"BellTable$Hands", "holds", "(II)Z"⟩, 9) := ⟨⟨by decide +kernel, by decide +kernel⟩, List.mem_of_getElem? (i := 176) (by decide +kernel), List.mem_of_getElem? (i := 754) (by decide +kernel), List.mem_of_getElem? (i := 755) (by decide +kernel)⟩
theorem lw_p18 : lw_okq (⟨"BellTable$Hands", "did", "(I)I"⟩, 9) := ⟨⟨by decide +kernel, by decide +kernel⟩, List.mem_of_getElem? (i := 176) (by decide +kernel), List.mem_of_getElem? (i := 758) (by decide +kernel), List.mem_of_getElem? (i := 759) (by decide +kernel)⟩
theorem lw_p19 : lw_okq (⟨"BellTable$Hands", "restOf", "(II)I"⟩, 9) := ⟨⟨by decide +kernel, by decide +kernel⟩, List.mem_of_getElem? (i := 176) (by decide +kernel), List.mem_of_getElem? (i := 763) (by decide +kernel), List.mem_of_getElem? (i := 764) (by decide +kernel)⟩
theorem lw_p20 : lw_okq (⟨"BellTable$Hands", "keepHands", "()V"⟩, 9) := ⟨⟨by decide +kernel, by decide +kernel⟩, List.mem_of_getElem? (i := 176) (by decide +kernel), List.mem_of_getElem? (i := 767) (by decide +kernel), List.mem_of_getElem? (i := 768) (by decide +kernel)⟩
theorem lw_p21 : lw_okq (⟨"BellTable$Hands", "swapsFor", "(III)Z"⟩, 9) := ⟨⟨by decide +kernel, by decide +kernel⟩, List.mem_of_getElem? (i := 176) (by decide +kernel), List.mem_of_getElem? (i := 771) (by decide +kernel), List.mem_of_getElem? (i := 772) (by decide +kernel)⟩
theorem lw_p22 : lw_okq (⟨"BellTable$Hands", "step", "(III)I"⟩, 9) := ⟨⟨by decide +kernel, by decide +kernel⟩, List.mem_of_getElem? (i := 176) (by decide +kernel), List.mem_of_getElem? (i := 775) (by decide +kernel), List.mem_of_getElem? (i := 776) (by decide +kernel)⟩
theorem lw_p23 : lw_okq (⟨"BellTable", "standAllBut", "(I)V"⟩, 12) := ⟨⟨by decide +kernel, by decide +kernel⟩, List.mem_of_getElem? (i := 24) (by decide +kernel), List.mem_of_getElem? (i := 791) (by decide +kernel), List.mem_of_getElem? (i := 792) (by decide +kernel)⟩
theorem lw_p24 : lw_okq (⟨"BellTable$Ranges", "weighPieces", "()V"⟩, 13) := ⟨⟨by decide +kernel, by decide +kernel⟩, List.mem_of_getElem? (i := 212) (by decide +kernel), List.mem_of_getElem? (i := 803) (by decide +kernel), List.mem_of_getElem? (i := 804) (by decide +kernel)⟩
theorem lw_p25 : lw_okq (⟨"BellTable$Ranges", "longestFrom", "(I)I"⟩, 13) := ⟨⟨by decide +kernel, by decide +kernel⟩, List.mem_of_getElem? (i := 212) (by decide +kernel), List.mem_of_getElem? (i := 807) (by decide +kernel), List.mem_of_getElem? (i := 808) (by decide +kernel)⟩
theorem lw_p26 : lw_okq (⟨"BellTable$Ranges", "leastFrom", "(IIZ)I"⟩, 13) := ⟨⟨by decide +kernel, by decide +kernel⟩, List.mem_of_getElem? (i := 212) (by decide +kernel), List.mem_of_getElem? (i := 814) (by decide +kernel), List.mem_of_getElem? (i := 815) (by decide +kernel)⟩
theorem lw_p27 : lw_okq (⟨"BellTable$Ranges", "priceWith", "(IIIZ)I"⟩, 13) := ⟨⟨by decide +kernel, by decide +kernel⟩, List.mem_of_getElem? (i := 212) (by decide +kernel), List.mem_of_getElem? (i := 818) (by decide +kernel), List.mem_of_getElem? (i := 819) (by decide +kernel)⟩
theorem lw_p28 : lw_okq (⟨"BellTable$Ranges", "countChanges", "(III)I"⟩, 13) := ⟨⟨by decide +kernel, by decide +kernel⟩, List.mem_of_getElem? (i := 212) (by decide +kernel), List.mem_of_getElem? (i := 822) (by decide +kernel), List.mem_of_getElem? (i := 823) (by decide +kernel)⟩
theorem lw_p29 : lw_okq (⟨"BellTable$Ranges", "handOut", "(Z)V"⟩, 13) := ⟨⟨by decide +kernel, by decide +kernel⟩, List.mem_of_getElem? (i := 212) (by decide +kernel), List.mem_of_getElem? (i := 827) (by decide +kernel), List.mem_of_getElem? (i := 828) (by decide +kernel)⟩
theorem lw_p30 : lw_okq (⟨"BellTable", "canHelp", "(I)Z"⟩, 12) := ⟨⟨by decide +kernel, by decide +kernel⟩, List.mem_of_getElem? (i := 24) (by decide +kernel), List.mem_of_getElem? (i := 863) (by decide +kernel), List.mem_of_getElem? (i := 864) (by decide +kernel)⟩
theorem lw_p31 : lw_okq (⟨"BellTable$Hands", "takesSkipping", "(I)I"⟩, 9) := ⟨⟨by decide +kernel, by decide +kernel⟩, List.mem_of_getElem? (i := 176) (by decide +kernel), List.mem_of_getElem? (i := 876) (by decide +kernel), List.mem_of_getElem? (i := 877) (by decide +kernel)⟩
def lw_privs_2 : List (MethodName × Nat) := [(⟨"BellTable$Hands", "move", "(II)I"⟩, 9), (⟨"BellTable$Hands", "holds", "(II)Z"⟩, 9), (⟨"BellTable$Hands", "did", "(I)I"⟩, 9), (⟨"BellTable$Hands", "restOf", "(II)I"⟩, 9), (⟨"BellTable$Hands", "keepHands", "()V"⟩, 9), (⟨"BellTable$Hands", "swapsFor", "(III)Z"⟩, 9), (⟨"BellTable$Hands", "step", "(III)I"⟩, 9), (⟨"BellTable", "standAllBut", "(I)V"⟩, 12), (⟨"BellTable$Ranges", "weighPieces", "()V"⟩, 13), (⟨"BellTable$Ranges", "longestFrom", "(I)I"⟩, 13), (⟨"BellTable$Ranges", "leastFrom", "(IIZ)I"⟩, 13), (⟨"BellTable$Ranges", "priceWith", "(IIIZ)I"⟩, 13), (⟨"BellTable$Ranges", "countChanges", "(III)I"⟩, 13), (⟨"BellTable$Ranges", "handOut", "(Z)V"⟩, 13), (⟨"BellTable", "canHelp", "(I)Z"⟩, 12), (⟨"BellTable$Hands", "takesSkipping", "(I)I"⟩, 9)]
theorem lw_r2 : ∀ q ∈ lw_privs_2, lw_okq q := List.forall_mem_cons.mpr ⟨lw_p16, List.forall_mem_cons.mpr ⟨lw_p17, List.forall_mem_cons.mpr ⟨lw_p18, List.forall_mem_cons.mpr ⟨lw_p19, List.forall_mem_cons.mpr ⟨lw_p20, List.forall_mem_cons.mpr ⟨lw_p21, List.forall_mem_cons.mpr ⟨lw_p22, List.forall_mem_cons.mpr ⟨lw_p23, List.forall_mem_cons.mpr ⟨lw_p24, List.forall_mem_cons.mpr ⟨lw_p25, List.forall_mem_cons.mpr ⟨lw_p26, List.forall_mem_cons.mpr ⟨lw_p27, List.forall_mem_cons.mpr ⟨lw_p28, List.forall_mem_cons.mpr ⟨lw_p29, List.forall_mem_cons.mpr ⟨lw_p30, List.forall_mem_cons.mpr ⟨lw_p31, fun _ h => absurd h List.not_mem_nil⟩⟩⟩⟩⟩⟩⟩⟩⟩⟩⟩⟩⟩⟩⟩⟩
theorem lw_p32 : lw_okq (⟨"BellTable$Hands", "stepForth", "(I)V"⟩, 9) := ⟨⟨by decide +kernel, by decide +kernel⟩, List.mem_of_getElem? (i := 176) (by decide +kernel), List.mem_of_getElem? (i := 886) (by decide +kernel), List.mem_of_getElem? (i := 887) (by decide +kernel)⟩
theorem lw_p33 : lw_okq (⟨"BellTable$Hands", "takesInserting", "(II)I"⟩, 9) := ⟨⟨by decide +kernel, by decide +kernel⟩, List.mem_of_getElem? (i := 176) (by decide +kernel), List.mem_of_getElem? (i := 894) (by decide +kernel), List.mem_of_getElem? (i := 895) (by decide +kernel)⟩
theorem lw_p34 : lw_okq (⟨"BellTable$Hands", "restBeside", "(II)I"⟩, 9) := ⟨⟨by decide +kernel, by decide +kernel⟩, List.mem_of_getElem? (i := 176) (by decide +kernel), List.mem_of_getElem? (i := 898) (by decide +kernel), List.mem_of_getElem? (i := 899) (by decide +kernel)⟩
theorem lw_p35 : lw_okq (⟨"BellTable$Hands", "restBehind", "(IIII)I"⟩, 9) := ⟨⟨by decide +kernel, by decide +kernel⟩, List.mem_of_getElem? (i := 176) (by decide +kernel), List.mem_of_getElem? (i := 902) (by decide +kernel), List.mem_of_getElem? (i := 903) (by decide +kernel)⟩
theorem lw_p36 : lw_okq (⟨"BellTable$Helping", "keepIfLess", "(III)V"⟩, 9) := ⟨⟨by decide +kernel, by decide +kernel⟩, List.mem_of_getElem? (i := 262) (by decide +kernel), List.mem_of_getElem? (i := 908) (by decide +kernel), List.mem_of_getElem? (i := 909) (by decide +kernel)⟩
theorem lw_p37 : lw_okq (⟨"BellTable$Sound", "areNext", "(II)Z"⟩, 5) := ⟨⟨by decide +kernel, by decide +kernel⟩, List.mem_of_getElem? (i := 298) (by decide +kernel), List.mem_of_getElem? (i := 924) (by decide +kernel), List.mem_of_getElem? (i := 925) (by decide +kernel)⟩
theorem lw_p38 : lw_okq (⟨"BellTable$Sound", "lengthDamped", "(I)I"⟩, 5) := ⟨⟨by decide +kernel, by decide +kernel⟩, List.mem_of_getElem? (i := 298) (by decide +kernel), List.mem_of_getElem? (i := 948) (by decide +kernel), List.mem_of_getElem? (i := 949) (by decide +kernel)⟩
theorem lw_p39 : lw_okq (⟨"BellTable$Listening", "weigh", "(LBellTable$Strokes;)V"⟩, 9) := ⟨⟨by decide +kernel, by decide +kernel⟩, List.mem_of_getElem? (i := 323) (by decide +kernel), List.mem_of_getElem? (i := 961) (by decide +kernel), List.mem_of_getElem? (i := 962) (by decide +kernel)⟩
theorem lw_p40 : lw_okq (⟨"BellTable$Listening", "pairPoints", "(ILBellTable$Strokes;I)I"⟩, 9) := ⟨⟨by decide +kernel, by decide +kernel⟩, List.mem_of_getElem? (i := 323) (by decide +kernel), List.mem_of_getElem? (i := 966) (by decide +kernel), List.mem_of_getElem? (i := 967) (by decide +kernel)⟩
theorem lw_p41 : lw_okq (⟨"BellTable$Listening", "walk", "(LBellTable$Strokes;)V"⟩, 9) := ⟨⟨by decide +kernel, by decide +kernel⟩, List.mem_of_getElem? (i := 323) (by decide +kernel), List.mem_of_getElem? (i := 977) (by decide +kernel), List.mem_of_getElem? (i := 978) (by decide +kernel)⟩
theorem lw_p42 : lw_okq (⟨"BellTable$Listening", "pointsOf", "(I)I"⟩, 9) := ⟨⟨by decide +kernel, by decide +kernel⟩, List.mem_of_getElem? (i := 323) (by decide +kernel), List.mem_of_getElem? (i := 1002) (by decide +kernel), List.mem_of_getElem? (i := 1003) (by decide +kernel)⟩
theorem lw_p43 : lw_okq (⟨"BellTable$Days", "isBackBy", "(III)Z"⟩, 14) := ⟨⟨by decide +kernel, by decide +kernel⟩, List.mem_of_getElem? (i := 372) (by decide +kernel), List.mem_of_getElem? (i := 1038) (by decide +kernel), List.mem_of_getElem? (i := 1039) (by decide +kernel)⟩
theorem lw_p44 : lw_okq (⟨"BellTable$Days", "tryMove", "(II)I"⟩, 14) := ⟨⟨by decide +kernel, by decide +kernel⟩, List.mem_of_getElem? (i := 372) (by decide +kernel), List.mem_of_getElem? (i := 1052) (by decide +kernel), List.mem_of_getElem? (i := 1053) (by decide +kernel)⟩
theorem lw_p45 : lw_okq (⟨"BellTable$Days", "isLying", "(I)Z"⟩, 14) := ⟨⟨by decide +kernel, by decide +kernel⟩, List.mem_of_getElem? (i := 372) (by decide +kernel), List.mem_of_getElem? (i := 1056) (by decide +kernel), List.mem_of_getElem? (i := 1057) (by decide +kernel)⟩
theorem lw_p46 : lw_okq (⟨"BellTable", "countMissing", "()I"⟩, 12) := ⟨⟨by decide +kernel, by decide +kernel⟩, List.mem_of_getElem? (i := 24) (by decide +kernel), List.mem_of_getElem? (i := 1069) (by decide +kernel), List.mem_of_getElem? (i := 1070) (by decide +kernel)⟩
theorem lw_p47 : lw_okq (⟨"BellTable", "countWithBell", "()I"⟩, 12) := ⟨⟨by decide +kernel, by decide +kernel⟩, List.mem_of_getElem? (i := 24) (by decide +kernel), List.mem_of_getElem? (i := 1073) (by decide +kernel), List.mem_of_getElem? (i := 1074) (by decide +kernel)⟩
def lw_privs_3 : List (MethodName × Nat) := [(⟨"BellTable$Hands", "stepForth", "(I)V"⟩, 9), (⟨"BellTable$Hands", "takesInserting", "(II)I"⟩, 9), (⟨"BellTable$Hands", "restBeside", "(II)I"⟩, 9), (⟨"BellTable$Hands", "restBehind", "(IIII)I"⟩, 9), (⟨"BellTable$Helping", "keepIfLess", "(III)V"⟩, 9), (⟨"BellTable$Sound", "areNext", "(II)Z"⟩, 5), (⟨"BellTable$Sound", "lengthDamped", "(I)I"⟩, 5), (⟨"BellTable$Listening", "weigh", "(LBellTable$Strokes;)V"⟩, 9), (⟨"BellTable$Listening", "pairPoints", "(ILBellTable$Strokes;I)I"⟩, 9), (⟨"BellTable$Listening", "walk", "(LBellTable$Strokes;)V"⟩, 9), (⟨"BellTable$Listening", "pointsOf", "(I)I"⟩, 9), (⟨"BellTable$Days", "isBackBy", "(III)Z"⟩, 14), (⟨"BellTable$Days", "tryMove", "(II)I"⟩, 14), (⟨"BellTable$Days", "isLying", "(I)Z"⟩, 14), (⟨"BellTable", "countMissing", "()I"⟩, 12), (⟨"BellTable", "countWithBell", "()I"⟩, 12)]
theorem lw_r3 : ∀ q ∈ lw_privs_3, lw_okq q := List.forall_mem_cons.mpr ⟨lw_p32, List.forall_mem_cons.mpr ⟨lw_p33, List.forall_mem_cons.mpr ⟨lw_p34, List.forall_mem_cons.mpr ⟨lw_p35, List.forall_mem_cons.mpr ⟨lw_p36, List.forall_mem_cons.mpr ⟨lw_p37, List.forall_mem_cons.mpr ⟨lw_p38, List.forall_mem_cons.mpr ⟨lw_p39, List.forall_mem_cons.mpr ⟨lw_p40, List.forall_mem_cons.mpr ⟨lw_p41, List.forall_mem_cons.mpr ⟨lw_p42, List.forall_mem_cons.mpr ⟨lw_p43, List.forall_mem_cons.mpr ⟨lw_p44, List.forall_mem_cons.mpr ⟨lw_p45, List.forall_mem_cons.mpr ⟨lw_p46, List.forall_mem_cons.mpr ⟨lw_p47, fun _ h => absurd h List.not_mem_nil⟩⟩⟩⟩⟩⟩⟩⟩⟩⟩⟩⟩⟩⟩⟩⟩
theorem lw_p48 : lw_okq (⟨"BellTableModel", "lay", "(I)V"⟩, 66) := ⟨⟨by decide +kernel, by decide +kernel⟩, List.mem_of_getElem? (i := 1083) (by decide +kernel), List.mem_of_getElem? (i := 1081) (by decide +kernel), List.mem_of_getElem? (i := 1082) (by decide +kernel)⟩
theorem lw_p49 : lw_okq (⟨"java/lang/Throwable", "fillInStackTrace", "(I)Ljava/lang/Throwable;"⟩, 6) := ⟨⟨by decide +kernel, by decide +kernel⟩, List.mem_of_getElem? (i := 1132) (by decide +kernel), List.mem_of_getElem? (i := 1130) (by decide +kernel), List.mem_of_getElem? (i := 1131) (by decide +kernel)⟩
theorem lw_p50 : lw_okq (⟨"BellTableModel", "begin", "()V"⟩, 66) := ⟨⟨by decide +kernel, by decide +kernel⟩, List.mem_of_getElem? (i := 1083) (by decide +kernel), List.mem_of_getElem? (i := 1361) (by decide +kernel), List.mem_of_getElem? (i := 1362) (by decide +kernel)⟩
theorem lw_p51 : lw_okq (⟨"BellTableModel", "scan", "()V"⟩, 66) := ⟨⟨by decide +kernel, by decide +kernel⟩, List.mem_of_getElem? (i := 1083) (by decide +kernel), List.mem_of_getElem? (i := 1365) (by decide +kernel), List.mem_of_getElem? (i := 1366) (by decide +kernel)⟩
theorem lw_p52 : lw_okq (⟨"BellTableModel", "byteAt", "(I)I"⟩, 66) := ⟨⟨by decide +kernel, by decide +kernel⟩, List.mem_of_getElem? (i := 1083) (by decide +kernel), List.mem_of_getElem? (i := 1369) (by decide +kernel), List.mem_of_getElem? (i := 1370) (by decide +kernel)⟩
theorem lw_p53 : lw_okq (⟨"BellTableModel", "readBeats", "(Z)V"⟩, 66) := ⟨⟨by decide +kernel, by decide +kernel⟩, List.mem_of_getElem? (i := 1083) (by decide +kernel), List.mem_of_getElem? (i := 1379) (by decide +kernel), List.mem_of_getElem? (i := 1380) (by decide +kernel)⟩
theorem lw_p54 : lw_okq (⟨"BellTableModel", "is", "(Ljava/lang/String;)Z"⟩, 66) := ⟨⟨by decide +kernel, by decide +kernel⟩, List.mem_of_getElem? (i := 1083) (by decide +kernel), List.mem_of_getElem? (i := 1384) (by decide +kernel), List.mem_of_getElem? (i := 1385) (by decide +kernel)⟩
theorem lw_p55 : lw_okq (⟨"BellTableModel", "need", "(ZI)V"⟩, 66) := ⟨⟨by decide +kernel, by decide +kernel⟩, List.mem_of_getElem? (i := 1083) (by decide +kernel), List.mem_of_getElem? (i := 1390) (by decide +kernel), List.mem_of_getElem? (i := 1391) (by decide +kernel)⟩
theorem lw_p56 : lw_okq (⟨"BellTableModel", "wrong", "(I)LBellTableModel$Stop;"⟩, 66) := ⟨⟨by decide +kernel, by decide +kernel⟩, List.mem_of_getElem? (i := 1083) (by decide +kernel), List.mem_of_getElem? (i := 1394) (by decide +kernel), List.mem_of_getElem? (i := 1395) (by decide +kernel)⟩
theorem lw_p57 : lw_okq (⟨"BellTableModel", "number", "(II)I"⟩, 66) := ⟨⟨by decide +kernel, by decide +kernel⟩, List.mem_of_getElem? (i := 1083) (by decide +kernel), List.mem_of_getElem? (i := 1398) (by decide +kernel), List.mem_of_getElem? (i := 1399) (by decide +kernel)⟩
theorem lw_p58 : lw_okq (⟨"BellTableModel", "look", "(II)I"⟩, 66) := ⟨⟨by decide +kernel, by decide +kernel⟩, List.mem_of_getElem? (i := 1083) (by decide +kernel), List.mem_of_getElem? (i := 1402) (by decide +kernel), List.mem_of_getElem? (i := 1403) (by decide +kernel)⟩
theorem lw_p59 : lw_okq (⟨"BellTableModel", "readStroke", "(IZ)V"⟩, 66) := ⟨⟨by decide +kernel, by decide +kernel⟩, List.mem_of_getElem? (i := 1083) (by decide +kernel), List.mem_of_getElem? (i := 1406) (by decide +kernel), List.mem_of_getElem? (i := 1407) (by decide +kernel)⟩
theorem lw_p60 : lw_okq (⟨"BellTableModel", "readManners", "()I"⟩, 66) := ⟨⟨by decide +kernel, by decide +kernel⟩, List.mem_of_getElem? (i := 1083) (by decide +kernel), List.mem_of_getElem? (i := 1417) (by decide +kernel), List.mem_of_getElem? (i := 1418) (by decide +kernel)⟩
theorem lw_p61 : lw_okq (⟨"BellTableModel", "ruleAtHand", "()I"⟩, 66) := ⟨⟨by decide +kernel, by decide +kernel⟩, List.mem_of_getElem? (i := 1083) (by decide +kernel), List.mem_of_getElem? (i := 1421) (by decide +kernel), List.mem_of_getElem? (i := 1422) (by decide +kernel)⟩
theorem lw_p62 : lw_okq (⟨"BellTableModel", "isStroke", "(I)Z"⟩, 66) := ⟨⟨by decide +kernel, by decide +kernel⟩, List.mem_of_getElem? (i := 1083) (by decide +kernel), List.mem_of_getElem? (i := 1441) (by decide +kernel), List.mem_of_getElem? (i := 1442) (by decide +kernel)⟩
theorem lw_p63 : lw_okq (⟨"BellTableModel", "endOf", "(I)I"⟩, 66) := ⟨⟨by decide +kernel, by decide +kernel⟩, List.mem_of_getElem? (i := 1083) (by decide +kernel), List.mem_of_getElem? (i := 1445) (by decide +kernel), List.mem_of_getElem? (i := 1446) (by decide +kernel)⟩
def lw_privs_4 : List (MethodName × Nat) := [(⟨"BellTableModel", "lay", "(I)V"⟩, 66), (⟨"java/lang/Throwable", "fillInStackTrace", "(I)Ljava/lang/Throwable;"⟩, 6), (⟨"BellTableModel", "begin", "()V"⟩, 66), (⟨"BellTableModel", "scan", "()V"⟩, 66), (⟨"BellTableModel", "byteAt", "(I)I"⟩, 66), (⟨"BellTableModel", "readBeats", "(Z)V"⟩, 66), (⟨"BellTableModel", "is", "(Ljava/lang/String;)Z"⟩, 66), (⟨"BellTableModel", "need", "(ZI)V"⟩, 66), (⟨"BellTableModel", "wrong", "(I)LBellTableModel$Stop;"⟩, 66), (⟨"BellTableModel", "number", "(II)I"⟩, 66), (⟨"BellTableModel", "look", "(II)I"⟩, 66), (⟨"BellTableModel", "readStroke", "(IZ)V"⟩, 66), (⟨"BellTableModel", "readManners", "()I"⟩, 66), (⟨"BellTableModel", "ruleAtHand", "()I"⟩, 66), (⟨"BellTableModel", "isStroke", "(I)Z"⟩, 66), (⟨"BellTableModel", "endOf", "(I)I"⟩, 66)]
theorem lw_r4 : ∀ q ∈ lw_privs_4, lw_okq q := List.forall_mem_cons.mpr ⟨lw_p48, List.forall_mem_cons.mpr ⟨lw_p49, List.forall_mem_cons.mpr ⟨lw_p50, List.forall_mem_cons.mpr ⟨lw_p51, List.forall_mem_cons.mpr ⟨lw_p52, List.forall_mem_cons.mpr ⟨lw_p53, List.forall_mem_cons.mpr ⟨lw_p54, List.forall_mem_cons.mpr ⟨lw_p55, List.forall_mem_cons.mpr ⟨lw_p56, List.forall_mem_cons.mpr ⟨lw_p57, List.forall_mem_cons.mpr ⟨lw_p58, List.forall_mem_cons.mpr ⟨lw_p59, List.forall_mem_cons.mpr ⟨lw_p60, List.forall_mem_cons.mpr ⟨lw_p61, List.forall_mem_cons.mpr ⟨lw_p62, List.forall_mem_cons.mpr ⟨lw_p63, fun _ h => absurd h List.not_mem_nil⟩⟩⟩⟩⟩⟩⟩⟩⟩⟩⟩⟩⟩⟩⟩⟩
theorem lw_p64 : lw_okq (⟨"BellTableModel", "isRinger", "(I)Z"⟩, 66) := ⟨⟨by decide +kernel, by decide +kernel⟩, List.mem_of_getElem? (i := 1083) (by decide +kernel), List.mem_of_getElem? (i := 1459) (by decide +kernel), List.mem_of_getElem? (i := 1460) (by decide +kernel)⟩
theorem lw_p65 : lw_okq (⟨"BellTableModel", "takesOf", "(J)I"⟩, 66) := ⟨⟨by decide +kernel, by decide +kernel⟩, List.mem_of_getElem? (i := 1083) (by decide +kernel), List.mem_of_getElem? (i := 1467) (by decide +kernel), List.mem_of_getElem? (i := 1468) (by decide +kernel)⟩
theorem lw_p66 : lw_okq (⟨"BellTableModel", "takeBells", "(J)V"⟩, 66) := ⟨⟨by decide +kernel, by decide +kernel⟩, List.mem_of_getElem? (i := 1083) (by decide +kernel), List.mem_of_getElem? (i := 1471) (by decide +kernel), List.mem_of_getElem? (i := 1472) (by decide +kernel)⟩
theorem lw_p67 : lw_okq (⟨"BellTableModel", "findHands", "()I"⟩, 66) := ⟨⟨by decide +kernel, by decide +kernel⟩, List.mem_of_getElem? (i := 1083) (by decide +kernel), List.mem_of_getElem? (i := 1475) (by decide +kernel), List.mem_of_getElem? (i := 1476) (by decide +kernel)⟩
theorem lw_p68 : lw_okq (⟨"BellTableModel", "takesFrom", "(IIII)I"⟩, 66) := ⟨⟨by decide +kernel, by decide +kernel⟩, List.mem_of_getElem? (i := 1083) (by decide +kernel), List.mem_of_getElem? (i := 1482) (by decide +kernel), List.mem_of_getElem? (i := 1483) (by decide +kernel)⟩
theorem lw_p69 : lw_okq (⟨"BellTableModel", "takesBy", "(IIII)I"⟩, 66) := ⟨⟨by decide +kernel, by decide +kernel⟩, List.mem_of_getElem? (i := 1083) (by decide +kernel), List.mem_of_getElem? (i := 1487) (by decide +kernel), List.mem_of_getElem? (i := 1488) (by decide +kernel)⟩
theorem lw_p70 : lw_okq (⟨"BellTableModel", "heldBell", "(I)I"⟩, 66) := ⟨⟨by decide +kernel, by decide +kernel⟩, List.mem_of_getElem? (i := 1083) (by decide +kernel), List.mem_of_getElem? (i := 1491) (by decide +kernel), List.mem_of_getElem? (i := 1492) (by decide +kernel)⟩
theorem lw_p71 : lw_okq (⟨"BellTableModel", "go", "(II)I"⟩, 66) := ⟨⟨by decide +kernel, by decide +kernel⟩, List.mem_of_getElem? (i := 1083) (by decide +kernel), List.mem_of_getElem? (i := 1495) (by decide +kernel), List.mem_of_getElem? (i := 1496) (by decide +kernel)⟩
theorem lw_p72 : lw_okq (⟨"BellTableModel", "findUsed", "()V"⟩, 66) := ⟨⟨by decide +kernel, by decide +kernel⟩, List.mem_of_getElem? (i := 1083) (by decide +kernel), List.mem_of_getElem? (i := 1507) (by decide +kernel), List.mem_of_getElem? (i := 1508) (by decide +kernel)⟩
theorem lw_p73 : lw_okq (⟨"BellTableModel", "isUsed", "(I)Z"⟩, 66) := ⟨⟨by decide +kernel, by decide +kernel⟩, List.mem_of_getElem? (i := 1083) (by decide +kernel), List.mem_of_getElem? (i := 1511) (by decide +kernel), List.mem_of_getElem? (i := 1512) (by decide +kernel)⟩
theorem lw_p74 : lw_okq (⟨"BellTableModel", "findThere", "(I)V"⟩, 66) := ⟨⟨by decide +kernel, by decide +kernel⟩, List.mem_of_getElem? (i := 1083) (by decide +kernel), List.mem_of_getElem? (i := 1515) (by decide +kernel), List.mem_of_getElem? (i := 1516) (by decide +kernel)⟩
theorem lw_p75 : lw_okq (⟨"BellTableModel", "forgetHad", "()V"⟩, 66) := ⟨⟨by decide +kernel, by decide +kernel⟩, List.mem_of_getElem? (i := 1083) (by decide +kernel), List.mem_of_getElem? (i := 1519) (by decide +kernel), List.mem_of_getElem? (i := 1520) (by decide +kernel)⟩
theorem lw_p76 : lw_okq (⟨"BellTableModel", "findRanges", "()Z"⟩, 66) := ⟨⟨by decide +kernel, by decide +kernel⟩, List.mem_of_getElem? (i := 1083) (by decide +kernel), List.mem_of_getElem? (i := 1523) (by decide +kernel), List.mem_of_getElem? (i := 1524) (by decide +kernel)⟩
theorem lw_p77 : lw_okq (⟨"BellTableModel", "findPieces", "()V"⟩, 66) := ⟨⟨by decide +kernel, by decide +kernel⟩, List.mem_of_getElem? (i := 1083) (by decide +kernel), List.mem_of_getElem? (i := 1527) (by decide +kernel), List.mem_of_getElem? (i := 1528) (by decide +kernel)⟩
theorem lw_p78 : lw_okq (⟨"BellTableModel", "mayHave", "(III)Z"⟩, 66) := ⟨⟨by decide +kernel, by decide +kernel⟩, List.mem_of_getElem? (i := 1083) (by decide +kernel), List.mem_of_getElem? (i := 1534) (by decide +kernel), List.mem_of_getElem? (i := 1535) (by decide +kernel)⟩
theorem lw_p79 : lw_okq (⟨"BellTableModel", "compare", "(IIIIII)I"⟩, 66) := ⟨⟨by decide +kernel, by decide +kernel⟩, List.mem_of_getElem? (i := 1083) (by decide +kernel), List.mem_of_getElem? (i := 1538) (by decide +kernel), List.mem_of_getElem? (i := 1539) (by decide +kernel)⟩
def lw_privs_5 : List (MethodName × Nat) := [(⟨"BellTableModel", "isRinger", "(I)Z"⟩, 66), (⟨"BellTableModel", "takesOf", "(J)I"⟩, 66), (⟨"BellTableModel", "takeBells", "(J)V"⟩, 66), (⟨"BellTableModel", "findHands", "()I"⟩, 66), (⟨"BellTableModel", "takesFrom", "(IIII)I"⟩, 66), (⟨"BellTableModel", "takesBy", "(IIII)I"⟩, 66), (⟨"BellTableModel", "heldBell", "(I)I"⟩, 66), (⟨"BellTableModel", "go", "(II)I"⟩, 66), (⟨"BellTableModel", "findUsed", "()V"⟩, 66), (⟨"BellTableModel", "isUsed", "(I)Z"⟩, 66), (⟨"BellTableModel", "findThere", "(I)V"⟩, 66), (⟨"BellTableModel", "forgetHad", "()V"⟩, 66), (⟨"BellTableModel", "findRanges", "()Z"⟩, 66), (⟨"BellTableModel", "findPieces", "()V"⟩, 66), (⟨"BellTableModel", "mayHave", "(III)Z"⟩, 66), (⟨"BellTableModel", "compare", "(IIIIII)I"⟩, 66)]
theorem lw_r5 : ∀ q ∈ lw_privs_5, lw_okq q := List.forall_mem_cons.mpr ⟨lw_p64, List.forall_mem_cons.mpr ⟨lw_p65, List.forall_mem_cons.mpr ⟨lw_p66, List.forall_mem_cons.mpr ⟨lw_p67, List.forall_mem_cons.mpr ⟨lw_p68, List.forall_mem_cons.mpr ⟨lw_p69, List.forall_mem_cons.mpr ⟨lw_p70, List.forall_mem_cons.mpr ⟨lw_p71, List.forall_mem_cons.mpr ⟨lw_p72, List.forall_mem_cons.mpr ⟨lw_p73, List.forall_mem_cons.mpr ⟨lw_p74, List.forall_mem_cons.mpr ⟨lw_p75, List.forall_mem_cons.mpr ⟨lw_p76, List.forall_mem_cons.mpr ⟨lw_p77, List.forall_mem_cons.mpr ⟨lw_p78, List.forall_mem_cons.mpr ⟨lw_p79, fun _ h => absurd h List.not_mem_nil⟩⟩⟩⟩⟩⟩⟩⟩⟩⟩⟩⟩⟩⟩⟩⟩
theorem lw_p80 : lw_okq (⟨"BellTableModel", "changedIn", "(III)I"⟩, 66) := ⟨⟨by decide +kernel, by decide +kernel⟩, List.mem_of_getElem? (i := 1083) (by decide +kernel), List.mem_of_getElem? (i := 1542) (by decide +kernel), List.mem_of_getElem? (i := 1543) (by decide +kernel)⟩
theorem lw_p81 : lw_okq (⟨"BellTableModel", "takeRanges", "()V"⟩, 66) := ⟨⟨by decide +kernel, by decide +kernel⟩, List.mem_of_getElem? (i := 1083) (by decide +kernel), List.mem_of_getElem? (i := 1546) (by decide +kernel), List.mem_of_getElem? (i := 1547) (by decide +kernel)⟩
theorem lw_p82 : lw_okq (⟨"BellTableModel", "bellsOf", "(I)J"⟩, 66) := ⟨⟨by decide +kernel, by decide +kernel⟩, List.mem_of_getElem? (i := 1083) (by decide +kernel), List.mem_of_getElem? (i := 1563) (by decide +kernel), List.mem_of_getElem? (i := 1564) (by decide +kernel)⟩
theorem lw_p83 : lw_okq (⟨"BellTableModel", "takesWith", "(III)I"⟩, 66) := ⟨⟨by decide +kernel, by decide +kernel⟩, List.mem_of_getElem? (i := 1083) (by decide +kernel), List.mem_of_getElem? (i := 1575) (by decide +kernel), List.mem_of_getElem? (i := 1576) (by decide +kernel)⟩
theorem lw_p84 : lw_okq (⟨"BellTableModel", "isClash", "(II)Z"⟩, 66) := ⟨⟨by decide +kernel, by decide +kernel⟩, List.mem_of_getElem? (i := 1083) (by decide +kernel), List.mem_of_getElem? (i := 1587) (by decide +kernel), List.mem_of_getElem? (i := 1588) (by decide +kernel)⟩
theorem lw_p85 : lw_okq (⟨"BellTableModel", "pairFrom", "(II)I"⟩, 66) := ⟨⟨by decide +kernel, by decide +kernel⟩, List.mem_of_getElem? (i := 1083) (by decide +kernel), List.mem_of_getElem? (i := 1604) (by decide +kernel), List.mem_of_getElem? (i := 1605) (by decide +kernel)⟩
theorem lw_p86 : lw_okq (⟨"BellTableModel", "pairPoints", "(II)I"⟩, 66) := ⟨⟨by decide +kernel, by decide +kernel⟩, List.mem_of_getElem? (i := 1083) (by decide +kernel), List.mem_of_getElem? (i := 1608) (by decide +kernel), List.mem_of_getElem? (i := 1609) (by decide +kernel)⟩
theorem lw_p87 : lw_okq (⟨"BellTableModel", "missedFrom", "(II)I"⟩, 66) := ⟨⟨by decide +kernel, by decide +kernel⟩, List.mem_of_getElem? (i := 1083) (by decide +kernel), List.mem_of_getElem? (i := 1615) (by decide +kernel), List.mem_of_getElem? (i := 1616) (by decide +kernel)⟩
theorem lw_p88 : lw_okq (⟨"BellTableModel", "moreFrom", "(II)I"⟩, 66) := ⟨⟨by decide +kernel, by decide +kernel⟩, List.mem_of_getElem? (i := 1083) (by decide +kernel), List.mem_of_getElem? (i := 1619) (by decide +kernel), List.mem_of_getElem? (i := 1620) (by decide +kernel)⟩
theorem lw_p89 : lw_okq (⟨"BellTableModel", "isThere", "(III)Z"⟩, 66) := ⟨⟨by decide +kernel, by decide +kernel⟩, List.mem_of_getElem? (i := 1083) (by decide +kernel), List.mem_of_getElem? (i := 1657) (by decide +kernel), List.mem_of_getElem? (i := 1658) (by decide +kernel)⟩
def lw_privs_6 : List (MethodName × Nat) := [(⟨"BellTableModel", "changedIn", "(III)I"⟩, 66), (⟨"BellTableModel", "takeRanges", "()V"⟩, 66), (⟨"BellTableModel", "bellsOf", "(I)J"⟩, 66), (⟨"BellTableModel", "takesWith", "(III)I"⟩, 66), (⟨"BellTableModel", "isClash", "(II)Z"⟩, 66), (⟨"BellTableModel", "pairFrom", "(II)I"⟩, 66), (⟨"BellTableModel", "pairPoints", "(II)I"⟩, 66), (⟨"BellTableModel", "missedFrom", "(II)I"⟩, 66), (⟨"BellTableModel", "moreFrom", "(II)I"⟩, 66), (⟨"BellTableModel", "isThere", "(III)Z"⟩, 66)]
theorem lw_r6 : ∀ q ∈ lw_privs_6, lw_okq q := List.forall_mem_cons.mpr ⟨lw_p80, List.forall_mem_cons.mpr ⟨lw_p81, List.forall_mem_cons.mpr ⟨lw_p82, List.forall_mem_cons.mpr ⟨lw_p83, List.forall_mem_cons.mpr ⟨lw_p84, List.forall_mem_cons.mpr ⟨lw_p85, List.forall_mem_cons.mpr ⟨lw_p86, List.forall_mem_cons.mpr ⟨lw_p87, List.forall_mem_cons.mpr ⟨lw_p88, List.forall_mem_cons.mpr ⟨lw_p89, fun _ h => absurd h List.not_mem_nil⟩⟩⟩⟩⟩⟩⟩⟩⟩⟩
def lw_privs : List (MethodName × Nat) := lw_privs_1 ++ (lw_privs_2 ++ (lw_privs_3 ++ (lw_privs_4 ++ (lw_privs_5 ++ (lw_privs_6)))))
def lw_tbl : List Cond := k2_sels lw_privs ++ tables_1
theorem lw_privs_ok : ∀ q ∈ lw_privs, lw_okq q := by
  show ∀ q ∈ lw_privs_1 ++ (lw_privs_2 ++ (lw_privs_3 ++ (lw_privs_4 ++ (lw_privs_5 ++ (lw_privs_6))))), lw_okq q
  exact List.forall_mem_append.mpr ⟨lw_r1, List.forall_mem_append.mpr ⟨lw_r2, List.forall_mem_append.mpr ⟨lw_r3, List.forall_mem_append.mpr ⟨lw_r4, List.forall_mem_append.mpr ⟨lw_r5, lw_r6⟩⟩⟩⟩⟩
end
section
def RX0 : String := "BellTable$BeatText"
def TX0 : u_T := fun k => match k with
  | 0 => ("BellTable$BeatText", "in", "LBellTable$Tape;", true)
  | 1 => ("BellTable$BeatText", "rows", "LBellTable$Strokes;", true)
  | 2 => ("BellTable$BeatText", "awaits", "I", false)
  | 3 => ("BellTable$BeatText", "beat", "I", false)
  | _ => ("BellTable$BeatText", "latest", "I", false)
def tyX0 : Nat → FieldType := fun k => match k with
  | 0 => .object "BellTable$Tape"
  | 1 => .object "BellTable$Strokes"
  | 2 => .int
  | 3 => .int
  | _ => .int
abbrev wsX00 : List Cond := u_ws RX0 TX0 5
theorem nmX0 : ∀ a, a < 5 → ∀ b, b < 5 → a ≠ b → (TX0 a).2.1 ≠ (TX0 b).2.1 := by decide +kernel
theorem tyX0_ok : ∀ k, k < 5 → parseFieldDescriptor (TX0 k).2.2.1 = some (tyX0 k) := by decide +kernel
abbrev cX0_init : ByteArray := prog_2_method_1_code
def yX0_init : MethodName := ⟨RX0, "<init>", "(LBellTable$Tape;)V"⟩
abbrev cX0_readAll : ByteArray := prog_2_method_2_code
def yX0_readAll : MethodName := ⟨RX0, "readAll", "(Z)Z"⟩
abbrev cX0_take : ByteArray := prog_2_method_3_code
def yX0_take : MethodName := ⟨RX0, "take", "(Z)V"⟩
abbrev cX0_goOnIf : ByteArray := prog_2_method_4_code
def yX0_goOnIf : MethodName := ⟨RX0, "goOnIf", "(ZI)V"⟩
abbrev cX0_takeBeat : ByteArray := prog_2_method_5_code
def yX0_takeBeat : MethodName := ⟨RX0, "takeBeat", "()V"⟩
abbrev cX0_takeBell : ByteArray := prog_2_method_6_code
def yX0_takeBell : MethodName := ⟨RX0, "takeBell", "(Z)V"⟩
abbrev cX0_takeLength : ByteArray := prog_2_method_7_code
def yX0_takeLength : MethodName := ⟨RX0, "takeLength", "()V"⟩
abbrev cX0_takeWord : ByteArray := prog_2_method_8_code
def yX0_takeWord : MethodName := ⟨RX0, "takeWord", "()V"⟩
def RX1 : String := "BellTable$Bits"
def TX1 : u_T := fun k => match k with
  | _ => ("BellTable$Bits", "words", "[J", true)
def tyX1 : Nat → FieldType := fun k => match k with
  | _ => .array .long
abbrev wsX10 : List Cond := u_ws RX1 TX1 1
theorem nmX1 : ∀ a, a < 1 → ∀ b, b < 1 → a ≠ b → (TX1 a).2.1 ≠ (TX1 b).2.1 := by decide +kernel
theorem tyX1_ok : ∀ k, k < 1 → parseFieldDescriptor (TX1 k).2.2.1 = some (tyX1 k) := by decide +kernel
abbrev cX1_init : ByteArray := prog_3_method_1_code
def yX1_init : MethodName := ⟨RX1, "<init>", "()V"⟩
abbrev cX1_put : ByteArray := prog_3_method_2_code
def yX1_put : MethodName := ⟨RX1, "put", "(IIZ)V"⟩
abbrev cX1_has : ByteArray := prog_3_method_3_code
def yX1_has : MethodName := ⟨RX1, "has", "(II)Z"⟩
def RX2 : String := "BellTable$Days"
def TX2 : u_T := fun k => match k with
  | 0 => ("BellTable$Days", "score", "LBellTable$Strokes;", true)
  | 1 => ("BellTable$Days", "clock", "I", false)
  | 2 => ("BellTable$Days", "size", "I", false)
  | 3 => ("BellTable$Days", "hasKey", "Z", false)
  | 4 => ("BellTable$Days", "keyMove", "I", false)
  | 5 => ("BellTable$Days", "keyLeftOut", "I", false)
  | 6 => ("BellTable$Days", "keyOctaves", "I", false)
  | 7 => ("BellTable$Days", "bellOf", "[I", true)
  | 8 => ("BellTable$Days", "fromDay", "[I", true)
  | 9 => ("BellTable$Days", "toDay", "[I", true)
  | 10 => ("BellTable$Days", "knownDay", "[I", true)
  | 11 => ("BellTable$Days", "backDay", "[I", true)
  | 12 => ("BellTable$Days", "backKnownDay", "[I", true)
  | _ => ("BellTable$Days", "lying", "[Z", true)
def tyX2 : Nat → FieldType := fun k => match k with
  | 0 => .object "BellTable$Strokes"
  | 1 => .int
  | 2 => .int
  | 3 => .boolean
  | 4 => .int
  | 5 => .int
  | 6 => .int
  | 7 => .array .int
  | 8 => .array .int
  | 9 => .array .int
  | 10 => .array .int
  | 11 => .array .int
  | 12 => .array .int
  | _ => .array .boolean
abbrev wsX20 : List Cond := u_ws RX2 TX2 14
theorem nmX2 : ∀ a, a < 14 → ∀ b, b < 14 → a ≠ b → (TX2 a).2.1 ≠ (TX2 b).2.1 := by decide +kernel
theorem tyX2_ok : ∀ k, k < 14 → parseFieldDescriptor (TX2 k).2.2.1 = some (tyX2 k) := by decide +kernel
abbrev cX2_init : ByteArray := prog_4_method_1_code
def yX2_init : MethodName := ⟨RX2, "<init>", "(LBellTable$Strokes;)V"⟩
abbrev cX2_forgetKey : ByteArray := prog_4_method_2_code
def yX2_forgetKey : MethodName := ⟨RX2, "forgetKey", "()V"⟩
abbrev cX2_add : ByteArray := prog_4_method_3_code
def yX2_add : MethodName := ⟨RX2, "add", "(III)I"⟩
abbrev cX2_addBack : ByteArray := prog_4_method_4_code
def yX2_addBack : MethodName := ⟨RX2, "addBack", "(II)Z"⟩
abbrev cX2_lies : ByteArray := prog_4_method_5_code
def yX2_lies : MethodName := ⟨RX2, "lies", "(III)Z"⟩
abbrev cX2_isBackBy : ByteArray := prog_4_method_6_code
def yX2_isBackBy : MethodName := ⟨RX2, "isBackBy", "(III)Z"⟩
abbrev cX2_seekKey : ByteArray := prog_4_method_7_code
def yX2_seekKey : MethodName := ⟨RX2, "seekKey", "(II)I"⟩
abbrev cX2_tryMove : ByteArray := prog_4_method_8_code
def yX2_tryMove : MethodName := ⟨RX2, "tryMove", "(II)I"⟩
abbrev cX2_isLying : ByteArray := prog_4_method_9_code
def yX2_isLying : MethodName := ⟨RX2, "isLying", "(I)Z"⟩
def RX3 : String := "BellTable$Hands"
def TX3 : u_T := fun k => match k with
  | 0 => ("BellTable$Hands", "score", "LBellTable$Strokes;", true)
  | 1 => ("BellTable$Hands", "rules", "LBellTable$Manners;", true)
  | 2 => ("BellTable$Hands", "handOf", "[I", true)
  | 3 => ("BellTable$Hands", "chosen", "Z", false)
  | 4 => ("BellTable$Hands", "row", "[I", true)
  | 5 => ("BellTable$Hands", "size", "I", false)
  | 6 => ("BellTable$Hands", "rest", "[I", true)
  | 7 => ("BellTable$Hands", "stuck", "I", false)
  | _ => ("BellTable$Hands", "past", "[I", true)
def tyX3 : Nat → FieldType := fun k => match k with
  | 0 => .object "BellTable$Strokes"
  | 1 => .object "BellTable$Manners"
  | 2 => .array .int
  | 3 => .boolean
  | 4 => .array .int
  | 5 => .int
  | 6 => .array .int
  | 7 => .int
  | _ => .array .int
abbrev wsX30 : List Cond := u_ws RX3 TX3 9
theorem nmX3 : ∀ a, a < 9 → ∀ b, b < 9 → a ≠ b → (TX3 a).2.1 ≠ (TX3 b).2.1 := by decide +kernel
theorem tyX3_ok : ∀ k, k < 9 → parseFieldDescriptor (TX3 k).2.2.1 = some (tyX3 k) := by decide +kernel
abbrev cX3_init : ByteArray := prog_5_method_1_code
def yX3_init : MethodName := ⟨RX3, "<init>", "(LBellTable$Strokes;LBellTable$Manners;)V"⟩
abbrev cX3_forget : ByteArray := prog_5_method_2_code
def yX3_forget : MethodName := ⟨RX3, "forget", "()V"⟩
abbrev cX3_takesOf : ByteArray := prog_5_method_3_code
def yX3_takesOf : MethodName := ⟨RX3, "takesOf", "(J)I"⟩
abbrev cX3_choose : ByteArray := prog_5_method_4_code
def yX3_choose : MethodName := ⟨RX3, "choose", "(J)I"⟩
abbrev cX3_weighWithout : ByteArray := prog_5_method_5_code
def yX3_weighWithout : MethodName := ⟨RX3, "weighWithout", "(J[I)V"⟩
abbrev cX3_weighWith : ByteArray := prog_5_method_6_code
def yX3_weighWith : MethodName := ⟨RX3, "weighWith", "(JJ[I)V"⟩
abbrev cX3_gather : ByteArray := prog_5_method_7_code
def yX3_gather : MethodName := ⟨RX3, "gather", "(J)V"⟩
abbrev cX3_weighRest : ByteArray := prog_5_method_8_code
def yX3_weighRest : MethodName := ⟨RX3, "weighRest", "()I"⟩
abbrev cX3_place : ByteArray := prog_5_method_9_code
def yX3_place : MethodName := ⟨RX3, "place", "(II)I"⟩
abbrev cX3_restOf : ByteArray := prog_5_method_10_code
def yX3_restOf : MethodName := ⟨RX3, "restOf", "(II)I"⟩
abbrev cX3_did : ByteArray := prog_5_method_11_code
def yX3_did : MethodName := ⟨RX3, "did", "(I)I"⟩
abbrev cX3_others : ByteArray := prog_5_method_12_code
def yX3_others : MethodName := ⟨RX3, "others", "(I)I"⟩
abbrev cX3_stepBack : ByteArray := prog_5_method_13_code
def yX3_stepBack : MethodName := ⟨RX3, "stepBack", "(I)Z"⟩
abbrev cX3_stepForth : ByteArray := prog_5_method_14_code
def yX3_stepForth : MethodName := ⟨RX3, "stepForth", "(I)V"⟩
abbrev cX3_takesSkipping : ByteArray := prog_5_method_15_code
def yX3_takesSkipping : MethodName := ⟨RX3, "takesSkipping", "(I)I"⟩
abbrev cX3_takesInserting : ByteArray := prog_5_method_16_code
def yX3_takesInserting : MethodName := ⟨RX3, "takesInserting", "(II)I"⟩
abbrev cX3_restBehind : ByteArray := prog_5_method_17_code
def yX3_restBehind : MethodName := ⟨RX3, "restBehind", "(IIII)I"⟩
abbrev cX3_restBeside : ByteArray := prog_5_method_18_code
def yX3_restBeside : MethodName := ⟨RX3, "restBeside", "(II)I"⟩
abbrev cX3_step : ByteArray := prog_5_method_19_code
def yX3_step : MethodName := ⟨RX3, "step", "(III)I"⟩
abbrev cX3_move : ByteArray := prog_5_method_20_code
def yX3_move : MethodName := ⟨RX3, "move", "(II)I"⟩
abbrev cX3_holds : ByteArray := prog_5_method_21_code
def yX3_holds : MethodName := ⟨RX3, "holds", "(II)Z"⟩
abbrev cX3_keepHands : ByteArray := prog_5_method_22_code
def yX3_keepHands : MethodName := ⟨RX3, "keepHands", "()V"⟩
abbrev cX3_swapsFor : ByteArray := prog_5_method_23_code
def yX3_swapsFor : MethodName := ⟨RX3, "swapsFor", "(III)Z"⟩
def RX4 : String := "BellTable$Helping"
def TX4 : u_T := fun k => match k with
  | 0 => ("BellTable$Helping", "score", "LBellTable$Strokes;", true)
  | 1 => ("BellTable$Helping", "deft", "LBellTable$Hands;", true)
  | 2 => ("BellTable$Helping", "ranges", "LBellTable$Ranges;", true)
  | 3 => ("BellTable$Helping", "stroke", "I", false)
  | 4 => ("BellTable$Helping", "ringer", "I", false)
  | 5 => ("BellTable$Helping", "without", "[I", true)
  | 6 => ("BellTable$Helping", "byBelow", "[I", true)
  | 7 => ("BellTable$Helping", "byAbove", "[I", true)
  | _ => ("BellTable$Helping", "least", "I", false)
def tyX4 : Nat → FieldType := fun k => match k with
  | 0 => .object "BellTable$Strokes"
  | 1 => .object "BellTable$Hands"
  | 2 => .object "BellTable$Ranges"
  | 3 => .int
  | 4 => .int
  | 5 => .array .int
  | 6 => .array .int
  | 7 => .array .int
  | _ => .int
abbrev wsX40 : List Cond := u_ws RX4 TX4 9
theorem nmX4 : ∀ a, a < 9 → ∀ b, b < 9 → a ≠ b → (TX4 a).2.1 ≠ (TX4 b).2.1 := by decide +kernel
theorem tyX4_ok : ∀ k, k < 9 → parseFieldDescriptor (TX4 k).2.2.1 = some (tyX4 k) := by decide +kernel
abbrev cX4_init : ByteArray := prog_6_method_1_code
def yX4_init : MethodName := ⟨RX4, "<init>", "(LBellTable$Strokes;LBellTable$Hands;LBellTable$Ranges;)V"⟩
abbrev cX4_forget : ByteArray := prog_6_method_2_code
def yX4_forget : MethodName := ⟨RX4, "forget", "()V"⟩
abbrev cX4_seek : ByteArray := prog_6_method_3_code
def yX4_seek : MethodName := ⟨RX4, "seek", "(III)I"⟩
abbrev cX4_keepIfLess : ByteArray := prog_6_method_4_code
def yX4_keepIfLess : MethodName := ⟨RX4, "keepIfLess", "(III)V"⟩
def RX5 : String := "BellTable$Listening"
def TX5 : u_T := fun k => match k with
  | 0 => ("BellTable$Listening", "score", "LBellTable$Strokes;", true)
  | 1 => ("BellTable$Listening", "lateBy", "[I", true)
  | 2 => ("BellTable$Listening", "bellOf", "[I", true)
  | 3 => ("BellTable$Listening", "moreCount", "I", false)
  | 4 => ("BellTable$Listening", "told", "Z", false)
  | 5 => ("BellTable$Listening", "moreOn", "[I", true)
  | 6 => ("BellTable$Listening", "price", "[I", true)
  | 7 => ("BellTable$Listening", "pairs", "LBellTable$Bits;", true)
  | _ => ("BellTable$Listening", "misses", "LBellTable$Bits;", true)
def tyX5 : Nat → FieldType := fun k => match k with
  | 0 => .object "BellTable$Strokes"
  | 1 => .array .int
  | 2 => .array .int
  | 3 => .int
  | 4 => .boolean
  | 5 => .array .int
  | 6 => .array .int
  | 7 => .object "BellTable$Bits"
  | _ => .object "BellTable$Bits"
abbrev wsX50 : List Cond := u_ws RX5 TX5 9
theorem nmX5 : ∀ a, a < 9 → ∀ b, b < 9 → a ≠ b → (TX5 a).2.1 ≠ (TX5 b).2.1 := by decide +kernel
theorem tyX5_ok : ∀ k, k < 9 → parseFieldDescriptor (TX5 k).2.2.1 = some (tyX5 k) := by decide +kernel
abbrev cX5_init : ByteArray := prog_7_method_1_code
def yX5_init : MethodName := ⟨RX5, "<init>", "(LBellTable$Strokes;)V"⟩
abbrev cX5_forget : ByteArray := prog_7_method_2_code
def yX5_forget : MethodName := ⟨RX5, "forget", "()V"⟩
abbrev cX5_lay : ByteArray := prog_7_method_3_code
def yX5_lay : MethodName := ⟨RX5, "lay", "(LBellTable$Strokes;)I"⟩
abbrev cX5_weigh : ByteArray := prog_7_method_4_code
def yX5_weigh : MethodName := ⟨RX5, "weigh", "(LBellTable$Strokes;)V"⟩
abbrev cX5_pairPoints : ByteArray := prog_7_method_5_code
def yX5_pairPoints : MethodName := ⟨RX5, "pairPoints", "(ILBellTable$Strokes;I)I"⟩
abbrev cX5_walk : ByteArray := prog_7_method_6_code
def yX5_walk : MethodName := ⟨RX5, "walk", "(LBellTable$Strokes;)V"⟩
abbrev cX5_pointsOn : ByteArray := prog_7_method_7_code
def yX5_pointsOn : MethodName := ⟨RX5, "pointsOn", "(J)I"⟩
abbrev cX5_pointsOf : ByteArray := prog_7_method_8_code
def yX5_pointsOf : MethodName := ⟨RX5, "pointsOf", "(I)I"⟩
def RX6 : String := "BellTable$Manners"
def TX6 : u_T := fun k => match k with
  | 0 => ("BellTable$Manners", "value", "[I", true)
  | 1 => ("BellTable$Manners", "fresh", "[I", true)
  | 2 => ("BellTable$Manners", "awaits", "I", false)
  | 3 => ("BellTable$Manners", "which", "I", false)
  | _ => ("BellTable$Manners", "clauses", "I", false)
def tyX6 : Nat → FieldType := fun k => match k with
  | 0 => .array .int
  | 1 => .array .int
  | 2 => .int
  | 3 => .int
  | _ => .int
abbrev wsX60 : List Cond := u_ws RX6 TX6 5
theorem nmX6 : ∀ a, a < 5 → ∀ b, b < 5 → a ≠ b → (TX6 a).2.1 ≠ (TX6 b).2.1 := by decide +kernel
theorem tyX6_ok : ∀ k, k < 5 → parseFieldDescriptor (TX6 k).2.2.1 = some (tyX6 k) := by decide +kernel
abbrev cX6_init : ByteArray := prog_8_method_1_code
def yX6_init : MethodName := ⟨RX6, "<init>", "()V"⟩
abbrev cX6_readAll : ByteArray := prog_8_method_2_code
def yX6_readAll : MethodName := ⟨RX6, "readAll", "(LBellTable$Tape;)I"⟩
abbrev cX6_take : ByteArray := prog_8_method_3_code
def yX6_take : MethodName := ⟨RX6, "take", "(LBellTable$Tape;)V"⟩
abbrev cX6_takeWord : ByteArray := prog_8_method_4_code
def yX6_takeWord : MethodName := ⟨RX6, "takeWord", "(LBellTable$Tape;)V"⟩
abbrev cX6_takeNumber : ByteArray := prog_8_method_5_code
def yX6_takeNumber : MethodName := ⟨RX6, "takeNumber", "(LBellTable$Tape;)V"⟩
abbrev cX6_ruleNamed : ByteArray := prog_8_method_6_code
def yX6_ruleNamed : MethodName := ⟨RX6, "ruleNamed", "(LBellTable$Tape;)I"⟩
def RX7 : String := "BellTable$Ranges"
def TX7 : u_T := fun k => match k with
  | 0 => ("BellTable$Ranges", "score", "LBellTable$Strokes;", true)
  | 1 => ("BellTable$Ranges", "rules", "LBellTable$Manners;", true)
  | 2 => ("BellTable$Ranges", "deft", "LBellTable$Hands;", true)
  | 3 => ("BellTable$Ranges", "ringerOf", "[I", true)
  | 4 => ("BellTable$Ranges", "parting", "Z", false)
  | 5 => ("BellTable$Ranges", "usedCount", "I", false)
  | 6 => ("BellTable$Ranges", "standingCount", "I", false)
  | 7 => ("BellTable$Ranges", "usedBells", "J", false)
  | 8 => ("BellTable$Ranges", "used", "[I", true)
  | 9 => ("BellTable$Ranges", "standing", "[I", true)
  | 10 => ("BellTable$Ranges", "pieceTakes", "[I", true)
  | 11 => ("BellTable$Ranges", "weighed", "Z", false)
  | _ => ("BellTable$Ranges", "restPrice", "[I", true)
def tyX7 : Nat → FieldType := fun k => match k with
  | 0 => .object "BellTable$Strokes"
  | 1 => .object "BellTable$Manners"
  | 2 => .object "BellTable$Hands"
  | 3 => .array .int
  | 4 => .boolean
  | 5 => .int
  | 6 => .int
  | 7 => .long
  | 8 => .array .int
  | 9 => .array .int
  | 10 => .array .int
  | 11 => .boolean
  | _ => .array .int
abbrev wsX70 : List Cond := u_ws RX7 TX7 13
theorem nmX7 : ∀ a, a < 13 → ∀ b, b < 13 → a ≠ b → (TX7 a).2.1 ≠ (TX7 b).2.1 := by decide +kernel
theorem tyX7_ok : ∀ k, k < 13 → parseFieldDescriptor (TX7 k).2.2.1 = some (tyX7 k) := by decide +kernel
abbrev cX7_init : ByteArray := prog_9_method_1_code
def yX7_init : MethodName := ⟨RX7, "<init>", "(LBellTable$Strokes;LBellTable$Manners;LBellTable$Hands;)V"⟩
abbrev cX7_takesIn : ByteArray := prog_9_method_2_code
def yX7_takesIn : MethodName := ⟨RX7, "takesIn", "(I)I"⟩
abbrev cX7_changesIn : ByteArray := prog_9_method_3_code
def yX7_changesIn : MethodName := ⟨RX7, "changesIn", "(I)I"⟩
abbrev cX7_takeScore : ByteArray := prog_9_method_4_code
def yX7_takeScore : MethodName := ⟨RX7, "takeScore", "()V"⟩
abbrev cX7_uses : ByteArray := prog_9_method_5_code
def yX7_uses : MethodName := ⟨RX7, "uses", "(I)Z"⟩
abbrev cX7_weighAnew : ByteArray := prog_9_method_6_code
def yX7_weighAnew : MethodName := ⟨RX7, "weighAnew", "()V"⟩
abbrev cX7_dropParting : ByteArray := prog_9_method_7_code
def yX7_dropParting : MethodName := ⟨RX7, "dropParting", "()V"⟩
abbrev cX7_stand : ByteArray := prog_9_method_8_code
def yX7_stand : MethodName := ⟨RX7, "stand", "(I)V"⟩
abbrev cX7_bellsOf : ByteArray := prog_9_method_9_code
def yX7_bellsOf : MethodName := ⟨RX7, "bellsOf", "(I)J"⟩
abbrev cX7_settle : ByteArray := prog_9_method_10_code
def yX7_settle : MethodName := ⟨RX7, "settle", "(Z)I"⟩
abbrev cX7_weighPieces : ByteArray := prog_9_method_11_code
def yX7_weighPieces : MethodName := ⟨RX7, "weighPieces", "()V"⟩
abbrev cX7_longestFrom : ByteArray := prog_9_method_12_code
def yX7_longestFrom : MethodName := ⟨RX7, "longestFrom", "(I)I"⟩
abbrev cX7_leastFrom : ByteArray := prog_9_method_13_code
def yX7_leastFrom : MethodName := ⟨RX7, "leastFrom", "(IIZ)I"⟩
abbrev cX7_priceWith : ByteArray := prog_9_method_14_code
def yX7_priceWith : MethodName := ⟨RX7, "priceWith", "(IIIZ)I"⟩
abbrev cX7_countChanges : ByteArray := prog_9_method_15_code
def yX7_countChanges : MethodName := ⟨RX7, "countChanges", "(III)I"⟩
abbrev cX7_handOut : ByteArray := prog_9_method_16_code
def yX7_handOut : MethodName := ⟨RX7, "handOut", "(Z)V"⟩
def RX8 : String := "BellTable$Sound"
def TX8 : u_T := fun k => match k with
  | 0 => ("BellTable$Sound", "score", "LBellTable$Strokes;", true)
  | 1 => ("BellTable$Sound", "ends", "[I", true)
  | 2 => ("BellTable$Sound", "first", "I", false)
  | 3 => ("BellTable$Sound", "second", "I", false)
  | _ => ("BellTable$Sound", "nextBeat", "[I", true)
def tyX8 : Nat → FieldType := fun k => match k with
  | 0 => .object "BellTable$Strokes"
  | 1 => .array .int
  | 2 => .int
  | 3 => .int
  | _ => .array .int
abbrev wsX80 : List Cond := u_ws RX8 TX8 5
theorem nmX8 : ∀ a, a < 5 → ∀ b, b < 5 → a ≠ b → (TX8 a).2.1 ≠ (TX8 b).2.1 := by decide +kernel
theorem tyX8_ok : ∀ k, k < 5 → parseFieldDescriptor (TX8 k).2.2.1 = some (tyX8 k) := by decide +kernel
abbrev cX8_init : ByteArray := prog_10_method_1_code
def yX8_init : MethodName := ⟨RX8, "<init>", "(LBellTable$Strokes;)V"⟩
abbrev cX8_measure : ByteArray := prog_10_method_2_code
def yX8_measure : MethodName := ⟨RX8, "measure", "()V"⟩
abbrev cX8_walkTo : ByteArray := prog_10_method_3_code
def yX8_walkTo : MethodName := ⟨RX8, "walkTo", "(I)I"⟩
abbrev cX8_beatsOfBoth : ByteArray := prog_10_method_4_code
def yX8_beatsOfBoth : MethodName := ⟨RX8, "beatsOfBoth", "()I"⟩
abbrev cX8_cutDown : ByteArray := prog_10_method_5_code
def yX8_cutDown : MethodName := ⟨RX8, "cutDown", "()I"⟩
abbrev cX8_lengthDamped : ByteArray := prog_10_method_6_code
def yX8_lengthDamped : MethodName := ⟨RX8, "lengthDamped", "(I)I"⟩
abbrev cX8_areNext : ByteArray := prog_10_method_7_code
def yX8_areNext : MethodName := ⟨RX8, "areNext", "(II)Z"⟩
def RX9 : String := "BellTable$Strokes"
def TX9 : u_T := fun k => match k with
  | 0 => ("BellTable$Strokes", "beat", "[I", true)
  | 1 => ("BellTable$Strokes", "bell", "[I", true)
  | 2 => ("BellTable$Strokes", "length", "[I", true)
  | 3 => ("BellTable$Strokes", "manner", "[I", true)
  | _ => ("BellTable$Strokes", "size", "I", false)
def tyX9 : Nat → FieldType := fun k => match k with
  | 0 => .array .int
  | 1 => .array .int
  | 2 => .array .int
  | 3 => .array .int
  | _ => .int
abbrev wsX90 : List Cond := u_ws RX9 TX9 5
theorem nmX9 : ∀ a, a < 5 → ∀ b, b < 5 → a ≠ b → (TX9 a).2.1 ≠ (TX9 b).2.1 := by decide +kernel
theorem tyX9_ok : ∀ k, k < 5 → parseFieldDescriptor (TX9 k).2.2.1 = some (tyX9 k) := by decide +kernel
abbrev cX9_init : ByteArray := prog_11_method_1_code
def yX9_init : MethodName := ⟨RX9, "<init>", "()V"⟩
abbrev cX9_hasNumber : ByteArray := prog_11_method_2_code
def yX9_hasNumber : MethodName := ⟨RX9, "hasNumber", "(I)Z"⟩
abbrev cX9_isOn : ByteArray := prog_11_method_3_code
def yX9_isOn : MethodName := ⟨RX9, "isOn", "(JI)Z"⟩
abbrev cX9_hasAt : ByteArray := prog_11_method_4_code
def yX9_hasAt : MethodName := ⟨RX9, "hasAt", "(II)Z"⟩
abbrev cX9_insert : ByteArray := prog_11_method_5_code
def yX9_insert : MethodName := ⟨RX9, "insert", "(II)I"⟩
abbrev cX9_copyFrom : ByteArray := prog_11_method_6_code
def yX9_copyFrom : MethodName := ⟨RX9, "copyFrom", "(LBellTable$Strokes;)V"⟩
def RX10 : String := "BellTable$Tape"
def TX10 : u_T := fun k => match k with
  | 0 => ("BellTable$Tape", "size", "I", false)
  | 1 => ("BellTable$Tape", "kind", "I", false)
  | 2 => ("BellTable$Tape", "number", "I", false)
  | 3 => ("BellTable$Tape", "faultKind", "I", false)
  | 4 => ("BellTable$Tape", "faultPlace", "I", false)
  | 5 => ("BellTable$Tape", "bytes", "[B", true)
  | 6 => ("BellTable$Tape", "place", "I", false)
  | _ => ("BellTable$Tape", "next", "I", false)
def tyX10 : Nat → FieldType := fun k => match k with
  | 0 => .int
  | 1 => .int
  | 2 => .int
  | 3 => .int
  | 4 => .int
  | 5 => .array .byte
  | 6 => .int
  | _ => .int
abbrev wsX100 : List Cond := u_ws RX10 TX10 8
theorem nmX10 : ∀ a, a < 8 → ∀ b, b < 8 → a ≠ b → (TX10 a).2.1 ≠ (TX10 b).2.1 := by decide +kernel
theorem tyX10_ok : ∀ k, k < 8 → parseFieldDescriptor (TX10 k).2.2.1 = some (tyX10 k) := by decide +kernel
abbrev cX10_init : ByteArray := prog_12_method_1_code
def yX10_init : MethodName := ⟨RX10, "<init>", "()V"⟩
abbrev cX10_addFour : ByteArray := prog_12_method_2_code
def yX10_addFour : MethodName := ⟨RX10, "addFour", "(I)V"⟩
abbrev cX10_start : ByteArray := prog_12_method_3_code
def yX10_start : MethodName := ⟨RX10, "start", "()V"⟩
abbrev cX10_refuse : ByteArray := prog_12_method_4_code
def yX10_refuse : MethodName := ⟨RX10, "refuse", "(I)V"⟩
abbrev cX10_readToken : ByteArray := prog_12_method_5_code
def yX10_readToken : MethodName := ⟨RX10, "readToken", "()V"⟩
abbrev cX10_readWord : ByteArray := prog_12_method_6_code
def yX10_readWord : MethodName := ⟨RX10, "readWord", "()V"⟩
abbrev cX10_readNumber : ByteArray := prog_12_method_7_code
def yX10_readNumber : MethodName := ⟨RX10, "readNumber", "()V"⟩
abbrev cX10_isWord : ByteArray := prog_12_method_8_code
def yX10_isWord : MethodName := ⟨RX10, "isWord", "(Ljava/lang/String;)Z"⟩
abbrev cX10_byteAt : ByteArray := prog_12_method_9_code
def yX10_byteAt : MethodName := ⟨RX10, "byteAt", "(I)I"⟩
abbrev cX10_isBlank : ByteArray := prog_12_method_10_code
def yX10_isBlank : MethodName := ⟨RX10, "isBlank", "(I)Z"⟩
abbrev cX10_isLetter : ByteArray := prog_12_method_11_code
def yX10_isLetter : MethodName := ⟨RX10, "isLetter", "(I)Z"⟩
abbrev cX10_isDigit : ByteArray := prog_12_method_12_code
def yX10_isDigit : MethodName := ⟨RX10, "isDigit", "(I)Z"⟩
def RX11 : String := "BellTable"
def TX11 : u_T := fun k => match k with
  | 0 => ("BellTable", "tape", "LBellTable$Tape;", true)
  | 1 => ("BellTable", "text", "LBellTable$BeatText;", true)
  | 2 => ("BellTable", "strokes", "LBellTable$Strokes;", true)
  | 3 => ("BellTable", "rules", "LBellTable$Manners;", true)
  | 4 => ("BellTable", "deft", "LBellTable$Hands;", true)
  | 5 => ("BellTable", "ranges", "LBellTable$Ranges;", true)
  | 6 => ("BellTable", "helping", "LBellTable$Helping;", true)
  | 7 => ("BellTable", "sound", "LBellTable$Sound;", true)
  | 8 => ("BellTable", "listening", "LBellTable$Listening;", true)
  | 9 => ("BellTable", "days", "LBellTable$Days;", true)
  | 10 => ("BellTable", "missing", "[Z", true)
  | _ => ("BellTable", "told", "I", false)
def tyX11 : Nat → FieldType := fun k => match k with
  | 0 => .object "BellTable$Tape"
  | 1 => .object "BellTable$BeatText"
  | 2 => .object "BellTable$Strokes"
  | 3 => .object "BellTable$Manners"
  | 4 => .object "BellTable$Hands"
  | 5 => .object "BellTable$Ranges"
  | 6 => .object "BellTable$Helping"
  | 7 => .object "BellTable$Sound"
  | 8 => .object "BellTable$Listening"
  | 9 => .object "BellTable$Days"
  | 10 => .array .boolean
  | _ => .int
abbrev wsX110 : List Cond := u_ws RX11 TX11 12
theorem nmX11 : ∀ a, a < 12 → ∀ b, b < 12 → a ≠ b → (TX11 a).2.1 ≠ (TX11 b).2.1 := by decide +kernel
theorem tyX11_ok : ∀ k, k < 12 → parseFieldDescriptor (TX11 k).2.2.1 = some (tyX11 k) := by decide +kernel
abbrev cX11_init : ByteArray := prog_1_method_1_code
def yX11_init : MethodName := ⟨RX11, "<init>", "()V"⟩
abbrev cX11_feed : ByteArray := prog_1_method_2_code
def yX11_feed : MethodName := ⟨RX11, "feed", "(IIIII)I"⟩
abbrev cX11_end : ByteArray := prog_1_method_3_code
def yX11_end : MethodName := ⟨RX11, "end", "(I)I"⟩
abbrev cX11_score : ByteArray := prog_1_method_4_code
def yX11_score : MethodName := ⟨RX11, "score", "()I"⟩
abbrev cX11_manners : ByteArray := prog_1_method_5_code
def yX11_manners : MethodName := ⟨RX11, "manners", "()I"⟩
abbrev cX11_fault : ByteArray := prog_1_method_6_code
def yX11_fault : MethodName := ⟨RX11, "fault", "(I)I"⟩
abbrev cX11_rule : ByteArray := prog_1_method_7_code
def yX11_rule : MethodName := ⟨RX11, "rule", "(I)I"⟩
abbrev cX11_stroke : ByteArray := prog_1_method_8_code
def yX11_stroke : MethodName := ⟨RX11, "stroke", "(II)I"⟩
abbrev cX11_ringers : ByteArray := prog_1_method_9_code
def yX11_ringers : MethodName := ⟨RX11, "ringers", "(I)I"⟩
abbrev cX11_absent : ByteArray := prog_1_method_10_code
def yX11_absent : MethodName := ⟨RX11, "absent", "(IZ)I"⟩
abbrev cX11_hands : ByteArray := prog_1_method_11_code
def yX11_hands : MethodName := ⟨RX11, "hands", "(J)I"⟩
abbrev cX11_hand : ByteArray := prog_1_method_12_code
def yX11_hand : MethodName := ⟨RX11, "hand", "(I)I"⟩
abbrev cX11_part : ByteArray := prog_1_method_13_code
def yX11_part : MethodName := ⟨RX11, "part", "()I"⟩
abbrev cX11_give : ByteArray := prog_1_method_14_code
def yX11_give : MethodName := ⟨RX11, "give", "(II)I"⟩
abbrev cX11_parted : ByteArray := prog_1_method_15_code
def yX11_parted : MethodName := ⟨RX11, "parted", "(I)I"⟩
abbrev cX11_load : ByteArray := prog_1_method_16_code
def yX11_load : MethodName := ⟨RX11, "load", "(I)I"⟩
abbrev cX11_cover : ByteArray := prog_1_method_17_code
def yX11_cover : MethodName := ⟨RX11, "cover", "(I)I"⟩
abbrev cX11_help : ByteArray := prog_1_method_18_code
def yX11_help : MethodName := ⟨RX11, "help", "(I)I"⟩
abbrev cX11_helped : ByteArray := prog_1_method_19_code
def yX11_helped : MethodName := ⟨RX11, "helped", "(I)I"⟩
abbrev cX11_clashes : ByteArray := prog_1_method_20_code
def yX11_clashes : MethodName := ⟨RX11, "clashes", "()I"⟩
abbrev cX11_clash : ByteArray := prog_1_method_21_code
def yX11_clash : MethodName := ⟨RX11, "clash", "(II)I"⟩
abbrev cX11_damp : ByteArray := prog_1_method_22_code
def yX11_damp : MethodName := ⟨RX11, "damp", "()I"⟩
abbrev cX11_heard : ByteArray := prog_1_method_23_code
def yX11_heard : MethodName := ⟨RX11, "heard", "()I"⟩
abbrev cX11_laid : ByteArray := prog_1_method_24_code
def yX11_laid : MethodName := ⟨RX11, "laid", "(II)I"⟩
abbrev cX11_more : ByteArray := prog_1_method_25_code
def yX11_more : MethodName := ⟨RX11, "more", "()I"⟩
abbrev cX11_blame : ByteArray := prog_1_method_26_code
def yX11_blame : MethodName := ⟨RX11, "blame", "(I)I"⟩
abbrev cX11_pass : ByteArray := prog_1_method_27_code
def yX11_pass : MethodName := ⟨RX11, "pass", "(I)I"⟩
abbrev cX11_away : ByteArray := prog_1_method_28_code
def yX11_away : MethodName := ⟨RX11, "away", "(III)I"⟩
abbrev cX11_back : ByteArray := prog_1_method_29_code
def yX11_back : MethodName := ⟨RX11, "back", "(II)I"⟩
abbrev cX11_there : ByteArray := prog_1_method_30_code
def yX11_there : MethodName := ⟨RX11, "there", "(III)I"⟩
abbrev cX11_key : ByteArray := prog_1_method_31_code
def yX11_key : MethodName := ⟨RX11, "key", "(II)I"⟩
abbrev cX11_keyed : ByteArray := prog_1_method_32_code
def yX11_keyed : MethodName := ⟨RX11, "keyed", "(I)I"⟩
abbrev cX11_count : ByteArray := prog_1_method_33_code
def yX11_count : MethodName := ⟨RX11, "count", "(I)I"⟩
abbrev cX11_isBell : ByteArray := prog_1_method_34_code
def yX11_isBell : MethodName := ⟨RX11, "isBell", "(I)Z"⟩
abbrev cX11_isDay : ByteArray := prog_1_method_35_code
def yX11_isDay : MethodName := ⟨RX11, "isDay", "(I)Z"⟩
abbrev cX11_orNone : ByteArray := prog_1_method_36_code
def yX11_orNone : MethodName := ⟨RX11, "orNone", "(I)I"⟩
abbrev cX11_isRinger : ByteArray := prog_1_method_37_code
def yX11_isRinger : MethodName := ⟨RX11, "isRinger", "(I)Z"⟩
abbrev cX11_canHelp : ByteArray := prog_1_method_38_code
def yX11_canHelp : MethodName := ⟨RX11, "canHelp", "(I)Z"⟩
abbrev cX11_standAllBut : ByteArray := prog_1_method_39_code
def yX11_standAllBut : MethodName := ⟨RX11, "standAllBut", "(I)V"⟩
abbrev cX11_countMissing : ByteArray := prog_1_method_40_code
def yX11_countMissing : MethodName := ⟨RX11, "countMissing", "()I"⟩
abbrev cX11_countWithBell : ByteArray := prog_1_method_41_code
def yX11_countWithBell : MethodName := ⟨RX11, "countWithBell", "()I"⟩
def RX12 : String := "BellTableModel$Stop"
def TX12 : u_T := fun k => match k with
  | 0 => ("java/lang/Throwable", "cause", "Ljava/lang/Throwable;", false)
  | 1 => ("java/lang/Throwable", "stackTrace", "[Ljava/lang/StackTraceElement;", false)
  | 2 => ("java/lang/Throwable", "suppressedExceptions", "Ljava/util/List;", false)
  | 3 => ("java/lang/Throwable", "detailMessage", "Ljava/lang/String;", false)
  | 4 => ("java/lang/Throwable", "backtrace", "Ljava/lang/Object;", false)
  | _ => ("java/lang/Throwable", "depth", "I", false)
def tyX12 : Nat → FieldType := fun k => match k with
  | 0 => .object "java/lang/Throwable"
  | 1 => .array (.object "java/lang/StackTraceElement")
  | 2 => .object "java/util/List"
  | 3 => .object "java/lang/String"
  | 4 => .object "java/lang/Object"
  | _ => .int
abbrev wsX120 : List Cond := u_ws RX12 TX12 6
theorem nmX12 : ∀ a, a < 6 → ∀ b, b < 6 → a ≠ b → (TX12 a).2.1 ≠ (TX12 b).2.1 := by decide +kernel
theorem tyX12_ok : ∀ k, k < 6 → parseFieldDescriptor (TX12 k).2.2.1 = some (tyX12 k) := by decide +kernel
abbrev cX12_init : ByteArray := prog_15_method_1_code
def yX12_init : MethodName := ⟨RX12, "<init>", "()V"⟩
def RX13 : String := "BellTableModel"
def TX13 : u_T := fun k => match k with
  | 0 => ("BellTableModel", "stop", "LBellTableModel$Stop;", true)
  | 1 => ("BellTableModel", "tape", "[B", true)
  | 2 => ("BellTableModel", "taped", "I", false)
  | 3 => ("BellTableModel", "length", "I", false)
  | 4 => ("BellTableModel", "from", "I", false)
  | 5 => ("BellTableModel", "behind", "I", false)
  | 6 => ("BellTableModel", "hand", "I", false)
  | 7 => ("BellTableModel", "value", "I", false)
  | 8 => ("BellTableModel", "fault", "I", false)
  | 9 => ("BellTableModel", "faultAt", "I", false)
  | 10 => ("BellTableModel", "strokes", "I", false)
  | 11 => ("BellTableModel", "readMany", "I", false)
  | 12 => ("BellTableModel", "beat", "[I", true)
  | 13 => ("BellTableModel", "bell", "[I", true)
  | 14 => ("BellTableModel", "lengthOf", "[I", true)
  | 15 => ("BellTableModel", "manner", "[I", true)
  | 16 => ("BellTableModel", "readBeat", "[I", true)
  | 17 => ("BellTableModel", "readBell", "[I", true)
  | 18 => ("BellTableModel", "readLength", "[I", true)
  | 19 => ("BellTableModel", "readManner", "[I", true)
  | 20 => ("BellTableModel", "readRule", "[I", true)
  | 21 => ("BellTableModel", "rule", "[I", true)
  | 22 => ("BellTableModel", "isTold", "[Z", true)
  | 23 => ("BellTableModel", "ringers", "I", false)
  | 24 => ("BellTableModel", "isAbsent", "[Z", true)
  | 25 => ("BellTableModel", "parted", "[I", true)
  | 26 => ("BellTableModel", "hasParting", "Z", false)
  | 27 => ("BellTableModel", "own", "[I", true)
  | 28 => ("BellTableModel", "fewest", "[I", true)
  | 29 => ("BellTableModel", "handOf", "[I", true)
  | 30 => ("BellTableModel", "last", "[I", true)
  | 31 => ("BellTableModel", "ownMany", "I", false)
  | 32 => ("BellTableModel", "hasHands", "Z", false)
  | 33 => ("BellTableModel", "used", "[I", true)
  | 34 => ("BellTableModel", "there", "[I", true)
  | 35 => ("BellTableModel", "pieceTakes", "[I", true)
  | 36 => ("BellTableModel", "bestChanged", "[I", true)
  | 37 => ("BellTableModel", "bestTakes", "[I", true)
  | 38 => ("BellTableModel", "bestWith", "[I", true)
  | 39 => ("BellTableModel", "had", "[I", true)
  | 40 => ("BellTableModel", "usedMany", "I", false)
  | 41 => ("BellTableModel", "thereMany", "I", false)
  | 42 => ("BellTableModel", "helpStroke", "I", false)
  | 43 => ("BellTableModel", "helpRinger", "I", false)
  | 44 => ("BellTableModel", "hasHelp", "Z", false)
  | 45 => ("BellTableModel", "heardMany", "I", false)
  | 46 => ("BellTableModel", "mores", "I", false)
  | 47 => ("BellTableModel", "heardBeat", "[I", true)
  | 48 => ("BellTableModel", "heardBell", "[I", true)
  | 49 => ("BellTableModel", "pairOf", "[I", true)
  | 50 => ("BellTableModel", "pointsFrom", "[I", true)
  | 51 => ("BellTableModel", "isMore", "[Z", true)
  | 52 => ("BellTableModel", "hasHeard", "Z", false)
  | 53 => ("BellTableModel", "clock", "I", false)
  | 54 => ("BellTableModel", "aways", "I", false)
  | 55 => ("BellTableModel", "keyMove", "I", false)
  | 56 => ("BellTableModel", "keyOut", "I", false)
  | 57 => ("BellTableModel", "keyOctave", "I", false)
  | 58 => ("BellTableModel", "awayBell", "[I", true)
  | 59 => ("BellTableModel", "awayFrom", "[I", true)
  | 60 => ("BellTableModel", "awayTo", "[I", true)
  | 61 => ("BellTableModel", "awayKnown", "[I", true)
  | 62 => ("BellTableModel", "backFrom", "[I", true)
  | 63 => ("BellTableModel", "backKnown", "[I", true)
  | 64 => ("BellTableModel", "hasBack", "[Z", true)
  | _ => ("BellTableModel", "hasKey", "Z", false)
def tyX13 : Nat → FieldType := fun k => match k with
  | 0 => .object "BellTableModel$Stop"
  | 1 => .array .byte
  | 2 => .int
  | 3 => .int
  | 4 => .int
  | 5 => .int
  | 6 => .int
  | 7 => .int
  | 8 => .int
  | 9 => .int
  | 10 => .int
  | 11 => .int
  | 12 => .array .int
  | 13 => .array .int
  | 14 => .array .int
  | 15 => .array .int
  | 16 => .array .int
  | 17 => .array .int
  | 18 => .array .int
  | 19 => .array .int
  | 20 => .array .int
  | 21 => .array .int
  | 22 => .array .boolean
  | 23 => .int
  | 24 => .array .boolean
  | 25 => .array .int
  | 26 => .boolean
  | 27 => .array .int
  | 28 => .array .int
  | 29 => .array .int
  | 30 => .array .int
  | 31 => .int
  | 32 => .boolean
  | 33 => .array .int
  | 34 => .array .int
  | 35 => .array .int
  | 36 => .array .int
  | 37 => .array .int
  | 38 => .array .int
  | 39 => .array .int
  | 40 => .int
  | 41 => .int
  | 42 => .int
  | 43 => .int
  | 44 => .boolean
  | 45 => .int
  | 46 => .int
  | 47 => .array .int
  | 48 => .array .int
  | 49 => .array .int
  | 50 => .array .int
  | 51 => .array .boolean
  | 52 => .boolean
  | 53 => .int
  | 54 => .int
  | 55 => .int
  | 56 => .int
  | 57 => .int
  | 58 => .array .int
  | 59 => .array .int
  | 60 => .array .int
  | 61 => .array .int
  | 62 => .array .int
  | 63 => .array .int
  | 64 => .array .boolean
  | _ => .boolean
abbrev wsX130 : List Cond := u_ws RX13 TX13 66
theorem nmX13 : ∀ a, a < 66 → ∀ b, b < 66 → a ≠ b → (TX13 a).2.1 ≠ (TX13 b).2.1 := by decide +kernel
theorem tyX13_ok : ∀ k, k < 66 → parseFieldDescriptor (TX13 k).2.2.1 = some (tyX13 k) := by decide +kernel
abbrev cX13_in : ByteArray := prog_14_method_1_code
def yX13_in : MethodName := ⟨RX13, "in", "(JJJ)Z"⟩
abbrev cX13_isDay : ByteArray := prog_14_method_2_code
def yX13_isDay : MethodName := ⟨RX13, "isDay", "(I)Z"⟩
abbrev cX13_wrong : ByteArray := prog_14_method_3_code
def yX13_wrong : MethodName := ⟨RX13, "wrong", "(I)LBellTableModel$Stop;"⟩
abbrev cX13_byteAt : ByteArray := prog_14_method_4_code
def yX13_byteAt : MethodName := ⟨RX13, "byteAt", "(I)I"⟩
abbrev cX13_isSmall : ByteArray := prog_14_method_5_code
def yX13_isSmall : MethodName := ⟨RX13, "isSmall", "(I)Z"⟩
abbrev cX13_isDigit : ByteArray := prog_14_method_6_code
def yX13_isDigit : MethodName := ⟨RX13, "isDigit", "(I)Z"⟩
abbrev cX13_scan : ByteArray := prog_14_method_7_code
def yX13_scan : MethodName := ⟨RX13, "scan", "()V"⟩
abbrev cX13_is : ByteArray := prog_14_method_8_code
def yX13_is : MethodName := ⟨RX13, "is", "(Ljava/lang/String;)Z"⟩
abbrev cX13_need : ByteArray := prog_14_method_9_code
def yX13_need : MethodName := ⟨RX13, "need", "(ZI)V"⟩
abbrev cX13_look : ByteArray := prog_14_method_10_code
def yX13_look : MethodName := ⟨RX13, "look", "(II)I"⟩
abbrev cX13_number : ByteArray := prog_14_method_11_code
def yX13_number : MethodName := ⟨RX13, "number", "(II)I"⟩
abbrev cX13_begin : ByteArray := prog_14_method_12_code
def yX13_begin : MethodName := ⟨RX13, "begin", "()V"⟩
abbrev cX13_readBeats : ByteArray := prog_14_method_13_code
def yX13_readBeats : MethodName := ⟨RX13, "readBeats", "(Z)V"⟩
abbrev cX13_readStroke : ByteArray := prog_14_method_14_code
def yX13_readStroke : MethodName := ⟨RX13, "readStroke", "(IZ)V"⟩
abbrev cX13_feed : ByteArray := prog_14_method_15_code
def yX13_feed : MethodName := ⟨RX13, "feed", "(IIIII)I"⟩
abbrev cX13_lay : ByteArray := prog_14_method_16_code
def yX13_lay : MethodName := ⟨RX13, "lay", "(I)V"⟩
abbrev cX13_end : ByteArray := prog_14_method_17_code
def yX13_end : MethodName := ⟨RX13, "end", "(I)I"⟩
abbrev cX13_init : ByteArray := prog_14_method_18_code
def yX13_init : MethodName := ⟨RX13, "<init>", "()V"⟩
abbrev cX13_score : ByteArray := prog_14_method_19_code
def yX13_score : MethodName := ⟨RX13, "score", "()I"⟩
abbrev cX13_ruleAtHand : ByteArray := prog_14_method_20_code
def yX13_ruleAtHand : MethodName := ⟨RX13, "ruleAtHand", "()I"⟩
abbrev cX13_readManners : ByteArray := prog_14_method_21_code
def yX13_readManners : MethodName := ⟨RX13, "readManners", "()I"⟩
abbrev cX13_manners : ByteArray := prog_14_method_22_code
def yX13_manners : MethodName := ⟨RX13, "manners", "()I"⟩
abbrev cX13_fault : ByteArray := prog_14_method_23_code
def yX13_fault : MethodName := ⟨RX13, "fault", "(I)I"⟩
abbrev cX13_rule : ByteArray := prog_14_method_24_code
def yX13_rule : MethodName := ⟨RX13, "rule", "(I)I"⟩
abbrev cX13_endOf : ByteArray := prog_14_method_25_code
def yX13_endOf : MethodName := ⟨RX13, "endOf", "(I)I"⟩
abbrev cX13_isStroke : ByteArray := prog_14_method_26_code
def yX13_isStroke : MethodName := ⟨RX13, "isStroke", "(I)Z"⟩
abbrev cX13_stroke : ByteArray := prog_14_method_27_code
def yX13_stroke : MethodName := ⟨RX13, "stroke", "(II)I"⟩
abbrev cX13_isRinger : ByteArray := prog_14_method_28_code
def yX13_isRinger : MethodName := ⟨RX13, "isRinger", "(I)Z"⟩
abbrev cX13_ringers : ByteArray := prog_14_method_29_code
def yX13_ringers : MethodName := ⟨RX13, "ringers", "(I)I"⟩
abbrev cX13_absent : ByteArray := prog_14_method_30_code
def yX13_absent : MethodName := ⟨RX13, "absent", "(IZ)I"⟩
abbrev cX13_isUsed : ByteArray := prog_14_method_31_code
def yX13_isUsed : MethodName := ⟨RX13, "isUsed", "(I)Z"⟩
abbrev cX13_cell : ByteArray := prog_14_method_32_code
def yX13_cell : MethodName := ⟨RX13, "cell", "(III)I"⟩
abbrev cX13_heldBell : ByteArray := prog_14_method_33_code
def yX13_heldBell : MethodName := ⟨RX13, "heldBell", "(I)I"⟩
abbrev cX13_go : ByteArray := prog_14_method_34_code
def yX13_go : MethodName := ⟨RX13, "go", "(II)I"⟩
abbrev cX13_takesBy : ByteArray := prog_14_method_35_code
def yX13_takesBy : MethodName := ⟨RX13, "takesBy", "(IIII)I"⟩
abbrev cX13_takesFrom : ByteArray := prog_14_method_36_code
def yX13_takesFrom : MethodName := ⟨RX13, "takesFrom", "(IIII)I"⟩
abbrev cX13_findHands : ByteArray := prog_14_method_37_code
def yX13_findHands : MethodName := ⟨RX13, "findHands", "()I"⟩
abbrev cX13_takeBells : ByteArray := prog_14_method_38_code
def yX13_takeBells : MethodName := ⟨RX13, "takeBells", "(J)V"⟩
abbrev cX13_takesOf : ByteArray := prog_14_method_39_code
def yX13_takesOf : MethodName := ⟨RX13, "takesOf", "(J)I"⟩
abbrev cX13_hands : ByteArray := prog_14_method_40_code
def yX13_hands : MethodName := ⟨RX13, "hands", "(J)I"⟩
abbrev cX13_hand : ByteArray := prog_14_method_41_code
def yX13_hand : MethodName := ⟨RX13, "hand", "(I)I"⟩
abbrev cX13_findUsed : ByteArray := prog_14_method_42_code
def yX13_findUsed : MethodName := ⟨RX13, "findUsed", "()V"⟩
abbrev cX13_findPieces : ByteArray := prog_14_method_43_code
def yX13_findPieces : MethodName := ⟨RX13, "findPieces", "()V"⟩
abbrev cX13_changedIn : ByteArray := prog_14_method_44_code
def yX13_changedIn : MethodName := ⟨RX13, "changedIn", "(III)I"⟩
abbrev cX13_spot : ByteArray := prog_14_method_45_code
def yX13_spot : MethodName := ⟨RX13, "spot", "(II)I"⟩
abbrev cX13_compare : ByteArray := prog_14_method_46_code
def yX13_compare : MethodName := ⟨RX13, "compare", "(IIIIII)I"⟩
abbrev cX13_mayHave : ByteArray := prog_14_method_47_code
def yX13_mayHave : MethodName := ⟨RX13, "mayHave", "(III)Z"⟩
abbrev cX13_findRanges : ByteArray := prog_14_method_48_code
def yX13_findRanges : MethodName := ⟨RX13, "findRanges", "()Z"⟩
abbrev cX13_takeRanges : ByteArray := prog_14_method_49_code
def yX13_takeRanges : MethodName := ⟨RX13, "takeRanges", "()V"⟩
abbrev cX13_findThere : ByteArray := prog_14_method_50_code
def yX13_findThere : MethodName := ⟨RX13, "findThere", "(I)V"⟩
abbrev cX13_forgetHad : ByteArray := prog_14_method_51_code
def yX13_forgetHad : MethodName := ⟨RX13, "forgetHad", "()V"⟩
abbrev cX13_part : ByteArray := prog_14_method_52_code
def yX13_part : MethodName := ⟨RX13, "part", "()I"⟩
abbrev cX13_give : ByteArray := prog_14_method_53_code
def yX13_give : MethodName := ⟨RX13, "give", "(II)I"⟩
abbrev cX13_parted : ByteArray := prog_14_method_54_code
def yX13_parted : MethodName := ⟨RX13, "parted", "(I)I"⟩
abbrev cX13_bellsOf : ByteArray := prog_14_method_55_code
def yX13_bellsOf : MethodName := ⟨RX13, "bellsOf", "(I)J"⟩
abbrev cX13_load : ByteArray := prog_14_method_56_code
def yX13_load : MethodName := ⟨RX13, "load", "(I)I"⟩
abbrev cX13_cover : ByteArray := prog_14_method_57_code
def yX13_cover : MethodName := ⟨RX13, "cover", "(I)I"⟩
abbrev cX13_takesWith : ByteArray := prog_14_method_58_code
def yX13_takesWith : MethodName := ⟨RX13, "takesWith", "(III)I"⟩
abbrev cX13_help : ByteArray := prog_14_method_59_code
def yX13_help : MethodName := ⟨RX13, "help", "(I)I"⟩
abbrev cX13_helped : ByteArray := prog_14_method_60_code
def yX13_helped : MethodName := ⟨RX13, "helped", "(I)I"⟩
abbrev cX13_isClash : ByteArray := prog_14_method_61_code
def yX13_isClash : MethodName := ⟨RX13, "isClash", "(II)Z"⟩
abbrev cX13_clashes : ByteArray := prog_14_method_62_code
def yX13_clashes : MethodName := ⟨RX13, "clashes", "()I"⟩
abbrev cX13_clash : ByteArray := prog_14_method_63_code
def yX13_clash : MethodName := ⟨RX13, "clash", "(II)I"⟩
abbrev cX13_damp : ByteArray := prog_14_method_64_code
def yX13_damp : MethodName := ⟨RX13, "damp", "()I"⟩
abbrev cX13_pairPoints : ByteArray := prog_14_method_65_code
def yX13_pairPoints : MethodName := ⟨RX13, "pairPoints", "(II)I"⟩
abbrev cX13_place : ByteArray := prog_14_method_66_code
def yX13_place : MethodName := ⟨RX13, "place", "(II)I"⟩
abbrev cX13_pairFrom : ByteArray := prog_14_method_67_code
def yX13_pairFrom : MethodName := ⟨RX13, "pairFrom", "(II)I"⟩
abbrev cX13_missedFrom : ByteArray := prog_14_method_68_code
def yX13_missedFrom : MethodName := ⟨RX13, "missedFrom", "(II)I"⟩
abbrev cX13_moreFrom : ByteArray := prog_14_method_69_code
def yX13_moreFrom : MethodName := ⟨RX13, "moreFrom", "(II)I"⟩
abbrev cX13_heard : ByteArray := prog_14_method_70_code
def yX13_heard : MethodName := ⟨RX13, "heard", "()I"⟩
abbrev cX13_laid : ByteArray := prog_14_method_71_code
def yX13_laid : MethodName := ⟨RX13, "laid", "(II)I"⟩
abbrev cX13_more : ByteArray := prog_14_method_72_code
def yX13_more : MethodName := ⟨RX13, "more", "()I"⟩
abbrev cX13_blame : ByteArray := prog_14_method_73_code
def yX13_blame : MethodName := ⟨RX13, "blame", "(I)I"⟩
abbrev cX13_pass : ByteArray := prog_14_method_74_code
def yX13_pass : MethodName := ⟨RX13, "pass", "(I)I"⟩
abbrev cX13_away : ByteArray := prog_14_method_75_code
def yX13_away : MethodName := ⟨RX13, "away", "(III)I"⟩
abbrev cX13_back : ByteArray := prog_14_method_76_code
def yX13_back : MethodName := ⟨RX13, "back", "(II)I"⟩
abbrev cX13_isThere : ByteArray := prog_14_method_77_code
def yX13_isThere : MethodName := ⟨RX13, "isThere", "(III)Z"⟩
abbrev cX13_there : ByteArray := prog_14_method_78_code
def yX13_there : MethodName := ⟨RX13, "there", "(III)I"⟩
abbrev cX13_key : ByteArray := prog_14_method_79_code
def yX13_key : MethodName := ⟨RX13, "key", "(II)I"⟩
abbrev cX13_keyed : ByteArray := prog_14_method_80_code
def yX13_keyed : MethodName := ⟨RX13, "keyed", "(I)I"⟩
abbrev cX13_count : ByteArray := prog_14_method_81_code
def yX13_count : MethodName := ⟨RX13, "count", "(I)I"⟩
def RJ9 : String := "java/lang/Math"
def TJ9 : u_T := fun k => match k with
  | _ => ("", "", "", false)
def tyJ9 : Nat → FieldType := fun k => match k with
  | _ => .int
abbrev wsJ90 : List Cond := u_ws RJ9 TJ9 0
theorem nmJ9 : ∀ a, a < 0 → ∀ b, b < 0 → a ≠ b → (TJ9 a).2.1 ≠ (TJ9 b).2.1 := by decide +kernel
theorem tyJ9_ok : ∀ k, k < 0 → parseFieldDescriptor (TJ9 k).2.2.1 = some (tyJ9 k) := by decide +kernel
abbrev cJ9_abs_0f7a4 : ByteArray := prog_17_method_59_code
def yJ9_abs_0f7a4 : MethodName := ⟨RJ9, "abs", "(I)I"⟩
abbrev cJ9_max_7cf53 : ByteArray := prog_17_method_65_code
def yJ9_max_7cf53 : MethodName := ⟨RJ9, "max", "(II)I"⟩
abbrev cJ9_min_7cf53 : ByteArray := prog_17_method_69_code
def yJ9_min_7cf53 : MethodName := ⟨RJ9, "min", "(II)I"⟩
def RJ0 : String := "java/lang/String"
def TJ0 : u_T := fun k => match k with
  | _ => ("", "", "", false)
def tyJ0 : Nat → FieldType := fun k => match k with
  | _ => .int
abbrev wsJ00 : List Cond := u_ws RJ0 TJ0 0
theorem nmJ0 : ∀ a, a < 0 → ∀ b, b < 0 → a ≠ b → (TJ0 a).2.1 ≠ (TJ0 b).2.1 := by decide +kernel
theorem tyJ0_ok : ∀ k, k < 0 → parseFieldDescriptor (TJ0 k).2.2.1 = some (tyJ0 k) := by decide +kernel
abbrev cJ0_length_8abf5 : ByteArray := prog_18_method_54_code
def yJ0_length_8abf5 : MethodName := ⟨RJ0, "length", "()I"⟩
abbrev cJ0_charAt_5068e : ByteArray := prog_18_method_56_code
def yJ0_charAt_5068e : MethodName := ⟨RJ0, "charAt", "(I)C"⟩
abbrev cJ0_coder_7d493 : ByteArray := prog_18_method_152_code
def yJ0_coder_7d493 : MethodName := ⟨RJ0, "coder", "()B"⟩
abbrev cJ0_isLatin1_aae02 : ByteArray := prog_18_method_154_code
def yJ0_isLatin1_aae02 : MethodName := ⟨RJ0, "isLatin1", "()Z"⟩
abbrev cJ0_checkIndex_df160 : ByteArray := prog_18_method_155_code
def yJ0_checkIndex_df160 : MethodName := ⟨RJ0, "checkIndex", "(II)V"⟩
def RJ1 : String := "java/lang/StringLatin1"
def TJ1 : u_T := fun k => match k with
  | _ => ("", "", "", false)
def tyJ1 : Nat → FieldType := fun k => match k with
  | _ => .int
abbrev wsJ10 : List Cond := u_ws RJ1 TJ1 0
theorem nmJ1 : ∀ a, a < 0 → ∀ b, b < 0 → a ≠ b → (TJ1 a).2.1 ≠ (TJ1 b).2.1 := by decide +kernel
theorem tyJ1_ok : ∀ k, k < 0 → parseFieldDescriptor (TJ1 k).2.2.1 = some (tyJ1 k) := by decide +kernel
abbrev cJ1_charAt_3b067 : ByteArray := prog_19_method_2_code
def yJ1_charAt_3b067 : MethodName := ⟨RJ1, "charAt", "([BI)C"⟩
def RJ2 : String := "java/lang/StringUTF16"
def TJ2 : u_T := fun k => match k with
  | _ => ("", "", "", false)
def tyJ2 : Nat → FieldType := fun k => match k with
  | _ => .int
abbrev wsJ20 : List Cond := u_ws RJ2 TJ2 0
theorem nmJ2 : ∀ a, a < 0 → ∀ b, b < 0 → a ≠ b → (TJ2 a).2.1 ≠ (TJ2 b).2.1 := by decide +kernel
theorem tyJ2_ok : ∀ k, k < 0 → parseFieldDescriptor (TJ2 k).2.2.1 = some (tyJ2 k) := by decide +kernel
abbrev cJ2_getChar_3b067 : ByteArray := prog_20_method_5_code
def yJ2_getChar_3b067 : MethodName := ⟨RJ2, "getChar", "([BI)C"⟩
abbrev cJ2_length_9d52b : ByteArray := prog_20_method_6_code
def yJ2_length_9d52b : MethodName := ⟨RJ2, "length", "([B)I"⟩
abbrev cJ2_charAt_3b067 : ByteArray := prog_20_method_83_code
def yJ2_charAt_3b067 : MethodName := ⟨RJ2, "charAt", "([BI)C"⟩
abbrev cJ2_checkIndex_2214a : ByteArray := prog_20_method_91_code
def yJ2_checkIndex_2214a : MethodName := ⟨RJ2, "checkIndex", "(I[B)V"⟩
def RJ10 : String := "java/lang/System"
def TJ10 : u_T := fun k => match k with
  | _ => ("", "", "", false)
def tyJ10 : Nat → FieldType := fun k => match k with
  | _ => .int
abbrev wsJ100 : List Cond := u_ws RJ10 TJ10 0
theorem nmJ10 : ∀ a, a < 0 → ∀ b, b < 0 → a ≠ b → (TJ10 a).2.1 ≠ (TJ10 b).2.1 := by decide +kernel
theorem tyJ10_ok : ∀ k, k < 0 → parseFieldDescriptor (TJ10 k).2.2.1 = some (tyJ10 k) := by decide +kernel
def RJ3 : String := "jdk/internal/util/Preconditions"
def TJ3 : u_T := fun k => match k with
  | _ => ("", "", "", false)
def tyJ3 : Nat → FieldType := fun k => match k with
  | _ => .int
abbrev wsJ30 : List Cond := u_ws RJ3 TJ3 0
theorem nmJ3 : ∀ a, a < 0 → ∀ b, b < 0 → a ≠ b → (TJ3 a).2.1 ≠ (TJ3 b).2.1 := by decide +kernel
theorem tyJ3_ok : ∀ k, k < 0 → parseFieldDescriptor (TJ3 k).2.2.1 = some (tyJ3 k) := by decide +kernel
abbrev cJ3_checkIndex_8e157 : ByteArray := prog_23_method_11_code
def yJ3_checkIndex_8e157 : MethodName := ⟨RJ3, "checkIndex", "(IILjava/util/function/BiFunction;)I"⟩
def RL : String := "BellTableLaw"
abbrev cL_law : ByteArray := code
def yL_law : MethodName := ⟨RL, "law", "([I)Z"⟩
end
section
/-! THE WORLD behind the two constructors: its cells by number, arrays (kind, length) and objects (class, fields) -/
abbrev Mem : Type := (Nat → Nat → Int32) × (Nat → Nat → Int64)
abbrev Shp : Type := (Nat × Nat) ⊕ (Nat × List (Nat × Nat))
def shL : List Shp := [
  .inr (11, [(1, 1), (1, 3), (1, 9), (1, 14), (1, 17), (1, 22), (1, 28), (1, 32), (1, 35), (1, 44), (1, 52), (0, 0)]),
  .inr (10, [(0, 0), (0, 0), (0, 0), (0, 0), (0, 0), (1, 2), (0, 0), (0, 0)]),
  .inl (1, 1200),
  .inr (0, [(1, 1), (1, 4), (0, 0), (0, 0), (0, 0)]),
  .inr (9, [(1, 5), (1, 6), (1, 7), (1, 8), (0, 0)]),
  .inl (0, 160),
  .inl (0, 160),
  .inl (0, 160),
  .inl (0, 160),
  .inr (9, [(1, 10), (1, 11), (1, 12), (1, 13), (0, 0)]),
  .inl (0, 160),
  .inl (0, 160),
  .inl (0, 160),
  .inl (0, 160),
  .inr (6, [(1, 15), (1, 16), (0, 0), (0, 0), (0, 0)]),
  .inl (0, 4),
  .inl (0, 4),
  .inr (3, [(1, 9), (1, 14), (1, 18), (0, 0), (1, 19), (0, 0), (1, 20), (0, 0), (1, 21)]),
  .inl (0, 160),
  .inl (0, 160),
  .inl (0, 12880),
  .inl (0, 160),
  .inr (7, [(1, 9), (1, 14), (1, 17), (1, 23), (0, 0), (0, 0), (0, 0), (2, 0), (1, 24), (1, 25), (1, 26), (0, 0), (1, 27)]),
  .inl (0, 48),
  .inl (0, 48),
  .inl (0, 12),
  .inl (0, 624),
  .inl (0, 637),
  .inr (4, [(1, 9), (1, 17), (1, 22), (0, 0), (0, 0), (1, 29), (1, 30), (1, 31), (0, 0)]),
  .inl (0, 160),
  .inl (0, 160),
  .inl (0, 160),
  .inr (8, [(1, 9), (1, 33), (0, 0), (0, 0), (1, 34)]),
  .inl (0, 160),
  .inl (0, 48),
  .inr (5, [(1, 9), (1, 36), (1, 37), (0, 0), (0, 0), (1, 38), (1, 39), (1, 40), (1, 42)]),
  .inl (0, 160),
  .inl (0, 160),
  .inl (0, 48),
  .inl (0, 161),
  .inr (1, [(1, 41)]),
  .inl (3, 483),
  .inr (1, [(1, 43)]),
  .inl (3, 483),
  .inr (2, [(1, 9), (0, 0), (0, 0), (0, 0), (0, 0), (0, 0), (0, 0), (1, 45), (1, 46), (1, 47), (1, 48), (1, 49), (1, 50), (1, 51)]),
  .inl (0, 60),
  .inl (0, 60),
  .inl (0, 60),
  .inl (0, 60),
  .inl (0, 60),
  .inl (0, 60),
  .inl (2, 48),
  .inl (2, 12),
  .inr (12, [(3, 0), (3, 0), (3, 0), (3, 0), (3, 0), (0, 0)]),
  .inr (13, [(1, 53), (1, 55), (0, 0), (0, 0), (0, 0), (0, 0), (0, 0), (0, 0), (0, 0), (0, 0), (0, 0), (0, 0), (1, 56), (1, 57), (1, 58), (1, 59), (1, 60), (1, 61), (1, 62), (1, 63), (1, 64), (1, 65), (1, 66), (0, 0), (1, 67), (1, 68), (0, 0), (1, 69), (1, 70), (1, 71), (1, 72), (0, 0), (0, 0), (1, 73), (1, 74), (1, 75), (1, 76), (1, 77), (1, 78), (1, 79), (0, 0), (0, 0), (0, 0), (0, 0), (0, 0), (0, 0), (0, 0), (1, 80), (1, 81), (1, 82), (1, 83), (1, 84), (0, 0), (0, 0), (0, 0), (0, 0), (0, 0), (0, 0), (1, 85), (1, 86), (1, 87), (1, 88), (1, 89), (1, 90), (1, 91), (0, 0)]),
  .inl (1, 1200),
  .inl (0, 160),
  .inl (0, 160),
  .inl (0, 160),
  .inl (0, 160),
  .inl (0, 160),
  .inl (0, 160),
  .inl (0, 160),
  .inl (0, 160),
  .inl (0, 4),
  .inl (0, 4),
  .inl (2, 4),
  .inl (2, 12),
  .inl (0, 48),
  .inl (0, 160),
  .inl (0, 51842),
  .inl (0, 160),
  .inl (0, 2),
  .inl (0, 48),
  .inl (0, 12),
  .inl (0, 2352),
  .inl (0, 637),
  .inl (0, 637),
  .inl (0, 637),
  .inl (0, 48),
  .inl (0, 160),
  .inl (0, 160),
  .inl (0, 160),
  .inl (0, 25921),
  .inl (2, 160),
  .inl (0, 60),
  .inl (0, 60),
  .inl (0, 60),
  .inl (0, 60),
  .inl (0, 60),
  .inl (0, 60),
  .inl (2, 60)]
theorem shL_len : shL.length = 92 := by decide +kernel
def nC : Nat := 92
/-- the words that stay good -/
def lw_w : List Cond := lw_tbl.filter goodWord
theorem lw_in {w : Cond} {i : Nat} (h : tables_1[i]? = some w) (g : goodWord w = true) : w ∈ lw_w := List.mem_filter.mpr ⟨List.mem_append_right _ (List.mem_of_getElem? h), g⟩
theorem lw_se {w : Cond} {i : Nat} (h : (k2_sels lw_privs)[i]? = some w) (g : goodWord w = true) : w ∈ lw_w := List.mem_filter.mpr ⟨List.mem_append_left _ (List.mem_of_getElem? h), g⟩
abbrev cls : List vw_C := [(RX0, TX0, 5), (RX1, TX1, 1), (RX2, TX2, 14), (RX3, TX3, 9), (RX4, TX4, 9), (RX5, TX5, 9), (RX6, TX6, 5), (RX7, TX7, 13), (RX8, TX8, 5), (RX9, TX9, 5), (RX10, TX10, 8), (RX11, TX11, 12), (RX12, TX12, 6), (RX13, TX13, 66)]
theorem inX0 : ∀ w ∈ u_ws RX0 TX0 5, w ∈ lw_w := by decide +kernel
theorem inX1 : ∀ w ∈ u_ws RX1 TX1 1, w ∈ lw_w := by decide +kernel
theorem inX2 : ∀ w ∈ u_ws RX2 TX2 14, w ∈ lw_w := by decide +kernel
theorem inX3 : ∀ w ∈ u_ws RX3 TX3 9, w ∈ lw_w := by decide +kernel
theorem inX4 : ∀ w ∈ u_ws RX4 TX4 9, w ∈ lw_w := by decide +kernel
theorem inX5 : ∀ w ∈ u_ws RX5 TX5 9, w ∈ lw_w := by decide +kernel
theorem inX6 : ∀ w ∈ u_ws RX6 TX6 5, w ∈ lw_w := by decide +kernel
theorem inX7 : ∀ w ∈ u_ws RX7 TX7 13, w ∈ lw_w := by decide +kernel
theorem inX8 : ∀ w ∈ u_ws RX8 TX8 5, w ∈ lw_w := by decide +kernel
theorem inX9 : ∀ w ∈ u_ws RX9 TX9 5, w ∈ lw_w := by decide +kernel
theorem inX10 : ∀ w ∈ u_ws RX10 TX10 8, w ∈ lw_w := by decide +kernel
theorem inX11 : ∀ w ∈ u_ws RX11 TX11 12, w ∈ lw_w := by decide +kernel
theorem inX12 : ∀ w ∈ u_ws RX12 TX12 6, w ∈ lw_w := by decide +kernel
theorem inX13 : ∀ w ∈ u_ws RX13 TX13 66, w ∈ lw_w := by decide +kernel
theorem as_2 : shL[2]? = some (.inl (1, 1200)) := by decide +kernel
theorem as_5 : shL[5]? = some (.inl (0, 160)) := by decide +kernel
theorem as_6 : shL[6]? = some (.inl (0, 160)) := by decide +kernel
theorem as_7 : shL[7]? = some (.inl (0, 160)) := by decide +kernel
theorem as_8 : shL[8]? = some (.inl (0, 160)) := by decide +kernel
theorem as_10 : shL[10]? = some (.inl (0, 160)) := by decide +kernel
theorem as_11 : shL[11]? = some (.inl (0, 160)) := by decide +kernel
theorem as_12 : shL[12]? = some (.inl (0, 160)) := by decide +kernel
theorem as_13 : shL[13]? = some (.inl (0, 160)) := by decide +kernel
theorem as_15 : shL[15]? = some (.inl (0, 4)) := by decide +kernel
theorem as_16 : shL[16]? = some (.inl (0, 4)) := by decide +kernel
theorem as_18 : shL[18]? = some (.inl (0, 160)) := by decide +kernel
theorem as_19 : shL[19]? = some (.inl (0, 160)) := by decide +kernel
theorem as_20 : shL[20]? = some (.inl (0, 12880)) := by decide +kernel
theorem as_21 : shL[21]? = some (.inl (0, 160)) := by decide +kernel
theorem as_23 : shL[23]? = some (.inl (0, 48)) := by decide +kernel
theorem as_24 : shL[24]? = some (.inl (0, 48)) := by decide +kernel
theorem as_25 : shL[25]? = some (.inl (0, 12)) := by decide +kernel
theorem as_26 : shL[26]? = some (.inl (0, 624)) := by decide +kernel
theorem as_27 : shL[27]? = some (.inl (0, 637)) := by decide +kernel
theorem as_29 : shL[29]? = some (.inl (0, 160)) := by decide +kernel
theorem as_30 : shL[30]? = some (.inl (0, 160)) := by decide +kernel
theorem as_31 : shL[31]? = some (.inl (0, 160)) := by decide +kernel
theorem as_33 : shL[33]? = some (.inl (0, 160)) := by decide +kernel
theorem as_34 : shL[34]? = some (.inl (0, 48)) := by decide +kernel
theorem as_36 : shL[36]? = some (.inl (0, 160)) := by decide +kernel
theorem as_37 : shL[37]? = some (.inl (0, 160)) := by decide +kernel
theorem as_38 : shL[38]? = some (.inl (0, 48)) := by decide +kernel
theorem as_39 : shL[39]? = some (.inl (0, 161)) := by decide +kernel
theorem as_41 : shL[41]? = some (.inl (3, 483)) := by decide +kernel
theorem as_43 : shL[43]? = some (.inl (3, 483)) := by decide +kernel
theorem as_45 : shL[45]? = some (.inl (0, 60)) := by decide +kernel
theorem as_46 : shL[46]? = some (.inl (0, 60)) := by decide +kernel
theorem as_47 : shL[47]? = some (.inl (0, 60)) := by decide +kernel
theorem as_48 : shL[48]? = some (.inl (0, 60)) := by decide +kernel
theorem as_49 : shL[49]? = some (.inl (0, 60)) := by decide +kernel
theorem as_50 : shL[50]? = some (.inl (0, 60)) := by decide +kernel
theorem as_51 : shL[51]? = some (.inl (2, 48)) := by decide +kernel
theorem as_52 : shL[52]? = some (.inl (2, 12)) := by decide +kernel
theorem as_55 : shL[55]? = some (.inl (1, 1200)) := by decide +kernel
theorem as_56 : shL[56]? = some (.inl (0, 160)) := by decide +kernel
theorem as_57 : shL[57]? = some (.inl (0, 160)) := by decide +kernel
theorem as_58 : shL[58]? = some (.inl (0, 160)) := by decide +kernel
theorem as_59 : shL[59]? = some (.inl (0, 160)) := by decide +kernel
theorem as_60 : shL[60]? = some (.inl (0, 160)) := by decide +kernel
theorem as_61 : shL[61]? = some (.inl (0, 160)) := by decide +kernel
theorem as_62 : shL[62]? = some (.inl (0, 160)) := by decide +kernel
theorem as_63 : shL[63]? = some (.inl (0, 160)) := by decide +kernel
theorem as_64 : shL[64]? = some (.inl (0, 4)) := by decide +kernel
theorem as_65 : shL[65]? = some (.inl (0, 4)) := by decide +kernel
theorem as_66 : shL[66]? = some (.inl (2, 4)) := by decide +kernel
theorem as_67 : shL[67]? = some (.inl (2, 12)) := by decide +kernel
theorem as_68 : shL[68]? = some (.inl (0, 48)) := by decide +kernel
theorem as_69 : shL[69]? = some (.inl (0, 160)) := by decide +kernel
theorem as_70 : shL[70]? = some (.inl (0, 51842)) := by decide +kernel
theorem as_71 : shL[71]? = some (.inl (0, 160)) := by decide +kernel
theorem as_72 : shL[72]? = some (.inl (0, 2)) := by decide +kernel
theorem as_73 : shL[73]? = some (.inl (0, 48)) := by decide +kernel
theorem as_74 : shL[74]? = some (.inl (0, 12)) := by decide +kernel
theorem as_75 : shL[75]? = some (.inl (0, 2352)) := by decide +kernel
theorem as_76 : shL[76]? = some (.inl (0, 637)) := by decide +kernel
theorem as_77 : shL[77]? = some (.inl (0, 637)) := by decide +kernel
theorem as_78 : shL[78]? = some (.inl (0, 637)) := by decide +kernel
theorem as_79 : shL[79]? = some (.inl (0, 48)) := by decide +kernel
theorem as_80 : shL[80]? = some (.inl (0, 160)) := by decide +kernel
theorem as_81 : shL[81]? = some (.inl (0, 160)) := by decide +kernel
theorem as_82 : shL[82]? = some (.inl (0, 160)) := by decide +kernel
theorem as_83 : shL[83]? = some (.inl (0, 25921)) := by decide +kernel
theorem as_84 : shL[84]? = some (.inl (2, 160)) := by decide +kernel
theorem as_85 : shL[85]? = some (.inl (0, 60)) := by decide +kernel
theorem as_86 : shL[86]? = some (.inl (0, 60)) := by decide +kernel
theorem as_87 : shL[87]? = some (.inl (0, 60)) := by decide +kernel
theorem as_88 : shL[88]? = some (.inl (0, 60)) := by decide +kernel
theorem as_89 : shL[89]? = some (.inl (0, 60)) := by decide +kernel
theorem as_90 : shL[90]? = some (.inl (0, 60)) := by decide +kernel
theorem as_91 : shL[91]? = some (.inl (2, 60)) := by decide +kernel
/-- the kind of a field: its class, its tag (0 a number of 32 bits, 1 a reference, 2 a long, 3 null), where a reference goes -/
def fsh (c k : Nat) : Option (Nat × Nat × Nat) := match shL[c]? with
  | some (.inr q) => (q.2[k]?).map (fun f => (q.1, f.1, f.2))
  | _ => none
theorem fs_0_0 : fsh 0 0 = some (11, 1, 1) := by decide +kernel
theorem fs_0_1 : fsh 0 1 = some (11, 1, 3) := by decide +kernel
theorem fs_0_2 : fsh 0 2 = some (11, 1, 9) := by decide +kernel
theorem fs_0_3 : fsh 0 3 = some (11, 1, 14) := by decide +kernel
theorem fs_0_4 : fsh 0 4 = some (11, 1, 17) := by decide +kernel
theorem fs_0_5 : fsh 0 5 = some (11, 1, 22) := by decide +kernel
theorem fs_0_6 : fsh 0 6 = some (11, 1, 28) := by decide +kernel
theorem fs_0_7 : fsh 0 7 = some (11, 1, 32) := by decide +kernel
theorem fs_0_8 : fsh 0 8 = some (11, 1, 35) := by decide +kernel
theorem fs_0_9 : fsh 0 9 = some (11, 1, 44) := by decide +kernel
theorem fs_0_10 : fsh 0 10 = some (11, 1, 52) := by decide +kernel
theorem fs_0_11 : fsh 0 11 = some (11, 0, 0) := by decide +kernel
theorem fs_1_0 : fsh 1 0 = some (10, 0, 0) := by decide +kernel
theorem fs_1_1 : fsh 1 1 = some (10, 0, 0) := by decide +kernel
theorem fs_1_2 : fsh 1 2 = some (10, 0, 0) := by decide +kernel
theorem fs_1_3 : fsh 1 3 = some (10, 0, 0) := by decide +kernel
theorem fs_1_4 : fsh 1 4 = some (10, 0, 0) := by decide +kernel
theorem fs_1_5 : fsh 1 5 = some (10, 1, 2) := by decide +kernel
theorem fs_1_6 : fsh 1 6 = some (10, 0, 0) := by decide +kernel
theorem fs_1_7 : fsh 1 7 = some (10, 0, 0) := by decide +kernel
theorem fs_3_0 : fsh 3 0 = some (0, 1, 1) := by decide +kernel
theorem fs_3_1 : fsh 3 1 = some (0, 1, 4) := by decide +kernel
theorem fs_3_2 : fsh 3 2 = some (0, 0, 0) := by decide +kernel
theorem fs_3_3 : fsh 3 3 = some (0, 0, 0) := by decide +kernel
theorem fs_3_4 : fsh 3 4 = some (0, 0, 0) := by decide +kernel
theorem fs_4_0 : fsh 4 0 = some (9, 1, 5) := by decide +kernel
theorem fs_4_1 : fsh 4 1 = some (9, 1, 6) := by decide +kernel
theorem fs_4_2 : fsh 4 2 = some (9, 1, 7) := by decide +kernel
theorem fs_4_3 : fsh 4 3 = some (9, 1, 8) := by decide +kernel
theorem fs_4_4 : fsh 4 4 = some (9, 0, 0) := by decide +kernel
theorem fs_9_0 : fsh 9 0 = some (9, 1, 10) := by decide +kernel
theorem fs_9_1 : fsh 9 1 = some (9, 1, 11) := by decide +kernel
theorem fs_9_2 : fsh 9 2 = some (9, 1, 12) := by decide +kernel
theorem fs_9_3 : fsh 9 3 = some (9, 1, 13) := by decide +kernel
theorem fs_9_4 : fsh 9 4 = some (9, 0, 0) := by decide +kernel
theorem fs_14_0 : fsh 14 0 = some (6, 1, 15) := by decide +kernel
theorem fs_14_1 : fsh 14 1 = some (6, 1, 16) := by decide +kernel
theorem fs_14_2 : fsh 14 2 = some (6, 0, 0) := by decide +kernel
theorem fs_14_3 : fsh 14 3 = some (6, 0, 0) := by decide +kernel
theorem fs_14_4 : fsh 14 4 = some (6, 0, 0) := by decide +kernel
theorem fs_17_0 : fsh 17 0 = some (3, 1, 9) := by decide +kernel
theorem fs_17_1 : fsh 17 1 = some (3, 1, 14) := by decide +kernel
theorem fs_17_2 : fsh 17 2 = some (3, 1, 18) := by decide +kernel
theorem fs_17_3 : fsh 17 3 = some (3, 0, 0) := by decide +kernel
theorem fs_17_4 : fsh 17 4 = some (3, 1, 19) := by decide +kernel
theorem fs_17_5 : fsh 17 5 = some (3, 0, 0) := by decide +kernel
theorem fs_17_6 : fsh 17 6 = some (3, 1, 20) := by decide +kernel
theorem fs_17_7 : fsh 17 7 = some (3, 0, 0) := by decide +kernel
theorem fs_17_8 : fsh 17 8 = some (3, 1, 21) := by decide +kernel
theorem fs_22_0 : fsh 22 0 = some (7, 1, 9) := by decide +kernel
theorem fs_22_1 : fsh 22 1 = some (7, 1, 14) := by decide +kernel
theorem fs_22_2 : fsh 22 2 = some (7, 1, 17) := by decide +kernel
theorem fs_22_3 : fsh 22 3 = some (7, 1, 23) := by decide +kernel
theorem fs_22_4 : fsh 22 4 = some (7, 0, 0) := by decide +kernel
theorem fs_22_5 : fsh 22 5 = some (7, 0, 0) := by decide +kernel
theorem fs_22_6 : fsh 22 6 = some (7, 0, 0) := by decide +kernel
theorem fs_22_7 : fsh 22 7 = some (7, 2, 0) := by decide +kernel
theorem fs_22_8 : fsh 22 8 = some (7, 1, 24) := by decide +kernel
theorem fs_22_9 : fsh 22 9 = some (7, 1, 25) := by decide +kernel
theorem fs_22_10 : fsh 22 10 = some (7, 1, 26) := by decide +kernel
theorem fs_22_11 : fsh 22 11 = some (7, 0, 0) := by decide +kernel
theorem fs_22_12 : fsh 22 12 = some (7, 1, 27) := by decide +kernel
theorem fs_28_0 : fsh 28 0 = some (4, 1, 9) := by decide +kernel
theorem fs_28_1 : fsh 28 1 = some (4, 1, 17) := by decide +kernel
theorem fs_28_2 : fsh 28 2 = some (4, 1, 22) := by decide +kernel
theorem fs_28_3 : fsh 28 3 = some (4, 0, 0) := by decide +kernel
theorem fs_28_4 : fsh 28 4 = some (4, 0, 0) := by decide +kernel
theorem fs_28_5 : fsh 28 5 = some (4, 1, 29) := by decide +kernel
theorem fs_28_6 : fsh 28 6 = some (4, 1, 30) := by decide +kernel
theorem fs_28_7 : fsh 28 7 = some (4, 1, 31) := by decide +kernel
theorem fs_28_8 : fsh 28 8 = some (4, 0, 0) := by decide +kernel
theorem fs_32_0 : fsh 32 0 = some (8, 1, 9) := by decide +kernel
theorem fs_32_1 : fsh 32 1 = some (8, 1, 33) := by decide +kernel
theorem fs_32_2 : fsh 32 2 = some (8, 0, 0) := by decide +kernel
theorem fs_32_3 : fsh 32 3 = some (8, 0, 0) := by decide +kernel
theorem fs_32_4 : fsh 32 4 = some (8, 1, 34) := by decide +kernel
theorem fs_35_0 : fsh 35 0 = some (5, 1, 9) := by decide +kernel
theorem fs_35_1 : fsh 35 1 = some (5, 1, 36) := by decide +kernel
theorem fs_35_2 : fsh 35 2 = some (5, 1, 37) := by decide +kernel
theorem fs_35_3 : fsh 35 3 = some (5, 0, 0) := by decide +kernel
theorem fs_35_4 : fsh 35 4 = some (5, 0, 0) := by decide +kernel
theorem fs_35_5 : fsh 35 5 = some (5, 1, 38) := by decide +kernel
theorem fs_35_6 : fsh 35 6 = some (5, 1, 39) := by decide +kernel
theorem fs_35_7 : fsh 35 7 = some (5, 1, 40) := by decide +kernel
theorem fs_35_8 : fsh 35 8 = some (5, 1, 42) := by decide +kernel
theorem fs_40_0 : fsh 40 0 = some (1, 1, 41) := by decide +kernel
theorem fs_42_0 : fsh 42 0 = some (1, 1, 43) := by decide +kernel
theorem fs_44_0 : fsh 44 0 = some (2, 1, 9) := by decide +kernel
theorem fs_44_1 : fsh 44 1 = some (2, 0, 0) := by decide +kernel
theorem fs_44_2 : fsh 44 2 = some (2, 0, 0) := by decide +kernel
theorem fs_44_3 : fsh 44 3 = some (2, 0, 0) := by decide +kernel
theorem fs_44_4 : fsh 44 4 = some (2, 0, 0) := by decide +kernel
theorem fs_44_5 : fsh 44 5 = some (2, 0, 0) := by decide +kernel
theorem fs_44_6 : fsh 44 6 = some (2, 0, 0) := by decide +kernel
theorem fs_44_7 : fsh 44 7 = some (2, 1, 45) := by decide +kernel
theorem fs_44_8 : fsh 44 8 = some (2, 1, 46) := by decide +kernel
theorem fs_44_9 : fsh 44 9 = some (2, 1, 47) := by decide +kernel
theorem fs_44_10 : fsh 44 10 = some (2, 1, 48) := by decide +kernel
theorem fs_44_11 : fsh 44 11 = some (2, 1, 49) := by decide +kernel
theorem fs_44_12 : fsh 44 12 = some (2, 1, 50) := by decide +kernel
theorem fs_44_13 : fsh 44 13 = some (2, 1, 51) := by decide +kernel
theorem fs_53_0 : fsh 53 0 = some (12, 3, 0) := by decide +kernel
theorem fs_53_1 : fsh 53 1 = some (12, 3, 0) := by decide +kernel
theorem fs_53_2 : fsh 53 2 = some (12, 3, 0) := by decide +kernel
theorem fs_53_3 : fsh 53 3 = some (12, 3, 0) := by decide +kernel
theorem fs_53_4 : fsh 53 4 = some (12, 3, 0) := by decide +kernel
theorem fs_53_5 : fsh 53 5 = some (12, 0, 0) := by decide +kernel
theorem fs_54_0 : fsh 54 0 = some (13, 1, 53) := by decide +kernel
theorem fs_54_1 : fsh 54 1 = some (13, 1, 55) := by decide +kernel
theorem fs_54_2 : fsh 54 2 = some (13, 0, 0) := by decide +kernel
theorem fs_54_3 : fsh 54 3 = some (13, 0, 0) := by decide +kernel
theorem fs_54_4 : fsh 54 4 = some (13, 0, 0) := by decide +kernel
theorem fs_54_5 : fsh 54 5 = some (13, 0, 0) := by decide +kernel
theorem fs_54_6 : fsh 54 6 = some (13, 0, 0) := by decide +kernel
theorem fs_54_7 : fsh 54 7 = some (13, 0, 0) := by decide +kernel
theorem fs_54_8 : fsh 54 8 = some (13, 0, 0) := by decide +kernel
theorem fs_54_9 : fsh 54 9 = some (13, 0, 0) := by decide +kernel
theorem fs_54_10 : fsh 54 10 = some (13, 0, 0) := by decide +kernel
theorem fs_54_11 : fsh 54 11 = some (13, 0, 0) := by decide +kernel
theorem fs_54_12 : fsh 54 12 = some (13, 1, 56) := by decide +kernel
theorem fs_54_13 : fsh 54 13 = some (13, 1, 57) := by decide +kernel
theorem fs_54_14 : fsh 54 14 = some (13, 1, 58) := by decide +kernel
theorem fs_54_15 : fsh 54 15 = some (13, 1, 59) := by decide +kernel
theorem fs_54_16 : fsh 54 16 = some (13, 1, 60) := by decide +kernel
theorem fs_54_17 : fsh 54 17 = some (13, 1, 61) := by decide +kernel
theorem fs_54_18 : fsh 54 18 = some (13, 1, 62) := by decide +kernel
theorem fs_54_19 : fsh 54 19 = some (13, 1, 63) := by decide +kernel
theorem fs_54_20 : fsh 54 20 = some (13, 1, 64) := by decide +kernel
theorem fs_54_21 : fsh 54 21 = some (13, 1, 65) := by decide +kernel
theorem fs_54_22 : fsh 54 22 = some (13, 1, 66) := by decide +kernel
theorem fs_54_23 : fsh 54 23 = some (13, 0, 0) := by decide +kernel
theorem fs_54_24 : fsh 54 24 = some (13, 1, 67) := by decide +kernel
theorem fs_54_25 : fsh 54 25 = some (13, 1, 68) := by decide +kernel
theorem fs_54_26 : fsh 54 26 = some (13, 0, 0) := by decide +kernel
theorem fs_54_27 : fsh 54 27 = some (13, 1, 69) := by decide +kernel
theorem fs_54_28 : fsh 54 28 = some (13, 1, 70) := by decide +kernel
theorem fs_54_29 : fsh 54 29 = some (13, 1, 71) := by decide +kernel
theorem fs_54_30 : fsh 54 30 = some (13, 1, 72) := by decide +kernel
theorem fs_54_31 : fsh 54 31 = some (13, 0, 0) := by decide +kernel
theorem fs_54_32 : fsh 54 32 = some (13, 0, 0) := by decide +kernel
theorem fs_54_33 : fsh 54 33 = some (13, 1, 73) := by decide +kernel
theorem fs_54_34 : fsh 54 34 = some (13, 1, 74) := by decide +kernel
theorem fs_54_35 : fsh 54 35 = some (13, 1, 75) := by decide +kernel
theorem fs_54_36 : fsh 54 36 = some (13, 1, 76) := by decide +kernel
theorem fs_54_37 : fsh 54 37 = some (13, 1, 77) := by decide +kernel
theorem fs_54_38 : fsh 54 38 = some (13, 1, 78) := by decide +kernel
theorem fs_54_39 : fsh 54 39 = some (13, 1, 79) := by decide +kernel
theorem fs_54_40 : fsh 54 40 = some (13, 0, 0) := by decide +kernel
theorem fs_54_41 : fsh 54 41 = some (13, 0, 0) := by decide +kernel
theorem fs_54_42 : fsh 54 42 = some (13, 0, 0) := by decide +kernel
theorem fs_54_43 : fsh 54 43 = some (13, 0, 0) := by decide +kernel
theorem fs_54_44 : fsh 54 44 = some (13, 0, 0) := by decide +kernel
theorem fs_54_45 : fsh 54 45 = some (13, 0, 0) := by decide +kernel
theorem fs_54_46 : fsh 54 46 = some (13, 0, 0) := by decide +kernel
theorem fs_54_47 : fsh 54 47 = some (13, 1, 80) := by decide +kernel
theorem fs_54_48 : fsh 54 48 = some (13, 1, 81) := by decide +kernel
theorem fs_54_49 : fsh 54 49 = some (13, 1, 82) := by decide +kernel
theorem fs_54_50 : fsh 54 50 = some (13, 1, 83) := by decide +kernel
theorem fs_54_51 : fsh 54 51 = some (13, 1, 84) := by decide +kernel
theorem fs_54_52 : fsh 54 52 = some (13, 0, 0) := by decide +kernel
theorem fs_54_53 : fsh 54 53 = some (13, 0, 0) := by decide +kernel
theorem fs_54_54 : fsh 54 54 = some (13, 0, 0) := by decide +kernel
theorem fs_54_55 : fsh 54 55 = some (13, 0, 0) := by decide +kernel
theorem fs_54_56 : fsh 54 56 = some (13, 0, 0) := by decide +kernel
theorem fs_54_57 : fsh 54 57 = some (13, 0, 0) := by decide +kernel
theorem fs_54_58 : fsh 54 58 = some (13, 1, 85) := by decide +kernel
theorem fs_54_59 : fsh 54 59 = some (13, 1, 86) := by decide +kernel
theorem fs_54_60 : fsh 54 60 = some (13, 1, 87) := by decide +kernel
theorem fs_54_61 : fsh 54 61 = some (13, 1, 88) := by decide +kernel
theorem fs_54_62 : fsh 54 62 = some (13, 1, 89) := by decide +kernel
theorem fs_54_63 : fsh 54 63 = some (13, 1, 90) := by decide +kernel
theorem fs_54_64 : fsh 54 64 = some (13, 1, 91) := by decide +kernel
theorem fs_54_65 : fsh 54 65 = some (13, 0, 0) := by decide +kernel
end
section
/-! THE BASE: a memory of numbers by cell and place; a frame's judgement Fw; a method's judgement Cal -/
def gI (M : Mem) (c i : Nat) : Int32 := M.1 c i
def gL (M : Mem) (c i : Nat) : Int64 := M.2 c i
def sI (M : Mem) (c i : Nat) (v : Int32) : Mem := (fun a b => if a = c ∧ b = i then v else M.1 a b, M.2)
def sL (M : Mem) (c i : Nat) (v : Int64) : Mem := (M.1, fun a b => if a = c ∧ b = i then v else M.2 a b)
theorem gI_sI (M : Mem) (c i : Nat) (v : Int32) (a b : Nat) : gI (sI M c i v) a b = if a = c ∧ b = i then v else gI M a b := rfl
theorem gI_sL (M : Mem) (c i : Nat) (v : Int64) (a b : Nat) : gI (sL M c i v) a b = gI M a b := rfl
theorem gL_sL (M : Mem) (c i : Nat) (v : Int64) (a b : Nat) : gL (sL M c i v) a b = if a = c ∧ b = i then v else gL M a b := rfl
theorem gL_sI (M : Mem) (c i : Nat) (v : Int32) (a b : Nat) : gL (sI M c i v) a b = gL M a b := rfl
def fv (ad : Nat → Nat) (M : Mem) (c j : Nat) (f : Nat × Nat) : Value := if f.1 = 0 then .int (gI M c j) else if f.1 = 1 then .ref (ad f.2) else if f.1 = 2 then .long (gL M c j) else .null
def ce (ad : Nat → Nat) (kA : Nat → ClassId) (M : Mem) (c : Nat) (sh : Shp) : va_E := match sh with
  | .inl a => .inl (kA a.1, a.2, if a.1 = 3 then .inr (.inl (gL M c)) else .inl (gI M c))
  | .inr q => .inr (q.1, q.2.mapIdx (fv ad M c))
def wl (ad : Nat → Nat) (kA : Nat → ClassId) (M : Mem) : va_W := shL.mapIdx (fun c sh => (ad c, ce ad kA M c sh))
theorem wl_at {ad : Nat → Nat} {kA : Nat → ClassId} {M : Mem} {c : Nat} {sh : Shp} (h : shL[c]? = some sh) : (wl ad kA M)[c]? = some (ad c, ce ad kA M c sh) := by
  simp [wl, List.getElem?_mapIdx, h]
theorem wl_of {ad : Nat → Nat} {kA : Nat → ClassId} {M : Mem} {c : Nat} {q : Nat × va_E} (h : (wl ad kA M)[c]? = some q) : ∃ sh, shL[c]? = some sh ∧ q = (ad c, ce ad kA M c sh) := by
  simp only [wl, List.getElem?_mapIdx, Option.map_eq_some_iff] at h
  obtain ⟨sh, h1, h2⟩ := h
  exact ⟨sh, h1, h2.symm⟩
theorem sh_lt {c : Nat} {sh : Shp} (h : shL[c]? = some sh) : c < nC := by
  have := (List.getElem?_eq_some_iff.mp h).1
  rw [shL_len] at this
  exact this
theorem wl_set {ad : Nat → Nat} {kA : Nat → ClassId} {M M' : Mem} {c : Nat} {sh : Shp} (h : shL[c]? = some sh) (he : ∀ j sh', j ≠ c → ce ad kA M' j sh' = ce ad kA M j sh') : (wl ad kA M).set c (ad c, ce ad kA M' c sh) = wl ad kA M' := by
  apply List.ext_getElem?
  intro j
  rw [List.getElem?_set]
  have hlen : c < (wl ad kA M).length := by
    have := (List.getElem?_eq_some_iff.mp h).1
    simpa [wl] using this
  by_cases hj : c = j
  · subst hj
    rw [if_pos rfl, if_pos hlen, wl_at h]
  · rw [if_neg hj]
    simp only [wl, List.getElem?_mapIdx]
    cases shL[j]? with
    | none => rfl
    | some sh' =>
      show some (ad j, ce ad kA M j sh') = some (ad j, ce ad kA M' j sh')
      rw [he j sh' (fun e => hj e.symm)]
theorem ce_oI {ad : Nat → Nat} {kA : Nat → ClassId} {M : Mem} {c i : Nat} {v : Int32} : ∀ (j : Nat) (sh : Shp), j ≠ c → ce ad kA (sI M c i v) j sh = ce ad kA M j sh := by
  intro j sh hj
  have e1 : gI (sI M c i v) j = gI M j := by funext b; rw [gI_sI, if_neg (fun h => hj h.1)]
  have e2 : gL (sI M c i v) j = gL M j := by funext b; rfl
  have e3 : fv ad (sI M c i v) j = fv ad M j := by funext b f; simp only [fv, e1, e2]
  cases sh with
  | inl a => simp only [ce, e1, e2]
  | inr q => simp only [ce, e3]
theorem ce_oL {ad : Nat → Nat} {kA : Nat → ClassId} {M : Mem} {c i : Nat} {v : Int64} : ∀ (j : Nat) (sh : Shp), j ≠ c → ce ad kA (sL M c i v) j sh = ce ad kA M j sh := by
  intro j sh hj
  have e1 : gL (sL M c i v) j = gL M j := by funext b; rw [gL_sL, if_neg (fun h => hj h.1)]
  have e2 : gI (sL M c i v) j = gI M j := by funext b; rfl
  have e3 : fv ad (sL M c i v) j = fv ad M j := by funext b f; simp only [fv, e1, e2]
  cases sh with
  | inl a => simp only [ce, e1, e2]
  | inr q => simp only [ce, e3]
theorem ce_aI {ad : Nat → Nat} {kA : Nat → ClassId} {M : Mem} {c i k n : Nat} {v : Int32} (hk : k ≠ 3) : ce ad kA (sI M c i v) c (.inl (k, n)) = .inl (kA k, n, .inl (upd (gI M c) i v)) := by
  have e1 : gI (sI M c i v) c = upd (gI M c) i v := by funext b; rw [gI_sI]; simp only [upd, true_and]
  simp only [ce, if_neg hk, e1]
theorem ce_aL {ad : Nat → Nat} {kA : Nat → ClassId} {M : Mem} {c i n : Nat} {v : Int64} : ce ad kA (sL M c i v) c (.inl (3, n)) = .inl (kA 3, n, .inr (.inl (vp_updL (gL M c) i v))) := by
  have e1 : gL (sL M c i v) c = vp_updL (gL M c) i v := by funext b; rw [gL_sL]; simp only [vp_updL, true_and]
  simp only [ce, e1, if_true]
theorem ce_fI {ad : Nat → Nat} {kA : Nat → ClassId} {M : Mem} {c k ci r : Nat} {fs : List (Nat × Nat)} {v : Int32} (hf : fs[k]? = some (0, r)) : ce ad kA (sI M c k v) c (.inr (ci, fs)) = .inr (ci, (fs.mapIdx (fv ad M c)).set k (.int v)) := by
  simp only [ce]
  congr 2
  apply List.ext_getElem?
  intro j
  have hl : k < (fs.mapIdx (fv ad M c)).length := by
    have := (List.getElem?_eq_some_iff.mp hf).1
    simpa using this
  rw [List.getElem?_set, List.getElem?_mapIdx]
  by_cases hj : k = j
  · subst hj
    rw [if_pos rfl, if_pos hl, hf]
    simp [fv, gI_sI]
  · rw [if_neg hj, List.getElem?_mapIdx]
    congr 1
    funext f
    have e : ¬ j = k := fun h => hj h.symm
    simp [fv, gI_sI, gL_sI, e]
theorem ce_fL {ad : Nat → Nat} {kA : Nat → ClassId} {M : Mem} {c k ci r : Nat} {fs : List (Nat × Nat)} {v : Int64} (hf : fs[k]? = some (2, r)) : ce ad kA (sL M c k v) c (.inr (ci, fs)) = .inr (ci, (fs.mapIdx (fv ad M c)).set k (.long v)) := by
  simp only [ce]
  congr 2
  apply List.ext_getElem?
  intro j
  have hl : k < (fs.mapIdx (fv ad M c)).length := by
    have := (List.getElem?_eq_some_iff.mp hf).1
    simpa using this
  rw [List.getElem?_set, List.getElem?_mapIdx]
  by_cases hj : k = j
  · subst hj
    rw [if_pos rfl, if_pos hl, hf]
    simp [fv, gL_sL]
  · rw [if_neg hj, List.getElem?_mapIdx]
    congr 1
    funext f
    have e : ¬ j = k := fun h => hj h.symm
    simp [fv, gI_sL, gL_sL, e]
/-- which cells may change -/
def AW (ad : Nat → Nat) : Nat → Prop := fun q => ∃ i, i < nC ∧ ad i = q
def apart (ad : Nat → Nat) : Prop := ∀ i j, i < nC → j < nC → ad i = ad j → i = j
theorem wl_D {ad : Nat → Nat} {kA : Nat → ClassId} {M : Mem} (h : apart ad) : va_D (AW ad) (wl ad kA M) := by
  constructor
  · intro i j p q hp hq hpq
    obtain ⟨s1, a1, rfl⟩ := wl_of hp
    obtain ⟨s2, a2, rfl⟩ := wl_of hq
    exact h i j (sh_lt a1) (sh_lt a2) hpq
  · intro k q hq
    obtain ⟨s1, a1, rfl⟩ := wl_of hq
    exact ⟨k, sh_lt a1, rfl⟩
theorem fsh_spec {c k ci tag r : Nat} (h : fsh c k = some (ci, tag, r)) : ∃ fs, shL[c]? = some (.inr (ci, fs)) ∧ fs[k]? = some (tag, r) := by
  unfold fsh at h
  cases hs : shL[c]? with
  | none => rw [hs] at h; cases h
  | some sh =>
    rw [hs] at h
    cases sh with
    | inl a => cases h
    | inr q =>
      obtain ⟨q1, q2⟩ := q
      simp only [Option.map_eq_some_iff] at h
      obtain ⟨f, h1, h2⟩ := h
      cases h2
      exact ⟨q2, rfl, h1⟩
end
section
/-! THE FRAME's JUDGEMENT, a rule an instruction -/
/-- a method: its name, bytes, locals, type, how many frames and words of locals it may need below itself, its handlers -/
abbrev MI : Type := MethodName × ByteArray × Nat × Option FieldType × Nat × Nat × List (Nat × Nat × Nat × Nat)
abbrev MI.y (mi : MI) : MethodName := mi.1
abbrev MI.cc (mi : MI) : ByteArray := mi.2.1
abbrev MI.nL (mi : MI) : Nat := mi.2.2.1
abbrev MI.ret (mi : MI) : Option FieldType := mi.2.2.2.1
abbrev MI.fr (mi : MI) : Nat := mi.2.2.2.2.1
abbrev MI.lw (mi : MI) : Nat := mi.2.2.2.2.2.1
abbrev MI.hh (mi : MI) : List (Nat × Nat × Nat × Nat) := mi.2.2.2.2.2.2
abbrev rmOf (mi : MI) : Room := { frames := mi.fr, cells := 0, slots := 0, locals := mi.lw }
def wsOf (mi : MI) : List Cond := .code mi.y mi.cc mi.nL mi.ret :: lw_w
abbrev tyK (kA : Nat → ClassId) : List (ClassId × FieldType) := [(kA 0, .int), (kA 1, .byte), (kA 2, .boolean), (kA 3, .long)]
def stN : List String := ["AT_FIRST", "LEAST", "GREATEST"]
def stV : List (List Int32) := [[1, 4, 12, 1], [0, 1, 0, 0], [9, 12, 47, 9]]
def scR : List (String × Nat × String) := [("BellTable$BeatText", 50, "at"), ("BellTable$BeatText", 98, "for"), ("BellTable$BeatText", 100, "stick"), ("BellTable$BeatText", 105, "shake"), ("BellTable$Manners", 78, "take"), ("BellTable$Manners", 83, "most"), ("BellTable$Manners", 85, "reach"), ("BellTable$Manners", 87, "stick"), ("BellTableModel", 81, "at"), ("BellTableModel", 101, "for"), ("BellTableModel", 103, "stick"), ("BellTableModel", 105, "shake"), ("BellTableModel", 252, "take"), ("BellTableModel", 254, "most"), ("BellTableModel", 256, "reach")]
def scB : List (List Int32) := [[97, 116], [102, 111, 114], [115, 116, 105, 99, 107], [115, 104, 97, 107, 101], [116, 97, 107, 101], [109, 111, 115, 116], [114, 101, 97, 99, 104], [115, 116, 105, 99, 107], [97, 116], [102, 111, 114], [115, 116, 105, 99, 107], [115, 104, 97, 107, 101], [116, 97, 107, 101], [109, 111, 115, 116], [114, 101, 97, 99, 104]]
def nestL : List (String × Nat) := [("BellTable$BeatText", 79), ("BellTable$Ranges", 69), ("BellTable$Days", 80)]
/-- what lies outside the world and is only read: three static rows, the String constants -/
def Out (ad : Nat → Nat) (U : State) (H : Heap) : Prop :=
  (∀ j, j < 3 → va_Z "BellTable$Manners" (stN.getD j "") "[I" (.ref (ad (200 + j))) (AW ad) U H ∧ va_T .int (ad (200 + j)) 4 (fun i => .int ((stV.getD j []).getD i 0)) (AW ad) U H) ∧
  va_Z "java/lang/String" "COMPACT_STRINGS" "Z" (.int 1) (AW ad) U H ∧
  (∀ i, i < 15 → vk_R (scR.getD i ("", 0, "")).1 (scR.getD i ("", 0, "")).2.1 (scR.getD i ("", 0, "")).2.2 (ad (210 + i)) U ∧ va_O "java/lang/String" (ad (210 + i)) (AW ad) U H ∧ va_OF "java/lang/String" "coder" "B" (.int 0) (ad (210 + i)) (AW ad) U H ∧ va_OF "java/lang/String" "value" "[B" (.ref (ad (230 + i))) (ad (210 + i)) (AW ad) U H ∧ va_T .byte (ad (230 + i)) (scB.getD i []).length (fun j => .int ((scB.getD i []).getD j 0)) (AW ad) U H) ∧
  (∀ q ∈ nestL, va_Nw (.methodLinkNest q.1 q.2 yX11_isBell "BellTable") U) ∧
  va_Zq "jdk/internal/util/Preconditions" "SIOOBE_FORMATTER" "Ljava/util/function/BiFunction;" (AW ad) U H
theorem va_Zq.kept2 {C n d : String} {A : Nat → Prop} {u U : State} {H H1 : Heap} (hvm : u.vm.Alike U.vm) (hq : ∀ a : Nat, a < H.size → ¬ A a → H1[a]? = H[a]?) (h : va_Zq C n d A u H) : va_Zq C n d A U H1 := by
  rcases h with h | ⟨t, h⟩
  · exact Or.inl ((h.moved hvm).kept hq)
  · exact Or.inr ⟨t, (h.moved hvm).kept hq⟩
theorem Out.warm {ad : Nat → Nat} {u U : State} {H H1 : Heap} (hW : u.WarmedH U.vm) (hq : ∀ a : Nat, a < H.size → ¬ AW ad a → H1[a]? = H[a]?) (h : Out ad u H) : Out ad U H1 :=
  ⟨fun j hj => ⟨((h.1 j hj).1.moved hW.alike).kept hq, ((h.1 j hj).2.moved hW.alike).kept hq⟩, (h.2.1.moved hW.alike).kept hq, fun i hi => ⟨(h.2.2.1 i hi).1.warm hW, ((h.2.2.1 i hi).2.1.moved hW.alike).kept hq, ((h.2.2.1 i hi).2.2.1.moved hW.alike).kept hq, ((h.2.2.1 i hi).2.2.2.1.moved hW.alike).kept hq, ((h.2.2.1 i hi).2.2.2.2.moved hW.alike).kept hq⟩, fun q hq => (h.2.2.2.1 q hq).warmM hW, h.2.2.2.2.kept2 hW.alike hq⟩
theorem Out.same {ad : Nat → Nat} {u U : State} {H : Heap} (hv : U.vm = u.vm) (h : Out ad u H) : Out ad U H :=
  have hA : u.vm.Alike U.vm := by rw [hv]; exact Vm.Alike.refl u.vm
  ⟨fun j hj => ⟨(h.1 j hj).1.moved hA, (h.1 j hj).2.moved hA⟩, h.2.1.moved hA, fun i hi => ⟨(h.2.2.1 i hi).1.same hv, (h.2.2.1 i hi).2.1.moved hA, (h.2.2.1 i hi).2.2.1.moved hA, (h.2.2.1 i hi).2.2.2.1.moved hA, (h.2.2.1 i hi).2.2.2.2.moved hA⟩, fun q hq => va_Nw.same rfl hv.symm (h.2.2.2.1 q hq), h.2.2.2.2.kept2 hA (fun _ _ _ => rfl)⟩
/-- what stands fast while a frame of the method runs -/
def Cx (D : va_G) (ad : Nat → Nat) (kA : Nat → ClassId) (mi : MI) (p : Program) (s : State) (m : MethodId) (args : Array Value) (meth : Method) (c : Code) : Prop :=
  p.tables.exec = Jvm.exec ∧ c.code = mi.cc ∧ c.maxLocals = mi.nL ∧ meth.sig.returnType = mi.ret ∧ meth.locks = false ∧ s.vm.findClass mi.y.cls = some m.cls ∧ (∀ w ∈ lw_w, w.before args s = true) ∧ va_K D cls (tyK kA) s ∧ apart ad ∧ Out ad s s.heap ∧ c.exceptionTable.toList.map (fun h => (h.startPc, h.endPc, h.handlerPc, h.catchType)) = mi.hh
/-- locals by their places -/
def lp (lo : List (Option Value)) : List (Nat × Value) := (lo.mapIdx (fun i q => q.map (fun v => (i, v)))).filterMap id
theorem lp_mem {lo : List (Option Value)} {i : Nat} {v : Value} : (i, v) ∈ lp lo ↔ lo[i]? = some (some v) := by
  simp only [lp, List.mem_filterMap, id]
  constructor
  · rintro ⟨a, h1, rfl⟩
    obtain ⟨j, hj⟩ := List.mem_iff_getElem?.mp h1
    rw [List.getElem?_mapIdx] at hj
    cases hq : lo[j]? with
    | none => rw [hq] at hj; cases hj
    | some q =>
      rw [hq] at hj
      cases q with
      | none => simp at hj
      | some w => simp at hj; obtain ⟨rfl, rfl⟩ := hj; exact hq
  · intro h
    refine ⟨some (i, v), List.mem_iff_getElem?.mpr ⟨i, ?_⟩, rfl⟩
    rw [List.getElem?_mapIdx, h]
    rfl
theorem lp_at {ls : Array Slot} {n : Nat} {lo : List (Option Value)} (h : lv_has ls n (lp lo)) {i : Nat} {v : Value} (hi : lo[i]? = some (some v)) : ls[i]? = some (.val v) := h.2.2 (i, v) (lp_mem.mpr hi)
theorem lp_sub {ls : Array Slot} {n : Nat} {lo lo' : List (Option Value)} (h : lv_has ls n (lp lo)) (hs : ∀ (i : Nat) (v : Value), lo'[i]? = some (some v) → lo[i]? = some (some v)) : lv_has ls n (lp lo') := ⟨h.1, h.2.1, fun q hq => h.2.2 q (lp_mem.mpr (hs q.1 q.2 (lp_mem.mp hq)))⟩
def isLg (q : Option Value) : Bool := match q with
  | some v => v.category == 2
  | none => false
/-- a store at i: what was there goes, and a long that reached into it -/
def lset (lo : List (Option Value)) (i : Nat) (v : Value) : List (Option Value) := lo.mapIdx (fun j q => if j = i then some v else if j + 1 = i ∧ isLg q = true then none else q)
def lset2 (lo : List (Option Value)) (i : Nat) (v : Value) : List (Option Value) := lo.mapIdx (fun j q => if j = i then some v else if j = i + 1 then none else if j + 1 = i ∧ isLg q = true then none else q)
theorem lset_has {ls : Array Slot} {n i : Nat} {v : Value} {lo : List (Option Value)} (h : lv_has ls n ((i, v) :: (lp lo).filter (fun q => !(q.1 == i) && !(q.1 + 1 == i && q.2.category == 2)))) : lv_has ls n (lp (lset lo i v)) := by
  refine ⟨h.1, h.2.1, fun q hq => h.2.2 q ?_⟩
  have h1 := lp_mem.mp (show (q.1, q.2) ∈ lp (lset lo i v) from hq)
  simp only [lset, List.getElem?_mapIdx, Option.map_eq_some_iff] at h1
  obtain ⟨x, hx, h2⟩ := h1
  by_cases e1 : q.1 = i
  · rw [if_pos e1] at h2
    cases h2
    exact List.mem_cons.mpr (Or.inl (by rw [← e1]))
  · rw [if_neg e1] at h2
    by_cases e2 : q.1 + 1 = i ∧ isLg x = true
    · rw [if_pos e2] at h2; cases h2
    · rw [if_neg e2] at h2
      subst h2
      refine List.mem_cons.mpr (Or.inr (List.mem_filter.mpr ⟨lp_mem.mpr hx, ?_⟩))
      simp only [Bool.and_eq_true, Bool.not_eq_true', beq_eq_false_iff_ne, ne_eq, Bool.and_eq_false_iff]
      refine ⟨e1, ?_⟩
      by_cases e3 : q.1 + 1 = i
      · exact Or.inr (fun e4 => e2 ⟨e3, by simp [isLg, e4]⟩)
      · exact Or.inl e3
theorem lset2_has {ls : Array Slot} {n i : Nat} {v : Value} {lo : List (Option Value)} (h : lv_has ls n ((i, v) :: (lp lo).filter (fun q => !(q.1 == i) && (!(q.1 == i + 1) && !(q.1 + 1 == i && q.2.category == 2))))) : lv_has ls n (lp (lset2 lo i v)) := by
  refine ⟨h.1, h.2.1, fun q hq => h.2.2 q ?_⟩
  have h1 := lp_mem.mp (show (q.1, q.2) ∈ lp (lset2 lo i v) from hq)
  simp only [lset2, List.getElem?_mapIdx, Option.map_eq_some_iff] at h1
  obtain ⟨x, hx, h2⟩ := h1
  by_cases e1 : q.1 = i
  · rw [if_pos e1] at h2
    cases h2
    exact List.mem_cons.mpr (Or.inl (by rw [← e1]))
  · rw [if_neg e1] at h2
    by_cases e0 : q.1 = i + 1
    · rw [if_pos e0] at h2; cases h2
    · rw [if_neg e0] at h2
      by_cases e2 : q.1 + 1 = i ∧ isLg x = true
      · rw [if_pos e2] at h2; cases h2
      · rw [if_neg e2] at h2
        subst h2
        refine List.mem_cons.mpr (Or.inr (List.mem_filter.mpr ⟨lp_mem.mpr hx, ?_⟩))
        simp only [Bool.and_eq_true, Bool.not_eq_true', beq_eq_false_iff_ne, ne_eq, Bool.and_eq_false_iff]
        refine ⟨e1, e0, ?_⟩
        by_cases e3 : q.1 + 1 = i
        · exact Or.inr (fun e4 => e2 ⟨e3, by simp [isLg, e4]⟩)
        · exact Or.inl e3
/-- a method's end: its outcome, the world behind it, nothing else changed -/
def Po (D : va_G) (ad : Nat → Nat) (kA : Nat → ClassId) (Q : Outcome → Mem → Prop) : Array Value → State → Outcome → State → Prop := fun _ st oc t => (∃ M', Q oc M' ∧ va_P D cls (wl ad kA M') t.heap) ∧ va_F (AW ad) st t
def MQX (below : List Frame) (Qc : Array Value → State → Outcome → State → Prop) (a : Array Value) (s : State) (free : Addr → Prop) : State → Prop := fun t =>
  ∃ oc, t.status = .running ∧ Ended t below oc ∧ Qc a s oc t ∧ ∃ L, (s.WarmedH t.vm ∧ s.sameButNew ({ t with vm := s.vm } : State) L 0 0) ∧ ∀ q ∈ L, free q.base
theorem W.imp {p : Program} {l : Launch} {e : Env} {R : Room} {s : State} {m : MethodId} {args : Array Value} {below : List Frame} {meth : Method} {c : Code} {H : Heap} {locs : List Loc} {cells slots : Nat} {Q Q' : State → Prop} {g : JFrame} (h : ∀ t, Q t → Q' t) (k : W p l e R s m args below meth c H locs cells slots Q g) : W p l e R s m args below meth c H locs cells slots Q' g := by
  intro T hT X
  obtain ⟨t, h1, h2⟩ := k T hT X
  exact ⟨t, h1, h t h2⟩
theorem MQ.x {below : List Frame} {Qc : Array Value → State → Outcome → State → Prop} {a : Array Value} {s : State} {free : Addr → Prop} : ∀ t, MQ below Qc a s 0 0 free t → MQX below Qc a s free t := by
  rintro t ⟨oc, h1, h2, h3, L, ⟨-, h4, h5⟩, h6⟩
  exact ⟨oc, h1, h2, h3, L, ⟨h4, h5⟩, h6⟩
def Fw (l : Launch) (D : va_G) (ad : Nat → Nat) (kA : Nat → ClassId) (mi : MI) (pc : Nat) (lo : List (Option Value)) (st : List Value) (M : Mem) (Q : Outcome → Mem → Prop) : Prop :=
  ∀ (p : Program) (e : Env) (s : State) (m : MethodId) (args : Array Value) (below : List Frame) (meth : Method) (c : Code), Cx D ad kA mi p s m args meth c → ∀ (H : Heap) (locs : List Loc) (ls : Array Slot), va_P D cls (wl ad kA M) H → va_S (AW ad) s.heap H locs → lv_has ls mi.nL (lp lo) →
    W p l e (rmOf mi) s m args below meth c H locs 0 0 (MQX below (Po D ad kA Q) args s (AW ad)) (F0 m pc ls st)
section Rules
variable {l : Launch} {D : va_G} {ad : Nat → Nat} {kA : Nat → ClassId} {mi : MI} {pc : Nat} {lo : List (Option Value)} {rest : List Value} {M : Mem} {Q : Outcome → Mem → Prop}
theorem r_iload_n {k : Fin 4} {x : Int32} (d : decode mi.cc pc = .ok (.iload_n k, 1)) (h : lo[k.val]? = some (some (.int x))) (K : Fw l D ad kA mi (pc + 1) lo (.int x :: rest) M Q) : Fw l D ad kA mi pc lo (rest) M Q := by
  intro p e s m args below meth c C H locs ls hP hS hl
  exact lv_iload_n C.1 C.2.1 d rfl (lp_at hl h) (K p e s m args below meth c C H locs ls hP hS hl)
theorem r_iload {i : Nat} {x : Int32} (d : decode mi.cc pc = .ok (.iload i, 2)) (h : lo[i]? = some (some (.int x))) (K : Fw l D ad kA mi (pc + 2) lo (.int x :: rest) M Q) : Fw l D ad kA mi pc lo (rest) M Q := by
  intro p e s m args below meth c C H locs ls hP hS hl
  exact lv_iload C.1 C.2.1 d (lp_at hl h) (K p e s m args below meth c C H locs ls hP hS hl)
theorem r_lload_n {k : Fin 4} {x : Int64} (d : decode mi.cc pc = .ok (.lload_n k, 1)) (h : lo[k.val]? = some (some (.long x))) (K : Fw l D ad kA mi (pc + 1) lo (.long x :: rest) M Q) : Fw l D ad kA mi pc lo (rest) M Q := by
  intro p e s m args below meth c C H locs ls hP hS hl
  exact lv_lload_n C.1 C.2.1 d rfl (lp_at hl h) (K p e s m args below meth c C H locs ls hP hS hl)
theorem r_lload {i : Nat} {x : Int64} (d : decode mi.cc pc = .ok (.lload i, 2)) (h : lo[i]? = some (some (.long x))) (K : Fw l D ad kA mi (pc + 2) lo (.long x :: rest) M Q) : Fw l D ad kA mi pc lo (rest) M Q := by
  intro p e s m args below meth c C H locs ls hP hS hl
  exact lv_lload C.1 C.2.1 d (lp_at hl h) (K p e s m args below meth c C H locs ls hP hS hl)
theorem r_aload_n {k : Fin 4} {x : Nat} (d : decode mi.cc pc = .ok (.aload_n k, 1)) (h : lo[k.val]? = some (some (.ref x))) (K : Fw l D ad kA mi (pc + 1) lo (.ref x :: rest) M Q) : Fw l D ad kA mi pc lo (rest) M Q := by
  intro p e s m args below meth c C H locs ls hP hS hl
  exact lv_aload_n C.1 C.2.1 d rfl (lp_at hl h) (K p e s m args below meth c C H locs ls hP hS hl)
theorem r_aload {i : Nat} {x : Nat} (d : decode mi.cc pc = .ok (.aload i, 2)) (h : lo[i]? = some (some (.ref x))) (K : Fw l D ad kA mi (pc + 2) lo (.ref x :: rest) M Q) : Fw l D ad kA mi pc lo (rest) M Q := by
  intro p e s m args below meth c C H locs ls hP hS hl
  exact lv_aload C.1 C.2.1 d (lp_at hl h) (K p e s m args below meth c C H locs ls hP hS hl)
theorem r_istore_n {k : Fin 4} {x : Int32} (d : decode mi.cc pc = .ok (.istore_n k, 1)) (hn : k.val < mi.nL) (K : Fw l D ad kA mi (pc + 1) (lset lo k.val (.int x)) rest M Q) : Fw l D ad kA mi pc lo (.int x :: rest) M Q := by
  intro p e s m args below meth c C H locs ls hP hS hl
  exact lv_istore_n C.1 C.2.1 d rfl hl hn rfl (fun ls hl => K p e s m args below meth c C H locs ls hP hS (lset_has hl))
theorem r_istore {i : Nat} {x : Int32} (d : decode mi.cc pc = .ok (.istore i, 2)) (hn : i < mi.nL) (K : Fw l D ad kA mi (pc + 2) (lset lo i (.int x)) rest M Q) : Fw l D ad kA mi pc lo (.int x :: rest) M Q := by
  intro p e s m args below meth c C H locs ls hP hS hl
  exact lv_istore C.1 C.2.1 d hl hn rfl (fun ls hl => K p e s m args below meth c C H locs ls hP hS (lset_has hl))
theorem r_lstore_n {k : Fin 4} {x : Int64} (d : decode mi.cc pc = .ok (.lstore_n k, 1)) (hn : k.val + 1 < mi.nL) (K : Fw l D ad kA mi (pc + 1) (lset2 lo k.val (.long x)) rest M Q) : Fw l D ad kA mi pc lo (.long x :: rest) M Q := by
  intro p e s m args below meth c C H locs ls hP hS hl
  exact lv_lstore_n C.1 C.2.1 d rfl hl hn rfl (fun ls hl => K p e s m args below meth c C H locs ls hP hS (lset2_has hl))
theorem r_lstore {i : Nat} {x : Int64} (d : decode mi.cc pc = .ok (.lstore i, 2)) (hn : i + 1 < mi.nL) (K : Fw l D ad kA mi (pc + 2) (lset2 lo i (.long x)) rest M Q) : Fw l D ad kA mi pc lo (.long x :: rest) M Q := by
  intro p e s m args below meth c C H locs ls hP hS hl
  exact lv_lstore C.1 C.2.1 d hl hn rfl (fun ls hl => K p e s m args below meth c C H locs ls hP hS (lset2_has hl))
theorem r_astore_n {k : Fin 4} {x : Nat} (d : decode mi.cc pc = .ok (.astore_n k, 1)) (hn : k.val < mi.nL) (K : Fw l D ad kA mi (pc + 1) (lset lo k.val (.ref x)) rest M Q) : Fw l D ad kA mi pc lo (.ref x :: rest) M Q := by
  intro p e s m args below meth c C H locs ls hP hS hl
  exact lv_astore_n C.1 C.2.1 d rfl hl hn rfl (fun ls hl => K p e s m args below meth c C H locs ls hP hS (lset_has hl))
theorem r_astore {i : Nat} {x : Nat} (d : decode mi.cc pc = .ok (.astore i, 2)) (hn : i < mi.nL) (K : Fw l D ad kA mi (pc + 2) (lset lo i (.ref x)) rest M Q) : Fw l D ad kA mi pc lo (.ref x :: rest) M Q := by
  intro p e s m args below meth c C H locs ls hP hS hl
  exact lv_astore C.1 C.2.1 d hl hn rfl (fun ls hl => K p e s m args below meth c C H locs ls hP hS (lset_has hl))
theorem r_iinc {i : Nat} {n : Int} {x v : Int32} (d : decode mi.cc pc = .ok (.iinc i n, 3)) (h : lo[i]? = some (some (.int x))) (hv : x + Int32.ofInt n = v) (hn : i < mi.nL) (K : Fw l D ad kA mi (pc + 3) (lset lo i (.int v)) rest M Q) : Fw l D ad kA mi pc lo rest M Q := by
  intro p e s m args below meth c C H locs ls hP hS hl
  obtain ⟨k, hk⟩ := List.mem_iff_getElem?.mp (lp_mem.mpr h)
  exact lv_iinc C.1 C.2.1 d hl hk hv hn rfl (fun ls hl => K p e s m args below meth c C H locs ls hP hS (lset_has hl))
theorem r_iconst {n : Int} {v : Int32} (d : decode mi.cc pc = .ok (.iconst n, 1)) (hv : Int32.ofInt n = v) (K : Fw l D ad kA mi (pc + 1) lo (.int v :: rest) M Q) : Fw l D ad kA mi pc lo (rest) M Q := by
  intro p e s m args below meth c C H locs ls hP hS hl
  exact lv_iconst C.1 C.2.1 d hv (K p e s m args below meth c C H locs ls hP hS hl)
theorem r_bipush {n : Int} {v : Int32} (d : decode mi.cc pc = .ok (.bipush n, 2)) (hv : (Int8.ofInt n).toInt32 = v) (K : Fw l D ad kA mi (pc + 2) lo (.int v :: rest) M Q) : Fw l D ad kA mi pc lo (rest) M Q := by
  intro p e s m args below meth c C H locs ls hP hS hl
  exact lv_bipush C.1 C.2.1 d hv (K p e s m args below meth c C H locs ls hP hS hl)
theorem r_sipush {n : Int} {v : Int32} (d : decode mi.cc pc = .ok (.sipush n, 3)) (hv : (Int16.ofInt n).toInt32 = v) (K : Fw l D ad kA mi (pc + 3) lo (.int v :: rest) M Q) : Fw l D ad kA mi pc lo (rest) M Q := by
  intro p e s m args below meth c C H locs ls hP hS hl
  exact lv_sipush C.1 C.2.1 d hv (K p e s m args below meth c C H locs ls hP hS hl)
theorem r_lconst {n : Fin 2} {v : Int64} (d : decode mi.cc pc = .ok (.lconst n, 1)) (hv : Int64.ofNat (n : Nat) = v) (K : Fw l D ad kA mi (pc + 1) lo (.long v :: rest) M Q) : Fw l D ad kA mi pc lo (rest) M Q := by
  intro p e s m args below meth c C H locs ls hP hS hl
  exact lv_lconst C.1 C.2.1 d hv (K p e s m args below meth c C H locs ls hP hS hl)
theorem r_ldc {index : Nat} {v : Int32} (d : decode mi.cc pc = .ok (.ldc index, 2)) (hc : Cond.constant mi.y.cls index v ∈ lw_w) (K : Fw l D ad kA mi (pc + 2) lo (.int v :: rest) M Q) : Fw l D ad kA mi pc lo (rest) M Q := by
  intro p e s m args below meth c C H locs ls hP hS hl
  exact lv_ldc C.1 C.2.1 C.2.2.2.2.2.1 (C.2.2.2.2.2.2.1 _ hc) d (K p e s m args below meth c C H locs ls hP hS hl)
theorem r_ldcw {index : Nat} {v : Int32} (d : decode mi.cc pc = .ok (.ldc_w index, 3)) (hc : Cond.constant mi.y.cls index v ∈ lw_w) (K : Fw l D ad kA mi (pc + 3) lo (.int v :: rest) M Q) : Fw l D ad kA mi pc lo (rest) M Q := by
  intro p e s m args below meth c C H locs ls hP hS hl
  exact lv_ldcw C.1 C.2.1 C.2.2.2.2.2.1 (C.2.2.2.2.2.2.1 _ hc) d (K p e s m args below meth c C H locs ls hP hS hl)
theorem r_ldc2 {index : Nat} {v : Int64} (d : decode mi.cc pc = .ok (.ldc2_w index, 3)) (hc : Cond.constantLong mi.y.cls index v ∈ lw_w) (K : Fw l D ad kA mi (pc + 3) lo (.long v :: rest) M Q) : Fw l D ad kA mi pc lo (rest) M Q := by
  intro p e s m args below meth c C H locs ls hP hS hl
  exact lv_ldc2 C.1 C.2.1 C.2.2.2.2.2.1 (C.2.2.2.2.2.2.1 _ hc) d (K p e s m args below meth c C H locs ls hP hS hl)
theorem r_ldcS {i : Nat} (d : decode mi.cc pc = .ok (.ldc (scR.getD i ("", 0, "")).2.1, 2)) (hi : i < 15) (ho : (scR.getD i ("", 0, "")).1 = mi.y.cls) (K : Fw l D ad kA mi (pc + 2) lo (.ref (ad (210 + i)) :: rest) M Q) : Fw l D ad kA mi pc lo (rest) M Q := by
  intro p e s m args below meth c C H locs ls hP hS hl
  exact va_ldcS C.1 C.2.1 C.2.2.2.2.2.1 (ho ▸ (C.2.2.2.2.2.2.2.2.2.1.2.2.1 i hi).1) d (K p e s m args below meth c C H locs ls hP hS hl)
theorem r_iadd {x y : Int32} (d : decode mi.cc pc = .ok (.iadd, 1)) (K : Fw l D ad kA mi (pc + 1) lo (.int (x + y) :: rest) M Q) : Fw l D ad kA mi pc lo (.int y :: .int x :: rest) M Q := by
  intro p e s m args below meth c C H locs ls hP hS hl
  exact lv_iadd C.1 C.2.1 d (K p e s m args below meth c C H locs ls hP hS hl)
theorem r_isub {x y : Int32} (d : decode mi.cc pc = .ok (.isub, 1)) (K : Fw l D ad kA mi (pc + 1) lo (.int (x - y) :: rest) M Q) : Fw l D ad kA mi pc lo (.int y :: .int x :: rest) M Q := by
  intro p e s m args below meth c C H locs ls hP hS hl
  exact lv_isub C.1 C.2.1 d (K p e s m args below meth c C H locs ls hP hS hl)
theorem r_imul {x y : Int32} (d : decode mi.cc pc = .ok (.imul, 1)) (K : Fw l D ad kA mi (pc + 1) lo (.int (x * y) :: rest) M Q) : Fw l D ad kA mi pc lo (.int y :: .int x :: rest) M Q := by
  intro p e s m args below meth c C H locs ls hP hS hl
  exact lv_imul C.1 C.2.1 d (K p e s m args below meth c C H locs ls hP hS hl)
theorem r_iand {x y : Int32} (d : decode mi.cc pc = .ok (.iand, 1)) (K : Fw l D ad kA mi (pc + 1) lo (.int (x &&& y) :: rest) M Q) : Fw l D ad kA mi pc lo (.int y :: .int x :: rest) M Q := by
  intro p e s m args below meth c C H locs ls hP hS hl
  exact lv_iand C.1 C.2.1 d (K p e s m args below meth c C H locs ls hP hS hl)
theorem r_ishr {x y : Int32} (d : decode mi.cc pc = .ok (.ishr, 1)) (K : Fw l D ad kA mi (pc + 1) lo (.int (x >>> (y &&& 31)) :: rest) M Q) : Fw l D ad kA mi pc lo (.int y :: .int x :: rest) M Q := by
  intro p e s m args below meth c C H locs ls hP hS hl
  exact lv_ishr C.1 C.2.1 d (K p e s m args below meth c C H locs ls hP hS hl)
theorem r_idiv {x y : Int32} (d : decode mi.cc pc = .ok (.idiv, 1)) (hne : ¬ y = 0) (K : Fw l D ad kA mi (pc + 1) lo (.int (x / y) :: rest) M Q) : Fw l D ad kA mi pc lo (.int y :: .int x :: rest) M Q := by
  intro p e s m args below meth c C H locs ls hP hS hl
  exact lv_idiv C.1 C.2.1 d hne (K p e s m args below meth c C H locs ls hP hS hl)
theorem r_irem {x y : Int32} (d : decode mi.cc pc = .ok (.irem, 1)) (hne : ¬ y = 0) (K : Fw l D ad kA mi (pc + 1) lo (.int (x - x / y * y) :: rest) M Q) : Fw l D ad kA mi pc lo (.int y :: .int x :: rest) M Q := by
  intro p e s m args below meth c C H locs ls hP hS hl
  exact lv_irem C.1 C.2.1 d hne (K p e s m args below meth c C H locs ls hP hS hl)
theorem r_lsub {x y : Int64} (d : decode mi.cc pc = .ok (.lsub, 1)) (K : Fw l D ad kA mi (pc + 1) lo (.long (x - y) :: rest) M Q) : Fw l D ad kA mi pc lo (.long y :: .long x :: rest) M Q := by
  intro p e s m args below meth c C H locs ls hP hS hl
  exact lv_lsub C.1 C.2.1 d (K p e s m args below meth c C H locs ls hP hS hl)
theorem r_land {x y : Int64} (d : decode mi.cc pc = .ok (.land, 1)) (K : Fw l D ad kA mi (pc + 1) lo (.long (x &&& y) :: rest) M Q) : Fw l D ad kA mi pc lo (.long y :: .long x :: rest) M Q := by
  intro p e s m args below meth c C H locs ls hP hS hl
  exact lv_land C.1 C.2.1 d (K p e s m args below meth c C H locs ls hP hS hl)
theorem r_lor {x y : Int64} (d : decode mi.cc pc = .ok (.lor, 1)) (K : Fw l D ad kA mi (pc + 1) lo (.long (x ||| y) :: rest) M Q) : Fw l D ad kA mi pc lo (.long y :: .long x :: rest) M Q := by
  intro p e s m args below meth c C H locs ls hP hS hl
  exact lv_lor C.1 C.2.1 d (K p e s m args below meth c C H locs ls hP hS hl)
theorem r_lxor {x y : Int64} (d : decode mi.cc pc = .ok (.lxor, 1)) (K : Fw l D ad kA mi (pc + 1) lo (.long (x ^^^ y) :: rest) M Q) : Fw l D ad kA mi pc lo (.long y :: .long x :: rest) M Q := by
  intro p e s m args below meth c C H locs ls hP hS hl
  exact lv_lxor C.1 C.2.1 d (K p e s m args below meth c C H locs ls hP hS hl)
theorem r_lushr {x : Int64} {y : Int32} (d : decode mi.cc pc = .ok (.lushr, 1)) (K : Fw l D ad kA mi (pc + 1) lo (.long ((x.toUInt64 >>> (y.toInt64.toUInt64 &&& Int64.toUInt64 63)).toInt64) :: rest) M Q) : Fw l D ad kA mi pc lo (.int y :: .long x :: rest) M Q := by
  intro p e s m args below meth c C H locs ls hP hS hl
  exact lv_lushr C.1 C.2.1 d rfl (K p e s m args below meth c C H locs ls hP hS hl)
theorem r_lshl {x : Int64} {y : Int32} (d : decode mi.cc pc = .ok (.lshl, 1)) (K : Fw l D ad kA mi (pc + 1) lo (.long (x <<< (y.toInt64 &&& 63)) :: rest) M Q) : Fw l D ad kA mi pc lo (.int y :: .long x :: rest) M Q := by
  intro p e s m args below meth c C H locs ls hP hS hl
  exact lv_lshl C.1 C.2.1 d rfl (K p e s m args below meth c C H locs ls hP hS hl)
theorem r_lshr {x : Int64} {y : Int32} (d : decode mi.cc pc = .ok (.lshr, 1)) (K : Fw l D ad kA mi (pc + 1) lo (.long (x >>> (y.toInt64 &&& 63)) :: rest) M Q) : Fw l D ad kA mi pc lo (.int y :: .long x :: rest) M Q := by
  intro p e s m args below meth c C H locs ls hP hS hl
  exact lv_lshr C.1 C.2.1 d rfl (K p e s m args below meth c C H locs ls hP hS hl)
theorem r_ineg {x : Int32} (d : decode mi.cc pc = .ok (.ineg, 1)) (K : Fw l D ad kA mi (pc + 1) lo (.int (-x) :: rest) M Q) : Fw l D ad kA mi pc lo (.int x :: rest) M Q := by
  intro p e s m args below meth c C H locs ls hP hS hl
  exact lv_ineg C.1 C.2.1 d (K p e s m args below meth c C H locs ls hP hS hl)
theorem r_i2c {x : Int32} (d : decode mi.cc pc = .ok (.i2c, 1)) (K : Fw l D ad kA mi (pc + 1) lo (.int (x.toUInt32 % 65536).toInt32 :: rest) M Q) : Fw l D ad kA mi pc lo (.int x :: rest) M Q := by
  intro p e s m args below meth c C H locs ls hP hS hl
  exact lv_i2c C.1 C.2.1 d rfl (K p e s m args below meth c C H locs ls hP hS hl)
theorem r_i2l {x : Int32} (d : decode mi.cc pc = .ok (.i2l, 1)) (K : Fw l D ad kA mi (pc + 1) lo (.long x.toInt64 :: rest) M Q) : Fw l D ad kA mi pc lo (.int x :: rest) M Q := by
  intro p e s m args below meth c C H locs ls hP hS hl
  exact lv_i2l C.1 C.2.1 d rfl (K p e s m args below meth c C H locs ls hP hS hl)
theorem r_i2b {x : Int32} (d : decode mi.cc pc = .ok (.i2b, 1)) (K : Fw l D ad kA mi (pc + 1) lo (.int x.toInt8.toInt32 :: rest) M Q) : Fw l D ad kA mi pc lo (.int x :: rest) M Q := by
  intro p e s m args below meth c C H locs ls hP hS hl
  exact lv_i2b C.1 C.2.1 d rfl (K p e s m args below meth c C H locs ls hP hS hl)
theorem r_lcmp {x y : Int64} (d : decode mi.cc pc = .ok (.lcmp, 1)) (K : Fw l D ad kA mi (pc + 1) lo (.int (lg_cmp x y) :: rest) M Q) : Fw l D ad kA mi pc lo (.long y :: .long x :: rest) M Q := by
  intro p e s m args below meth c C H locs ls hP hS hl
  exact W.lcmp C.1 C.2.1 d (K p e s m args below meth c C H locs ls hP hS hl)
theorem r_dup {v : Value} (d : decode mi.cc pc = .ok (.dup, 1)) (hv : v.category = 1) (K : Fw l D ad kA mi (pc + 1) lo (v :: v :: rest) M Q) : Fw l D ad kA mi pc lo (v :: rest) M Q := by
  intro p e s m args below meth c C H locs ls hP hS hl
  exact lv_dup C.1 C.2.1 d hv (K p e s m args below meth c C H locs ls hP hS hl)
theorem r_pop {v : Value} (d : decode mi.cc pc = .ok (.pop, 1)) (hv : v.category = 1) (K : Fw l D ad kA mi (pc + 1) lo (rest) M Q) : Fw l D ad kA mi pc lo (v :: rest) M Q := by
  intro p e s m args below meth c C H locs ls hP hS hl
  exact lv_pop C.1 C.2.1 d hv (K p e s m args below meth c C H locs ls hP hS hl)
theorem r_dup2 {v w : Value} (d : decode mi.cc pc = .ok (.dup2, 1)) (hv : v.category = 1) (hw : w.category = 1) (K : Fw l D ad kA mi (pc + 1) lo (v :: w :: v :: w :: rest) M Q) : Fw l D ad kA mi pc lo (v :: w :: rest) M Q := by
  intro p e s m args below meth c C H locs ls hP hS hl
  exact lv_dup2_11 C.1 C.2.1 d hv hw (K p e s m args below meth c C H locs ls hP hS hl)
theorem r_if_eq {x : Int32} {off : Int} {tgt : Nat} (d : decode mi.cc pc = .ok (.ifCond .eq off, 3)) (ht : (pc : Int) + off = (tgt : Int)) (Kt : x = 0 → Fw l D ad kA mi tgt lo rest M Q) (Kf : ¬ x = 0 → Fw l D ad kA mi (pc + 3) lo rest M Q) : Fw l D ad kA mi pc lo (.int x :: rest) M Q := by
  intro p e s m args below meth c C H locs ls hP hS hl
  exact lv_if_eq C.1 C.2.1 d ht (fun h => Kt h p e s m args below meth c C H locs ls hP hS hl) (fun h => Kf h p e s m args below meth c C H locs ls hP hS hl)
theorem r_icmp_eq {x y : Int32} {off : Int} {tgt : Nat} (d : decode mi.cc pc = .ok (.if_icmp .eq off, 3)) (ht : (pc : Int) + off = (tgt : Int)) (Kt : x = y → Fw l D ad kA mi tgt lo rest M Q) (Kf : ¬ x = y → Fw l D ad kA mi (pc + 3) lo rest M Q) : Fw l D ad kA mi pc lo (.int y :: .int x :: rest) M Q := by
  intro p e s m args below meth c C H locs ls hP hS hl
  exact lv_icmp_eq C.1 C.2.1 d ht (fun h => Kt h p e s m args below meth c C H locs ls hP hS hl) (fun h => Kf h p e s m args below meth c C H locs ls hP hS hl)
theorem r_if_ne {x : Int32} {off : Int} {tgt : Nat} (d : decode mi.cc pc = .ok (.ifCond .ne off, 3)) (ht : (pc : Int) + off = (tgt : Int)) (Kt : ¬ x = 0 → Fw l D ad kA mi tgt lo rest M Q) (Kf : x = 0 → Fw l D ad kA mi (pc + 3) lo rest M Q) : Fw l D ad kA mi pc lo (.int x :: rest) M Q := by
  intro p e s m args below meth c C H locs ls hP hS hl
  exact lv_if_ne C.1 C.2.1 d ht (fun h => Kt h p e s m args below meth c C H locs ls hP hS hl) (fun h => Kf h p e s m args below meth c C H locs ls hP hS hl)
theorem r_icmp_ne {x y : Int32} {off : Int} {tgt : Nat} (d : decode mi.cc pc = .ok (.if_icmp .ne off, 3)) (ht : (pc : Int) + off = (tgt : Int)) (Kt : ¬ x = y → Fw l D ad kA mi tgt lo rest M Q) (Kf : x = y → Fw l D ad kA mi (pc + 3) lo rest M Q) : Fw l D ad kA mi pc lo (.int y :: .int x :: rest) M Q := by
  intro p e s m args below meth c C H locs ls hP hS hl
  exact lv_icmp_ne C.1 C.2.1 d ht (fun h => Kt h p e s m args below meth c C H locs ls hP hS hl) (fun h => Kf h p e s m args below meth c C H locs ls hP hS hl)
theorem r_if_lt {x : Int32} {off : Int} {tgt : Nat} (d : decode mi.cc pc = .ok (.ifCond .lt off, 3)) (ht : (pc : Int) + off = (tgt : Int)) (Kt : x < 0 → Fw l D ad kA mi tgt lo rest M Q) (Kf : ¬ x < 0 → Fw l D ad kA mi (pc + 3) lo rest M Q) : Fw l D ad kA mi pc lo (.int x :: rest) M Q := by
  intro p e s m args below meth c C H locs ls hP hS hl
  exact lv_if_lt C.1 C.2.1 d ht (fun h => Kt h p e s m args below meth c C H locs ls hP hS hl) (fun h => Kf h p e s m args below meth c C H locs ls hP hS hl)
theorem r_icmp_lt {x y : Int32} {off : Int} {tgt : Nat} (d : decode mi.cc pc = .ok (.if_icmp .lt off, 3)) (ht : (pc : Int) + off = (tgt : Int)) (Kt : x < y → Fw l D ad kA mi tgt lo rest M Q) (Kf : ¬ x < y → Fw l D ad kA mi (pc + 3) lo rest M Q) : Fw l D ad kA mi pc lo (.int y :: .int x :: rest) M Q := by
  intro p e s m args below meth c C H locs ls hP hS hl
  exact lv_icmp_lt C.1 C.2.1 d ht (fun h => Kt h p e s m args below meth c C H locs ls hP hS hl) (fun h => Kf h p e s m args below meth c C H locs ls hP hS hl)
theorem r_if_ge {x : Int32} {off : Int} {tgt : Nat} (d : decode mi.cc pc = .ok (.ifCond .ge off, 3)) (ht : (pc : Int) + off = (tgt : Int)) (Kt : 0 ≤ x → Fw l D ad kA mi tgt lo rest M Q) (Kf : ¬ 0 ≤ x → Fw l D ad kA mi (pc + 3) lo rest M Q) : Fw l D ad kA mi pc lo (.int x :: rest) M Q := by
  intro p e s m args below meth c C H locs ls hP hS hl
  exact lv_if_ge C.1 C.2.1 d ht (fun h => Kt h p e s m args below meth c C H locs ls hP hS hl) (fun h => Kf h p e s m args below meth c C H locs ls hP hS hl)
theorem r_icmp_ge {x y : Int32} {off : Int} {tgt : Nat} (d : decode mi.cc pc = .ok (.if_icmp .ge off, 3)) (ht : (pc : Int) + off = (tgt : Int)) (Kt : y ≤ x → Fw l D ad kA mi tgt lo rest M Q) (Kf : ¬ y ≤ x → Fw l D ad kA mi (pc + 3) lo rest M Q) : Fw l D ad kA mi pc lo (.int y :: .int x :: rest) M Q := by
  intro p e s m args below meth c C H locs ls hP hS hl
  exact lv_icmp_ge C.1 C.2.1 d ht (fun h => Kt h p e s m args below meth c C H locs ls hP hS hl) (fun h => Kf h p e s m args below meth c C H locs ls hP hS hl)
theorem r_if_gt {x : Int32} {off : Int} {tgt : Nat} (d : decode mi.cc pc = .ok (.ifCond .gt off, 3)) (ht : (pc : Int) + off = (tgt : Int)) (Kt : 0 < x → Fw l D ad kA mi tgt lo rest M Q) (Kf : ¬ 0 < x → Fw l D ad kA mi (pc + 3) lo rest M Q) : Fw l D ad kA mi pc lo (.int x :: rest) M Q := by
  intro p e s m args below meth c C H locs ls hP hS hl
  exact lv_if_gt C.1 C.2.1 d ht (fun h => Kt h p e s m args below meth c C H locs ls hP hS hl) (fun h => Kf h p e s m args below meth c C H locs ls hP hS hl)
theorem r_icmp_gt {x y : Int32} {off : Int} {tgt : Nat} (d : decode mi.cc pc = .ok (.if_icmp .gt off, 3)) (ht : (pc : Int) + off = (tgt : Int)) (Kt : y < x → Fw l D ad kA mi tgt lo rest M Q) (Kf : ¬ y < x → Fw l D ad kA mi (pc + 3) lo rest M Q) : Fw l D ad kA mi pc lo (.int y :: .int x :: rest) M Q := by
  intro p e s m args below meth c C H locs ls hP hS hl
  exact lv_icmp_gt C.1 C.2.1 d ht (fun h => Kt h p e s m args below meth c C H locs ls hP hS hl) (fun h => Kf h p e s m args below meth c C H locs ls hP hS hl)
theorem r_if_le {x : Int32} {off : Int} {tgt : Nat} (d : decode mi.cc pc = .ok (.ifCond .le off, 3)) (ht : (pc : Int) + off = (tgt : Int)) (Kt : x ≤ 0 → Fw l D ad kA mi tgt lo rest M Q) (Kf : ¬ x ≤ 0 → Fw l D ad kA mi (pc + 3) lo rest M Q) : Fw l D ad kA mi pc lo (.int x :: rest) M Q := by
  intro p e s m args below meth c C H locs ls hP hS hl
  exact lv_if_le C.1 C.2.1 d ht (fun h => Kt h p e s m args below meth c C H locs ls hP hS hl) (fun h => Kf h p e s m args below meth c C H locs ls hP hS hl)
theorem r_icmp_le {x y : Int32} {off : Int} {tgt : Nat} (d : decode mi.cc pc = .ok (.if_icmp .le off, 3)) (ht : (pc : Int) + off = (tgt : Int)) (Kt : x ≤ y → Fw l D ad kA mi tgt lo rest M Q) (Kf : ¬ x ≤ y → Fw l D ad kA mi (pc + 3) lo rest M Q) : Fw l D ad kA mi pc lo (.int y :: .int x :: rest) M Q := by
  intro p e s m args below meth c C H locs ls hP hS hl
  exact lv_icmp_le C.1 C.2.1 d ht (fun h => Kt h p e s m args below meth c C H locs ls hP hS hl) (fun h => Kf h p e s m args below meth c C H locs ls hP hS hl)
theorem r_goto {off : Int} {tgt : Nat} (d : decode mi.cc pc = .ok (.goto off, 3)) (ht : (pc : Int) + off = (tgt : Int)) (K : Fw l D ad kA mi tgt lo rest M Q) : Fw l D ad kA mi pc lo rest M Q := by
  intro p e s m args below meth c C H locs ls hP hS hl
  exact lv_goto C.1 C.2.1 d ht (K p e s m args below meth c C H locs ls hP hS hl)
theorem r_tableIn {dflt low high : Int} {offs : Array Int} {len : Nat} {x : Int32} {off : Int} {tgt : Nat} (d : decode mi.cc pc = .ok (.tableswitch dflt low high offs, len)) (h1 : ¬ x.toInt < low) (h2 : ¬ high < x.toInt) (ho : offs[(x.toInt - low).toNat]? = some off) (ht : (pc : Int) + off = (tgt : Int)) (K : Fw l D ad kA mi tgt lo rest M Q) : Fw l D ad kA mi pc lo (.int x :: rest) M Q := by
  intro p e s m args below meth c C H locs ls hP hS hl
  exact lv_tableIn C.1 C.2.1 d h1 h2 ho ht (K p e s m args below meth c C H locs ls hP hS hl)
theorem r_tableOut {dflt low high : Int} {offs : Array Int} {len : Nat} {x : Int32} {tgt : Nat} (d : decode mi.cc pc = .ok (.tableswitch dflt low high offs, len)) (h : x.toInt < low ∨ high < x.toInt) (ht : (pc : Int) + dflt = (tgt : Int)) (K : Fw l D ad kA mi tgt lo rest M Q) : Fw l D ad kA mi pc lo (.int x :: rest) M Q := by
  intro p e s m args below meth c C H locs ls hP hS hl
  exact lv_tableOut C.1 C.2.1 d h ht (K p e s m args below meth c C H locs ls hP hS hl)
theorem r_weak {lo' : List (Option Value)} (h : ∀ (i : Nat) (v : Value), lo'[i]? = some (some v) → lo[i]? = some (some v)) (K : Fw l D ad kA mi pc lo' rest M Q) : Fw l D ad kA mi pc lo rest M Q := by
  intro p e s m args below meth c C H locs ls hP hS hl
  exact K p e s m args below meth c C H locs ls hP hS (lp_sub hl h)
/-- a field's link, as the tables have it -/
def Fk (own : String) (index ci k : Nat) : Prop := ∃ (C : String) (T : u_T) (N : Nat) (ty : Nat → FieldType), cls[ci]? = some (C, T, N) ∧ (∀ w ∈ u_ws C T N, w ∈ lw_w) ∧ k < N ∧ Cond.fieldLink own index (T k).1 (T k).2.1 (T k).2.2.1 ∈ lw_w ∧ (∀ j, j < N → parseFieldDescriptor (T j).2.2.1 = some (ty j)) ∧ (∀ a, a < N → ∀ b, b < N → a ≠ b → (T a).2.1 ≠ (T b).2.1)
/-- what a put needs besides: not final, and its type -/
def Fp (ci k : Nat) (ty : FieldType) : Prop := ∃ (C : String) (T : u_T) (N : Nat), cls[ci]? = some (C, T, N) ∧ (T k).2.2.2 = false ∧ parseFieldDescriptor (T k).2.2.1 = some ty
theorem r_getI {c index ci k r : Nat} (d : decode mi.cc pc = .ok (.getfield index, 3)) (hf : fsh c k = some (ci, 0, r)) (hk : Fk mi.y.cls index ci k) (K : Fw l D ad kA mi (pc + 3) lo (.int (gI M c k) :: rest) M Q) : Fw l D ad kA mi pc lo (.ref (ad c) :: rest) M Q := by
  intro p e s m args below meth c0 C H locs ls hP hS hl
  obtain ⟨CN, T, N, ty, h1, h2, h3, h4, h5, h6⟩ := hk
  obtain ⟨fs, hs, hf⟩ := fsh_spec hf
  refine va_get (own := mi.y.cls) (ref := (T k).1) C.1 C.2.1 C.2.2.2.2.2.2.1 h2 C.2.2.2.2.2.1 C.2.2.2.2.2.2.2.1 hP c (wl_at hs) h1 k h3 (C.2.2.2.2.2.2.1 _ h4) (fun _ h => h) (v := .int (gI M c k)) ?_ d (K p e s m args below meth c0 C H locs ls hP hS hl)
  rw [List.getElem?_mapIdx, hf]
  simp [fv]
theorem r_getR {c index ci k r : Nat} (d : decode mi.cc pc = .ok (.getfield index, 3)) (hf : fsh c k = some (ci, 1, r)) (hk : Fk mi.y.cls index ci k) (K : Fw l D ad kA mi (pc + 3) lo (.ref (ad r) :: rest) M Q) : Fw l D ad kA mi pc lo (.ref (ad c) :: rest) M Q := by
  intro p e s m args below meth c0 C H locs ls hP hS hl
  obtain ⟨CN, T, N, ty, h1, h2, h3, h4, h5, h6⟩ := hk
  obtain ⟨fs, hs, hf⟩ := fsh_spec hf
  refine va_get (own := mi.y.cls) (ref := (T k).1) C.1 C.2.1 C.2.2.2.2.2.2.1 h2 C.2.2.2.2.2.1 C.2.2.2.2.2.2.2.1 hP c (wl_at hs) h1 k h3 (C.2.2.2.2.2.2.1 _ h4) (fun _ h => h) (v := .ref (ad r)) ?_ d (K p e s m args below meth c0 C H locs ls hP hS hl)
  rw [List.getElem?_mapIdx, hf]
  simp [fv]
theorem r_getL {c index ci k r : Nat} (d : decode mi.cc pc = .ok (.getfield index, 3)) (hf : fsh c k = some (ci, 2, r)) (hk : Fk mi.y.cls index ci k) (K : Fw l D ad kA mi (pc + 3) lo (.long (gL M c k) :: rest) M Q) : Fw l D ad kA mi pc lo (.ref (ad c) :: rest) M Q := by
  intro p e s m args below meth c0 C H locs ls hP hS hl
  obtain ⟨CN, T, N, ty, h1, h2, h3, h4, h5, h6⟩ := hk
  obtain ⟨fs, hs, hf⟩ := fsh_spec hf
  refine va_get (own := mi.y.cls) (ref := (T k).1) C.1 C.2.1 C.2.2.2.2.2.2.1 h2 C.2.2.2.2.2.1 C.2.2.2.2.2.2.2.1 hP c (wl_at hs) h1 k h3 (C.2.2.2.2.2.2.1 _ h4) (fun _ h => h) (v := .long (gL M c k)) ?_ d (K p e s m args below meth c0 C H locs ls hP hS hl)
  rw [List.getElem?_mapIdx, hf]
  simp [fv]
theorem r_putF {c index ci k r : Nat} {v : Int32} {ty : FieldType} (d : decode mi.cc pc = .ok (.putfield index, 3)) (hf : fsh c k = some (ci, 0, r)) (hk : Fk mi.y.cls index ci k) (hp : Fp ci k ty) (hn : narrow ty (.int v) = .int v) (hfit : fits ty (.int v) = true) (K : Fw l D ad kA mi (pc + 3) lo rest (sI M c k v) Q) : Fw l D ad kA mi pc lo (.int v :: .ref (ad c) :: rest) M Q := by
  intro p e s m args below meth c0 C H locs ls hP hS hl
  obtain ⟨CN, T, N, ty0, h1, h2, h3, h4, h5, h6⟩ := hk
  obtain ⟨fs, hs, hf⟩ := fsh_spec hf
  obtain ⟨CN', T', N', g1, g2, g3⟩ := hp
  cases h1.symm.trans g1
  have hl2 : k < (fs.mapIdx (fv ad M c)).length := by
    have := (List.getElem?_eq_some_iff.mp hf).1
    simpa using this
  refine va_put (own := mi.y.cls) (ref := (T k).1) C.1 C.2.1 C.2.2.2.2.2.2.1 h2 ty0 h5 h6 C.2.2.2.2.2.1 C.2.2.2.2.2.2.2.1 hP (wl_D C.2.2.2.2.2.2.2.2.1) hS c (wl_at hs) h1 k h3 (C.2.2.2.2.2.2.1 _ h4) (fun _ h => h) g2 g3 hn hfit hl2 d (fun H1 locs1 hP1 _ hS1 => K p e s m args below meth c0 C H1 locs1 ls ?_ hS1 hl)
  rw [← ce_fI hf (kA := kA), wl_set hs ce_oI] at hP1
  exact hP1
theorem r_putL {c index ci k r : Nat} {v : Int64} {ty : FieldType} (d : decode mi.cc pc = .ok (.putfield index, 3)) (hf : fsh c k = some (ci, 2, r)) (hk : Fk mi.y.cls index ci k) (hp : Fp ci k ty) (hn : narrow ty (.long v) = .long v) (hfit : fits ty (.long v) = true) (K : Fw l D ad kA mi (pc + 3) lo rest (sL M c k v) Q) : Fw l D ad kA mi pc lo (.long v :: .ref (ad c) :: rest) M Q := by
  intro p e s m args below meth c0 C H locs ls hP hS hl
  obtain ⟨CN, T, N, ty0, h1, h2, h3, h4, h5, h6⟩ := hk
  obtain ⟨fs, hs, hf⟩ := fsh_spec hf
  obtain ⟨CN', T', N', g1, g2, g3⟩ := hp
  cases h1.symm.trans g1
  have hl2 : k < (fs.mapIdx (fv ad M c)).length := by
    have := (List.getElem?_eq_some_iff.mp hf).1
    simpa using this
  refine va_put (own := mi.y.cls) (ref := (T k).1) C.1 C.2.1 C.2.2.2.2.2.2.1 h2 ty0 h5 h6 C.2.2.2.2.2.1 C.2.2.2.2.2.2.2.1 hP (wl_D C.2.2.2.2.2.2.2.2.1) hS c (wl_at hs) h1 k h3 (C.2.2.2.2.2.2.1 _ h4) (fun _ h => h) g2 g3 hn hfit hl2 d (fun H1 locs1 hP1 _ hS1 => K p e s m args below meth c0 C H1 locs1 ls ?_ hS1 hl)
  rw [← ce_fL hf (kA := kA), wl_set hs ce_oL] at hP1
  exact hP1
theorem r_putI {c index ci k r : Nat} {v : Int32} (d : decode mi.cc pc = .ok (.putfield index, 3)) (hf : fsh c k = some (ci, 0, r)) (hk : Fk mi.y.cls index ci k) (hp : Fp ci k .int) (K : Fw l D ad kA mi (pc + 3) lo rest (sI M c k v) Q) : Fw l D ad kA mi pc lo (.int v :: .ref (ad c) :: rest) M Q := r_putF d hf hk hp rfl rfl K
theorem nar_z {v : Int32} (h : v = 0 ∨ v = 1) : narrow .boolean (.int v) = .int v ∧ fits .boolean (.int v) = true := by
  rcases h with rfl | rfl <;> exact ⟨by decide, by decide⟩
theorem r_putZ {c index ci k r : Nat} {v : Int32} (d : decode mi.cc pc = .ok (.putfield index, 3)) (hf : fsh c k = some (ci, 0, r)) (hk : Fk mi.y.cls index ci k) (hp : Fp ci k .boolean) (hv : v = 0 ∨ v = 1) (K : Fw l D ad kA mi (pc + 3) lo rest (sI M c k v) Q) : Fw l D ad kA mi pc lo (.int v :: .ref (ad c) :: rest) M Q := r_putF d hf hk hp (nar_z hv).1 (nar_z hv).2 K
theorem r_iald {c n : Nat} {i : Int32} (d : decode mi.cc pc = .ok (.iaload, 1)) (hs : shL[c]? = some (.inl (0, n))) (hin : vp_in i n) (K : Fw l D ad kA mi (pc + 1) lo (.int (gI M c i.toNatClampNeg) :: rest) M Q) : Fw l D ad kA mi pc lo (.int i :: .ref (ad c) :: rest) M Q := by
  intro p e s m args below meth c0 C H locs ls hP hS hl
  exact va_iald C.1 C.2.1 C.2.2.2.2.2.2.2.1 hP c 0 (wl_at hs) rfl hin d (K p e s m args below meth c0 C H locs ls hP hS hl)
theorem r_bald {c n : Nat} {i : Int32} (d : decode mi.cc pc = .ok (.baload, 1)) (hs : shL[c]? = some (.inl (1, n))) (hin : vp_in i n) (K : Fw l D ad kA mi (pc + 1) lo (.int (gI M c i.toNatClampNeg) :: rest) M Q) : Fw l D ad kA mi pc lo (.int i :: .ref (ad c) :: rest) M Q := by
  intro p e s m args below meth c0 C H locs ls hP hS hl
  exact va_bald C.1 C.2.1 C.2.2.2.2.2.2.2.1 hP c 1 (wl_at hs) rfl hin d (K p e s m args below meth c0 C H locs ls hP hS hl)
theorem r_zald {c n : Nat} {i : Int32} (d : decode mi.cc pc = .ok (.baload, 1)) (hs : shL[c]? = some (.inl (2, n))) (hin : vp_in i n) (K : Fw l D ad kA mi (pc + 1) lo (.int (gI M c i.toNatClampNeg) :: rest) M Q) : Fw l D ad kA mi pc lo (.int i :: .ref (ad c) :: rest) M Q := by
  intro p e s m args below meth c0 C H locs ls hP hS hl
  exact va_zald C.1 C.2.1 C.2.2.2.2.2.2.2.1 hP c 2 (wl_at hs) rfl hin d (K p e s m args below meth c0 C H locs ls hP hS hl)
theorem r_lald {c n : Nat} {i : Int32} (d : decode mi.cc pc = .ok (.laload, 1)) (hs : shL[c]? = some (.inl (3, n))) (hin : vp_in i n) (K : Fw l D ad kA mi (pc + 1) lo (.long (gL M c i.toNatClampNeg) :: rest) M Q) : Fw l D ad kA mi pc lo (.int i :: .ref (ad c) :: rest) M Q := by
  intro p e s m args below meth c0 C H locs ls hP hS hl
  exact va_lald C.1 C.2.1 C.2.2.2.2.2.2.2.1 hP c 3 (wl_at hs) rfl hin d (K p e s m args below meth c0 C H locs ls hP hS hl)
theorem r_iast {c n : Nat} {i : Int32} {v : Int32} (d : decode mi.cc pc = .ok (.iastore, 1)) (hs : shL[c]? = some (.inl (0, n))) (hin : vp_in i n) (K : Fw l D ad kA mi (pc + 1) lo rest (sI M c i.toNatClampNeg (v)) Q) : Fw l D ad kA mi pc lo (.int v :: .int i :: .ref (ad c) :: rest) M Q := by
  intro p e s m args below meth c0 C H locs ls hP hS hl
  refine va_iast C.1 C.2.1 C.2.2.2.2.2.2.2.1 hP (wl_D C.2.2.2.2.2.2.2.2.1) hS c 0 (wl_at hs) rfl hin d (fun H1 locs1 hP1 _ hS1 => K p e s m args below meth c0 C H1 locs1 ls ?_ hS1 hl)
  rw [← ce_aI (k := 0) (by decide) (ad := ad) (kA := kA), wl_set hs ce_oI] at hP1
  exact hP1
theorem r_bast {c n : Nat} {i : Int32} {v : Int32} (d : decode mi.cc pc = .ok (.bastore, 1)) (hs : shL[c]? = some (.inl (1, n))) (hin : vp_in i n) (K : Fw l D ad kA mi (pc + 1) lo rest (sI M c i.toNatClampNeg (vp_nar .byte v)) Q) : Fw l D ad kA mi pc lo (.int v :: .int i :: .ref (ad c) :: rest) M Q := by
  intro p e s m args below meth c0 C H locs ls hP hS hl
  refine va_bast C.1 C.2.1 C.2.2.2.2.2.2.2.1 hP (wl_D C.2.2.2.2.2.2.2.2.1) hS c 1 (wl_at hs) rfl hin d (fun H1 locs1 hP1 _ hS1 => K p e s m args below meth c0 C H1 locs1 ls ?_ hS1 hl)
  rw [← ce_aI (k := 1) (by decide) (ad := ad) (kA := kA), wl_set hs ce_oI] at hP1
  exact hP1
theorem r_zast {c n : Nat} {i : Int32} {v : Int32} (d : decode mi.cc pc = .ok (.bastore, 1)) (hs : shL[c]? = some (.inl (2, n))) (hin : vp_in i n) (K : Fw l D ad kA mi (pc + 1) lo rest (sI M c i.toNatClampNeg (vp_nar .boolean v)) Q) : Fw l D ad kA mi pc lo (.int v :: .int i :: .ref (ad c) :: rest) M Q := by
  intro p e s m args below meth c0 C H locs ls hP hS hl
  refine va_zast C.1 C.2.1 C.2.2.2.2.2.2.2.1 hP (wl_D C.2.2.2.2.2.2.2.2.1) hS c 2 (wl_at hs) rfl hin d (fun H1 locs1 hP1 _ hS1 => K p e s m args below meth c0 C H1 locs1 ls ?_ hS1 hl)
  rw [← ce_aI (k := 2) (by decide) (ad := ad) (kA := kA), wl_set hs ce_oI] at hP1
  exact hP1
theorem r_last {c n : Nat} {i : Int32} {v : Int64} (d : decode mi.cc pc = .ok (.lastore, 1)) (hs : shL[c]? = some (.inl (3, n))) (hin : vp_in i n) (K : Fw l D ad kA mi (pc + 1) lo rest (sL M c i.toNatClampNeg (v)) Q) : Fw l D ad kA mi pc lo (.long v :: .int i :: .ref (ad c) :: rest) M Q := by
  intro p e s m args below meth c0 C H locs ls hP hS hl
  refine va_last C.1 C.2.1 C.2.2.2.2.2.2.2.1 hP (wl_D C.2.2.2.2.2.2.2.2.1) hS c 3 (wl_at hs) rfl hin d (fun H1 locs1 hP1 _ hS1 => K p e s m args below meth c0 C H1 locs1 ls ?_ hS1 hl)
  rw [← ce_aL (ad := ad) (kA := kA), wl_set hs ce_oL] at hP1
  exact hP1
theorem r_alen {c k n : Nat} {v : Int32} (d : decode mi.cc pc = .ok (.arraylength, 1)) (hs : shL[c]? = some (.inl (k, n))) (hk : k < 4) (hv : Int32.ofNat n = v) (K : Fw l D ad kA mi (pc + 1) lo (.int v :: rest) M Q) : Fw l D ad kA mi pc lo (.ref (ad c) :: rest) M Q := by
  intro p e s m args below meth c0 C H locs ls hP hS hl
  match k, hk with
  | 0, _ => exact va_alen C.1 C.2.1 C.2.2.2.2.2.2.2.1 hP c 0 (wl_at hs) rfl hv d (K p e s m args below meth c0 C H locs ls hP hS hl)
  | 1, _ => exact va_alen C.1 C.2.1 C.2.2.2.2.2.2.2.1 hP c 1 (wl_at hs) rfl hv d (K p e s m args below meth c0 C H locs ls hP hS hl)
  | 2, _ => exact va_alen C.1 C.2.1 C.2.2.2.2.2.2.2.1 hP c 2 (wl_at hs) rfl hv d (K p e s m args below meth c0 C H locs ls hP hS hl)
  | 3, _ => exact va_alen C.1 C.2.1 C.2.2.2.2.2.2.2.1 hP c 3 (wl_at hs) rfl hv d (K p e s m args below meth c0 C H locs ls hP hS hl)
/-! what lies outside -/
theorem r_getst {j index : Nat} (d : decode mi.cc pc = .ok (.getstatic index, 3)) (hj : j < 3) (hk : Cond.fieldLink mi.y.cls index "BellTable$Manners" (stN.getD j "") "[I" ∈ lw_w) (K : Fw l D ad kA mi (pc + 3) lo (.ref (ad (200 + j)) :: rest) M Q) : Fw l D ad kA mi pc lo rest M Q := by
  intro p e s m args below meth c C H locs ls hP hS hl
  exact va_gets C.1 C.2.1 (C.2.2.2.2.2.2.2.2.2.1.1 j hj).1 hS C.2.2.2.2.2.1 (C.2.2.2.2.2.2.1 _ hk) (fun _ h => h) d (K p e s m args below meth c C H locs ls hP hS hl)
theorem r_staticald {j : Nat} {i : Int32} (d : decode mi.cc pc = .ok (.iaload, 1)) (hj : j < 3) (hin : vp_in i 4) (K : Fw l D ad kA mi (pc + 1) lo (.int ((stV.getD j []).getD i.toNatClampNeg 0) :: rest) M Q) : Fw l D ad kA mi pc lo (.int i :: .ref (ad (200 + j)) :: rest) M Q := by
  intro p e s m args below meth c C H locs ls hP hS hl
  exact va_ti C.1 C.2.1 (C.2.2.2.2.2.2.2.2.2.1.1 j hj).2 hS hin rfl d (K p e s m args below meth c C H locs ls hP hS hl)
theorem r_getcs {index : Nat} (d : decode mi.cc pc = .ok (.getstatic index, 3)) (hk : Cond.fieldLink mi.y.cls index "java/lang/String" "COMPACT_STRINGS" "Z" ∈ lw_w) (K : Fw l D ad kA mi (pc + 3) lo (.int 1 :: rest) M Q) : Fw l D ad kA mi pc lo rest M Q := by
  intro p e s m args below meth c C H locs ls hP hS hl
  exact va_gets C.1 C.2.1 C.2.2.2.2.2.2.2.2.2.1.2.1 hS C.2.2.2.2.2.1 (C.2.2.2.2.2.2.1 _ hk) (fun _ h => h) d (K p e s m args below meth c C H locs ls hP hS hl)
theorem r_scCoder {i index : Nat} (d : decode mi.cc pc = .ok (.getfield index, 3)) (hi : i < 15) (hk : Cond.fieldLink mi.y.cls index "java/lang/String" "coder" "B" ∈ lw_w) (K : Fw l D ad kA mi (pc + 3) lo (.int 0 :: rest) M Q) : Fw l D ad kA mi pc lo (.ref (ad (210 + i)) :: rest) M Q := by
  intro p e s m args below meth c C H locs ls hP hS hl
  exact vk_getf C.1 C.2.1 (C.2.2.2.2.2.2.2.2.2.1.2.2.1 i hi).2.2.1 hS C.2.2.2.2.2.1 (C.2.2.2.2.2.2.1 _ hk) (fun _ h => h) d (K p e s m args below meth c C H locs ls hP hS hl)
theorem r_scValue {i index : Nat} (d : decode mi.cc pc = .ok (.getfield index, 3)) (hi : i < 15) (hk : Cond.fieldLink mi.y.cls index "java/lang/String" "value" "[B" ∈ lw_w) (K : Fw l D ad kA mi (pc + 3) lo (.ref (ad (230 + i)) :: rest) M Q) : Fw l D ad kA mi pc lo (.ref (ad (210 + i)) :: rest) M Q := by
  intro p e s m args below meth c C H locs ls hP hS hl
  exact vk_getf C.1 C.2.1 (C.2.2.2.2.2.2.2.2.2.1.2.2.1 i hi).2.2.2.1 hS C.2.2.2.2.2.1 (C.2.2.2.2.2.2.1 _ hk) (fun _ h => h) d (K p e s m args below meth c C H locs ls hP hS hl)
theorem r_scald {j : Nat} {i : Int32} (d : decode mi.cc pc = .ok (.baload, 1)) (hj : j < 15) (hin : vp_in i (scB.getD j []).length) (K : Fw l D ad kA mi (pc + 1) lo (.int ((scB.getD j []).getD i.toNatClampNeg 0) :: rest) M Q) : Fw l D ad kA mi pc lo (.int i :: .ref (ad (230 + j)) :: rest) M Q := by
  intro p e s m args below meth c C H locs ls hP hS hl
  exact va_tb C.1 C.2.1 (C.2.2.2.2.2.2.2.2.2.1.2.2.1 j hj).2.2.2.2 hS hin rfl d (K p e s m args below meth c C H locs ls hP hS hl)
theorem r_sclen {j : Nat} {v : Int32} (d : decode mi.cc pc = .ok (.arraylength, 1)) (hj : j < 15) (hv : Int32.ofNat (scB.getD j []).length = v) (K : Fw l D ad kA mi (pc + 1) lo (.int v :: rest) M Q) : Fw l D ad kA mi pc lo (.ref (ad (230 + j)) :: rest) M Q := by
  intro p e s m args below meth c C H locs ls hP hS hl
  exact va_tlen C.1 C.2.1 (C.2.2.2.2.2.2.2.2.2.1.2.2.1 j hj).2.2.2.2 hS hv d (K p e s m args below meth c C H locs ls hP hS hl)
theorem r_getfmt {index : Nat} (d : decode mi.cc pc = .ok (.getstatic index, 3)) (hk : Cond.fieldLink mi.y.cls index "jdk/internal/util/Preconditions" "SIOOBE_FORMATTER" "Ljava/util/function/BiFunction;" ∈ lw_w) (K : ∀ v : Value, (v = .null ∨ ∃ t, v = .ref t) → Fw l D ad kA mi (pc + 3) lo (v :: rest) M Q) : Fw l D ad kA mi pc lo rest M Q := by
  intro p e s m args below meth c C H locs ls hP hS hl
  rcases C.2.2.2.2.2.2.2.2.2.1.2.2.2.2 with h | ⟨t, h⟩
  · exact va_gets C.1 C.2.1 h hS C.2.2.2.2.2.1 (C.2.2.2.2.2.2.1 _ hk) (fun _ h => h) d (K _ (Or.inl rfl) p e s m args below meth c C H locs ls hP hS hl)
  · exact va_gets C.1 C.2.1 h hS C.2.2.2.2.2.1 (C.2.2.2.2.2.2.1 _ hk) (fun _ h => h) d (K _ (Or.inr ⟨t, rfl⟩) p e s m args below meth c C H locs ls hP hS hl)
/-! ends -/
theorem po_of {R : Outcome} {s t : State} {H : Heap} {locs : List Loc} {args : Array Value} (hq : Q R M) (hP : va_P D cls (wl ad kA M) H) (hS : va_S (AW ad) s.heap H locs) (ht : t.heap = H) : Po D ad kA Q args s R t := ⟨⟨M, hq, by rw [ht]; exact hP⟩, hS.F ht⟩
theorem r_iret {v : Int32} (d : decode mi.cc pc = .ok (.ireturn, 1)) (hr : mi.ret = some .int) (hq : Q (.returned (some (.int v))) M) : Fw l D ad kA mi pc lo [.int v] M Q := by
  intro p e s m args below meth c C H locs ls hP hS hl
  exact W.imp MQ.x (W.iret C.1 C.2.1 (C.2.2.2.1.trans hr) (fun t ht _ => po_of hq hP hS ht) hS.2.2 d C.2.2.2.2.1)
theorem r_zret {v : Int32} {ty : FieldType} (d : decode mi.cc pc = .ok (.ireturn, 1)) (hr : mi.ret = some ty) (hn : narrow ty (.int v) = .int v) (hq : Q (.returned (some (.int v))) M) : Fw l D ad kA mi pc lo [.int v] M Q := by
  intro p e s m args below meth c C H locs ls hP hS hl
  exact W.imp MQ.x (W.zret C.1 C.2.1 (C.2.2.2.1.trans hr) hn (fun t ht _ => po_of hq hP hS ht) hS.2.2 d C.2.2.2.2.1)
theorem r_lret {v : Int64} (d : decode mi.cc pc = .ok (.lreturn, 1)) (hr : mi.ret = some .long) (hq : Q (.returned (some (.long v))) M) : Fw l D ad kA mi pc lo [.long v] M Q := by
  intro p e s m args below meth c C H locs ls hP hS hl
  exact W.imp MQ.x (W.lret C.1 C.2.1 (C.2.2.2.1.trans hr) (fun t ht _ => po_of hq hP hS ht) hS.2.2 d C.2.2.2.2.1)
theorem r_vret (d : decode mi.cc pc = .ok (.return_, 1)) (hr : mi.ret = none) (hq : Q (.returned none) M) : Fw l D ad kA mi pc lo [] M Q := by
  intro p e s m args below meth c C H locs ls hP hS hl
  exact W.imp MQ.x (W.vret C.1 C.2.1 (C.2.2.2.1.trans hr) (fun t ht _ => po_of hq hP hS ht) hS.2.2 d C.2.2.2.2.1)
end Rules
end
section
/-! A METHOD's JUDGEMENT, and calls -/
def MetX (l : Launch) (y : MethodName) (ws : List Cond) (rm : Room) (Pc : Array Value → State → Prop) (Qc : Array Value → State → Outcome → State → Prop) (free : Addr → Prop) : Prop :=
  MetFree l y (headSpec ws rm) Pc (fun _ _ _ _ _ => True) (fun a st oc t => Qc a st oc t ∧ ∃ L, (st.WarmedH t.vm ∧ st.sameButNew ({ t with vm := st.vm } : State) L 0 0) ∧ ∀ q ∈ L, free q.base)
theorem MetX.met {l : Launch} {y : MethodName} {ws : List Cond} {rm : Room} {Pc : Array Value → State → Prop} {Qc : Array Value → State → Outcome → State → Prop} {free : Addr → Prop} (h : MetX l y ws rm Pc Qc free) (hr : ∀ a st oc t, Qc a st oc t → ∃ v, oc = .returned v) : Met l y ws rm Pc Qc 0 0 free := by
  intro p e h1 h2 h3 s m args below h4 h5 h6 h7
  obtain ⟨n, oc, g1, g2, g3, g4, L, g5, g6⟩ := h p e h1 h2 h3 s m args below h4 h5 h6 h7
  exact ⟨n, oc, g1, g2, g3, g4, L, ⟨hr _ _ _ _ g4, g5.1, g5.2⟩, g6⟩
/-- a method's start: its arguments, the world -/
def CP (D : va_G) (ad : Nat → Nat) (kA : Nat → ClassId) (M : Mem) : State → Prop := fun U => va_P D cls (wl ad kA M) U.heap ∧ va_K D cls (tyK kA) U ∧ apart ad ∧ Out ad U U.heap
def Cal (l : Launch) (D : va_G) (ad : Nat → Nat) (kA : Nat → ClassId) (mi : MI) (av : List Value) (M : Mem) (Q : Outcome → Mem → Prop) : Prop :=
  MetX l mi.y (wsOf mi) (rmOf mi) (va_Pc av (CP D ad kA M)) (Po D ad kA Q) (AW ad)
section Calls1
variable {l : Launch} {D : va_G} {ad : Nat → Nat} {kA : Nat → ClassId} {mi mi2 : MI} {pc : Nat} {lo : List (Option Value)} {rest : List Value} {M : Mem} {Q : Outcome → Mem → Prop}
theorem CP.blind {av : List Value} : FrameBlind (va_Pc av (CP D ad kA M)) := by
  intro a U g mk h
  obtain ⟨h0, h1, h2, h3, h4⟩ := h
  exact ⟨h0, h1, va_K.moved (u := U) (U := U.calling g mk a) (Vm.Alike.refl U.vm) h2, h3, Out.same (U := U.calling g mk a) (u := U) rfl h4⟩
theorem Cal.of {av : List Value} (hy : plainName mi.y.cls = true) (hh : mi.hh = []) (hlo : lv_args 0 av = lp lo) (hlen : (lg_sl av).length ≤ mi.nL) (K : Fw l D ad kA mi 0 lo [] M Q) : Cal l D ad kA mi av M Q := by
  unfold Cal MetX
  refine MetFree.of_bodyS (code := mi.cc) (maxLocals := mi.nL) (ret := mi.ret) hy ?_ ?_
  · intro args s m h hn
    obtain ⟨meth, c, h1, h2, h3, h4, h5, h6, -, -⟩ := Cond.code_spec hn (atoms_spec (ws := wsOf mi) h _ List.mem_cons_self)
    exact ⟨meth, c, h1, h2, h3, h4, h5, h6⟩
  · intro p e s m args below meth c s₁ B hml hP _
    have hh0 : s₁.heap = s.heap := by rw [B.state]; rfl
    obtain ⟨rfl, hP, hK, hap, hO⟩ := hP
    have hts : ∀ w ∈ wsOf mi, w.before av.toArray s = true := atoms_spec (ws := wsOf mi) B.pre
    have hex : c.exceptionTable.isEmpty = true := BodyLoose.noHandlers B (hts _ List.mem_cons_self)
    have hl := lv_entry av (n := mi.nL) hlen
    have C : Cx D ad kA mi p s m av.toArray meth c := ⟨B.exec, B.bytes, hml, B.returns, B.notSynchronized, findClass_of_methodNamed B.named, fun w hw => hts w (List.mem_cons_of_mem _ hw), hK, hap, hO, by
      rw [hh]
      have : c.exceptionTable = #[] := by simpa using hex
      rw [this]; rfl⟩
    have k := K p e s m av.toArray below meth c C s.heap [] _ hP va_S.rf (by rw [← hlo]; exact hl)
    rw [← lg_entry_eq] at k
    obtain ⟨t, a1, oc, b1, b2, b3⟩ := k s₁ hh0 (Stand.of_body B)
    exact ⟨t, oc, a1, b1, b2, b3⟩
theorem Cal.imp {av : List Value} {Q' : Outcome → Mem → Prop} (h : ∀ oc M', Q oc M' → Q' oc M') (k : Cal l D ad kA mi av M Q) : Cal l D ad kA mi av M Q' := by
  intro p e h1 h2 h3 s m args below h4 h5 h6 h7
  obtain ⟨n, oc, g1, g2, g3, ⟨⟨M', q1, q2⟩, q3⟩, g5⟩ := k p e h1 h2 h3 s m args below h4 h5 h6 h7
  exact ⟨n, oc, g1, g2, g3, ⟨⟨M', h _ _ q1, q2⟩, q3⟩, g5⟩
theorem Fw.imp {st : List Value} {Q' : Outcome → Mem → Prop} (h : ∀ oc M', Q oc M' → Q' oc M') (k : Fw l D ad kA mi pc lo st M Q) : Fw l D ad kA mi pc lo st M Q' := by
  intro p e s m args below meth c C H locs ls hP hS hl
  refine W.imp ?_ (k p e s m args below meth c C H locs ls hP hS hl)
  rintro t ⟨oc, g1, g2, ⟨⟨M', q1, q2⟩, q3⟩, g5⟩
  exact ⟨oc, g1, g2, ⟨⟨M', h _ _ q1, q2⟩, q3⟩, g5⟩
theorem good_ws (h : Cond.code mi2.y mi2.cc mi2.nL mi2.ret ∈ lw_w) : GoodIn lw_w (wsOf mi2) := by
  intro w hw
  have hm : w ∈ lw_w := by
    rcases List.mem_cons.mp hw with rfl | hw
    · exact h
    · exact hw
  exact ⟨hm, good_of_word (List.mem_filter.mp hm).2⟩
/-- a call's link -/
def Mk (own : String) (index : Nat) (mi2 : MI) (n : Nat) : Prop := Cond.methodLink own index mi2.y ∈ lw_w ∧ Cond.initialized mi2.y.cls ∈ lw_w ∧ Cond.code mi2.y mi2.cc mi2.nL mi2.ret ∈ lw_w ∧ (mi2.y.cls ≠ "java/lang/invoke/MethodHandle" ∧ mi2.y.cls ≠ "java/lang/invoke/VarHandle" ∧ (parseMethodDescriptor mi2.y.desc).map (fun d => d.parameters.length) = some n)
def MkV (mi2 : MI) : Prop := Cond.instanceMethod mi2.y ∈ lw_w ∧ Cond.selects mi2.y.cls mi2.y mi2.y ∈ lw_w
def Rm (mi mi2 : MI) : Prop := mi2.fr + 1 ≤ mi.fr ∧ 8 + (mi2.nL + 11) + mi2.lw ≤ mi.lw
theorem call_go {p : Program} {e : Env} {R : Room} {s : State} {m : MethodId} {args : Array Value} {below : List Frame} {meth : Method} {c : Code} {H H0 : Heap} {locs : List Loc} {a : Array Value} {ls : Array Slot} {st0 : List Value} {Q1 : State → Prop} {Q' : Outcome → Mem → Prop}
    (hr : va_Run p l e R s m args below meth c H locs 0 0 0 0 (F0 m pc ls st0) rest (Po D ad kA Q' a) (AW ad)) (hS : va_S (AW ad) H0 H locs)
    (kk : ∀ (v : Option Value) (M' : Mem) (H1 : Heap) (locs1 : List Loc), Q' (.returned v) M' → va_P D cls (wl ad kA M') H1 → va_S (AW ad) H0 H1 locs1 → W p l e R s m args below meth c H1 locs1 0 0 Q1 (F0 m (pc + 3) ls (v.toList ++ rest))) : W p l e R s m args below meth c H locs 0 0 Q1 (F0 m pc ls st0) := by
  intro T hT X
  obtain ⟨v, st₀, t, T', L, h0, X', hL, e1, e2, ⟨⟨M', hq, hP1⟩, hz, hk⟩, st⟩ := hr T hT X
  rw [h0] at hz hk
  obtain ⟨t2, a1, b1⟩ := kk v M' T'.heap (locs ++ L) hq (by rw [e1]; exact hP1)
    ⟨Nat.le_trans hS.1 (by rw [e1]; exact hz), fun q h1 h2 => by rw [e1, hk q (Nat.lt_of_lt_of_le h1 hS.1) h2]; exact hS.2.1 q h1 h2, fun q hq => by
      rcases List.mem_append.mp hq with h | h
      · exact hS.2.2 q h
      · exact hL q h⟩ T' rfl X'
  exact ⟨t2, st t2 a1, b1⟩
theorem CP.at {p : Program} {s : State} {m : MethodId} {args : Array Value} {meth : Method} {c : Code} {H : Heap} {locs : List Loc} (C : Cx D ad kA mi p s m args meth c) (hP : va_P D cls (wl ad kA M) H) (hS : va_S (AW ad) s.heap H locs) : ∀ U : State, U.heap = H → s.WarmedH U.vm → CP D ad kA M U := fun U hU hW => ⟨by rw [hU]; exact hP, va_K.moved hW.alike C.2.2.2.2.2.2.2.1, C.2.2.2.2.2.2.2.2.1, by rw [hU]; exact Out.warm hW hS.2.1 C.2.2.2.2.2.2.2.2.2.1⟩
theorem recv_at {p : Program} {s : State} {m : MethodId} {args : Array Value} {meth : Method} {c : Code} {H : Heap} {x ci : Nat} {fs : List (Nat × Nat)} {q : vw_C} (C : Cx D ad kA mi p s m args meth c) (hP : va_P D cls (wl ad kA M) H) (hs : shL[x]? = some (.inr (ci, fs))) (hc : cls[ci]? = some q) : ∃ cell : Cell, H[ad x]? = some cell ∧ cell.vm.isStatics = false ∧ s.vm.findClass q.1 = some cell.cls := va_recv C.2.2.2.2.2.2.2.1 hP hc (wl_at hs)
/-- a call that returns: the receiver a cell of the world -/
theorem r_callV {x index n : Nat} {As st : List Value} (d : decode mi.cc pc = .ok (.invokevirtual index, 3)) (hk : Mk mi.y.cls index mi2 n) (hv : MkV mi2) (hR : Rm mi mi2) (hst : st = As.reverse ++ .ref (ad x) :: rest) (hn : As.length = n) (hx : (do let sh ← shL[x]?; match sh with | .inr q => (cls[q.1]?).map (fun t => t.1) | .inl _ => none) = some mi2.y.cls) (hw : (rest.map fun v => v.category).sum ≤ 8)
    (K : Cal l D ad kA mi2 (.ref (ad x) :: As) M (fun oc M' => ∃ v, oc = .returned v ∧ Fw l D ad kA mi (pc + 3) lo (v.toList ++ rest) M' Q)) : Fw l D ad kA mi pc lo st M Q := by
  intro p e s m args below meth c C H locs ls hP hS hl
  subst hst
  have hts := C.2.2.2.2.2.2.1
  cases hsx : shL[x]? with
  | none => rw [hsx] at hx; cases hx
  | some sh =>
    rw [hsx] at hx
    cases sh with
    | inl q => cases hx
    | inr q =>
      cases hcq : cls[q.1]? with
      | none => simp only [Option.bind_eq_bind, Option.bind_some, hcq] at hx; cases hx
      | some t =>
        simp only [Option.bind_eq_bind, Option.bind_some, hcq, Option.map_some, Option.some.injEq] at hx
        have hrec := recv_at C hP (ci := q.1) (fs := q.2) hsx hcq
        rw [hx] at hrec
        refine call_go (Q' := fun oc M' => ∃ v, oc = .returned v ∧ Fw l D ad kA mi (pc + 3) lo (v.toList ++ rest) M' Q) (va_runV (cc := mi.cc) (As := As) (rest := rest) (Ts := lw_w) (own := mi.y.cls) (C := mi2.y.cls) (index := index) (bytes := mi2.cc) (maxL := mi2.nL) (ret := mi2.ret) (n := n) ⟨C.1, C.2.1, C.2.2.1, C.2.2.2.2.2.1, hts⟩ (K.met ?_) ⟨callB_of n hts (good_ws hk.2.2.1) rfl rfl rfl (hts _ hk.2.1) (hts _ hk.1) hk.2.2.2 hR, hts _ hv.1, hts _ hv.2⟩ ⟨CP.blind, hrec, fun U hU hW => ⟨rfl, CP.at C hP hS U hU hW⟩⟩ rfl hn hl.1 rfl (lv_room hw) d ⟨Nat.le_refl 0, Nat.le_refl 0⟩) hS ?_
        · rintro a st oc t ⟨⟨M', ⟨v, h, -⟩, -⟩, -⟩
          exact ⟨v, h⟩
        · rintro v M' H1 locs1 ⟨v', h1, h2⟩ hP1 hS1
          cases h1
          exact h2 p e s m args below meth c C H1 locs1 ls hP1 hS1 hl
/-- the same, the receiver a String constant -/
theorem r_callT {i index n : Nat} {As st : List Value} (d : decode mi.cc pc = .ok (.invokevirtual index, 3)) (hk : Mk mi.y.cls index mi2 n) (hv : MkV mi2) (hR : Rm mi mi2) (hst : st = As.reverse ++ .ref (ad (210 + i)) :: rest) (hn : As.length = n) (hi : i < 15) (hy : mi2.y.cls = "java/lang/String") (hw : (rest.map fun v => v.category).sum ≤ 8)
    (K : Cal l D ad kA mi2 (.ref (ad (210 + i)) :: As) M (fun oc M' => ∃ v, oc = .returned v ∧ Fw l D ad kA mi (pc + 3) lo (v.toList ++ rest) M' Q)) : Fw l D ad kA mi pc lo st M Q := by
  intro p e s m args below meth c C H locs ls hP hS hl
  subst hst
  have hts := C.2.2.2.2.2.2.1
  have hrec : ∃ cell : Cell, H[ad (210 + i)]? = some cell ∧ cell.vm.isStatics = false ∧ s.vm.findClass mi2.y.cls = some cell.cls := by
    obtain ⟨cell, h1, h2, h3, -⟩ := (C.2.2.2.2.2.2.2.2.2.1.2.2.1 i hi).2.1.kept hS.2.1
    exact ⟨cell, h1, h2, by rw [hy]; exact h3⟩
  refine call_go (Q' := fun oc M' => ∃ v, oc = .returned v ∧ Fw l D ad kA mi (pc + 3) lo (v.toList ++ rest) M' Q) (va_runV (cc := mi.cc) (As := As) (rest := rest) (Ts := lw_w) (own := mi.y.cls) (C := mi2.y.cls) (index := index) (bytes := mi2.cc) (maxL := mi2.nL) (ret := mi2.ret) (n := n) ⟨C.1, C.2.1, C.2.2.1, C.2.2.2.2.2.1, hts⟩ (K.met ?_) ⟨callB_of n hts (good_ws hk.2.2.1) rfl rfl rfl (hts _ hk.2.1) (hts _ hk.1) hk.2.2.2 hR, hts _ hv.1, hts _ hv.2⟩ ⟨CP.blind, hrec, fun U hU hW => ⟨rfl, CP.at C hP hS U hU hW⟩⟩ rfl hn hl.1 rfl (lv_room hw) d ⟨Nat.le_refl 0, Nat.le_refl 0⟩) hS ?_
  · rintro a st oc t ⟨⟨M', ⟨v, h, -⟩, -⟩, -⟩
    exact ⟨v, h⟩
  · rintro v M' H1 locs1 ⟨v', h1, h2⟩ hP1 hS1
    cases h1
    exact h2 p e s m args below meth c C H1 locs1 ls hP1 hS1 hl
theorem r_callS {index n : Nat} {As st : List Value} (d : decode mi.cc pc = .ok (.invokestatic index, 3)) (hk : Mk mi.y.cls index mi2 n) (hv : Cond.static mi2.y ∈ lw_w) (hR : Rm mi mi2) (hst : st = As.reverse ++ rest) (hn : As.length = n) (hw : (rest.map fun v => v.category).sum ≤ 8)
    (K : Cal l D ad kA mi2 As M (fun oc M' => ∃ v, oc = .returned v ∧ Fw l D ad kA mi (pc + 3) lo (v.toList ++ rest) M' Q)) : Fw l D ad kA mi pc lo st M Q := by
  intro p e s m args below meth c C H locs ls hP hS hl
  subst hst
  have hts := C.2.2.2.2.2.2.1
  refine call_go (Q' := fun oc M' => ∃ v, oc = .returned v ∧ Fw l D ad kA mi (pc + 3) lo (v.toList ++ rest) M' Q) (va_runS (cc := mi.cc) (As := As) (rest := rest) (Ts := lw_w) (own := mi.y.cls) (index := index) (bytes := mi2.cc) (maxL := mi2.nL) (ret := mi2.ret) (n := n) ⟨C.1, C.2.1, C.2.2.1, C.2.2.2.2.2.1, hts⟩ (K.met ?_) ⟨callB_of n hts (good_ws hk.2.2.1) rfl rfl rfl (hts _ hk.2.1) (hts _ hk.1) hk.2.2.2 hR, hts _ hv⟩ ⟨CP.blind, fun U hU hW => ⟨rfl, CP.at C hP hS U hU hW⟩⟩ rfl hn hl.1 rfl (lv_room hw) d ⟨Nat.le_refl 0, Nat.le_refl 0⟩) hS ?_
  · rintro a st oc t ⟨⟨M', ⟨v, h, -⟩, -⟩, -⟩
    exact ⟨v, h⟩
  · rintro v M' H1 locs1 ⟨v', h1, h2⟩ hP1 hS1
    cases h1
    exact h2 p e s m args below meth c C H1 locs1 ls hP1 hS1 hl
end Calls1
end
section
/-! Math's three, arraycopy, a static method of a nest mate -/
theorem w_min : Cond.static Lib.Math.min.name ∈ lw_w ∧ Cond.code Lib.Math.min.name Lib.Math.min.code 2 (some .int) ∈ lw_w := ⟨lw_in (i := 619) (by decide +kernel) (by decide +kernel), lw_in (i := 620) (by decide +kernel) (by decide +kernel)⟩
theorem w_max : Cond.static Lib.Math.max.name ∈ lw_w ∧ Cond.code Lib.Math.max.name Lib.Math.max.code 2 (some .int) ∈ lw_w := ⟨lw_in (i := 883) (by decide +kernel) (by decide +kernel), lw_in (i := 884) (by decide +kernel) (by decide +kernel)⟩
theorem w_abs : Cond.static Lib.Math.abs.name ∈ lw_w ∧ Cond.code Lib.Math.abs.name Lib.Math.abs.code 1 (some .int) ∈ lw_w := ⟨lw_in (i := 928) (by decide +kernel) (by decide +kernel), lw_in (i := 929) (by decide +kernel) (by decide +kernel)⟩
theorem w_math : Cond.initialized "java/lang/Math" ∈ lw_w := lw_in (i := 22) (by decide +kernel) (by decide +kernel)
theorem w_copy : Cond.static arraycopyName ∈ lw_w ∧ Cond.native arraycopyName ∈ lw_w := ⟨lw_in (i := 154) (by decide +kernel) (by decide +kernel), lw_in (i := 155) (by decide +kernel) (by decide +kernel)⟩
theorem w_sys : Cond.initialized "java/lang/System" ∈ lw_w := by decide +kernel
def mcp (M : Mem) (c d n : Nat) : Mem := (fun a b => if a = d ∧ b < n then M.1 c b else M.1 a b, M.2)
theorem gI_mcp (M : Mem) (c d n a b : Nat) : gI (mcp M c d n) a b = if a = d ∧ b < n then gI M c b else gI M a b := rfl
theorem gL_mcp (M : Mem) (c d n a b : Nat) : gL (mcp M c d n) a b = gL M a b := rfl
section More1
variable {l : Launch} {D : va_G} {ad : Nat → Nat} {kA : Nat → ClassId} {mi mi2 : MI} {pc : Nat} {lo : List (Option Value)} {rest : List Value} {M : Mem} {Q : Outcome → Mem → Prop}
theorem r_mmin {x y : Int32} {index : Nat} (d : decode mi.cc pc = .ok (.invokestatic index, 3)) (hk : Cond.methodLink mi.y.cls index Lib.Math.min.name ∈ lw_w) (hf : 1 ≤ mi.fr) (hw : (rest.map fun v => v.category).sum + 13 ≤ mi.lw) (K : Fw l D ad kA mi (pc + 3) lo (.int (if y < x then y else x) :: rest) M Q) : Fw l D ad kA mi pc lo (.int y :: .int x :: rest) M Q := by
  intro p e s m args below meth c C H locs ls hP hS hl
  have hts := C.2.2.2.2.2.2.1
  exact va_mmin C.1 C.2.1 (C.2.2.1.trans hl.1.symm) C.2.2.2.2.2.1 (hts _ hk) (hts _ w_min.1) (hts _ w_math) (hts _ w_min.2) hf hw (Nat.le_refl 0) (Nat.le_refl 0) d (K p e s m args below meth c C H locs ls hP hS hl)
theorem r_mmax {x y : Int32} {index : Nat} (d : decode mi.cc pc = .ok (.invokestatic index, 3)) (hk : Cond.methodLink mi.y.cls index Lib.Math.max.name ∈ lw_w) (hf : 1 ≤ mi.fr) (hw : (rest.map fun v => v.category).sum + 13 ≤ mi.lw) (K : Fw l D ad kA mi (pc + 3) lo (.int (if x < y then y else x) :: rest) M Q) : Fw l D ad kA mi pc lo (.int y :: .int x :: rest) M Q := by
  intro p e s m args below meth c C H locs ls hP hS hl
  have hts := C.2.2.2.2.2.2.1
  exact va_mmax C.1 C.2.1 (C.2.2.1.trans hl.1.symm) C.2.2.2.2.2.1 (hts _ hk) (hts _ w_max.1) (hts _ w_math) (hts _ w_max.2) hf hw (Nat.le_refl 0) (Nat.le_refl 0) d (K p e s m args below meth c C H locs ls hP hS hl)
theorem r_mabs {x : Int32} {index : Nat} (d : decode mi.cc pc = .ok (.invokestatic index, 3)) (hk : Cond.methodLink mi.y.cls index Lib.Math.abs.name ∈ lw_w) (hf : 1 ≤ mi.fr) (hw : (rest.map fun v => v.category).sum + 13 ≤ mi.lw) (K : Fw l D ad kA mi (pc + 3) lo (.int (if 0 ≤ x then x else 0 - x) :: rest) M Q) : Fw l D ad kA mi pc lo (.int x :: rest) M Q := by
  intro p e s m args below meth c C H locs ls hP hS hl
  have hts := C.2.2.2.2.2.2.1
  exact va_mabs C.1 C.2.1 (C.2.2.1.trans hl.1.symm) C.2.2.2.2.2.1 (hts _ hk) (hts _ w_abs.1) (hts _ w_math) (hts _ w_abs.2) hf hw (Nat.le_refl 0) (Nat.le_refl 0) d (K p e s m args below meth c C H locs ls hP hS hl)
/-- arraycopy of ints from the begin to the begin -/
theorem r_copy {c1 c2 n1 n2 index : Nat} {n : Int32} (d : decode mi.cc pc = .ok (.invokestatic index, 3)) (hk : Cond.methodLink mi.y.cls index arraycopyName ∈ lw_w) (hf : 1 ≤ mi.fr) (hw : (rest.map fun v => v.category).sum + (nativeFrameWords "java/lang/System" "arraycopy" 5 + 11) ≤ mi.lw) (h1 : shL[c1]? = some (.inl (0, n1))) (h2 : shL[c2]? = some (.inl (0, n2))) (h3 : ¬ n < 0) (h4 : n.toNatClampNeg ≤ n1) (h5 : n.toNatClampNeg ≤ n2) (K : Fw l D ad kA mi (pc + 3) lo rest (mcp M c1 c2 n.toNatClampNeg) Q) : Fw l D ad kA mi pc lo (.int n :: .int 0 :: .ref (ad c2) :: .int 0 :: .ref (ad c1) :: rest) M Q := by
  intro p e s m args below meth c C H locs ls hP hS hl
  have hts := C.2.2.2.2.2.2.1
  have hz : (0 : Int32).toNatClampNeg = 0 := by decide
  refine va_copyi C.1 C.2.1 (C.2.2.1.trans hl.1.symm) C.2.2.2.2.2.1 (hts _ hk) (hts _ w_copy.2) (hts _ w_copy.1) (hts _ w_sys) C.2.2.2.2.2.2.2.1 hP (wl_D C.2.2.2.2.2.2.2.2.1) hS c1 c2 0 0 (wl_at h1) (wl_at h2) rfl rfl rfl (by decide) (by decide) h3 (by rw [hz]; omega) (by rw [hz]; omega) (fun _ _ => rfl) hf hw d (fun H1 locs1 hP1 _ hS1 => K p e s m args below meth c C H1 locs1 ls ?_ hS1 hl)
  have e1 : ce ad kA (mcp M c1 c2 n.toNatClampNeg) c2 (.inl (0, n2)) = .inl (kA 0, n2, .inl (va_cpy (gI M c1) (gI M c2) (0 : Int32).toNatClampNeg (0 : Int32).toNatClampNeg n.toNatClampNeg)) := by
    have : gI (mcp M c1 c2 n.toNatClampNeg) c2 = va_cpy (gI M c1) (gI M c2) (0 : Int32).toNatClampNeg (0 : Int32).toNatClampNeg n.toNatClampNeg := by
      funext b
      rw [gI_mcp, hz]
      simp [va_cpy]
    simp only [ce, this]
    rfl
  have e2 : ∀ (j : Nat) (sh : Shp), j ≠ c2 → ce ad kA (mcp M c1 c2 n.toNatClampNeg) j sh = ce ad kA M j sh := by
    intro j sh hj
    have g1 : gI (mcp M c1 c2 n.toNatClampNeg) j = gI M j := by funext b; rw [gI_mcp, if_neg (fun h => hj h.1)]
    have g2 : gL (mcp M c1 c2 n.toNatClampNeg) j = gL M j := by funext b; rfl
    have g3 : fv ad (mcp M c1 c2 n.toNatClampNeg) j = fv ad M j := by funext b f; simp only [fv, g1, g2]
    cases sh with
    | inl a => simp only [ce, g1, g2]
    | inr q => simp only [ce, g3]
  have hP2 : va_P D cls ((wl ad kA M).set c2 (ad c2, .inl (kA 0, n2, .inl (va_cpy (gI M c1) (gI M c2) (0 : Int32).toNatClampNeg (0 : Int32).toNatClampNeg n.toNatClampNeg)))) H1 := hP1
  rw [← e1, wl_set h2 e2] at hP2
  exact hP2
/-- a static method of a nest mate: isBell alone -/
theorem r_callN {index n : Nat} {As st : List Value} (d : decode mi.cc pc = .ok (.invokestatic index, 3)) (hm : mi2.y = yX11_isBell) (hq : (mi.y.cls, index) ∈ nestL) (hi : Cond.initialized mi2.y.cls ∈ lw_w) (hc : Cond.code mi2.y mi2.cc mi2.nL mi2.ret ∈ lw_w) (hd : mi2.y.cls ≠ "java/lang/invoke/MethodHandle" ∧ mi2.y.cls ≠ "java/lang/invoke/VarHandle" ∧ (parseMethodDescriptor mi2.y.desc).map (fun d => d.parameters.length) = some n) (hv : Cond.static mi2.y ∈ lw_w) (hR : Rm mi mi2) (hst : st = As.reverse ++ rest) (hn : As.length = n) (hw : (rest.map fun v => v.category).sum ≤ 8)
    (K : Cal l D ad kA mi2 As M (fun oc M' => ∃ v, oc = .returned v ∧ Fw l D ad kA mi (pc + 3) lo (v.toList ++ rest) M' Q)) : Fw l D ad kA mi pc lo st M Q := by
  intro p e s m args below meth c C H locs ls hP hS hl
  subst hst
  have hts := C.2.2.2.2.2.2.1
  have hN := C.2.2.2.2.2.2.2.2.2.1.2.2.2.1 _ hq
  rw [← hm] at hN
  refine call_go (Q' := fun oc M' => ∃ v, oc = .returned v ∧ Fw l D ad kA mi (pc + 3) lo (v.toList ++ rest) M' Q) (va_runSN (cc := mi.cc) (As := As) (rest := rest) (Ts := lw_w) (own := mi.y.cls) (host := "BellTable") (index := index) (bytes := mi2.cc) (maxL := mi2.nL) (ret := mi2.ret) (n := n) ⟨C.1, C.2.1, C.2.2.1, C.2.2.2.2.2.1, hts⟩ (K.met ?_) ⟨va_cnB n hts (good_ws hc) rfl rfl rfl hN (hts _ hi) hd hR, hts _ hv, trivial⟩ ⟨CP.blind, fun U hU hW => ⟨rfl, CP.at C hP hS U hU hW⟩⟩ rfl hn hl.1 rfl (lv_room hw) d ⟨Nat.le_refl 0, Nat.le_refl 0⟩) hS ?_
  · rintro a st oc t ⟨⟨M', ⟨v, h, -⟩, -⟩, -⟩
    exact ⟨v, h⟩
  · rintro v M' H1 locs1 ⟨v', h1, h2⟩ hP1 hS1
    cases h1
    exact h2 p e s m args below meth c C H1 locs1 ls hP1 hS1 hl
end More1
end
section
/-! Rules in the form that the printed walks use -/
def imin (x y : Int32) : Int32 := if y < x then y else x
def imax (x y : Int32) : Int32 := if x < y then y else x
def iabs (x : Int32) : Int32 := if 0 ≤ x then x else 0 - x
def lushr (x : Int64) (y : Int32) : Int64 := (x.toUInt64 >>> (y.toInt64.toUInt64 &&& Int64.toUInt64 63)).toInt64
def lshl (x : Int64) (y : Int32) : Int64 := x <<< (y.toInt64 &&& 63)
def lshr (x : Int64) (y : Int32) : Int64 := x >>> (y.toInt64 &&& 63)
def LoS : List (Option Value) → List (Option Value) → Prop
  | [], _ => True
  | none :: a, b => LoS a b.tail
  | some v :: a, b => b.head? = some (some v) ∧ LoS a b.tail
theorem LoS.sub : ∀ {a b : List (Option Value)}, LoS a b → ∀ (i : Nat) (v : Value), a[i]? = some (some v) → b[i]? = some (some v)
  | [], _, _, i, v, h => by simp at h
  | none :: a, b, hL, i, v, h => by
    cases i with
    | zero => simp at h
    | succ i =>
      have h1 := LoS.sub (a := a) (b := b.tail) hL i v (by simpa using h)
      simpa using h1
  | some w :: a, b, hL, i, v, h => by
    cases i with
    | zero =>
      have h1 : w = v := by simpa using h
      subst h1
      have h2 := hL.1
      rw [List.head?_eq_getElem?] at h2
      exact h2
    | succ i =>
      have h1 := LoS.sub (a := a) (b := b.tail) hL.2 i v (by simpa using h)
      simpa using h1
def drL : Option Value → Option Value
  | some (.long _) => none
  | some (.double _) => none
  | q => q
def drAt : Nat → Option Value → Option Value
  | 0, q => drL q
  | _ + 1, q => q
/-- a store, by places -/
def lsF : List (Option Value) → Nat → Value → List (Option Value)
  | [], _, _ => []
  | _ :: t, 0, v => some v :: t
  | q :: t, n + 1, v => drAt n q :: lsF t n v
def lsF2 : List (Option Value) → Nat → Value → List (Option Value)
  | [], _, _ => []
  | _ :: t, 0, v => some v :: (match t with | [] => [] | _ :: t' => none :: t')
  | q :: t, n + 1, v => drAt n q :: lsF2 t n v
theorem drL_some {q : Option Value} {w : Value} (h : drL q = some w) : q = some w ∧ isLg q = false := by
  cases q with
  | none => cases h
  | some a => cases a <;> first | (cases h; exact ⟨rfl, rfl⟩) | cases h
theorem lsF_at : ∀ (lo : List (Option Value)) (i j : Nat) (v w : Value), (lsF lo i v)[j]? = some (some w) → (j = i ∧ w = v ∧ j < lo.length) ∨ (j ≠ i ∧ lo[j]? = some (some w) ∧ (j + 1 = i → isLg (some w) = false))
  | [], i, j, v, w, h => by simp [lsF] at h
  | q :: t, 0, 0, v, w, h => by simp [lsF] at h; exact Or.inl ⟨rfl, h.symm, Nat.succ_pos _⟩
  | q :: t, 0, j + 1, v, w, h => by
    simp only [lsF, List.getElem?_cons_succ] at h
    exact Or.inr ⟨by omega, by simpa using h, fun e => by omega⟩
  | q :: t, i + 1, 0, v, w, h => by
    simp only [lsF, List.getElem?_cons_zero, Option.some.injEq] at h
    refine Or.inr ⟨by omega, ?_, fun e => ?_⟩
    · cases i with
      | zero => rw [List.getElem?_cons_zero, (drL_some h).1]
      | succ i => rw [List.getElem?_cons_zero]; exact congrArg some h
    · have : i = 0 := by omega
      subst this
      have := drL_some h
      rw [← this.1]; exact this.2
  | q :: t, i + 1, j + 1, v, w, h => by
    simp only [lsF, List.getElem?_cons_succ] at h
    rcases lsF_at t i j v w h with ⟨h1, h2, h3⟩ | ⟨h1, h2, h3⟩
    · exact Or.inl ⟨by omega, h2, by simp; omega⟩
    · exact Or.inr ⟨by omega, by simpa using h2, fun e => h3 (by omega)⟩
theorem lsF2_at : ∀ (lo : List (Option Value)) (i j : Nat) (v w : Value), (lsF2 lo i v)[j]? = some (some w) → (j = i ∧ w = v ∧ j < lo.length) ∨ (j ≠ i ∧ j ≠ i + 1 ∧ lo[j]? = some (some w) ∧ (j + 1 = i → isLg (some w) = false))
  | [], i, j, v, w, h => by simp [lsF2] at h
  | q :: t, 0, 0, v, w, h => by simp [lsF2] at h; exact Or.inl ⟨rfl, h.symm, Nat.succ_pos _⟩
  | [q], 0, j + 1, v, w, h => by simp [lsF2] at h
  | q :: r :: t, 0, 1, v, w, h => by simp [lsF2] at h
  | q :: r :: t, 0, j + 2, v, w, h => by
    simp only [lsF2, List.getElem?_cons_succ] at h
    exact Or.inr ⟨by omega, by omega, by simpa using h, fun e => by omega⟩
  | q :: t, i + 1, 0, v, w, h => by
    simp only [lsF2, List.getElem?_cons_zero, Option.some.injEq] at h
    refine Or.inr ⟨by omega, by omega, ?_, fun e => ?_⟩
    · cases i with
      | zero => rw [List.getElem?_cons_zero, (drL_some h).1]
      | succ i => rw [List.getElem?_cons_zero]; exact congrArg some h
    · have : i = 0 := by omega
      subst this
      have := drL_some h
      rw [← this.1]; exact this.2
  | q :: t, i + 1, j + 1, v, w, h => by
    simp only [lsF2, List.getElem?_cons_succ] at h
    rcases lsF2_at t i j v w h with ⟨h1, h2, h3⟩ | ⟨h1, h1', h2, h3⟩
    · exact Or.inl ⟨by omega, h2, by simp; omega⟩
    · exact Or.inr ⟨by omega, by omega, by simpa using h2, fun e => h3 (by omega)⟩
theorem lsF_sub {lo : List (Option Value)} {i : Nat} {v : Value} (j : Nat) (w : Value) (h : (lsF lo i v)[j]? = some (some w)) : (lset lo i v)[j]? = some (some w) := by
  rcases lsF_at lo i j v w h with ⟨h1, h2, h3⟩ | ⟨h1, h2, h3⟩
  · subst h1; subst h2
    simp [lset, List.getElem?_mapIdx, List.getElem?_eq_getElem h3]
  · simp only [lset, List.getElem?_mapIdx, h2, Option.map_some, if_neg h1]
    by_cases e : j + 1 = i
    · rw [if_neg (fun q => by rw [h3 e] at q; exact absurd q.2 (by decide))]
    · rw [if_neg (fun q => e q.1)]
theorem lsF2_sub {lo : List (Option Value)} {i : Nat} {v : Value} (j : Nat) (w : Value) (h : (lsF2 lo i v)[j]? = some (some w)) : (lset2 lo i v)[j]? = some (some w) := by
  rcases lsF2_at lo i j v w h with ⟨h1, h2, h3⟩ | ⟨h1, h1', h2, h3⟩
  · subst h1; subst h2
    simp [lset2, List.getElem?_mapIdx, List.getElem?_eq_getElem h3]
  · simp only [lset2, List.getElem?_mapIdx, h2, Option.map_some, if_neg h1, if_neg h1']
    by_cases e : j + 1 = i
    · rw [if_neg (fun q => by rw [h3 e] at q; exact absurd q.2 (by decide))]
    · rw [if_neg (fun q => e q.1)]
theorem ite01 {c : Prop} [Decidable c] {a b : Int32} (ha : a = 0 ∨ a = 1) (hb : b = 0 ∨ b = 1) : (if c then a else b) = 0 ∨ (if c then a else b) = 1 := by
  split
  · exact ha
  · exact hb
theorem nar_zb {v : Int32} (h : v = 0 ∨ v = 1) : vp_nar .boolean v = v := by
  rcases h with rfl | rfl <;> decide
theorem sw_out {x : Int32} (n : Nat) (h : ∀ q, q < n → ¬ x = Int32.ofNat q) (hn : n < 2 ^ 31 := by decide) : x.toInt < 0 ∨ ((n : Int) - 1) < x.toInt := by
  by_cases h0 : x.toInt < 0
  · exact Or.inl h0
  · refine Or.inr ?_
    by_cases h1 : ((n : Int) - 1) < x.toInt
    · exact h1
    · exfalso
      refine h x.toInt.toNat (by omega) ?_
      have h2 : (Int32.ofNat x.toInt.toNat).toInt = x.toInt := by
        have h3 := nI_toInt (n := x.toInt.toNat) (by omega)
        unfold nI at h3
        rw [h3]; omega
      exact (Int32.toInt_inj.mp h2).symm
section QRules
variable {l : Launch} {D : va_G} {ad : Nat → Nat} {kA : Nat → ClassId} {mi mi2 : MI} {pc : Nat} {lo lo' : List (Option Value)} {rest : List Value} {M : Mem} {Q : Outcome → Mem → Prop}
theorem q_istore_n {k : Fin 4} {x : Int32} (d : decode mi.cc pc = .ok (.istore_n k, 1)) (hn : k.val < mi.nL) (he : lsF lo k.val (.int x) = lo') (K : Fw l D ad kA mi (pc + 1) lo' rest M Q) : Fw l D ad kA mi pc lo (.int x :: rest) M Q := by subst he; exact r_istore_n d hn (r_weak lsF_sub K)
theorem q_istore {i : Nat} {x : Int32} (d : decode mi.cc pc = .ok (.istore i, 2)) (hn : i < mi.nL) (he : lsF lo i (.int x) = lo') (K : Fw l D ad kA mi (pc + 2) lo' rest M Q) : Fw l D ad kA mi pc lo (.int x :: rest) M Q := by subst he; exact r_istore d hn (r_weak lsF_sub K)
theorem q_astore_n {k : Fin 4} {x : Nat} (d : decode mi.cc pc = .ok (.astore_n k, 1)) (hn : k.val < mi.nL) (he : lsF lo k.val (.ref x) = lo') (K : Fw l D ad kA mi (pc + 1) lo' rest M Q) : Fw l D ad kA mi pc lo (.ref x :: rest) M Q := by subst he; exact r_astore_n d hn (r_weak lsF_sub K)
theorem q_lstore_n {k : Fin 4} {x : Int64} (d : decode mi.cc pc = .ok (.lstore_n k, 1)) (hn : k.val + 1 < mi.nL) (he : lsF2 lo k.val (.long x) = lo') (K : Fw l D ad kA mi (pc + 1) lo' rest M Q) : Fw l D ad kA mi pc lo (.long x :: rest) M Q := by subst he; exact r_lstore_n d hn (r_weak lsF2_sub K)
theorem q_lstore {i : Nat} {x : Int64} (d : decode mi.cc pc = .ok (.lstore i, 2)) (hn : i + 1 < mi.nL) (he : lsF2 lo i (.long x) = lo') (K : Fw l D ad kA mi (pc + 2) lo' rest M Q) : Fw l D ad kA mi pc lo (.long x :: rest) M Q := by subst he; exact r_lstore d hn (r_weak lsF2_sub K)
theorem q_iinc {i : Nat} {n : Int} {x v : Int32} (d : decode mi.cc pc = .ok (.iinc i n, 3)) (h : lo[i]? = some (some (.int x))) (hv : x + Int32.ofInt n = v) (hn : i < mi.nL) (he : lsF lo i (.int v) = lo') (K : Fw l D ad kA mi (pc + 3) lo' rest M Q) : Fw l D ad kA mi pc lo rest M Q := by subst he; exact r_iinc d h hv hn (r_weak lsF_sub K)
theorem q_weak {st : List Value} (h : LoS lo' lo) (K : Fw l D ad kA mi pc lo' st M Q) : Fw l D ad kA mi pc lo st M Q := r_weak h.sub K
theorem q_lushr {x : Int64} {y : Int32} (d : decode mi.cc pc = .ok (.lushr, 1)) (K : Fw l D ad kA mi (pc + 1) lo (.long (lushr x y) :: rest) M Q) : Fw l D ad kA mi pc lo (.int y :: .long x :: rest) M Q := r_lushr d K
theorem q_lshl {x : Int64} {y : Int32} (d : decode mi.cc pc = .ok (.lshl, 1)) (K : Fw l D ad kA mi (pc + 1) lo (.long (lshl x y) :: rest) M Q) : Fw l D ad kA mi pc lo (.int y :: .long x :: rest) M Q := r_lshl d K
theorem q_lshr {x : Int64} {y : Int32} (d : decode mi.cc pc = .ok (.lshr, 1)) (K : Fw l D ad kA mi (pc + 1) lo (.long (lshr x y) :: rest) M Q) : Fw l D ad kA mi pc lo (.int y :: .long x :: rest) M Q := r_lshr d K
theorem q_mmin {x y : Int32} {index : Nat} (d : decode mi.cc pc = .ok (.invokestatic index, 3)) (hk : Cond.methodLink mi.y.cls index Lib.Math.min.name ∈ lw_w) (hf : 1 ≤ mi.fr) (hw : (rest.map fun v => v.category).sum + 13 ≤ mi.lw) (K : Fw l D ad kA mi (pc + 3) lo (.int (imin x y) :: rest) M Q) : Fw l D ad kA mi pc lo (.int y :: .int x :: rest) M Q := r_mmin d hk hf hw K
theorem q_mmax {x y : Int32} {index : Nat} (d : decode mi.cc pc = .ok (.invokestatic index, 3)) (hk : Cond.methodLink mi.y.cls index Lib.Math.max.name ∈ lw_w) (hf : 1 ≤ mi.fr) (hw : (rest.map fun v => v.category).sum + 13 ≤ mi.lw) (K : Fw l D ad kA mi (pc + 3) lo (.int (imax x y) :: rest) M Q) : Fw l D ad kA mi pc lo (.int y :: .int x :: rest) M Q := r_mmax d hk hf hw K
theorem q_mabs {x : Int32} {index : Nat} (d : decode mi.cc pc = .ok (.invokestatic index, 3)) (hk : Cond.methodLink mi.y.cls index Lib.Math.abs.name ∈ lw_w) (hf : 1 ≤ mi.fr) (hw : (rest.map fun v => v.category).sum + 13 ≤ mi.lw) (K : Fw l D ad kA mi (pc + 3) lo (.int (iabs x) :: rest) M Q) : Fw l D ad kA mi pc lo (.int x :: rest) M Q := r_mabs d hk hf hw K
theorem q_zast {c n : Nat} {i : Int32} {v : Int32} (d : decode mi.cc pc = .ok (.bastore, 1)) (hs : shL[c]? = some (.inl (2, n))) (hin : vp_in i n) (hv : v = 0 ∨ v = 1) (K : Fw l D ad kA mi (pc + 1) lo rest (sI M c i.toNatClampNeg v) Q) : Fw l D ad kA mi pc lo (.int v :: .int i :: .ref (ad c) :: rest) M Q := r_zast d hs hin (by rw [nar_zb hv]; exact K)
theorem cal_i {av : List Value} (h : LoS lo' lo) (K : Cal l D ad kA mi2 av M (fun oc M2 => ∃ r : Int32, oc = .returned (some (.int r)) ∧ Fw l D ad kA mi pc lo' (.int r :: rest) M2 Q)) : Cal l D ad kA mi2 av M (fun oc M2 => ∃ v, oc = .returned v ∧ Fw l D ad kA mi pc lo (v.toList ++ rest) M2 Q) := K.imp (fun _ _ ⟨r, h1, h2⟩ => ⟨_, h1, q_weak h h2⟩)
theorem cal_l {av : List Value} (h : LoS lo' lo) (K : Cal l D ad kA mi2 av M (fun oc M2 => ∃ r : Int64, oc = .returned (some (.long r)) ∧ Fw l D ad kA mi pc lo' (.long r :: rest) M2 Q)) : Cal l D ad kA mi2 av M (fun oc M2 => ∃ v, oc = .returned v ∧ Fw l D ad kA mi pc lo (v.toList ++ rest) M2 Q) := K.imp (fun _ _ ⟨r, h1, h2⟩ => ⟨_, h1, q_weak h h2⟩)
theorem cal_v {av : List Value} (h : LoS lo' lo) (K : Cal l D ad kA mi2 av M (fun oc M2 => oc = .returned none ∧ Fw l D ad kA mi pc lo' rest M2 Q)) : Cal l D ad kA mi2 av M (fun oc M2 => ∃ v, oc = .returned v ∧ Fw l D ad kA mi pc lo (v.toList ++ rest) M2 Q) := K.imp (fun _ _ ⟨h1, h2⟩ => ⟨_, h1, q_weak h h2⟩)
theorem ldcwS {p : Program} {e : Env} {R : Room} {s : State} {m : MethodId} {args : Array Value} {below : List Frame} {meth : Method} {c : Code} {T : State} {locs : List Loc} {cells slots : Nat}
    (X : Stand p l e R s m args below meth c T locs cells slots) (hexec : p.tables.exec = Jvm.exec) {own text : String} {index : Nat} {a : Addr} (hown : s.vm.findClass own = some m.cls)
    (hZ : vk_R own index text a s) {g : JFrame} (hg : g.method = m) (hdg : decode c.code g.pc = .ok (.ldc_w index, 3)) :
    ∀ target, Steps p.tables e below (T.setTop { g with pc := g.pc + 3, stack := .ref a :: g.stack }) target → Steps p.tables e below (T.setTop g) target := by
  obtain ⟨k, cf, i, a', hk, hcf, hcp, -, hr, hev'⟩ := Cond.stringRef_spec hown hZ.1
  cases hZ.2.symm.trans hev'
  obtain ⟨k', hk', he⟩ := X.warmed.alike.2.2 _ _ hk
  have hr' : k'.resolved[index]? = some (some (.string a)) := by
    rcases X.warmed.entry hk hk' index with h | ⟨h, -⟩
    · rw [h]; exact hr
    · rw [hr] at h; cases h
  intro target hrest
  subst hg
  jvm_step X.here [hexec, hdg, ldc_w.wp_string (e := e) (s := T) (f := g) X.here.top hk' (by rw [he]; exact hcf) hcp hr']
  exact hrest
theorem r_ldcwS {i : Nat} (d : decode mi.cc pc = .ok (.ldc_w (scR.getD i ("", 0, "")).2.1, 3)) (hi : i < 15) (ho : (scR.getD i ("", 0, "")).1 = mi.y.cls) (K : Fw l D ad kA mi (pc + 3) lo (.ref (ad (210 + i)) :: rest) M Q) : Fw l D ad kA mi pc lo rest M Q := by
  intro p e s m args below meth c C H locs ls hP hS hl
  have hZ := (C.2.2.2.2.2.2.2.2.2.1.2.2.1 i hi).1
  rw [ho] at hZ
  intro T hT X
  obtain ⟨t, a1, b1⟩ := K p e s m args below meth c C H locs ls hP hS hl T hT X
  exact ⟨t, ldcwS X C.1 C.2.2.2.2.2.1 hZ (g := F0 m pc ls rest) rfl (by rw [C.2.1]; exact d) t a1, b1⟩
end QRules
end
section
/-! Tape: decode rows, links, walks from cut to cut (printed by wip/gen) -/
theorem dX11_isBell_0 : decode cX11_isBell 0 = .ok (.iload_n 0, 1) := by decide +kernel
theorem dX11_isBell_1 : decode cX11_isBell 1 = .ok (.ifCond .lt 13, 3) := by decide +kernel
theorem dX11_isBell_4 : decode cX11_isBell 4 = .ok (.iload_n 0, 1) := by decide +kernel
theorem dX11_isBell_5 : decode cX11_isBell 5 = .ok (.bipush 48, 2) := by decide +kernel
theorem dX11_isBell_7 : decode cX11_isBell 7 = .ok (.if_icmp .ge 7, 3) := by decide +kernel
theorem dX11_isBell_10 : decode cX11_isBell 10 = .ok (.iconst 1, 1) := by decide +kernel
theorem dX11_isBell_11 : decode cX11_isBell 11 = .ok (.goto 4, 3) := by decide +kernel
theorem dX11_isBell_14 : decode cX11_isBell 14 = .ok (.iconst 0, 1) := by decide +kernel
theorem dX11_isBell_15 : decode cX11_isBell 15 = .ok (.ireturn, 1) := by decide +kernel
theorem dX11_isDay_0 : decode cX11_isDay 0 = .ok (.iload_n 0, 1) := by decide +kernel
theorem dX11_isDay_1 : decode cX11_isDay 1 = .ok (.ifCond .lt 14, 3) := by decide +kernel
theorem dX11_isDay_4 : decode cX11_isDay 4 = .ok (.iload_n 0, 1) := by decide +kernel
theorem dX11_isDay_5 : decode cX11_isDay 5 = .ok (.sipush 1000, 3) := by decide +kernel
theorem dX11_isDay_8 : decode cX11_isDay 8 = .ok (.if_icmp .ge 7, 3) := by decide +kernel
theorem dX11_isDay_11 : decode cX11_isDay 11 = .ok (.iconst 1, 1) := by decide +kernel
theorem dX11_isDay_12 : decode cX11_isDay 12 = .ok (.goto 4, 3) := by decide +kernel
theorem dX11_isDay_15 : decode cX11_isDay 15 = .ok (.iconst 0, 1) := by decide +kernel
theorem dX11_isDay_16 : decode cX11_isDay 16 = .ok (.ireturn, 1) := by decide +kernel
theorem dX11_orNone_0 : decode cX11_orNone 0 = .ok (.iload_n 0, 1) := by decide +kernel
theorem dX11_orNone_1 : decode cX11_orNone 1 = .ok (.ldc 192, 2) := by decide +kernel
theorem dX11_orNone_3 : decode cX11_orNone 3 = .ok (.if_icmp .lt 7, 3) := by decide +kernel
theorem dX11_orNone_6 : decode cX11_orNone 6 = .ok (.iconst (-1), 1) := by decide +kernel
theorem dX11_orNone_7 : decode cX11_orNone 7 = .ok (.goto 4, 3) := by decide +kernel
theorem dX11_orNone_10 : decode cX11_orNone 10 = .ok (.iload_n 0, 1) := by decide +kernel
theorem dX11_orNone_11 : decode cX11_orNone 11 = .ok (.ireturn, 1) := by decide +kernel
theorem dX10_isBlank_0 : decode cX10_isBlank 0 = .ok (.iload_n 0, 1) := by decide +kernel
theorem dX10_isBlank_1 : decode cX10_isBlank 1 = .ok (.bipush 32, 2) := by decide +kernel
theorem dX10_isBlank_3 : decode cX10_isBlank 3 = .ok (.if_icmp .eq 9, 3) := by decide +kernel
theorem dX10_isBlank_6 : decode cX10_isBlank 6 = .ok (.iload_n 0, 1) := by decide +kernel
theorem dX10_isBlank_7 : decode cX10_isBlank 7 = .ok (.bipush 10, 2) := by decide +kernel
theorem dX10_isBlank_9 : decode cX10_isBlank 9 = .ok (.if_icmp .ne 7, 3) := by decide +kernel
theorem dX10_isBlank_12 : decode cX10_isBlank 12 = .ok (.iconst 1, 1) := by decide +kernel
theorem dX10_isBlank_13 : decode cX10_isBlank 13 = .ok (.goto 4, 3) := by decide +kernel
theorem dX10_isBlank_16 : decode cX10_isBlank 16 = .ok (.iconst 0, 1) := by decide +kernel
theorem dX10_isBlank_17 : decode cX10_isBlank 17 = .ok (.ireturn, 1) := by decide +kernel
theorem dX10_isLetter_0 : decode cX10_isLetter 0 = .ok (.iload_n 0, 1) := by decide +kernel
theorem dX10_isLetter_1 : decode cX10_isLetter 1 = .ok (.bipush 97, 2) := by decide +kernel
theorem dX10_isLetter_3 : decode cX10_isLetter 3 = .ok (.if_icmp .lt 13, 3) := by decide +kernel
theorem dX10_isLetter_6 : decode cX10_isLetter 6 = .ok (.iload_n 0, 1) := by decide +kernel
theorem dX10_isLetter_7 : decode cX10_isLetter 7 = .ok (.bipush 122, 2) := by decide +kernel
theorem dX10_isLetter_9 : decode cX10_isLetter 9 = .ok (.if_icmp .gt 7, 3) := by decide +kernel
theorem dX10_isLetter_12 : decode cX10_isLetter 12 = .ok (.iconst 1, 1) := by decide +kernel
theorem dX10_isLetter_13 : decode cX10_isLetter 13 = .ok (.goto 4, 3) := by decide +kernel
theorem dX10_isLetter_16 : decode cX10_isLetter 16 = .ok (.iconst 0, 1) := by decide +kernel
theorem dX10_isLetter_17 : decode cX10_isLetter 17 = .ok (.ireturn, 1) := by decide +kernel
theorem dX10_isDigit_0 : decode cX10_isDigit 0 = .ok (.iload_n 0, 1) := by decide +kernel
theorem dX10_isDigit_1 : decode cX10_isDigit 1 = .ok (.bipush 48, 2) := by decide +kernel
theorem dX10_isDigit_3 : decode cX10_isDigit 3 = .ok (.if_icmp .lt 13, 3) := by decide +kernel
theorem dX10_isDigit_6 : decode cX10_isDigit 6 = .ok (.iload_n 0, 1) := by decide +kernel
theorem dX10_isDigit_7 : decode cX10_isDigit 7 = .ok (.bipush 57, 2) := by decide +kernel
theorem dX10_isDigit_9 : decode cX10_isDigit 9 = .ok (.if_icmp .gt 7, 3) := by decide +kernel
theorem dX10_isDigit_12 : decode cX10_isDigit 12 = .ok (.iconst 1, 1) := by decide +kernel
theorem dX10_isDigit_13 : decode cX10_isDigit 13 = .ok (.goto 4, 3) := by decide +kernel
theorem dX10_isDigit_16 : decode cX10_isDigit 16 = .ok (.iconst 0, 1) := by decide +kernel
theorem dX10_isDigit_17 : decode cX10_isDigit 17 = .ok (.ireturn, 1) := by decide +kernel
theorem dX10_byteAt_0 : decode cX10_byteAt 0 = .ok (.iload_n 1, 1) := by decide +kernel
theorem dX10_byteAt_1 : decode cX10_byteAt 1 = .ok (.ifCond .lt 27, 3) := by decide +kernel
theorem dX10_byteAt_4 : decode cX10_byteAt 4 = .ok (.iload_n 1, 1) := by decide +kernel
theorem dX10_byteAt_5 : decode cX10_byteAt 5 = .ok (.aload_n 0, 1) := by decide +kernel
theorem dX10_byteAt_6 : decode cX10_byteAt 6 = .ok (.getfield 19, 3) := by decide +kernel
theorem dX10_byteAt_9 : decode cX10_byteAt 9 = .ok (.if_icmp .ge 19, 3) := by decide +kernel
theorem dX10_byteAt_12 : decode cX10_byteAt 12 = .ok (.iload_n 1, 1) := by decide +kernel
theorem dX10_byteAt_13 : decode cX10_byteAt 13 = .ok (.sipush 1200, 3) := by decide +kernel
theorem dX10_byteAt_16 : decode cX10_byteAt 16 = .ok (.if_icmp .ge 12, 3) := by decide +kernel
theorem dX10_byteAt_19 : decode cX10_byteAt 19 = .ok (.aload_n 0, 1) := by decide +kernel
theorem dX10_byteAt_20 : decode cX10_byteAt 20 = .ok (.getfield 15, 3) := by decide +kernel
theorem dX10_byteAt_23 : decode cX10_byteAt 23 = .ok (.iload_n 1, 1) := by decide +kernel
theorem dX10_byteAt_24 : decode cX10_byteAt 24 = .ok (.baload, 1) := by decide +kernel
theorem dX10_byteAt_25 : decode cX10_byteAt 25 = .ok (.goto 4, 3) := by decide +kernel
theorem dX10_byteAt_28 : decode cX10_byteAt 28 = .ok (.iconst 0, 1) := by decide +kernel
theorem dX10_byteAt_29 : decode cX10_byteAt 29 = .ok (.ireturn, 1) := by decide +kernel
theorem dX10_addFour_0 : decode cX10_addFour 0 = .ok (.bipush 24, 2) := by decide +kernel
theorem dX10_addFour_2 : decode cX10_addFour 2 = .ok (.istore_n 2, 1) := by decide +kernel
theorem dX10_addFour_3 : decode cX10_addFour 3 = .ok (.iload_n 2, 1) := by decide +kernel
theorem dX10_addFour_4 : decode cX10_addFour 4 = .ok (.ifCond .lt 42, 3) := by decide +kernel
theorem dX10_addFour_7 : decode cX10_addFour 7 = .ok (.aload_n 0, 1) := by decide +kernel
theorem dX10_addFour_8 : decode cX10_addFour 8 = .ok (.getfield 19, 3) := by decide +kernel
theorem dX10_addFour_11 : decode cX10_addFour 11 = .ok (.sipush 1200, 3) := by decide +kernel
theorem dX10_addFour_14 : decode cX10_addFour 14 = .ok (.if_icmp .ge 32, 3) := by decide +kernel
theorem dX10_addFour_17 : decode cX10_addFour 17 = .ok (.aload_n 0, 1) := by decide +kernel
theorem dX10_addFour_18 : decode cX10_addFour 18 = .ok (.getfield 15, 3) := by decide +kernel
theorem dX10_addFour_21 : decode cX10_addFour 21 = .ok (.aload_n 0, 1) := by decide +kernel
theorem dX10_addFour_22 : decode cX10_addFour 22 = .ok (.getfield 19, 3) := by decide +kernel
theorem dX10_addFour_25 : decode cX10_addFour 25 = .ok (.iload_n 1, 1) := by decide +kernel
theorem dX10_addFour_26 : decode cX10_addFour 26 = .ok (.iload_n 2, 1) := by decide +kernel
theorem dX10_addFour_27 : decode cX10_addFour 27 = .ok (.ishr, 1) := by decide +kernel
theorem dX10_addFour_28 : decode cX10_addFour 28 = .ok (.i2b, 1) := by decide +kernel
theorem dX10_addFour_29 : decode cX10_addFour 29 = .ok (.bastore, 1) := by decide +kernel
theorem dX10_addFour_30 : decode cX10_addFour 30 = .ok (.aload_n 0, 1) := by decide +kernel
theorem dX10_addFour_31 : decode cX10_addFour 31 = .ok (.dup, 1) := by decide +kernel
theorem dX10_addFour_32 : decode cX10_addFour 32 = .ok (.getfield 19, 3) := by decide +kernel
theorem dX10_addFour_35 : decode cX10_addFour 35 = .ok (.iconst 1, 1) := by decide +kernel
theorem dX10_addFour_36 : decode cX10_addFour 36 = .ok (.iadd, 1) := by decide +kernel
theorem dX10_addFour_37 : decode cX10_addFour 37 = .ok (.putfield 19, 3) := by decide +kernel
theorem dX10_addFour_40 : decode cX10_addFour 40 = .ok (.iinc 2 (-8), 3) := by decide +kernel
theorem dX10_addFour_43 : decode cX10_addFour 43 = .ok (.goto (-40), 3) := by decide +kernel
theorem dX10_addFour_46 : decode cX10_addFour 46 = .ok (.return_, 1) := by decide +kernel
theorem dX10_start_0 : decode cX10_start 0 = .ok (.aload_n 0, 1) := by decide +kernel
theorem dX10_start_1 : decode cX10_start 1 = .ok (.iconst 0, 1) := by decide +kernel
theorem dX10_start_2 : decode cX10_start 2 = .ok (.putfield 22, 3) := by decide +kernel
theorem dX10_start_5 : decode cX10_start 5 = .ok (.aload_n 0, 1) := by decide +kernel
theorem dX10_start_6 : decode cX10_start 6 = .ok (.iconst 0, 1) := by decide +kernel
theorem dX10_start_7 : decode cX10_start 7 = .ok (.putfield 25, 3) := by decide +kernel
theorem dX10_start_10 : decode cX10_start 10 = .ok (.aload_n 0, 1) := by decide +kernel
theorem dX10_start_11 : decode cX10_start 11 = .ok (.iconst (-1), 1) := by decide +kernel
theorem dX10_start_12 : decode cX10_start 12 = .ok (.putfield 9, 3) := by decide +kernel
theorem dX10_start_15 : decode cX10_start 15 = .ok (.return_, 1) := by decide +kernel
theorem dX10_refuse_0 : decode cX10_refuse 0 = .ok (.aload_n 0, 1) := by decide +kernel
theorem dX10_refuse_1 : decode cX10_refuse 1 = .ok (.iload_n 1, 1) := by decide +kernel
theorem dX10_refuse_2 : decode cX10_refuse 2 = .ok (.putfield 25, 3) := by decide +kernel
theorem dX10_refuse_5 : decode cX10_refuse 5 = .ok (.aload_n 0, 1) := by decide +kernel
theorem dX10_refuse_6 : decode cX10_refuse 6 = .ok (.aload_n 0, 1) := by decide +kernel
theorem dX10_refuse_7 : decode cX10_refuse 7 = .ok (.getfield 28, 3) := by decide +kernel
theorem dX10_refuse_10 : decode cX10_refuse 10 = .ok (.putfield 9, 3) := by decide +kernel
theorem dX10_refuse_13 : decode cX10_refuse 13 = .ok (.return_, 1) := by decide +kernel
theorem dX10_readWord_0 : decode cX10_readWord 0 = .ok (.aload_n 0, 1) := by decide +kernel
theorem dX10_readWord_1 : decode cX10_readWord 1 = .ok (.getfield 22, 3) := by decide +kernel
theorem dX10_readWord_4 : decode cX10_readWord 4 = .ok (.aload_n 0, 1) := by decide +kernel
theorem dX10_readWord_5 : decode cX10_readWord 5 = .ok (.getfield 19, 3) := by decide +kernel
theorem dX10_readWord_8 : decode cX10_readWord 8 = .ok (.if_icmp .ge 30, 3) := by decide +kernel
theorem dX10_readWord_11 : decode cX10_readWord 11 = .ok (.aload_n 0, 1) := by decide +kernel
theorem dX10_readWord_12 : decode cX10_readWord 12 = .ok (.aload_n 0, 1) := by decide +kernel
theorem dX10_readWord_13 : decode cX10_readWord 13 = .ok (.getfield 22, 3) := by decide +kernel
theorem dX10_readWord_16 : decode cX10_readWord 16 = .ok (.invokevirtual 31, 3) := by decide +kernel
theorem dX10_readWord_19 : decode cX10_readWord 19 = .ok (.invokestatic 42, 3) := by decide +kernel
theorem dX10_readWord_22 : decode cX10_readWord 22 = .ok (.ifCond .eq 16, 3) := by decide +kernel
theorem dX10_readWord_25 : decode cX10_readWord 25 = .ok (.aload_n 0, 1) := by decide +kernel
theorem dX10_readWord_26 : decode cX10_readWord 26 = .ok (.dup, 1) := by decide +kernel
theorem dX10_readWord_27 : decode cX10_readWord 27 = .ok (.getfield 22, 3) := by decide +kernel
theorem dX10_readWord_30 : decode cX10_readWord 30 = .ok (.iconst 1, 1) := by decide +kernel
theorem dX10_readWord_31 : decode cX10_readWord 31 = .ok (.iadd, 1) := by decide +kernel
theorem dX10_readWord_32 : decode cX10_readWord 32 = .ok (.putfield 22, 3) := by decide +kernel
theorem dX10_readWord_35 : decode cX10_readWord 35 = .ok (.goto (-35), 3) := by decide +kernel
theorem dX10_readWord_38 : decode cX10_readWord 38 = .ok (.aload_n 0, 1) := by decide +kernel
theorem dX10_readWord_39 : decode cX10_readWord 39 = .ok (.aload_n 0, 1) := by decide +kernel
theorem dX10_readWord_40 : decode cX10_readWord 40 = .ok (.getfield 22, 3) := by decide +kernel
theorem dX10_readWord_43 : decode cX10_readWord 43 = .ok (.aload_n 0, 1) := by decide +kernel
theorem dX10_readWord_44 : decode cX10_readWord 44 = .ok (.getfield 28, 3) := by decide +kernel
theorem dX10_readWord_47 : decode cX10_readWord 47 = .ok (.isub, 1) := by decide +kernel
theorem dX10_readWord_48 : decode cX10_readWord 48 = .ok (.bipush 8, 2) := by decide +kernel
theorem dX10_readWord_50 : decode cX10_readWord 50 = .ok (.if_icmp .le 7, 3) := by decide +kernel
theorem dX10_readWord_53 : decode cX10_readWord 53 = .ok (.iconst 4, 1) := by decide +kernel
theorem dX10_readWord_54 : decode cX10_readWord 54 = .ok (.goto 4, 3) := by decide +kernel
theorem dX10_readWord_57 : decode cX10_readWord 57 = .ok (.iconst 1, 1) := by decide +kernel
theorem dX10_readWord_58 : decode cX10_readWord 58 = .ok (.putfield 39, 3) := by decide +kernel
theorem dX10_readWord_61 : decode cX10_readWord 61 = .ok (.return_, 1) := by decide +kernel
theorem dX10_readNumber_0 : decode cX10_readNumber 0 = .ok (.aload_n 0, 1) := by decide +kernel
theorem dX10_readNumber_1 : decode cX10_readNumber 1 = .ok (.iconst 0, 1) := by decide +kernel
theorem dX10_readNumber_2 : decode cX10_readNumber 2 = .ok (.putfield 54, 3) := by decide +kernel
theorem dX10_readNumber_5 : decode cX10_readNumber 5 = .ok (.aload_n 0, 1) := by decide +kernel
theorem dX10_readNumber_6 : decode cX10_readNumber 6 = .ok (.getfield 22, 3) := by decide +kernel
theorem dX10_readNumber_9 : decode cX10_readNumber 9 = .ok (.aload_n 0, 1) := by decide +kernel
theorem dX10_readNumber_10 : decode cX10_readNumber 10 = .ok (.getfield 19, 3) := by decide +kernel
theorem dX10_readNumber_13 : decode cX10_readNumber 13 = .ok (.if_icmp .ge 53, 3) := by decide +kernel
theorem dX10_readNumber_16 : decode cX10_readNumber 16 = .ok (.aload_n 0, 1) := by decide +kernel
theorem dX10_readNumber_17 : decode cX10_readNumber 17 = .ok (.aload_n 0, 1) := by decide +kernel
theorem dX10_readNumber_18 : decode cX10_readNumber 18 = .ok (.getfield 22, 3) := by decide +kernel
theorem dX10_readNumber_21 : decode cX10_readNumber 21 = .ok (.invokevirtual 31, 3) := by decide +kernel
theorem dX10_readNumber_24 : decode cX10_readNumber 24 = .ok (.invokestatic 48, 3) := by decide +kernel
theorem dX10_readNumber_27 : decode cX10_readNumber 27 = .ok (.ifCond .eq 39, 3) := by decide +kernel
theorem dX10_readNumber_30 : decode cX10_readNumber 30 = .ok (.aload_n 0, 1) := by decide +kernel
theorem dX10_readNumber_31 : decode cX10_readNumber 31 = .ok (.aload_n 0, 1) := by decide +kernel
theorem dX10_readNumber_32 : decode cX10_readNumber 32 = .ok (.getfield 54, 3) := by decide +kernel
theorem dX10_readNumber_35 : decode cX10_readNumber 35 = .ok (.bipush 10, 2) := by decide +kernel
theorem dX10_readNumber_37 : decode cX10_readNumber 37 = .ok (.imul, 1) := by decide +kernel
theorem dX10_readNumber_38 : decode cX10_readNumber 38 = .ok (.aload_n 0, 1) := by decide +kernel
theorem dX10_readNumber_39 : decode cX10_readNumber 39 = .ok (.aload_n 0, 1) := by decide +kernel
theorem dX10_readNumber_40 : decode cX10_readNumber 40 = .ok (.getfield 22, 3) := by decide +kernel
theorem dX10_readNumber_43 : decode cX10_readNumber 43 = .ok (.invokevirtual 31, 3) := by decide +kernel
theorem dX10_readNumber_46 : decode cX10_readNumber 46 = .ok (.iadd, 1) := by decide +kernel
theorem dX10_readNumber_47 : decode cX10_readNumber 47 = .ok (.bipush 48, 2) := by decide +kernel
theorem dX10_readNumber_49 : decode cX10_readNumber 49 = .ok (.isub, 1) := by decide +kernel
theorem dX10_readNumber_50 : decode cX10_readNumber 50 = .ok (.putfield 54, 3) := by decide +kernel
theorem dX10_readNumber_53 : decode cX10_readNumber 53 = .ok (.aload_n 0, 1) := by decide +kernel
theorem dX10_readNumber_54 : decode cX10_readNumber 54 = .ok (.dup, 1) := by decide +kernel
theorem dX10_readNumber_55 : decode cX10_readNumber 55 = .ok (.getfield 22, 3) := by decide +kernel
theorem dX10_readNumber_58 : decode cX10_readNumber 58 = .ok (.iconst 1, 1) := by decide +kernel
theorem dX10_readNumber_59 : decode cX10_readNumber 59 = .ok (.iadd, 1) := by decide +kernel
theorem dX10_readNumber_60 : decode cX10_readNumber 60 = .ok (.putfield 22, 3) := by decide +kernel
theorem dX10_readNumber_63 : decode cX10_readNumber 63 = .ok (.goto (-58), 3) := by decide +kernel
theorem dX10_readNumber_66 : decode cX10_readNumber 66 = .ok (.aload_n 0, 1) := by decide +kernel
theorem dX10_readNumber_67 : decode cX10_readNumber 67 = .ok (.aload_n 0, 1) := by decide +kernel
theorem dX10_readNumber_68 : decode cX10_readNumber 68 = .ok (.getfield 22, 3) := by decide +kernel
theorem dX10_readNumber_71 : decode cX10_readNumber 71 = .ok (.aload_n 0, 1) := by decide +kernel
theorem dX10_readNumber_72 : decode cX10_readNumber 72 = .ok (.getfield 28, 3) := by decide +kernel
theorem dX10_readNumber_75 : decode cX10_readNumber 75 = .ok (.isub, 1) := by decide +kernel
theorem dX10_readNumber_76 : decode cX10_readNumber 76 = .ok (.iconst 3, 1) := by decide +kernel
theorem dX10_readNumber_77 : decode cX10_readNumber 77 = .ok (.if_icmp .le 7, 3) := by decide +kernel
theorem dX10_readNumber_80 : decode cX10_readNumber 80 = .ok (.iconst 4, 1) := by decide +kernel
theorem dX10_readNumber_81 : decode cX10_readNumber 81 = .ok (.goto 4, 3) := by decide +kernel
theorem dX10_readNumber_84 : decode cX10_readNumber 84 = .ok (.iconst 2, 1) := by decide +kernel
theorem dX10_readNumber_85 : decode cX10_readNumber 85 = .ok (.putfield 39, 3) := by decide +kernel
theorem dX10_readNumber_88 : decode cX10_readNumber 88 = .ok (.return_, 1) := by decide +kernel
theorem dX10_readToken_0 : decode cX10_readToken 0 = .ok (.aload_n 0, 1) := by decide +kernel
theorem dX10_readToken_1 : decode cX10_readToken 1 = .ok (.getfield 22, 3) := by decide +kernel
theorem dX10_readToken_4 : decode cX10_readToken 4 = .ok (.aload_n 0, 1) := by decide +kernel
theorem dX10_readToken_5 : decode cX10_readToken 5 = .ok (.getfield 19, 3) := by decide +kernel
theorem dX10_readToken_8 : decode cX10_readToken 8 = .ok (.if_icmp .ge 30, 3) := by decide +kernel
theorem dX10_readToken_11 : decode cX10_readToken 11 = .ok (.aload_n 0, 1) := by decide +kernel
theorem dX10_readToken_12 : decode cX10_readToken 12 = .ok (.aload_n 0, 1) := by decide +kernel
theorem dX10_readToken_13 : decode cX10_readToken 13 = .ok (.getfield 22, 3) := by decide +kernel
theorem dX10_readToken_16 : decode cX10_readToken 16 = .ok (.invokevirtual 31, 3) := by decide +kernel
theorem dX10_readToken_19 : decode cX10_readToken 19 = .ok (.invokestatic 35, 3) := by decide +kernel
theorem dX10_readToken_22 : decode cX10_readToken 22 = .ok (.ifCond .eq 16, 3) := by decide +kernel
theorem dX10_readToken_25 : decode cX10_readToken 25 = .ok (.aload_n 0, 1) := by decide +kernel
theorem dX10_readToken_26 : decode cX10_readToken 26 = .ok (.dup, 1) := by decide +kernel
theorem dX10_readToken_27 : decode cX10_readToken 27 = .ok (.getfield 22, 3) := by decide +kernel
theorem dX10_readToken_30 : decode cX10_readToken 30 = .ok (.iconst 1, 1) := by decide +kernel
theorem dX10_readToken_31 : decode cX10_readToken 31 = .ok (.iadd, 1) := by decide +kernel
theorem dX10_readToken_32 : decode cX10_readToken 32 = .ok (.putfield 22, 3) := by decide +kernel
theorem dX10_readToken_35 : decode cX10_readToken 35 = .ok (.goto (-35), 3) := by decide +kernel
theorem dX10_readToken_38 : decode cX10_readToken 38 = .ok (.aload_n 0, 1) := by decide +kernel
theorem dX10_readToken_39 : decode cX10_readToken 39 = .ok (.aload_n 0, 1) := by decide +kernel
theorem dX10_readToken_40 : decode cX10_readToken 40 = .ok (.getfield 22, 3) := by decide +kernel
theorem dX10_readToken_43 : decode cX10_readToken 43 = .ok (.putfield 28, 3) := by decide +kernel
theorem dX10_readToken_46 : decode cX10_readToken 46 = .ok (.aload_n 0, 1) := by decide +kernel
theorem dX10_readToken_47 : decode cX10_readToken 47 = .ok (.aload_n 0, 1) := by decide +kernel
theorem dX10_readToken_48 : decode cX10_readToken 48 = .ok (.getfield 22, 3) := by decide +kernel
theorem dX10_readToken_51 : decode cX10_readToken 51 = .ok (.invokevirtual 31, 3) := by decide +kernel
theorem dX10_readToken_54 : decode cX10_readToken 54 = .ok (.istore_n 1, 1) := by decide +kernel
theorem dX10_readToken_55 : decode cX10_readToken 55 = .ok (.aload_n 0, 1) := by decide +kernel
theorem dX10_readToken_56 : decode cX10_readToken 56 = .ok (.getfield 22, 3) := by decide +kernel
theorem dX10_readToken_59 : decode cX10_readToken 59 = .ok (.aload_n 0, 1) := by decide +kernel
theorem dX10_readToken_60 : decode cX10_readToken 60 = .ok (.getfield 19, 3) := by decide +kernel
theorem dX10_readToken_63 : decode cX10_readToken 63 = .ok (.if_icmp .lt 11, 3) := by decide +kernel
theorem dX10_readToken_66 : decode cX10_readToken 66 = .ok (.aload_n 0, 1) := by decide +kernel
theorem dX10_readToken_67 : decode cX10_readToken 67 = .ok (.iconst 0, 1) := by decide +kernel
theorem dX10_readToken_68 : decode cX10_readToken 68 = .ok (.putfield 39, 3) := by decide +kernel
theorem dX10_readToken_71 : decode cX10_readToken 71 = .ok (.goto 56, 3) := by decide +kernel
theorem dX10_readToken_74 : decode cX10_readToken 74 = .ok (.iload_n 1, 1) := by decide +kernel
theorem dX10_readToken_75 : decode cX10_readToken 75 = .ok (.invokestatic 42, 3) := by decide +kernel
theorem dX10_readToken_78 : decode cX10_readToken 78 = .ok (.ifCond .eq 10, 3) := by decide +kernel
theorem dX10_readToken_81 : decode cX10_readToken 81 = .ok (.aload_n 0, 1) := by decide +kernel
theorem dX10_readToken_82 : decode cX10_readToken 82 = .ok (.invokevirtual 45, 3) := by decide +kernel
theorem dX10_readToken_85 : decode cX10_readToken 85 = .ok (.goto 42, 3) := by decide +kernel
theorem dX10_readToken_88 : decode cX10_readToken 88 = .ok (.iload_n 1, 1) := by decide +kernel
theorem dX10_readToken_89 : decode cX10_readToken 89 = .ok (.invokestatic 48, 3) := by decide +kernel
theorem dX10_readToken_92 : decode cX10_readToken 92 = .ok (.ifCond .eq 10, 3) := by decide +kernel
theorem dX10_readToken_95 : decode cX10_readToken 95 = .ok (.aload_n 0, 1) := by decide +kernel
theorem dX10_readToken_96 : decode cX10_readToken 96 = .ok (.invokevirtual 51, 3) := by decide +kernel
theorem dX10_readToken_99 : decode cX10_readToken 99 = .ok (.goto 28, 3) := by decide +kernel
theorem dX10_readToken_102 : decode cX10_readToken 102 = .ok (.aload_n 0, 1) := by decide +kernel
theorem dX10_readToken_103 : decode cX10_readToken 103 = .ok (.iload_n 1, 1) := by decide +kernel
theorem dX10_readToken_104 : decode cX10_readToken 104 = .ok (.bipush 59, 2) := by decide +kernel
theorem dX10_readToken_106 : decode cX10_readToken 106 = .ok (.if_icmp .ne 7, 3) := by decide +kernel
theorem dX10_readToken_109 : decode cX10_readToken 109 = .ok (.iconst 3, 1) := by decide +kernel
theorem dX10_readToken_110 : decode cX10_readToken 110 = .ok (.goto 4, 3) := by decide +kernel
theorem dX10_readToken_113 : decode cX10_readToken 113 = .ok (.iconst 4, 1) := by decide +kernel
theorem dX10_readToken_114 : decode cX10_readToken 114 = .ok (.putfield 39, 3) := by decide +kernel
theorem dX10_readToken_117 : decode cX10_readToken 117 = .ok (.aload_n 0, 1) := by decide +kernel
theorem dX10_readToken_118 : decode cX10_readToken 118 = .ok (.dup, 1) := by decide +kernel
theorem dX10_readToken_119 : decode cX10_readToken 119 = .ok (.getfield 22, 3) := by decide +kernel
theorem dX10_readToken_122 : decode cX10_readToken 122 = .ok (.iconst 1, 1) := by decide +kernel
theorem dX10_readToken_123 : decode cX10_readToken 123 = .ok (.iadd, 1) := by decide +kernel
theorem dX10_readToken_124 : decode cX10_readToken 124 = .ok (.putfield 22, 3) := by decide +kernel
theorem dX10_readToken_127 : decode cX10_readToken 127 = .ok (.return_, 1) := by decide +kernel
abbrev mX11_isBell : MI := (yX11_isBell, cX11_isBell, 1, some .boolean, 1, 21, [])
abbrev mX11_isDay : MI := (yX11_isDay, cX11_isDay, 1, some .boolean, 1, 21, [])
abbrev mX11_orNone : MI := (yX11_orNone, cX11_orNone, 1, some .int, 1, 21, [])
abbrev mX10_isBlank : MI := (yX10_isBlank, cX10_isBlank, 1, some .boolean, 1, 21, [])
abbrev mX10_isLetter : MI := (yX10_isLetter, cX10_isLetter, 1, some .boolean, 1, 21, [])
abbrev mX10_isDigit : MI := (yX10_isDigit, cX10_isDigit, 1, some .boolean, 1, 21, [])
abbrev mX10_byteAt : MI := (yX10_byteAt, cX10_byteAt, 2, some .int, 1, 21, [])
abbrev mX10_addFour : MI := (yX10_addFour, cX10_addFour, 3, none, 1, 21, [])
abbrev mX10_start : MI := (yX10_start, cX10_start, 1, none, 1, 21, [])
abbrev mX10_refuse : MI := (yX10_refuse, cX10_refuse, 2, none, 1, 21, [])
abbrev mX10_readWord : MI := (yX10_readWord, cX10_readWord, 1, none, 2, 42, [])
abbrev mX10_readNumber : MI := (yX10_readNumber, cX10_readNumber, 1, none, 2, 42, [])
abbrev mX10_readToken : MI := (yX10_readToken, cX10_readToken, 2, none, 3, 62, [])
theorem kB_8 : (Int8.ofInt 8).toInt32 = 8 := by decide
theorem kB_10 : (Int8.ofInt 10).toInt32 = 10 := by decide
theorem kB_24 : (Int8.ofInt 24).toInt32 = 24 := by decide
theorem kB_32 : (Int8.ofInt 32).toInt32 = 32 := by decide
theorem kB_48 : (Int8.ofInt 48).toInt32 = 48 := by decide
theorem kB_57 : (Int8.ofInt 57).toInt32 = 57 := by decide
theorem kB_59 : (Int8.ofInt 59).toInt32 = 59 := by decide
theorem kB_97 : (Int8.ofInt 97).toInt32 = 97 := by decide
theorem kB_122 : (Int8.ofInt 122).toInt32 = 122 := by decide
theorem kI_m8 : Int32.ofInt (-8) = (-8) := by decide
theorem kI_m1 : Int32.ofInt (-1) = (-1) := by decide
theorem kI_0 : Int32.ofInt 0 = 0 := by decide
theorem kI_1 : Int32.ofInt 1 = 1 := by decide
theorem kI_2 : Int32.ofInt 2 = 2 := by decide
theorem kI_3 : Int32.ofInt 3 = 3 := by decide
theorem kI_4 : Int32.ofInt 4 = 4 := by decide
theorem kS_1000 : (Int16.ofInt 1000).toInt32 = 1000 := by decide
theorem kS_1200 : (Int16.ofInt 1200).toInt32 = 1200 := by decide
theorem co_X11_192 : Cond.constant RX11 192 16777216 ∈ lw_w := lw_in (i := 781) (by decide +kernel) (by decide +kernel)
theorem fk_X10_9 : Fk RX10 9 10 4 := ⟨RX10, TX10, 8, tyX10, rfl, inX10, by decide, lw_in (i := 49) (by decide +kernel) (by decide +kernel), tyX10_ok, nmX10⟩
theorem fk_X10_15 : Fk RX10 15 10 5 := ⟨RX10, TX10, 8, tyX10, rfl, inX10, by decide, lw_in (i := 51) (by decide +kernel) (by decide +kernel), tyX10_ok, nmX10⟩
theorem fk_X10_19 : Fk RX10 19 10 0 := ⟨RX10, TX10, 8, tyX10, rfl, inX10, by decide, lw_in (i := 38) (by decide +kernel) (by decide +kernel), tyX10_ok, nmX10⟩
theorem fk_X10_22 : Fk RX10 22 10 7 := ⟨RX10, TX10, 8, tyX10, rfl, inX10, by decide, lw_in (i := 53) (by decide +kernel) (by decide +kernel), tyX10_ok, nmX10⟩
theorem fk_X10_25 : Fk RX10 25 10 3 := ⟨RX10, TX10, 8, tyX10, rfl, inX10, by decide, lw_in (i := 47) (by decide +kernel) (by decide +kernel), tyX10_ok, nmX10⟩
theorem fk_X10_28 : Fk RX10 28 10 6 := ⟨RX10, TX10, 8, tyX10, rfl, inX10, by decide, lw_in (i := 52) (by decide +kernel) (by decide +kernel), tyX10_ok, nmX10⟩
theorem fk_X10_39 : Fk RX10 39 10 1 := ⟨RX10, TX10, 8, tyX10, rfl, inX10, by decide, lw_in (i := 41) (by decide +kernel) (by decide +kernel), tyX10_ok, nmX10⟩
theorem fk_X10_54 : Fk RX10 54 10 2 := ⟨RX10, TX10, 8, tyX10, rfl, inX10, by decide, lw_in (i := 44) (by decide +kernel) (by decide +kernel), tyX10_ok, nmX10⟩
theorem fp_X10_0 : Fp 10 0 .int := ⟨RX10, TX10, 8, rfl, rfl, by decide +kernel⟩
theorem fp_X10_1 : Fp 10 1 .int := ⟨RX10, TX10, 8, rfl, rfl, by decide +kernel⟩
theorem fp_X10_2 : Fp 10 2 .int := ⟨RX10, TX10, 8, rfl, rfl, by decide +kernel⟩
theorem fp_X10_3 : Fp 10 3 .int := ⟨RX10, TX10, 8, rfl, rfl, by decide +kernel⟩
theorem fp_X10_4 : Fp 10 4 .int := ⟨RX10, TX10, 8, rfl, rfl, by decide +kernel⟩
theorem fp_X10_6 : Fp 10 6 .int := ⟨RX10, TX10, 8, rfl, rfl, by decide +kernel⟩
theorem fp_X10_7 : Fp 10 7 .int := ⟨RX10, TX10, 8, rfl, rfl, by decide +kernel⟩
theorem ms_X10_isBlank : Cond.static mX10_isBlank.y ∈ lw_w := lw_in (i := 497) (by decide +kernel) (by decide +kernel)
theorem ms_X10_isDigit : Cond.static mX10_isDigit.y ∈ lw_w := lw_in (i := 507) (by decide +kernel) (by decide +kernel)
theorem ms_X10_isLetter : Cond.static mX10_isLetter.y ∈ lw_w := lw_in (i := 500) (by decide +kernel) (by decide +kernel)
theorem mv_X10_byteAt : MkV mX10_byteAt := ⟨lw_in (i := 494) (by decide +kernel) (by decide +kernel), lw_se (i := 0) (by decide +kernel) (by decide +kernel)⟩
theorem mv_X10_readNumber : MkV mX10_readNumber := ⟨lw_in (i := 511) (by decide +kernel) (by decide +kernel), lw_se (i := 2) (by decide +kernel) (by decide +kernel)⟩
theorem mv_X10_readWord : MkV mX10_readWord := ⟨lw_in (i := 504) (by decide +kernel) (by decide +kernel), lw_se (i := 1) (by decide +kernel) (by decide +kernel)⟩
theorem mk_X10_31 : Mk RX10 31 mX10_byteAt 1 := ⟨lw_in (i := 492) (by decide +kernel) (by decide +kernel), lw_in (i := 2) (by decide +kernel) (by decide +kernel), lw_in (i := 495) (by decide +kernel) (by decide +kernel), by decide +kernel⟩
theorem mk_X10_35 : Mk RX10 35 mX10_isBlank 1 := ⟨lw_in (i := 496) (by decide +kernel) (by decide +kernel), lw_in (i := 2) (by decide +kernel) (by decide +kernel), lw_in (i := 498) (by decide +kernel) (by decide +kernel), by decide +kernel⟩
theorem mk_X10_42 : Mk RX10 42 mX10_isLetter 1 := ⟨lw_in (i := 499) (by decide +kernel) (by decide +kernel), lw_in (i := 2) (by decide +kernel) (by decide +kernel), lw_in (i := 501) (by decide +kernel) (by decide +kernel), by decide +kernel⟩
theorem mk_X10_45 : Mk RX10 45 mX10_readWord 0 := ⟨lw_in (i := 502) (by decide +kernel) (by decide +kernel), lw_in (i := 2) (by decide +kernel) (by decide +kernel), lw_in (i := 505) (by decide +kernel) (by decide +kernel), by decide +kernel⟩
theorem mk_X10_48 : Mk RX10 48 mX10_isDigit 1 := ⟨lw_in (i := 506) (by decide +kernel) (by decide +kernel), lw_in (i := 2) (by decide +kernel) (by decide +kernel), lw_in (i := 508) (by decide +kernel) (by decide +kernel), by decide +kernel⟩
theorem mk_X10_51 : Mk RX10 51 mX10_readNumber 0 := ⟨lw_in (i := 509) (by decide +kernel) (by decide +kernel), lw_in (i := 2) (by decide +kernel) (by decide +kernel), lw_in (i := 512) (by decide +kernel) (by decide +kernel), by decide +kernel⟩
theorem rm_X10_readNumber_X10_byteAt : Rm mX10_readNumber mX10_byteAt := ⟨by decide, by decide⟩
theorem rm_X10_readNumber_X10_isDigit : Rm mX10_readNumber mX10_isDigit := ⟨by decide, by decide⟩
theorem rm_X10_readToken_X10_byteAt : Rm mX10_readToken mX10_byteAt := ⟨by decide, by decide⟩
theorem rm_X10_readToken_X10_isBlank : Rm mX10_readToken mX10_isBlank := ⟨by decide, by decide⟩
theorem rm_X10_readToken_X10_isDigit : Rm mX10_readToken mX10_isDigit := ⟨by decide, by decide⟩
theorem rm_X10_readToken_X10_isLetter : Rm mX10_readToken mX10_isLetter := ⟨by decide, by decide⟩
theorem rm_X10_readToken_X10_readNumber : Rm mX10_readToken mX10_readNumber := ⟨by decide, by decide⟩
theorem rm_X10_readToken_X10_readWord : Rm mX10_readToken mX10_readWord := ⟨by decide, by decide⟩
theorem rm_X10_readWord_X10_byteAt : Rm mX10_readWord mX10_byteAt := ⟨by decide, by decide⟩
theorem rm_X10_readWord_X10_isLetter : Rm mX10_readWord mX10_isLetter := ⟨by decide, by decide⟩
section W_tape
variable {l : Launch} {D : va_G} {ad : Nat → Nat} {kA : Nat → ClassId} {M : Mem} {Q : Outcome → Mem → Prop}
def v_X11_isBell (x0 : Int32) : Int32 := if x0 < 0 then 0 else if 48 ≤ x0 then 0 else 1
theorem ct_X11_isBell {x0 : Int32}  (h : Q (.returned (some (.int (v_X11_isBell x0)))) M) : Cal l D ad kA mX11_isBell [.int x0] M Q := by
  refine Cal.of (lo := [some (.int x0)]) (by decide) rfl rfl (Nat.le_of_ble_eq_true rfl) ?_
  refine r_iload_n dX11_isBell_0 rfl ?_
  suffices hJ1 : Fw l D ad kA mX11_isBell 15 [none] [.int (if x0 < 0 then 0 else if 48 ≤ x0 then 0 else 1)] M Q by
    refine r_if_lt (tgt := 14) dX11_isBell_1 (by decide) (fun c1 => ?_) (fun c1 => ?_)
    · skip
      refine r_iconst (v := 0) dX11_isBell_14 kI_0 ?_
      exact q_weak (lo' := [none]) trivial (by have h9 := hJ1; simp only [if_pos c1] at h9; first | exact h9 | (simp only [if_pos c1]; exact h9))
    · skip
      refine r_iload_n dX11_isBell_4 rfl ?_
      refine r_bipush (v := 48) dX11_isBell_5 kB_48 ?_
      refine r_icmp_ge (tgt := 14) dX11_isBell_7 (by decide) (fun c2 => ?_) (fun c2 => ?_)
      · skip
        refine r_iconst (v := 0) dX11_isBell_14 kI_0 ?_
        exact q_weak (lo' := [none]) trivial (by have h9 := hJ1; simp only [if_neg c1, if_pos c2] at h9; first | exact h9 | (simp only [if_neg c1, if_pos c2]; exact h9))
      · skip
        refine r_iconst (v := 1) dX11_isBell_10 kI_1 ?_
        refine r_goto (tgt := 15) dX11_isBell_11 (by decide) ?_
        exact q_weak (lo' := [none]) trivial (by have h9 := hJ1; simp only [if_neg c1, if_neg c2] at h9; first | exact h9 | (simp only [if_neg c1, if_neg c2]; exact h9))
  exact r_zret dX11_isBell_15 rfl (nar_z (ite01 (Or.inl rfl) (ite01 (Or.inl rfl) (Or.inr rfl)))).1 h
theorem z_X11_isBell {x0 : Int32} : v_X11_isBell x0 = 0 ∨ v_X11_isBell x0 = 1 := (ite01 (Or.inl rfl) (ite01 (Or.inl rfl) (Or.inr rfl)))
def v_X11_isDay (x0 : Int32) : Int32 := if x0 < 0 then 0 else if 1000 ≤ x0 then 0 else 1
theorem ct_X11_isDay {x0 : Int32}  (h : Q (.returned (some (.int (v_X11_isDay x0)))) M) : Cal l D ad kA mX11_isDay [.int x0] M Q := by
  refine Cal.of (lo := [some (.int x0)]) (by decide) rfl rfl (Nat.le_of_ble_eq_true rfl) ?_
  refine r_iload_n dX11_isDay_0 rfl ?_
  suffices hJ1 : Fw l D ad kA mX11_isDay 16 [none] [.int (if x0 < 0 then 0 else if 1000 ≤ x0 then 0 else 1)] M Q by
    refine r_if_lt (tgt := 15) dX11_isDay_1 (by decide) (fun c1 => ?_) (fun c1 => ?_)
    · skip
      refine r_iconst (v := 0) dX11_isDay_15 kI_0 ?_
      exact q_weak (lo' := [none]) trivial (by have h9 := hJ1; simp only [if_pos c1] at h9; first | exact h9 | (simp only [if_pos c1]; exact h9))
    · skip
      refine r_iload_n dX11_isDay_4 rfl ?_
      refine r_sipush (v := 1000) dX11_isDay_5 kS_1000 ?_
      refine r_icmp_ge (tgt := 15) dX11_isDay_8 (by decide) (fun c2 => ?_) (fun c2 => ?_)
      · skip
        refine r_iconst (v := 0) dX11_isDay_15 kI_0 ?_
        exact q_weak (lo' := [none]) trivial (by have h9 := hJ1; simp only [if_neg c1, if_pos c2] at h9; first | exact h9 | (simp only [if_neg c1, if_pos c2]; exact h9))
      · skip
        refine r_iconst (v := 1) dX11_isDay_11 kI_1 ?_
        refine r_goto (tgt := 16) dX11_isDay_12 (by decide) ?_
        exact q_weak (lo' := [none]) trivial (by have h9 := hJ1; simp only [if_neg c1, if_neg c2] at h9; first | exact h9 | (simp only [if_neg c1, if_neg c2]; exact h9))
  exact r_zret dX11_isDay_16 rfl (nar_z (ite01 (Or.inl rfl) (ite01 (Or.inl rfl) (Or.inr rfl)))).1 h
theorem z_X11_isDay {x0 : Int32} : v_X11_isDay x0 = 0 ∨ v_X11_isDay x0 = 1 := (ite01 (Or.inl rfl) (ite01 (Or.inl rfl) (Or.inr rfl)))
def v_X11_orNone (x0 : Int32) : Int32 := if x0 < 16777216 then x0 else (-1)
theorem ct_X11_orNone {x0 : Int32}  (h : Q (.returned (some (.int (v_X11_orNone x0)))) M) : Cal l D ad kA mX11_orNone [.int x0] M Q := by
  refine Cal.of (lo := [some (.int x0)]) (by decide) rfl rfl (Nat.le_of_ble_eq_true rfl) ?_
  refine r_iload_n dX11_orNone_0 rfl ?_
  refine r_ldc (v := 16777216) dX11_orNone_1 co_X11_192 ?_
  suffices hJ1 : Fw l D ad kA mX11_orNone 11 [none] [.int (if x0 < 16777216 then x0 else (-1))] M Q by
    refine r_icmp_lt (tgt := 10) dX11_orNone_3 (by decide) (fun c1 => ?_) (fun c1 => ?_)
    · skip
      refine r_iload_n dX11_orNone_10 rfl ?_
      exact q_weak (lo' := [none]) trivial (by have h9 := hJ1; simp only [if_pos c1] at h9; first | exact h9 | (simp only [if_pos c1]; exact h9))
    · skip
      refine r_iconst (v := (-1)) dX11_orNone_6 kI_m1 ?_
      refine r_goto (tgt := 11) dX11_orNone_7 (by decide) ?_
      exact q_weak (lo' := [none]) trivial (by have h9 := hJ1; simp only [if_neg c1] at h9; first | exact h9 | (simp only [if_neg c1]; exact h9))
  exact r_iret dX11_orNone_11 rfl h
def v_X10_isBlank (x0 : Int32) : Int32 := if x0 = 32 then 1 else if x0 = 10 then 1 else 0
theorem ct_X10_isBlank {x0 : Int32}  (h : Q (.returned (some (.int (v_X10_isBlank x0)))) M) : Cal l D ad kA mX10_isBlank [.int x0] M Q := by
  refine Cal.of (lo := [some (.int x0)]) (by decide) rfl rfl (Nat.le_of_ble_eq_true rfl) ?_
  refine r_iload_n dX10_isBlank_0 rfl ?_
  refine r_bipush (v := 32) dX10_isBlank_1 kB_32 ?_
  suffices hJ1 : Fw l D ad kA mX10_isBlank 17 [none] [.int (if x0 = 32 then 1 else if x0 = 10 then 1 else 0)] M Q by
    refine r_icmp_eq (tgt := 12) dX10_isBlank_3 (by decide) (fun c1 => ?_) (fun c1 => ?_)
    · skip
      refine r_iconst (v := 1) dX10_isBlank_12 kI_1 ?_
      refine r_goto (tgt := 17) dX10_isBlank_13 (by decide) ?_
      exact q_weak (lo' := [none]) trivial (by have h9 := hJ1; simp only [if_pos c1] at h9; first | exact h9 | (simp only [if_pos c1]; exact h9))
    · skip
      refine r_iload_n dX10_isBlank_6 rfl ?_
      refine r_bipush (v := 10) dX10_isBlank_7 kB_10 ?_
      refine r_icmp_ne (tgt := 16) dX10_isBlank_9 (by decide) (fun c2 => ?_) (fun c2 => ?_)
      · skip
        refine r_iconst (v := 0) dX10_isBlank_16 kI_0 ?_
        exact q_weak (lo' := [none]) trivial (by have h9 := hJ1; simp only [if_neg c1, if_neg c2] at h9; first | exact h9 | (simp only [if_neg c1, if_neg c2]; exact h9))
      · skip
        refine r_iconst (v := 1) dX10_isBlank_12 kI_1 ?_
        refine r_goto (tgt := 17) dX10_isBlank_13 (by decide) ?_
        exact q_weak (lo' := [none]) trivial (by have h9 := hJ1; simp only [if_neg c1, if_pos c2] at h9; first | exact h9 | (simp only [if_neg c1, if_pos c2]; exact h9))
  exact r_zret dX10_isBlank_17 rfl (nar_z (ite01 (Or.inr rfl) (ite01 (Or.inr rfl) (Or.inl rfl)))).1 h
theorem z_X10_isBlank {x0 : Int32} : v_X10_isBlank x0 = 0 ∨ v_X10_isBlank x0 = 1 := (ite01 (Or.inr rfl) (ite01 (Or.inr rfl) (Or.inl rfl)))
def v_X10_isLetter (x0 : Int32) : Int32 := if x0 < 97 then 0 else if 122 < x0 then 0 else 1
theorem ct_X10_isLetter {x0 : Int32}  (h : Q (.returned (some (.int (v_X10_isLetter x0)))) M) : Cal l D ad kA mX10_isLetter [.int x0] M Q := by
  refine Cal.of (lo := [some (.int x0)]) (by decide) rfl rfl (Nat.le_of_ble_eq_true rfl) ?_
  refine r_iload_n dX10_isLetter_0 rfl ?_
  refine r_bipush (v := 97) dX10_isLetter_1 kB_97 ?_
  suffices hJ1 : Fw l D ad kA mX10_isLetter 17 [none] [.int (if x0 < 97 then 0 else if 122 < x0 then 0 else 1)] M Q by
    refine r_icmp_lt (tgt := 16) dX10_isLetter_3 (by decide) (fun c1 => ?_) (fun c1 => ?_)
    · skip
      refine r_iconst (v := 0) dX10_isLetter_16 kI_0 ?_
      exact q_weak (lo' := [none]) trivial (by have h9 := hJ1; simp only [if_pos c1] at h9; first | exact h9 | (simp only [if_pos c1]; exact h9))
    · skip
      refine r_iload_n dX10_isLetter_6 rfl ?_
      refine r_bipush (v := 122) dX10_isLetter_7 kB_122 ?_
      refine r_icmp_gt (tgt := 16) dX10_isLetter_9 (by decide) (fun c2 => ?_) (fun c2 => ?_)
      · skip
        refine r_iconst (v := 0) dX10_isLetter_16 kI_0 ?_
        exact q_weak (lo' := [none]) trivial (by have h9 := hJ1; simp only [if_neg c1, if_pos c2] at h9; first | exact h9 | (simp only [if_neg c1, if_pos c2]; exact h9))
      · skip
        refine r_iconst (v := 1) dX10_isLetter_12 kI_1 ?_
        refine r_goto (tgt := 17) dX10_isLetter_13 (by decide) ?_
        exact q_weak (lo' := [none]) trivial (by have h9 := hJ1; simp only [if_neg c1, if_neg c2] at h9; first | exact h9 | (simp only [if_neg c1, if_neg c2]; exact h9))
  exact r_zret dX10_isLetter_17 rfl (nar_z (ite01 (Or.inl rfl) (ite01 (Or.inl rfl) (Or.inr rfl)))).1 h
theorem z_X10_isLetter {x0 : Int32} : v_X10_isLetter x0 = 0 ∨ v_X10_isLetter x0 = 1 := (ite01 (Or.inl rfl) (ite01 (Or.inl rfl) (Or.inr rfl)))
def v_X10_isDigit (x0 : Int32) : Int32 := if x0 < 48 then 0 else if 57 < x0 then 0 else 1
theorem ct_X10_isDigit {x0 : Int32}  (h : Q (.returned (some (.int (v_X10_isDigit x0)))) M) : Cal l D ad kA mX10_isDigit [.int x0] M Q := by
  refine Cal.of (lo := [some (.int x0)]) (by decide) rfl rfl (Nat.le_of_ble_eq_true rfl) ?_
  refine r_iload_n dX10_isDigit_0 rfl ?_
  refine r_bipush (v := 48) dX10_isDigit_1 kB_48 ?_
  suffices hJ1 : Fw l D ad kA mX10_isDigit 17 [none] [.int (if x0 < 48 then 0 else if 57 < x0 then 0 else 1)] M Q by
    refine r_icmp_lt (tgt := 16) dX10_isDigit_3 (by decide) (fun c1 => ?_) (fun c1 => ?_)
    · skip
      refine r_iconst (v := 0) dX10_isDigit_16 kI_0 ?_
      exact q_weak (lo' := [none]) trivial (by have h9 := hJ1; simp only [if_pos c1] at h9; first | exact h9 | (simp only [if_pos c1]; exact h9))
    · skip
      refine r_iload_n dX10_isDigit_6 rfl ?_
      refine r_bipush (v := 57) dX10_isDigit_7 kB_57 ?_
      refine r_icmp_gt (tgt := 16) dX10_isDigit_9 (by decide) (fun c2 => ?_) (fun c2 => ?_)
      · skip
        refine r_iconst (v := 0) dX10_isDigit_16 kI_0 ?_
        exact q_weak (lo' := [none]) trivial (by have h9 := hJ1; simp only [if_neg c1, if_pos c2] at h9; first | exact h9 | (simp only [if_neg c1, if_pos c2]; exact h9))
      · skip
        refine r_iconst (v := 1) dX10_isDigit_12 kI_1 ?_
        refine r_goto (tgt := 17) dX10_isDigit_13 (by decide) ?_
        exact q_weak (lo' := [none]) trivial (by have h9 := hJ1; simp only [if_neg c1, if_neg c2] at h9; first | exact h9 | (simp only [if_neg c1, if_neg c2]; exact h9))
  exact r_zret dX10_isDigit_17 rfl (nar_z (ite01 (Or.inl rfl) (ite01 (Or.inl rfl) (Or.inr rfl)))).1 h
theorem z_X10_isDigit {x0 : Int32} : v_X10_isDigit x0 = 0 ∨ v_X10_isDigit x0 = 1 := (ite01 (Or.inl rfl) (ite01 (Or.inl rfl) (Or.inr rfl)))
def v_X10_byteAt (M : Mem) (x1 : Int32) : Int32 := if x1 < 0 then 0 else if (gI M 1 0) ≤ x1 then 0 else if 1200 ≤ x1 then 0 else gI M 2 x1.toNatClampNeg
def g_X10_byteAt (M : Mem) (x1 : Int32) : Prop := ((¬ (x1 < 0)) → (¬ ((gI M 1 0) ≤ x1)) → (¬ (1200 ≤ x1)) → vp_in x1 1200)
theorem ct_X10_byteAt {x1 : Int32}  (g : g_X10_byteAt M x1) (h : Q (.returned (some (.int (v_X10_byteAt M x1)))) M) : Cal l D ad kA mX10_byteAt [.ref (ad 1), .int x1] M Q := by
  refine Cal.of (lo := [some (.ref (ad 1)), some (.int x1)]) (by decide) rfl rfl (Nat.le_of_ble_eq_true rfl) ?_
  have g1 := g
  refine r_iload_n dX10_byteAt_0 rfl ?_
  suffices hJ1 : Fw l D ad kA mX10_byteAt 29 [none, none] [.int (if x1 < 0 then 0 else if (gI M 1 0) ≤ x1 then 0 else if 1200 ≤ x1 then 0 else gI M 2 x1.toNatClampNeg)] M Q by
    refine r_if_lt (tgt := 28) dX10_byteAt_1 (by decide) (fun c1 => ?_) (fun c1 => ?_)
    · skip
      refine r_iconst (v := 0) dX10_byteAt_28 kI_0 ?_
      exact q_weak (lo' := [none, none]) trivial (by have h9 := hJ1; simp only [if_pos c1] at h9; first | exact h9 | (simp only [if_pos c1]; exact h9))
    · skip
      refine r_iload_n dX10_byteAt_4 rfl ?_
      refine r_aload_n dX10_byteAt_5 rfl ?_
      refine r_getI dX10_byteAt_6 fs_1_0 fk_X10_19 ?_
      refine r_icmp_ge (tgt := 28) dX10_byteAt_9 (by decide) (fun c2 => ?_) (fun c2 => ?_)
      · skip
        refine r_iconst (v := 0) dX10_byteAt_28 kI_0 ?_
        exact q_weak (lo' := [none, none]) trivial (by have h9 := hJ1; simp only [if_neg c1, if_pos c2] at h9; first | exact h9 | (simp only [if_neg c1, if_pos c2]; exact h9))
      · skip
        refine r_iload_n dX10_byteAt_12 rfl ?_
        refine r_sipush (v := 1200) dX10_byteAt_13 kS_1200 ?_
        refine r_icmp_ge (tgt := 28) dX10_byteAt_16 (by decide) (fun c3 => ?_) (fun c3 => ?_)
        · skip
          refine r_iconst (v := 0) dX10_byteAt_28 kI_0 ?_
          exact q_weak (lo' := [none, none]) trivial (by have h9 := hJ1; simp only [if_neg c1, if_neg c2, if_pos c3] at h9; first | exact h9 | (simp only [if_neg c1, if_neg c2, if_pos c3]; exact h9))
        · skip
          refine r_aload_n dX10_byteAt_19 rfl ?_
          refine r_getR dX10_byteAt_20 fs_1_5 fk_X10_15 ?_
          refine r_iload_n dX10_byteAt_23 rfl ?_
          refine r_bald dX10_byteAt_24 as_2 (g1 c1 c2 c3) ?_
          refine r_goto (tgt := 29) dX10_byteAt_25 (by decide) ?_
          exact q_weak (lo' := [none, none]) trivial (by have h9 := hJ1; simp only [if_neg c1, if_neg c2, if_neg c3] at h9; first | exact h9 | (simp only [if_neg c1, if_neg c2, if_neg c3]; exact h9))
  exact r_iret dX10_byteAt_29 rfl h
theorem t_X10_addFour_0 {x1 : Int32} 
    (K1 : Fw l D ad kA mX10_addFour 3 [some (.ref (ad 1)), some (.int x1), some (.int 24)] [] M Q) : Fw l D ad kA mX10_addFour 0 [some (.ref (ad 1)), some (.int x1), none] [] M Q := by
  refine r_bipush (v := 24) dX10_addFour_0 kB_24 ?_
  refine q_istore_n (lo' := [some (.ref (ad 1)), some (.int x1), some (.int 24)]) dX10_addFour_2 (by decide) rfl ?_
  exact K1
theorem t_X10_addFour_3 {x1 : Int32} {x2 : Int32} 
    (g1 : (¬ (x2 < 0)) → (¬ (1200 ≤ (gI M 1 0))) → vp_in (gI M 1 0) 1200)
    (K1 : (x2 < 0) → Q (.returned none) M)
    (K2 : (¬ (x2 < 0)) → (1200 ≤ (gI M 1 0)) → Q (.returned none) M)
    (K3 : (¬ (x2 < 0)) → (¬ (1200 ≤ (gI M 1 0))) → Fw l D ad kA mX10_addFour 3 [some (.ref (ad 1)), some (.int x1), some (.int (x2 + (-8)))] [] (sI (sI M 2 (gI M 1 0).toNatClampNeg (vp_nar .byte ((x1 >>> (x2 &&& 31)).toInt8.toInt32))) 1 0 ((gI (sI M 2 (gI M 1 0).toNatClampNeg (vp_nar .byte ((x1 >>> (x2 &&& 31)).toInt8.toInt32))) 1 0) + 1)) Q) : Fw l D ad kA mX10_addFour 3 [some (.ref (ad 1)), some (.int x1), some (.int x2)] [] M Q := by
  refine r_iload_n dX10_addFour_3 rfl ?_
  refine r_if_lt (tgt := 46) dX10_addFour_4 (by decide) (fun c1 => ?_) (fun c1 => ?_)
  · skip
    exact r_vret dX10_addFour_46 rfl (K1 c1)
  · skip
    refine r_aload_n dX10_addFour_7 rfl ?_
    refine r_getI dX10_addFour_8 fs_1_0 fk_X10_19 ?_
    refine r_sipush (v := 1200) dX10_addFour_11 kS_1200 ?_
    refine r_icmp_ge (tgt := 46) dX10_addFour_14 (by decide) (fun c2 => ?_) (fun c2 => ?_)
    · skip
      exact r_vret dX10_addFour_46 rfl (K2 c1 c2)
    · skip
      refine r_aload_n dX10_addFour_17 rfl ?_
      refine r_getR dX10_addFour_18 fs_1_5 fk_X10_15 ?_
      refine r_aload_n dX10_addFour_21 rfl ?_
      refine r_getI dX10_addFour_22 fs_1_0 fk_X10_19 ?_
      refine r_iload_n dX10_addFour_25 rfl ?_
      refine r_iload_n dX10_addFour_26 rfl ?_
      refine r_ishr dX10_addFour_27 ?_
      refine r_i2b dX10_addFour_28 ?_
      refine r_bast dX10_addFour_29 as_2 (g1 c1 c2) ?_
      refine r_aload_n dX10_addFour_30 rfl ?_
      refine r_dup dX10_addFour_31 rfl ?_
      refine r_getI dX10_addFour_32 fs_1_0 fk_X10_19 ?_
      refine r_iconst (v := 1) dX10_addFour_35 kI_1 ?_
      refine r_iadd dX10_addFour_36 ?_
      refine r_putI dX10_addFour_37 fs_1_0 fk_X10_19 fp_X10_0 ?_
      refine q_iinc (v := x2 + (-8)) (lo' := [some (.ref (ad 1)), some (.int x1), some (.int (x2 + (-8)))]) dX10_addFour_40 rfl (congrArg (fun q => x2 + q) kI_m8) (by decide) rfl ?_
      refine r_goto (tgt := 3) dX10_addFour_43 (by decide) ?_
      exact (K3 c1 c2)
theorem en_X10_addFour {x1 : Int32} (K : Fw l D ad kA mX10_addFour 0 [some (.ref (ad 1)), some (.int x1), none] [] M Q) : Cal l D ad kA mX10_addFour [.ref (ad 1), .int x1] M Q := Cal.of (by decide) rfl rfl (Nat.le_of_ble_eq_true rfl) K
theorem t_X10_start_0  
    (K1 : Q (.returned none) (sI (sI (sI M 1 7 0) 1 3 0) 1 4 (-1))) : Fw l D ad kA mX10_start 0 [some (.ref (ad 1))] [] M Q := by
  refine r_aload_n dX10_start_0 rfl ?_
  refine r_iconst (v := 0) dX10_start_1 kI_0 ?_
  refine r_putI dX10_start_2 fs_1_7 fk_X10_22 fp_X10_7 ?_
  refine r_aload_n dX10_start_5 rfl ?_
  refine r_iconst (v := 0) dX10_start_6 kI_0 ?_
  refine r_putI dX10_start_7 fs_1_3 fk_X10_25 fp_X10_3 ?_
  refine r_aload_n dX10_start_10 rfl ?_
  refine r_iconst (v := (-1)) dX10_start_11 kI_m1 ?_
  refine r_putI dX10_start_12 fs_1_4 fk_X10_9 fp_X10_4 ?_
  exact r_vret dX10_start_15 rfl K1
theorem en_X10_start  (K : Fw l D ad kA mX10_start 0 [some (.ref (ad 1))] [] M Q) : Cal l D ad kA mX10_start [.ref (ad 1)] M Q := Cal.of (by decide) rfl rfl (Nat.le_of_ble_eq_true rfl) K
theorem t_X10_refuse_0 {x1 : Int32} 
    (K1 : Q (.returned none) (sI (sI M 1 3 x1) 1 4 (gI (sI M 1 3 x1) 1 6))) : Fw l D ad kA mX10_refuse 0 [some (.ref (ad 1)), some (.int x1)] [] M Q := by
  refine r_aload_n dX10_refuse_0 rfl ?_
  refine r_iload_n dX10_refuse_1 rfl ?_
  refine r_putI dX10_refuse_2 fs_1_3 fk_X10_25 fp_X10_3 ?_
  refine r_aload_n dX10_refuse_5 rfl ?_
  refine r_aload_n dX10_refuse_6 rfl ?_
  refine r_getI dX10_refuse_7 fs_1_6 fk_X10_28 ?_
  refine r_putI dX10_refuse_10 fs_1_4 fk_X10_9 fp_X10_4 ?_
  exact r_vret dX10_refuse_13 rfl K1
theorem en_X10_refuse {x1 : Int32} (K : Fw l D ad kA mX10_refuse 0 [some (.ref (ad 1)), some (.int x1)] [] M Q) : Cal l D ad kA mX10_refuse [.ref (ad 1), .int x1] M Q := Cal.of (by decide) rfl rfl (Nat.le_of_ble_eq_true rfl) K
theorem t_X10_readWord_0  
    (g1 : (¬ ((gI M 1 0) ≤ (gI M 1 7))) → g_X10_byteAt M (gI M 1 7))
    (K1 : ((gI M 1 0) ≤ (gI M 1 7)) → Q (.returned none) (sI M 1 1 (if ((gI M 1 7) - (gI M 1 6)) ≤ 8 then 1 else 4)))
    (K2 : (¬ ((gI M 1 0) ≤ (gI M 1 7))) → ((v_X10_isLetter (v_X10_byteAt M (gI M 1 7))) = 0) → Q (.returned none) (sI M 1 1 (if ((gI M 1 7) - (gI M 1 6)) ≤ 8 then 1 else 4)))
    (K3 : (¬ ((gI M 1 0) ≤ (gI M 1 7))) → (¬ ((v_X10_isLetter (v_X10_byteAt M (gI M 1 7))) = 0)) → Fw l D ad kA mX10_readWord 0 [some (.ref (ad 1))] [] (sI M 1 7 ((gI M 1 7) + 1)) Q) : Fw l D ad kA mX10_readWord 0 [some (.ref (ad 1))] [] M Q := by
  refine r_aload_n dX10_readWord_0 rfl ?_
  refine r_getI dX10_readWord_1 fs_1_7 fk_X10_22 ?_
  refine r_aload_n dX10_readWord_4 rfl ?_
  refine r_getI dX10_readWord_5 fs_1_0 fk_X10_19 ?_
  refine r_icmp_ge (tgt := 38) dX10_readWord_8 (by decide) (fun c1 => ?_) (fun c1 => ?_)
  · skip
    refine r_aload_n dX10_readWord_38 rfl ?_
    refine r_aload_n dX10_readWord_39 rfl ?_
    refine r_getI dX10_readWord_40 fs_1_7 fk_X10_22 ?_
    refine r_aload_n dX10_readWord_43 rfl ?_
    refine r_getI dX10_readWord_44 fs_1_6 fk_X10_28 ?_
    refine r_isub dX10_readWord_47 ?_
    refine r_bipush (v := 8) dX10_readWord_48 kB_8 ?_
    suffices hJ1 : Fw l D ad kA mX10_readWord 58 [none] [.int (if ((gI M 1 7) - (gI M 1 6)) ≤ 8 then 1 else 4), .ref (ad 1)] M Q by
      refine r_icmp_le (tgt := 57) dX10_readWord_50 (by decide) (fun c2 => ?_) (fun c2 => ?_)
      · skip
        refine r_iconst (v := 1) dX10_readWord_57 kI_1 ?_
        exact q_weak (lo' := [none]) trivial (by have h9 := hJ1; simp only [if_pos c2] at h9; first | exact h9 | (simp only [if_pos c2]; exact h9))
      · skip
        refine r_iconst (v := 4) dX10_readWord_53 kI_4 ?_
        refine r_goto (tgt := 58) dX10_readWord_54 (by decide) ?_
        exact q_weak (lo' := [none]) trivial (by have h9 := hJ1; simp only [if_neg c2] at h9; first | exact h9 | (simp only [if_neg c2]; exact h9))
    refine r_putI dX10_readWord_58 fs_1_1 fk_X10_39 fp_X10_1 ?_
    exact r_vret dX10_readWord_61 rfl (K1 c1)
  · skip
    refine r_aload_n dX10_readWord_11 rfl ?_
    refine r_aload_n dX10_readWord_12 rfl ?_
    refine r_getI dX10_readWord_13 fs_1_7 fk_X10_22 ?_
    refine r_callV (x := 1) (As := [.int (gI M 1 7)]) (rest := []) dX10_readWord_16 mk_X10_31 mv_X10_byteAt rm_X10_readWord_X10_byteAt rfl rfl (by decide +kernel) (Nat.le_of_ble_eq_true rfl) (ct_X10_byteAt (g1 c1) (⟨_, rfl, ?_⟩))
    refine r_callS (As := [.int (v_X10_byteAt M (gI M 1 7))]) (rest := []) dX10_readWord_19 mk_X10_42 ms_X10_isLetter rm_X10_readWord_X10_isLetter rfl rfl (Nat.le_of_ble_eq_true rfl) (ct_X10_isLetter (⟨_, rfl, ?_⟩))
    refine r_if_eq (tgt := 38) dX10_readWord_22 (by decide) (fun c3 => ?_) (fun c3 => ?_)
    · skip
      refine r_aload_n dX10_readWord_38 rfl ?_
      refine r_aload_n dX10_readWord_39 rfl ?_
      refine r_getI dX10_readWord_40 fs_1_7 fk_X10_22 ?_
      refine r_aload_n dX10_readWord_43 rfl ?_
      refine r_getI dX10_readWord_44 fs_1_6 fk_X10_28 ?_
      refine r_isub dX10_readWord_47 ?_
      refine r_bipush (v := 8) dX10_readWord_48 kB_8 ?_
      suffices hJ2 : Fw l D ad kA mX10_readWord 58 [none] [.int (if ((gI M 1 7) - (gI M 1 6)) ≤ 8 then 1 else 4), .ref (ad 1)] M Q by
        refine r_icmp_le (tgt := 57) dX10_readWord_50 (by decide) (fun c4 => ?_) (fun c4 => ?_)
        · skip
          refine r_iconst (v := 1) dX10_readWord_57 kI_1 ?_
          exact q_weak (lo' := [none]) trivial (by have h9 := hJ2; simp only [if_pos c4] at h9; first | exact h9 | (simp only [if_pos c4]; exact h9))
        · skip
          refine r_iconst (v := 4) dX10_readWord_53 kI_4 ?_
          refine r_goto (tgt := 58) dX10_readWord_54 (by decide) ?_
          exact q_weak (lo' := [none]) trivial (by have h9 := hJ2; simp only [if_neg c4] at h9; first | exact h9 | (simp only [if_neg c4]; exact h9))
      refine r_putI dX10_readWord_58 fs_1_1 fk_X10_39 fp_X10_1 ?_
      exact r_vret dX10_readWord_61 rfl (K2 c1 c3)
    · skip
      refine r_aload_n dX10_readWord_25 rfl ?_
      refine r_dup dX10_readWord_26 rfl ?_
      refine r_getI dX10_readWord_27 fs_1_7 fk_X10_22 ?_
      refine r_iconst (v := 1) dX10_readWord_30 kI_1 ?_
      refine r_iadd dX10_readWord_31 ?_
      refine r_putI dX10_readWord_32 fs_1_7 fk_X10_22 fp_X10_7 ?_
      refine r_goto (tgt := 0) dX10_readWord_35 (by decide) ?_
      exact (K3 c1 c3)
theorem en_X10_readWord  (K : Fw l D ad kA mX10_readWord 0 [some (.ref (ad 1))] [] M Q) : Cal l D ad kA mX10_readWord [.ref (ad 1)] M Q := Cal.of (by decide) rfl rfl (Nat.le_of_ble_eq_true rfl) K
theorem t_X10_readNumber_0  
    (K1 : Fw l D ad kA mX10_readNumber 5 [some (.ref (ad 1))] [] (sI M 1 2 0) Q) : Fw l D ad kA mX10_readNumber 0 [some (.ref (ad 1))] [] M Q := by
  refine r_aload_n dX10_readNumber_0 rfl ?_
  refine r_iconst (v := 0) dX10_readNumber_1 kI_0 ?_
  refine r_putI dX10_readNumber_2 fs_1_2 fk_X10_54 fp_X10_2 ?_
  exact K1
theorem t_X10_readNumber_5  
    (g1 : (¬ ((gI M 1 0) ≤ (gI M 1 7))) → g_X10_byteAt M (gI M 1 7))
    (K1 : ((gI M 1 0) ≤ (gI M 1 7)) → Q (.returned none) (sI M 1 1 (if ((gI M 1 7) - (gI M 1 6)) ≤ 3 then 2 else 4)))
    (K2 : (¬ ((gI M 1 0) ≤ (gI M 1 7))) → ((v_X10_isDigit (v_X10_byteAt M (gI M 1 7))) = 0) → Q (.returned none) (sI M 1 1 (if ((gI M 1 7) - (gI M 1 6)) ≤ 3 then 2 else 4)))
    (K3 : (¬ ((gI M 1 0) ≤ (gI M 1 7))) → (¬ ((v_X10_isDigit (v_X10_byteAt M (gI M 1 7))) = 0)) → Fw l D ad kA mX10_readNumber 5 [some (.ref (ad 1))] [] (sI (sI M 1 2 ((((gI M 1 2) * 10) + (v_X10_byteAt M (gI M 1 7))) - 48)) 1 7 ((gI (sI M 1 2 ((((gI M 1 2) * 10) + (v_X10_byteAt M (gI M 1 7))) - 48)) 1 7) + 1)) Q) : Fw l D ad kA mX10_readNumber 5 [some (.ref (ad 1))] [] M Q := by
  refine r_aload_n dX10_readNumber_5 rfl ?_
  refine r_getI dX10_readNumber_6 fs_1_7 fk_X10_22 ?_
  refine r_aload_n dX10_readNumber_9 rfl ?_
  refine r_getI dX10_readNumber_10 fs_1_0 fk_X10_19 ?_
  refine r_icmp_ge (tgt := 66) dX10_readNumber_13 (by decide) (fun c1 => ?_) (fun c1 => ?_)
  · skip
    refine r_aload_n dX10_readNumber_66 rfl ?_
    refine r_aload_n dX10_readNumber_67 rfl ?_
    refine r_getI dX10_readNumber_68 fs_1_7 fk_X10_22 ?_
    refine r_aload_n dX10_readNumber_71 rfl ?_
    refine r_getI dX10_readNumber_72 fs_1_6 fk_X10_28 ?_
    refine r_isub dX10_readNumber_75 ?_
    refine r_iconst (v := 3) dX10_readNumber_76 kI_3 ?_
    suffices hJ1 : Fw l D ad kA mX10_readNumber 85 [none] [.int (if ((gI M 1 7) - (gI M 1 6)) ≤ 3 then 2 else 4), .ref (ad 1)] M Q by
      refine r_icmp_le (tgt := 84) dX10_readNumber_77 (by decide) (fun c2 => ?_) (fun c2 => ?_)
      · skip
        refine r_iconst (v := 2) dX10_readNumber_84 kI_2 ?_
        exact q_weak (lo' := [none]) trivial (by have h9 := hJ1; simp only [if_pos c2] at h9; first | exact h9 | (simp only [if_pos c2]; exact h9))
      · skip
        refine r_iconst (v := 4) dX10_readNumber_80 kI_4 ?_
        refine r_goto (tgt := 85) dX10_readNumber_81 (by decide) ?_
        exact q_weak (lo' := [none]) trivial (by have h9 := hJ1; simp only [if_neg c2] at h9; first | exact h9 | (simp only [if_neg c2]; exact h9))
    refine r_putI dX10_readNumber_85 fs_1_1 fk_X10_39 fp_X10_1 ?_
    exact r_vret dX10_readNumber_88 rfl (K1 c1)
  · skip
    refine r_aload_n dX10_readNumber_16 rfl ?_
    refine r_aload_n dX10_readNumber_17 rfl ?_
    refine r_getI dX10_readNumber_18 fs_1_7 fk_X10_22 ?_
    refine r_callV (x := 1) (As := [.int (gI M 1 7)]) (rest := []) dX10_readNumber_21 mk_X10_31 mv_X10_byteAt rm_X10_readNumber_X10_byteAt rfl rfl (by decide +kernel) (Nat.le_of_ble_eq_true rfl) (ct_X10_byteAt (g1 c1) (⟨_, rfl, ?_⟩))
    refine r_callS (As := [.int (v_X10_byteAt M (gI M 1 7))]) (rest := []) dX10_readNumber_24 mk_X10_48 ms_X10_isDigit rm_X10_readNumber_X10_isDigit rfl rfl (Nat.le_of_ble_eq_true rfl) (ct_X10_isDigit (⟨_, rfl, ?_⟩))
    refine r_if_eq (tgt := 66) dX10_readNumber_27 (by decide) (fun c3 => ?_) (fun c3 => ?_)
    · skip
      refine r_aload_n dX10_readNumber_66 rfl ?_
      refine r_aload_n dX10_readNumber_67 rfl ?_
      refine r_getI dX10_readNumber_68 fs_1_7 fk_X10_22 ?_
      refine r_aload_n dX10_readNumber_71 rfl ?_
      refine r_getI dX10_readNumber_72 fs_1_6 fk_X10_28 ?_
      refine r_isub dX10_readNumber_75 ?_
      refine r_iconst (v := 3) dX10_readNumber_76 kI_3 ?_
      suffices hJ2 : Fw l D ad kA mX10_readNumber 85 [none] [.int (if ((gI M 1 7) - (gI M 1 6)) ≤ 3 then 2 else 4), .ref (ad 1)] M Q by
        refine r_icmp_le (tgt := 84) dX10_readNumber_77 (by decide) (fun c4 => ?_) (fun c4 => ?_)
        · skip
          refine r_iconst (v := 2) dX10_readNumber_84 kI_2 ?_
          exact q_weak (lo' := [none]) trivial (by have h9 := hJ2; simp only [if_pos c4] at h9; first | exact h9 | (simp only [if_pos c4]; exact h9))
        · skip
          refine r_iconst (v := 4) dX10_readNumber_80 kI_4 ?_
          refine r_goto (tgt := 85) dX10_readNumber_81 (by decide) ?_
          exact q_weak (lo' := [none]) trivial (by have h9 := hJ2; simp only [if_neg c4] at h9; first | exact h9 | (simp only [if_neg c4]; exact h9))
      refine r_putI dX10_readNumber_85 fs_1_1 fk_X10_39 fp_X10_1 ?_
      exact r_vret dX10_readNumber_88 rfl (K2 c1 c3)
    · skip
      refine r_aload_n dX10_readNumber_30 rfl ?_
      refine r_aload_n dX10_readNumber_31 rfl ?_
      refine r_getI dX10_readNumber_32 fs_1_2 fk_X10_54 ?_
      refine r_bipush (v := 10) dX10_readNumber_35 kB_10 ?_
      refine r_imul dX10_readNumber_37 ?_
      refine r_aload_n dX10_readNumber_38 rfl ?_
      refine r_aload_n dX10_readNumber_39 rfl ?_
      refine r_getI dX10_readNumber_40 fs_1_7 fk_X10_22 ?_
      refine r_callV (x := 1) (As := [.int (gI M 1 7)]) (rest := [.int ((gI M 1 2) * 10), .ref (ad 1)]) dX10_readNumber_43 mk_X10_31 mv_X10_byteAt rm_X10_readNumber_X10_byteAt rfl rfl (by decide +kernel) (Nat.le_of_ble_eq_true rfl) (ct_X10_byteAt (g1 c1) (⟨_, rfl, ?_⟩))
      refine r_iadd dX10_readNumber_46 ?_
      refine r_bipush (v := 48) dX10_readNumber_47 kB_48 ?_
      refine r_isub dX10_readNumber_49 ?_
      refine r_putI dX10_readNumber_50 fs_1_2 fk_X10_54 fp_X10_2 ?_
      refine r_aload_n dX10_readNumber_53 rfl ?_
      refine r_dup dX10_readNumber_54 rfl ?_
      refine r_getI dX10_readNumber_55 fs_1_7 fk_X10_22 ?_
      refine r_iconst (v := 1) dX10_readNumber_58 kI_1 ?_
      refine r_iadd dX10_readNumber_59 ?_
      refine r_putI dX10_readNumber_60 fs_1_7 fk_X10_22 fp_X10_7 ?_
      refine r_goto (tgt := 5) dX10_readNumber_63 (by decide) ?_
      exact (K3 c1 c3)
theorem en_X10_readNumber  (K : Fw l D ad kA mX10_readNumber 0 [some (.ref (ad 1))] [] M Q) : Cal l D ad kA mX10_readNumber [.ref (ad 1)] M Q := Cal.of (by decide) rfl rfl (Nat.le_of_ble_eq_true rfl) K
theorem t_X10_readToken_0  
    (g1 : ((gI M 1 0) ≤ (gI M 1 7)) → g_X10_byteAt (sI M 1 6 (gI M 1 7)) (gI (sI M 1 6 (gI M 1 7)) 1 7))
    (g2 : (¬ ((gI M 1 0) ≤ (gI M 1 7))) → g_X10_byteAt M (gI M 1 7))
    (g3 : (¬ ((gI M 1 0) ≤ (gI M 1 7))) → ((v_X10_isBlank (v_X10_byteAt M (gI M 1 7))) = 0) → g_X10_byteAt (sI M 1 6 (gI M 1 7)) (gI (sI M 1 6 (gI M 1 7)) 1 7))
    (K1 : ((gI M 1 0) ≤ (gI M 1 7)) → ((gI (sI M 1 6 (gI M 1 7)) 1 7) < (gI (sI M 1 6 (gI M 1 7)) 1 0)) → ((v_X10_isLetter (v_X10_byteAt (sI M 1 6 (gI M 1 7)) (gI (sI M 1 6 (gI M 1 7)) 1 7))) = 0) → ((v_X10_isDigit (v_X10_byteAt (sI M 1 6 (gI M 1 7)) (gI (sI M 1 6 (gI M 1 7)) 1 7))) = 0) → Q (.returned none) (sI (sI (sI M 1 6 (gI M 1 7)) 1 1 (if (v_X10_byteAt (sI M 1 6 (gI M 1 7)) (gI (sI M 1 6 (gI M 1 7)) 1 7)) = 59 then 3 else 4)) 1 7 ((gI (sI (sI M 1 6 (gI M 1 7)) 1 1 (if (v_X10_byteAt (sI M 1 6 (gI M 1 7)) (gI (sI M 1 6 (gI M 1 7)) 1 7)) = 59 then 3 else 4)) 1 7) + 1)))
    (K2 : ((gI M 1 0) ≤ (gI M 1 7)) → ((gI (sI M 1 6 (gI M 1 7)) 1 7) < (gI (sI M 1 6 (gI M 1 7)) 1 0)) → ((v_X10_isLetter (v_X10_byteAt (sI M 1 6 (gI M 1 7)) (gI (sI M 1 6 (gI M 1 7)) 1 7))) = 0) → (¬ ((v_X10_isDigit (v_X10_byteAt (sI M 1 6 (gI M 1 7)) (gI (sI M 1 6 (gI M 1 7)) 1 7))) = 0)) → Cal l D ad kA mX10_readNumber [.ref (ad 1)] (sI M 1 6 (gI M 1 7)) (fun oc M2 => oc = .returned none ∧ Fw l D ad kA mX10_readToken 99 [none, none] [] M2 Q))
    (K3 : ((gI M 1 0) ≤ (gI M 1 7)) → ((gI (sI M 1 6 (gI M 1 7)) 1 7) < (gI (sI M 1 6 (gI M 1 7)) 1 0)) → (¬ ((v_X10_isLetter (v_X10_byteAt (sI M 1 6 (gI M 1 7)) (gI (sI M 1 6 (gI M 1 7)) 1 7))) = 0)) → Cal l D ad kA mX10_readWord [.ref (ad 1)] (sI M 1 6 (gI M 1 7)) (fun oc M2 => oc = .returned none ∧ Fw l D ad kA mX10_readToken 85 [none, none] [] M2 Q))
    (K4 : ((gI M 1 0) ≤ (gI M 1 7)) → (¬ ((gI (sI M 1 6 (gI M 1 7)) 1 7) < (gI (sI M 1 6 (gI M 1 7)) 1 0))) → Q (.returned none) (sI (sI M 1 6 (gI M 1 7)) 1 1 0))
    (K5 : (¬ ((gI M 1 0) ≤ (gI M 1 7))) → ((v_X10_isBlank (v_X10_byteAt M (gI M 1 7))) = 0) → ((gI (sI M 1 6 (gI M 1 7)) 1 7) < (gI (sI M 1 6 (gI M 1 7)) 1 0)) → ((v_X10_isLetter (v_X10_byteAt (sI M 1 6 (gI M 1 7)) (gI (sI M 1 6 (gI M 1 7)) 1 7))) = 0) → ((v_X10_isDigit (v_X10_byteAt (sI M 1 6 (gI M 1 7)) (gI (sI M 1 6 (gI M 1 7)) 1 7))) = 0) → Q (.returned none) (sI (sI (sI M 1 6 (gI M 1 7)) 1 1 (if (v_X10_byteAt (sI M 1 6 (gI M 1 7)) (gI (sI M 1 6 (gI M 1 7)) 1 7)) = 59 then 3 else 4)) 1 7 ((gI (sI (sI M 1 6 (gI M 1 7)) 1 1 (if (v_X10_byteAt (sI M 1 6 (gI M 1 7)) (gI (sI M 1 6 (gI M 1 7)) 1 7)) = 59 then 3 else 4)) 1 7) + 1)))
    (K6 : (¬ ((gI M 1 0) ≤ (gI M 1 7))) → ((v_X10_isBlank (v_X10_byteAt M (gI M 1 7))) = 0) → ((gI (sI M 1 6 (gI M 1 7)) 1 7) < (gI (sI M 1 6 (gI M 1 7)) 1 0)) → ((v_X10_isLetter (v_X10_byteAt (sI M 1 6 (gI M 1 7)) (gI (sI M 1 6 (gI M 1 7)) 1 7))) = 0) → (¬ ((v_X10_isDigit (v_X10_byteAt (sI M 1 6 (gI M 1 7)) (gI (sI M 1 6 (gI M 1 7)) 1 7))) = 0)) → Cal l D ad kA mX10_readNumber [.ref (ad 1)] (sI M 1 6 (gI M 1 7)) (fun oc M2 => oc = .returned none ∧ Fw l D ad kA mX10_readToken 99 [none, none] [] M2 Q))
    (K7 : (¬ ((gI M 1 0) ≤ (gI M 1 7))) → ((v_X10_isBlank (v_X10_byteAt M (gI M 1 7))) = 0) → ((gI (sI M 1 6 (gI M 1 7)) 1 7) < (gI (sI M 1 6 (gI M 1 7)) 1 0)) → (¬ ((v_X10_isLetter (v_X10_byteAt (sI M 1 6 (gI M 1 7)) (gI (sI M 1 6 (gI M 1 7)) 1 7))) = 0)) → Cal l D ad kA mX10_readWord [.ref (ad 1)] (sI M 1 6 (gI M 1 7)) (fun oc M2 => oc = .returned none ∧ Fw l D ad kA mX10_readToken 85 [none, none] [] M2 Q))
    (K8 : (¬ ((gI M 1 0) ≤ (gI M 1 7))) → ((v_X10_isBlank (v_X10_byteAt M (gI M 1 7))) = 0) → (¬ ((gI (sI M 1 6 (gI M 1 7)) 1 7) < (gI (sI M 1 6 (gI M 1 7)) 1 0))) → Q (.returned none) (sI (sI M 1 6 (gI M 1 7)) 1 1 0))
    (K9 : (¬ ((gI M 1 0) ≤ (gI M 1 7))) → (¬ ((v_X10_isBlank (v_X10_byteAt M (gI M 1 7))) = 0)) → Fw l D ad kA mX10_readToken 0 [some (.ref (ad 1)), none] [] (sI M 1 7 ((gI M 1 7) + 1)) Q) : Fw l D ad kA mX10_readToken 0 [some (.ref (ad 1)), none] [] M Q := by
  refine r_aload_n dX10_readToken_0 rfl ?_
  refine r_getI dX10_readToken_1 fs_1_7 fk_X10_22 ?_
  refine r_aload_n dX10_readToken_4 rfl ?_
  refine r_getI dX10_readToken_5 fs_1_0 fk_X10_19 ?_
  refine r_icmp_ge (tgt := 38) dX10_readToken_8 (by decide) (fun c1 => ?_) (fun c1 => ?_)
  · skip
    refine r_aload_n dX10_readToken_38 rfl ?_
    refine r_aload_n dX10_readToken_39 rfl ?_
    refine r_getI dX10_readToken_40 fs_1_7 fk_X10_22 ?_
    refine r_putI dX10_readToken_43 fs_1_6 fk_X10_28 fp_X10_6 ?_
    refine r_aload_n dX10_readToken_46 rfl ?_
    refine r_aload_n dX10_readToken_47 rfl ?_
    refine r_getI dX10_readToken_48 fs_1_7 fk_X10_22 ?_
    refine r_callV (x := 1) (As := [.int (gI (sI M 1 6 (gI M 1 7)) 1 7)]) (rest := []) dX10_readToken_51 mk_X10_31 mv_X10_byteAt rm_X10_readToken_X10_byteAt rfl rfl (by decide +kernel) (Nat.le_of_ble_eq_true rfl) (ct_X10_byteAt (g1 c1) (⟨_, rfl, ?_⟩))
    refine q_istore_n (lo' := [some (.ref (ad 1)), some (.int (v_X10_byteAt (sI M 1 6 (gI M 1 7)) (gI (sI M 1 6 (gI M 1 7)) 1 7)))]) dX10_readToken_54 (by decide) rfl ?_
    refine r_aload_n dX10_readToken_55 rfl ?_
    refine r_getI dX10_readToken_56 fs_1_7 fk_X10_22 ?_
    refine r_aload_n dX10_readToken_59 rfl ?_
    refine r_getI dX10_readToken_60 fs_1_0 fk_X10_19 ?_
    refine r_icmp_lt (tgt := 74) dX10_readToken_63 (by decide) (fun c2 => ?_) (fun c2 => ?_)
    · skip
      refine r_iload_n dX10_readToken_74 rfl ?_
      refine r_callS (As := [.int (v_X10_byteAt (sI M 1 6 (gI M 1 7)) (gI (sI M 1 6 (gI M 1 7)) 1 7))]) (rest := []) dX10_readToken_75 mk_X10_42 ms_X10_isLetter rm_X10_readToken_X10_isLetter rfl rfl (Nat.le_of_ble_eq_true rfl) (ct_X10_isLetter (⟨_, rfl, ?_⟩))
      refine r_if_eq (tgt := 88) dX10_readToken_78 (by decide) (fun c3 => ?_) (fun c3 => ?_)
      · skip
        refine r_iload_n dX10_readToken_88 rfl ?_
        refine r_callS (As := [.int (v_X10_byteAt (sI M 1 6 (gI M 1 7)) (gI (sI M 1 6 (gI M 1 7)) 1 7))]) (rest := []) dX10_readToken_89 mk_X10_48 ms_X10_isDigit rm_X10_readToken_X10_isDigit rfl rfl (Nat.le_of_ble_eq_true rfl) (ct_X10_isDigit (⟨_, rfl, ?_⟩))
        refine r_if_eq (tgt := 102) dX10_readToken_92 (by decide) (fun c4 => ?_) (fun c4 => ?_)
        · skip
          refine r_aload_n dX10_readToken_102 rfl ?_
          refine r_iload_n dX10_readToken_103 rfl ?_
          refine r_bipush (v := 59) dX10_readToken_104 kB_59 ?_
          suffices hJ1 : Fw l D ad kA mX10_readToken 114 [some (.ref (ad 1)), none] [.int (if (v_X10_byteAt (sI M 1 6 (gI M 1 7)) (gI (sI M 1 6 (gI M 1 7)) 1 7)) = 59 then 3 else 4), .ref (ad 1)] (sI M 1 6 (gI M 1 7)) Q by
            refine r_icmp_ne (tgt := 113) dX10_readToken_106 (by decide) (fun c5 => ?_) (fun c5 => ?_)
            · skip
              refine r_iconst (v := 4) dX10_readToken_113 kI_4 ?_
              exact q_weak (lo' := [some (.ref (ad 1)), none]) ⟨rfl, trivial⟩ (by have h9 := hJ1; simp only [if_neg c5] at h9; first | exact h9 | (simp only [if_neg c5]; exact h9))
            · skip
              refine r_iconst (v := 3) dX10_readToken_109 kI_3 ?_
              refine r_goto (tgt := 114) dX10_readToken_110 (by decide) ?_
              exact q_weak (lo' := [some (.ref (ad 1)), none]) ⟨rfl, trivial⟩ (by have h9 := hJ1; simp only [if_pos c5] at h9; first | exact h9 | (simp only [if_pos c5]; exact h9))
          refine r_putI dX10_readToken_114 fs_1_1 fk_X10_39 fp_X10_1 ?_
          refine r_aload_n dX10_readToken_117 rfl ?_
          refine r_dup dX10_readToken_118 rfl ?_
          refine r_getI dX10_readToken_119 fs_1_7 fk_X10_22 ?_
          refine r_iconst (v := 1) dX10_readToken_122 kI_1 ?_
          refine r_iadd dX10_readToken_123 ?_
          refine r_putI dX10_readToken_124 fs_1_7 fk_X10_22 fp_X10_7 ?_
          exact r_vret dX10_readToken_127 rfl (K1 c1 c2 c3 c4)
        · skip
          refine r_aload_n dX10_readToken_95 rfl ?_
          exact r_callV (x := 1) (As := []) (rest := []) dX10_readToken_96 mk_X10_51 mv_X10_readNumber rm_X10_readToken_X10_readNumber rfl rfl (by decide +kernel) (Nat.le_of_ble_eq_true rfl) (cal_v (lo' := [none, none]) trivial (K2 c1 c2 c3 c4))
      · skip
        refine r_aload_n dX10_readToken_81 rfl ?_
        exact r_callV (x := 1) (As := []) (rest := []) dX10_readToken_82 mk_X10_45 mv_X10_readWord rm_X10_readToken_X10_readWord rfl rfl (by decide +kernel) (Nat.le_of_ble_eq_true rfl) (cal_v (lo' := [none, none]) trivial (K3 c1 c2 c3))
    · skip
      refine r_aload_n dX10_readToken_66 rfl ?_
      refine r_iconst (v := 0) dX10_readToken_67 kI_0 ?_
      refine r_putI dX10_readToken_68 fs_1_1 fk_X10_39 fp_X10_1 ?_
      refine r_goto (tgt := 127) dX10_readToken_71 (by decide) ?_
      exact r_vret dX10_readToken_127 rfl (K4 c1 c2)
  · skip
    refine r_aload_n dX10_readToken_11 rfl ?_
    refine r_aload_n dX10_readToken_12 rfl ?_
    refine r_getI dX10_readToken_13 fs_1_7 fk_X10_22 ?_
    refine r_callV (x := 1) (As := [.int (gI M 1 7)]) (rest := []) dX10_readToken_16 mk_X10_31 mv_X10_byteAt rm_X10_readToken_X10_byteAt rfl rfl (by decide +kernel) (Nat.le_of_ble_eq_true rfl) (ct_X10_byteAt (g2 c1) (⟨_, rfl, ?_⟩))
    refine r_callS (As := [.int (v_X10_byteAt M (gI M 1 7))]) (rest := []) dX10_readToken_19 mk_X10_35 ms_X10_isBlank rm_X10_readToken_X10_isBlank rfl rfl (Nat.le_of_ble_eq_true rfl) (ct_X10_isBlank (⟨_, rfl, ?_⟩))
    refine r_if_eq (tgt := 38) dX10_readToken_22 (by decide) (fun c6 => ?_) (fun c6 => ?_)
    · skip
      refine r_aload_n dX10_readToken_38 rfl ?_
      refine r_aload_n dX10_readToken_39 rfl ?_
      refine r_getI dX10_readToken_40 fs_1_7 fk_X10_22 ?_
      refine r_putI dX10_readToken_43 fs_1_6 fk_X10_28 fp_X10_6 ?_
      refine r_aload_n dX10_readToken_46 rfl ?_
      refine r_aload_n dX10_readToken_47 rfl ?_
      refine r_getI dX10_readToken_48 fs_1_7 fk_X10_22 ?_
      refine r_callV (x := 1) (As := [.int (gI (sI M 1 6 (gI M 1 7)) 1 7)]) (rest := []) dX10_readToken_51 mk_X10_31 mv_X10_byteAt rm_X10_readToken_X10_byteAt rfl rfl (by decide +kernel) (Nat.le_of_ble_eq_true rfl) (ct_X10_byteAt (g3 c1 c6) (⟨_, rfl, ?_⟩))
      refine q_istore_n (lo' := [some (.ref (ad 1)), some (.int (v_X10_byteAt (sI M 1 6 (gI M 1 7)) (gI (sI M 1 6 (gI M 1 7)) 1 7)))]) dX10_readToken_54 (by decide) rfl ?_
      refine r_aload_n dX10_readToken_55 rfl ?_
      refine r_getI dX10_readToken_56 fs_1_7 fk_X10_22 ?_
      refine r_aload_n dX10_readToken_59 rfl ?_
      refine r_getI dX10_readToken_60 fs_1_0 fk_X10_19 ?_
      refine r_icmp_lt (tgt := 74) dX10_readToken_63 (by decide) (fun c7 => ?_) (fun c7 => ?_)
      · skip
        refine r_iload_n dX10_readToken_74 rfl ?_
        refine r_callS (As := [.int (v_X10_byteAt (sI M 1 6 (gI M 1 7)) (gI (sI M 1 6 (gI M 1 7)) 1 7))]) (rest := []) dX10_readToken_75 mk_X10_42 ms_X10_isLetter rm_X10_readToken_X10_isLetter rfl rfl (Nat.le_of_ble_eq_true rfl) (ct_X10_isLetter (⟨_, rfl, ?_⟩))
        refine r_if_eq (tgt := 88) dX10_readToken_78 (by decide) (fun c8 => ?_) (fun c8 => ?_)
        · skip
          refine r_iload_n dX10_readToken_88 rfl ?_
          refine r_callS (As := [.int (v_X10_byteAt (sI M 1 6 (gI M 1 7)) (gI (sI M 1 6 (gI M 1 7)) 1 7))]) (rest := []) dX10_readToken_89 mk_X10_48 ms_X10_isDigit rm_X10_readToken_X10_isDigit rfl rfl (Nat.le_of_ble_eq_true rfl) (ct_X10_isDigit (⟨_, rfl, ?_⟩))
          refine r_if_eq (tgt := 102) dX10_readToken_92 (by decide) (fun c9 => ?_) (fun c9 => ?_)
          · skip
            refine r_aload_n dX10_readToken_102 rfl ?_
            refine r_iload_n dX10_readToken_103 rfl ?_
            refine r_bipush (v := 59) dX10_readToken_104 kB_59 ?_
            suffices hJ2 : Fw l D ad kA mX10_readToken 114 [some (.ref (ad 1)), none] [.int (if (v_X10_byteAt (sI M 1 6 (gI M 1 7)) (gI (sI M 1 6 (gI M 1 7)) 1 7)) = 59 then 3 else 4), .ref (ad 1)] (sI M 1 6 (gI M 1 7)) Q by
              refine r_icmp_ne (tgt := 113) dX10_readToken_106 (by decide) (fun c10 => ?_) (fun c10 => ?_)
              · skip
                refine r_iconst (v := 4) dX10_readToken_113 kI_4 ?_
                exact q_weak (lo' := [some (.ref (ad 1)), none]) ⟨rfl, trivial⟩ (by have h9 := hJ2; simp only [if_neg c10] at h9; first | exact h9 | (simp only [if_neg c10]; exact h9))
              · skip
                refine r_iconst (v := 3) dX10_readToken_109 kI_3 ?_
                refine r_goto (tgt := 114) dX10_readToken_110 (by decide) ?_
                exact q_weak (lo' := [some (.ref (ad 1)), none]) ⟨rfl, trivial⟩ (by have h9 := hJ2; simp only [if_pos c10] at h9; first | exact h9 | (simp only [if_pos c10]; exact h9))
            refine r_putI dX10_readToken_114 fs_1_1 fk_X10_39 fp_X10_1 ?_
            refine r_aload_n dX10_readToken_117 rfl ?_
            refine r_dup dX10_readToken_118 rfl ?_
            refine r_getI dX10_readToken_119 fs_1_7 fk_X10_22 ?_
            refine r_iconst (v := 1) dX10_readToken_122 kI_1 ?_
            refine r_iadd dX10_readToken_123 ?_
            refine r_putI dX10_readToken_124 fs_1_7 fk_X10_22 fp_X10_7 ?_
            exact r_vret dX10_readToken_127 rfl (K5 c1 c6 c7 c8 c9)
          · skip
            refine r_aload_n dX10_readToken_95 rfl ?_
            exact r_callV (x := 1) (As := []) (rest := []) dX10_readToken_96 mk_X10_51 mv_X10_readNumber rm_X10_readToken_X10_readNumber rfl rfl (by decide +kernel) (Nat.le_of_ble_eq_true rfl) (cal_v (lo' := [none, none]) trivial (K6 c1 c6 c7 c8 c9))
        · skip
          refine r_aload_n dX10_readToken_81 rfl ?_
          exact r_callV (x := 1) (As := []) (rest := []) dX10_readToken_82 mk_X10_45 mv_X10_readWord rm_X10_readToken_X10_readWord rfl rfl (by decide +kernel) (Nat.le_of_ble_eq_true rfl) (cal_v (lo' := [none, none]) trivial (K7 c1 c6 c7 c8))
      · skip
        refine r_aload_n dX10_readToken_66 rfl ?_
        refine r_iconst (v := 0) dX10_readToken_67 kI_0 ?_
        refine r_putI dX10_readToken_68 fs_1_1 fk_X10_39 fp_X10_1 ?_
        refine r_goto (tgt := 127) dX10_readToken_71 (by decide) ?_
        exact r_vret dX10_readToken_127 rfl (K8 c1 c6 c7)
    · skip
      refine r_aload_n dX10_readToken_25 rfl ?_
      refine r_dup dX10_readToken_26 rfl ?_
      refine r_getI dX10_readToken_27 fs_1_7 fk_X10_22 ?_
      refine r_iconst (v := 1) dX10_readToken_30 kI_1 ?_
      refine r_iadd dX10_readToken_31 ?_
      refine r_putI dX10_readToken_32 fs_1_7 fk_X10_22 fp_X10_7 ?_
      refine r_goto (tgt := 0) dX10_readToken_35 (by decide) ?_
      exact (K9 c1 c6)
theorem t_X10_readToken_99  
    (K1 : Q (.returned none) M) : Fw l D ad kA mX10_readToken 99 [none, none] [] M Q := by
  refine r_goto (tgt := 127) dX10_readToken_99 (by decide) ?_
  exact r_vret dX10_readToken_127 rfl K1
theorem t_X10_readToken_85  
    (K1 : Q (.returned none) M) : Fw l D ad kA mX10_readToken 85 [none, none] [] M Q := by
  refine r_goto (tgt := 127) dX10_readToken_85 (by decide) ?_
  exact r_vret dX10_readToken_127 rfl K1
theorem en_X10_readToken  (K : Fw l D ad kA mX10_readToken 0 [some (.ref (ad 1)), none] [] M Q) : Cal l D ad kA mX10_readToken [.ref (ad 1)] M Q := Cal.of (by decide) rfl rfl (Nat.le_of_ble_eq_true rfl) K
end W_tape
end
section
/-! String length: decode rows, links, walks from cut to cut (printed by wip/gen) -/
theorem dJ0_coder_7d493_0 : decode cJ0_coder_7d493 0 = .ok (.getstatic 38, 3) := by decide +kernel
theorem dJ0_coder_7d493_3 : decode cJ0_coder_7d493 3 = .ok (.ifCond .eq 10, 3) := by decide +kernel
theorem dJ0_coder_7d493_6 : decode cJ0_coder_7d493 6 = .ok (.aload_n 0, 1) := by decide +kernel
theorem dJ0_coder_7d493_7 : decode cJ0_coder_7d493 7 = .ok (.getfield 15, 3) := by decide +kernel
theorem dJ0_coder_7d493_10 : decode cJ0_coder_7d493 10 = .ok (.goto 4, 3) := by decide +kernel
theorem dJ0_coder_7d493_13 : decode cJ0_coder_7d493 13 = .ok (.iconst 1, 1) := by decide +kernel
theorem dJ0_coder_7d493_14 : decode cJ0_coder_7d493 14 = .ok (.ireturn, 1) := by decide +kernel
theorem dJ0_isLatin1_aae02_0 : decode cJ0_isLatin1_aae02 0 = .ok (.getstatic 38, 3) := by decide +kernel
theorem dJ0_isLatin1_aae02_3 : decode cJ0_isLatin1_aae02 3 = .ok (.ifCond .eq 14, 3) := by decide +kernel
theorem dJ0_isLatin1_aae02_6 : decode cJ0_isLatin1_aae02 6 = .ok (.aload_n 0, 1) := by decide +kernel
theorem dJ0_isLatin1_aae02_7 : decode cJ0_isLatin1_aae02 7 = .ok (.getfield 15, 3) := by decide +kernel
theorem dJ0_isLatin1_aae02_10 : decode cJ0_isLatin1_aae02 10 = .ok (.ifCond .ne 7, 3) := by decide +kernel
theorem dJ0_isLatin1_aae02_13 : decode cJ0_isLatin1_aae02 13 = .ok (.iconst 1, 1) := by decide +kernel
theorem dJ0_isLatin1_aae02_14 : decode cJ0_isLatin1_aae02 14 = .ok (.goto 4, 3) := by decide +kernel
theorem dJ0_isLatin1_aae02_17 : decode cJ0_isLatin1_aae02 17 = .ok (.iconst 0, 1) := by decide +kernel
theorem dJ0_isLatin1_aae02_18 : decode cJ0_isLatin1_aae02 18 = .ok (.ireturn, 1) := by decide +kernel
theorem dJ0_length_8abf5_0 : decode cJ0_length_8abf5 0 = .ok (.aload_n 0, 1) := by decide +kernel
theorem dJ0_length_8abf5_1 : decode cJ0_length_8abf5 1 = .ok (.getfield 9, 3) := by decide +kernel
theorem dJ0_length_8abf5_4 : decode cJ0_length_8abf5 4 = .ok (.arraylength, 1) := by decide +kernel
theorem dJ0_length_8abf5_5 : decode cJ0_length_8abf5 5 = .ok (.aload_n 0, 1) := by decide +kernel
theorem dJ0_length_8abf5_6 : decode cJ0_length_8abf5 6 = .ok (.invokevirtual 335, 3) := by decide +kernel
theorem dJ0_length_8abf5_9 : decode cJ0_length_8abf5 9 = .ok (.ishr, 1) := by decide +kernel
theorem dJ0_length_8abf5_10 : decode cJ0_length_8abf5 10 = .ok (.ireturn, 1) := by decide +kernel
abbrev mJ0_coder_7d493 : MI := (yJ0_coder_7d493, cJ0_coder_7d493, 1, some .byte, 1, 21, [])
abbrev mJ0_isLatin1_aae02 : MI := (yJ0_isLatin1_aae02, cJ0_isLatin1_aae02, 1, some .boolean, 1, 21, [])
abbrev mJ0_length_8abf5 : MI := (yJ0_length_8abf5, cJ0_length_8abf5, 1, some .int, 2, 41, [])
theorem fl_J0_9 : Cond.fieldLink RJ0 9 "java/lang/String" "value" "[B" ∈ lw_w := lw_in (i := 1674) (by decide +kernel) (by decide +kernel)
theorem fl_J0_15 : Cond.fieldLink RJ0 15 "java/lang/String" "coder" "B" ∈ lw_w := lw_in (i := 1675) (by decide +kernel) (by decide +kernel)
theorem fl_J0_38 : Cond.fieldLink RJ0 38 "java/lang/String" "COMPACT_STRINGS" "Z" ∈ lw_w := lw_in (i := 530) (by decide +kernel) (by decide +kernel)
theorem mv_J0_coder_7d493 : MkV mJ0_coder_7d493 := ⟨lw_in (i := 527) (by decide +kernel) (by decide +kernel), lw_in (i := 528) (by decide +kernel) (by decide +kernel)⟩
theorem mk_J0_335 : Mk RJ0 335 mJ0_coder_7d493 0 := ⟨lw_in (i := 526) (by decide +kernel) (by decide +kernel), lw_in (i := 18) (by decide +kernel) (by decide +kernel), lw_in (i := 529) (by decide +kernel) (by decide +kernel), by decide +kernel⟩
theorem rm_J0_length_8abf5_J0_coder_7d493 : Rm mJ0_length_8abf5 mJ0_coder_7d493 := ⟨by decide, by decide⟩
section W_jdk1
variable {l : Launch} {D : va_G} {ad : Nat → Nat} {kA : Nat → ClassId} {M : Mem} {Q : Outcome → Mem → Prop}
def v_J0_coder_7d493 (w : Nat) : Int32 := 0
theorem ct_J0_coder_7d493 {w : Nat} (hw : w < 15) (h : Q (.returned (some (.int (0)))) M) : Cal l D ad kA mJ0_coder_7d493 [.ref (ad (210 + w))] M Q := by
  refine Cal.of (lo := [some (.ref (ad (210 + w)))]) (by decide) rfl rfl (Nat.le_of_ble_eq_true rfl) ?_
  refine r_getcs dJ0_coder_7d493_0 fl_J0_38 ?_
  refine r_if_eq (tgt := 13) dJ0_coder_7d493_3 (by decide) (fun q => absurd q (by decide)) (fun _ => ?_)
  refine r_aload_n dJ0_coder_7d493_6 rfl ?_
  refine r_scCoder (i := w) dJ0_coder_7d493_7 hw fl_J0_15 ?_
  refine r_goto (tgt := 14) dJ0_coder_7d493_10 (by decide) ?_
  exact r_zret dJ0_coder_7d493_14 rfl (by decide) h
def v_J0_isLatin1_aae02 (w : Nat) : Int32 := 1
theorem ct_J0_isLatin1_aae02 {w : Nat} (hw : w < 15) (h : Q (.returned (some (.int (1)))) M) : Cal l D ad kA mJ0_isLatin1_aae02 [.ref (ad (210 + w))] M Q := by
  refine Cal.of (lo := [some (.ref (ad (210 + w)))]) (by decide) rfl rfl (Nat.le_of_ble_eq_true rfl) ?_
  refine r_getcs dJ0_isLatin1_aae02_0 fl_J0_38 ?_
  refine r_if_eq (tgt := 17) dJ0_isLatin1_aae02_3 (by decide) (fun q => absurd q (by decide)) (fun _ => ?_)
  refine r_aload_n dJ0_isLatin1_aae02_6 rfl ?_
  refine r_scCoder (i := w) dJ0_isLatin1_aae02_7 hw fl_J0_15 ?_
  refine r_if_ne (tgt := 17) dJ0_isLatin1_aae02_10 (by decide) (fun q => absurd q (by decide)) (fun _ => ?_)
  refine r_iconst (v := 1) dJ0_isLatin1_aae02_13 kI_1 ?_
  refine r_goto (tgt := 18) dJ0_isLatin1_aae02_14 (by decide) ?_
  exact r_zret dJ0_isLatin1_aae02_18 rfl (by decide) h
theorem z_J0_isLatin1_aae02 {w : Nat} : v_J0_isLatin1_aae02 w = 0 ∨ v_J0_isLatin1_aae02 w = 1 := (Or.inr rfl)
def v_J0_length_8abf5 (w : Nat) : Int32 := (Int32.ofNat (scB.getD w []).length) >>> (0 &&& 31)
theorem ct_J0_length_8abf5 {w : Nat} (hw : w < 15) (h : Q (.returned (some (.int (v_J0_length_8abf5 w)))) M) : Cal l D ad kA mJ0_length_8abf5 [.ref (ad (210 + w))] M Q := by
  refine Cal.of (lo := [some (.ref (ad (210 + w)))]) (by decide) rfl rfl (Nat.le_of_ble_eq_true rfl) ?_
  refine r_aload_n dJ0_length_8abf5_0 rfl ?_
  refine r_scValue (i := w) dJ0_length_8abf5_1 hw fl_J0_9 ?_
  refine r_sclen (j := w) dJ0_length_8abf5_4 hw rfl ?_
  refine r_aload_n dJ0_length_8abf5_5 rfl ?_
  refine r_callT (i := w) (As := []) (rest := [.int (Int32.ofNat (scB.getD w []).length)]) dJ0_length_8abf5_6 mk_J0_335 mv_J0_coder_7d493 rm_J0_length_8abf5_J0_coder_7d493 rfl rfl hw rfl (Nat.le_of_ble_eq_true rfl) (ct_J0_coder_7d493 hw (⟨_, rfl, ?_⟩))
  refine r_ishr dJ0_length_8abf5_9 ?_
  exact r_iret dJ0_length_8abf5_10 rfl h
end W_jdk1
end
section
theorem dJ3_checkIndex_8e157_0 : decode cJ3_checkIndex_8e157 0 = .ok (.iload_n 0, 1) := by decide +kernel
theorem dJ3_checkIndex_8e157_1 : decode cJ3_checkIndex_8e157 1 = .ok (.ifCond .lt 8, 3) := by decide +kernel
theorem dJ3_checkIndex_8e157_4 : decode cJ3_checkIndex_8e157 4 = .ok (.iload_n 0, 1) := by decide +kernel
theorem dJ3_checkIndex_8e157_5 : decode cJ3_checkIndex_8e157 5 = .ok (.iload_n 1, 1) := by decide +kernel
theorem dJ3_checkIndex_8e157_6 : decode cJ3_checkIndex_8e157 6 = .ok (.if_icmp .lt 10, 3) := by decide +kernel
theorem dJ3_checkIndex_8e157_9 : decode cJ3_checkIndex_8e157 9 = .ok (.aload_n 2, 1) := by decide +kernel
theorem dJ3_checkIndex_8e157_10 : decode cJ3_checkIndex_8e157 10 = .ok (.iload_n 0, 1) := by decide +kernel
theorem dJ3_checkIndex_8e157_11 : decode cJ3_checkIndex_8e157 11 = .ok (.iload_n 1, 1) := by decide +kernel
theorem dJ3_checkIndex_8e157_12 : decode cJ3_checkIndex_8e157 12 = .ok (.invokestatic 95, 3) := by decide +kernel
theorem dJ3_checkIndex_8e157_15 : decode cJ3_checkIndex_8e157 15 = .ok (.athrow, 1) := by decide +kernel
theorem dJ3_checkIndex_8e157_16 : decode cJ3_checkIndex_8e157 16 = .ok (.iload_n 0, 1) := by decide +kernel
theorem dJ3_checkIndex_8e157_17 : decode cJ3_checkIndex_8e157 17 = .ok (.ireturn, 1) := by decide +kernel
abbrev mJ3_checkIndex_8e157 : MI := (yJ3_checkIndex_8e157, cJ3_checkIndex_8e157, 3, some .int, 1, 21, [])
theorem dJ0_checkIndex_df160_0 : decode cJ0_checkIndex_df160 0 = .ok (.iload_n 0, 1) := by decide +kernel
theorem dJ0_checkIndex_df160_1 : decode cJ0_checkIndex_df160 1 = .ok (.iload_n 1, 1) := by decide +kernel
theorem dJ0_checkIndex_df160_2 : decode cJ0_checkIndex_df160 2 = .ok (.getstatic 1053, 3) := by decide +kernel
theorem dJ0_checkIndex_df160_5 : decode cJ0_checkIndex_df160 5 = .ok (.invokestatic 1059, 3) := by decide +kernel
theorem dJ0_checkIndex_df160_8 : decode cJ0_checkIndex_df160 8 = .ok (.pop, 1) := by decide +kernel
theorem dJ0_checkIndex_df160_9 : decode cJ0_checkIndex_df160 9 = .ok (.return_, 1) := by decide +kernel
abbrev mJ0_checkIndex_df160 : MI := (yJ0_checkIndex_df160, cJ0_checkIndex_df160, 2, none, 2, 43, [])
theorem dJ1_charAt_3b067_0 : decode cJ1_charAt_3b067 0 = .ok (.iload_n 1, 1) := by decide +kernel
theorem dJ1_charAt_3b067_1 : decode cJ1_charAt_3b067 1 = .ok (.aload_n 0, 1) := by decide +kernel
theorem dJ1_charAt_3b067_2 : decode cJ1_charAt_3b067 2 = .ok (.arraylength, 1) := by decide +kernel
theorem dJ1_charAt_3b067_3 : decode cJ1_charAt_3b067 3 = .ok (.invokestatic 9, 3) := by decide +kernel
theorem dJ1_charAt_3b067_6 : decode cJ1_charAt_3b067 6 = .ok (.aload_n 0, 1) := by decide +kernel
theorem dJ1_charAt_3b067_7 : decode cJ1_charAt_3b067 7 = .ok (.iload_n 1, 1) := by decide +kernel
theorem dJ1_charAt_3b067_8 : decode cJ1_charAt_3b067 8 = .ok (.baload, 1) := by decide +kernel
theorem dJ1_charAt_3b067_9 : decode cJ1_charAt_3b067 9 = .ok (.sipush 255, 3) := by decide +kernel
theorem dJ1_charAt_3b067_12 : decode cJ1_charAt_3b067 12 = .ok (.iand, 1) := by decide +kernel
theorem dJ1_charAt_3b067_13 : decode cJ1_charAt_3b067 13 = .ok (.i2c, 1) := by decide +kernel
theorem dJ1_charAt_3b067_14 : decode cJ1_charAt_3b067 14 = .ok (.ireturn, 1) := by decide +kernel
abbrev mJ1_charAt_3b067 : MI := (yJ1_charAt_3b067, cJ1_charAt_3b067, 2, some .char, 3, 64, [])
theorem dJ0_charAt_5068e_0 : decode cJ0_charAt_5068e 0 = .ok (.aload_n 0, 1) := by decide +kernel
theorem dJ0_charAt_5068e_1 : decode cJ0_charAt_5068e 1 = .ok (.invokevirtual 492, 3) := by decide +kernel
theorem dJ0_charAt_5068e_4 : decode cJ0_charAt_5068e 4 = .ok (.ifCond .eq 12, 3) := by decide +kernel
theorem dJ0_charAt_5068e_7 : decode cJ0_charAt_5068e 7 = .ok (.aload_n 0, 1) := by decide +kernel
theorem dJ0_charAt_5068e_8 : decode cJ0_charAt_5068e 8 = .ok (.getfield 9, 3) := by decide +kernel
theorem dJ0_charAt_5068e_11 : decode cJ0_charAt_5068e 11 = .ok (.iload_n 1, 1) := by decide +kernel
theorem dJ0_charAt_5068e_12 : decode cJ0_charAt_5068e 12 = .ok (.invokestatic 495, 3) := by decide +kernel
theorem dJ0_charAt_5068e_15 : decode cJ0_charAt_5068e 15 = .ok (.ireturn, 1) := by decide +kernel
theorem dJ0_charAt_5068e_16 : decode cJ0_charAt_5068e 16 = .ok (.aload_n 0, 1) := by decide +kernel
theorem dJ0_charAt_5068e_17 : decode cJ0_charAt_5068e 17 = .ok (.getfield 9, 3) := by decide +kernel
theorem dJ0_charAt_5068e_20 : decode cJ0_charAt_5068e 20 = .ok (.iload_n 1, 1) := by decide +kernel
theorem dJ0_charAt_5068e_21 : decode cJ0_charAt_5068e 21 = .ok (.invokestatic 498, 3) := by decide +kernel
theorem dJ0_charAt_5068e_24 : decode cJ0_charAt_5068e 24 = .ok (.ireturn, 1) := by decide +kernel
abbrev mJ0_charAt_5068e : MI := (yJ0_charAt_5068e, cJ0_charAt_5068e, 2, some .char, 4, 85, [])
theorem fl_J0_1053 : Cond.fieldLink RJ0 1053 "jdk/internal/util/Preconditions" "SIOOBE_FORMATTER" "Ljava/util/function/BiFunction;" ∈ lw_w := lw_in (i := 546) (by decide +kernel) (by decide +kernel)
theorem mk_J0_1059 : Mk RJ0 1059 mJ3_checkIndex_8e157 3 := ⟨lw_in (i := 548) (by decide +kernel) (by decide +kernel), lw_in (i := 20) (by decide +kernel) (by decide +kernel), lw_in (i := 550) (by decide +kernel) (by decide +kernel), by decide +kernel⟩
theorem ms_J3_checkIndex_8e157 : Cond.static mJ3_checkIndex_8e157.y ∈ lw_w := lw_in (i := 549) (by decide +kernel) (by decide +kernel)
theorem mk_J1_9 : Mk RJ1 9 mJ0_checkIndex_df160 2 := ⟨lw_in (i := 543) (by decide +kernel) (by decide +kernel), lw_in (i := 18) (by decide +kernel) (by decide +kernel), lw_in (i := 545) (by decide +kernel) (by decide +kernel), by decide +kernel⟩
theorem ms_J0_checkIndex_df160 : Cond.static mJ0_checkIndex_df160.y ∈ lw_w := lw_in (i := 544) (by decide +kernel) (by decide +kernel)
theorem mk_J0_495 : Mk RJ0 495 mJ1_charAt_3b067 2 := ⟨lw_in (i := 540) (by decide +kernel) (by decide +kernel), lw_in (i := 19) (by decide +kernel) (by decide +kernel), lw_in (i := 542) (by decide +kernel) (by decide +kernel), by decide +kernel⟩
theorem ms_J1_charAt_3b067 : Cond.static mJ1_charAt_3b067.y ∈ lw_w := lw_in (i := 541) (by decide +kernel) (by decide +kernel)
theorem mk_J0_492 : Mk RJ0 492 mJ0_isLatin1_aae02 0 := ⟨lw_in (i := 536) (by decide +kernel) (by decide +kernel), lw_in (i := 18) (by decide +kernel) (by decide +kernel), lw_in (i := 539) (by decide +kernel) (by decide +kernel), by decide +kernel⟩
theorem mv_J0_isLatin1_aae02 : MkV mJ0_isLatin1_aae02 := ⟨lw_in (i := 537) (by decide +kernel) (by decide +kernel), lw_in (i := 538) (by decide +kernel) (by decide +kernel)⟩
theorem rm_J0_checkIndex_df160_J3_checkIndex_8e157 : Rm mJ0_checkIndex_df160 mJ3_checkIndex_8e157 := ⟨by decide, by decide⟩
theorem rm_J1_charAt_3b067_J0_checkIndex_df160 : Rm mJ1_charAt_3b067 mJ0_checkIndex_df160 := ⟨by decide, by decide⟩
theorem rm_J0_charAt_5068e_J1_charAt_3b067 : Rm mJ0_charAt_5068e mJ1_charAt_3b067 := ⟨by decide, by decide⟩
theorem rm_J0_charAt_5068e_J0_isLatin1_aae02 : Rm mJ0_charAt_5068e mJ0_isLatin1_aae02 := ⟨by decide, by decide⟩
section W_jdk2
variable {l : Launch} {D : va_G} {ad : Nat → Nat} {kA : Nat → ClassId} {M : Mem} {Q : Outcome → Mem → Prop}
theorem ct_J3_checkIndex_8e157 {x0 x1 : Int32} {v : Value} (hv : v = .null ∨ ∃ t, v = .ref t) (h0 : ¬ x0 < 0) (h1 : x0 < x1) (h : Q (.returned (some (.int x0))) M) : Cal l D ad kA mJ3_checkIndex_8e157 [.int x0, .int x1, v] M Q := by
  have go : Fw l D ad kA mJ3_checkIndex_8e157 0 [some (.int x0), some (.int x1), none] [] M Q := by
    refine r_iload_n dJ3_checkIndex_8e157_0 rfl ?_
    refine r_if_lt (tgt := 9) dJ3_checkIndex_8e157_1 (by decide) (fun c => absurd c h0) (fun _ => ?_)
    refine r_iload_n dJ3_checkIndex_8e157_4 rfl ?_
    refine r_iload_n dJ3_checkIndex_8e157_5 rfl ?_
    refine r_icmp_lt (tgt := 16) dJ3_checkIndex_8e157_6 (by decide) (fun _ => ?_) (fun c => absurd h1 c)
    refine r_iload_n dJ3_checkIndex_8e157_16 rfl ?_
    exact r_iret dJ3_checkIndex_8e157_17 rfl h
  rcases hv with rfl | ⟨t, rfl⟩
  · exact Cal.of (lo := [some (.int x0), some (.int x1), some .null]) (by decide) rfl rfl (Nat.le_of_ble_eq_true rfl) (q_weak (lo' := [some (.int x0), some (.int x1), none]) ⟨rfl, rfl, trivial⟩ go)
  · exact Cal.of (lo := [some (.int x0), some (.int x1), some (.ref t)]) (by decide) rfl rfl (Nat.le_of_ble_eq_true rfl) (q_weak (lo' := [some (.int x0), some (.int x1), none]) ⟨rfl, rfl, trivial⟩ go)
theorem ct_J0_checkIndex_df160 {x0 x1 : Int32} (h0 : ¬ x0 < 0) (h1 : x0 < x1) (h : Q (.returned none) M) : Cal l D ad kA mJ0_checkIndex_df160 [.int x0, .int x1] M Q := by
  refine Cal.of (lo := [some (.int x0), some (.int x1)]) (by decide) rfl rfl (Nat.le_of_ble_eq_true rfl) ?_
  refine r_iload_n dJ0_checkIndex_df160_0 rfl ?_
  refine r_iload_n dJ0_checkIndex_df160_1 rfl ?_
  refine r_getfmt dJ0_checkIndex_df160_2 fl_J0_1053 (fun v hv => ?_)
  refine r_callS (As := [.int x0, .int x1, v]) (rest := []) dJ0_checkIndex_df160_5 mk_J0_1059 ms_J3_checkIndex_8e157 rm_J0_checkIndex_df160_J3_checkIndex_8e157 rfl rfl (Nat.le_of_ble_eq_true rfl) (ct_J3_checkIndex_8e157 hv h0 h1 ⟨_, rfl, ?_⟩)
  refine r_pop dJ0_checkIndex_df160_8 rfl ?_
  exact r_vret dJ0_checkIndex_df160_9 rfl h
def v_J1_charAt_3b067 (w : Nat) (x1 : Int32) : Int32 := (((scB.getD w []).getD x1.toNatClampNeg 0 &&& 255).toUInt32 % 65536).toInt32
theorem ct_J1_charAt_3b067 {w : Nat} {x1 : Int32} (hw : w < 15) (g : vp_in x1 (scB.getD w []).length) (h : Q (.returned (some (.int (v_J1_charAt_3b067 w x1)))) M) : Cal l D ad kA mJ1_charAt_3b067 [.ref (ad (230 + w)), .int x1] M Q := by
  refine Cal.of (lo := [some (.ref (ad (230 + w))), some (.int x1)]) (by decide) rfl rfl (Nat.le_of_ble_eq_true rfl) ?_
  have hl : (scB.getD w []).length < 2 ^ 31 := by
    have : ∀ w, w < 15 → (scB.getD w []).length < 2 ^ 31 := by decide
    exact this w hw
  obtain ⟨j, hj, rfl⟩ := vp_in_of g hl
  refine r_iload_n dJ1_charAt_3b067_0 rfl ?_
  refine r_aload_n dJ1_charAt_3b067_1 rfl ?_
  refine r_sclen (j := w) dJ1_charAt_3b067_2 hw rfl ?_
  refine r_callS (As := [.int (nI j), .int (Int32.ofNat (scB.getD w []).length)]) (rest := []) dJ1_charAt_3b067_3 mk_J1_9 ms_J0_checkIndex_df160 rm_J1_charAt_3b067_J0_checkIndex_df160 rfl rfl (Nat.le_of_ble_eq_true rfl) (ct_J0_checkIndex_df160 (nI_pos (by omega)) (nI_lt hj hl) ⟨_, rfl, ?_⟩)
  refine r_aload_n dJ1_charAt_3b067_6 rfl ?_
  refine r_iload_n dJ1_charAt_3b067_7 rfl ?_
  refine r_scald (j := w) dJ1_charAt_3b067_8 hw g ?_
  refine r_sipush (v := 255) dJ1_charAt_3b067_9 (by decide) ?_
  refine r_iand dJ1_charAt_3b067_12 ?_
  refine r_i2c dJ1_charAt_3b067_13 ?_
  exact r_zret dJ1_charAt_3b067_14 rfl (pk_nc _) h
def v_J0_charAt_5068e (w : Nat) (x1 : Int32) : Int32 := v_J1_charAt_3b067 w x1
def g_J0_charAt_5068e (M : Mem) (w : Nat) (x1 : Int32) : Prop := vp_in x1 (scB.getD w []).length
theorem ct_J0_charAt_5068e {w : Nat} {x1 : Int32} (hw : w < 15) (g : g_J0_charAt_5068e M w x1) (h : Q (.returned (some (.int (v_J0_charAt_5068e w x1)))) M) : Cal l D ad kA mJ0_charAt_5068e [.ref (ad (210 + w)), .int x1] M Q := by
  refine Cal.of (lo := [some (.ref (ad (210 + w))), some (.int x1)]) (by decide) rfl rfl (Nat.le_of_ble_eq_true rfl) ?_
  refine r_aload_n dJ0_charAt_5068e_0 rfl ?_
  refine r_callT (i := w) (As := []) (rest := []) dJ0_charAt_5068e_1 mk_J0_492 mv_J0_isLatin1_aae02 rm_J0_charAt_5068e_J0_isLatin1_aae02 rfl rfl hw rfl (Nat.le_of_ble_eq_true rfl) (ct_J0_isLatin1_aae02 hw ⟨_, rfl, ?_⟩)
  refine r_if_eq (x := 1) (tgt := 16) dJ0_charAt_5068e_4 (by decide) (fun q => absurd q (by decide)) (fun _ => ?_)
  refine r_aload_n dJ0_charAt_5068e_7 rfl ?_
  refine r_scValue (i := w) dJ0_charAt_5068e_8 hw fl_J0_9 ?_
  refine r_iload_n dJ0_charAt_5068e_11 rfl ?_
  refine r_callS (As := [.ref (ad (230 + w)), .int x1]) (rest := []) dJ0_charAt_5068e_12 mk_J0_495 ms_J1_charAt_3b067 rm_J0_charAt_5068e_J1_charAt_3b067 rfl rfl (Nat.le_of_ble_eq_true rfl) (ct_J1_charAt_3b067 hw g ⟨_, rfl, ?_⟩)
  exact r_zret dJ0_charAt_5068e_15 rfl (pk_nc _) h
end W_jdk2
end
section
/-! Strokes: decode rows, links, walks from cut to cut (printed by wip/gen) -/
theorem dX9_hasNumber_0 : decode cX9_hasNumber 0 = .ok (.iload_n 1, 1) := by decide +kernel
theorem dX9_hasNumber_1 : decode cX9_hasNumber 1 = .ok (.ifCond .lt 15, 3) := by decide +kernel
theorem dX9_hasNumber_4 : decode cX9_hasNumber 4 = .ok (.iload_n 1, 1) := by decide +kernel
theorem dX9_hasNumber_5 : decode cX9_hasNumber 5 = .ok (.aload_n 0, 1) := by decide +kernel
theorem dX9_hasNumber_6 : decode cX9_hasNumber 6 = .ok (.getfield 24, 3) := by decide +kernel
theorem dX9_hasNumber_9 : decode cX9_hasNumber 9 = .ok (.if_icmp .ge 7, 3) := by decide +kernel
theorem dX9_hasNumber_12 : decode cX9_hasNumber 12 = .ok (.iconst 1, 1) := by decide +kernel
theorem dX9_hasNumber_13 : decode cX9_hasNumber 13 = .ok (.goto 4, 3) := by decide +kernel
theorem dX9_hasNumber_16 : decode cX9_hasNumber 16 = .ok (.iconst 0, 1) := by decide +kernel
theorem dX9_hasNumber_17 : decode cX9_hasNumber 17 = .ok (.ireturn, 1) := by decide +kernel
theorem dX9_isOn_0 : decode cX9_isOn 0 = .ok (.lload_n 1, 1) := by decide +kernel
theorem dX9_isOn_1 : decode cX9_isOn 1 = .ok (.aload_n 0, 1) := by decide +kernel
theorem dX9_isOn_2 : decode cX9_isOn 2 = .ok (.getfield 15, 3) := by decide +kernel
theorem dX9_isOn_5 : decode cX9_isOn 5 = .ok (.iload_n 3, 1) := by decide +kernel
theorem dX9_isOn_6 : decode cX9_isOn 6 = .ok (.iaload, 1) := by decide +kernel
theorem dX9_isOn_7 : decode cX9_isOn 7 = .ok (.lushr, 1) := by decide +kernel
theorem dX9_isOn_8 : decode cX9_isOn 8 = .ok (.lconst 1, 1) := by decide +kernel
theorem dX9_isOn_9 : decode cX9_isOn 9 = .ok (.land, 1) := by decide +kernel
theorem dX9_isOn_10 : decode cX9_isOn 10 = .ok (.lconst 0, 1) := by decide +kernel
theorem dX9_isOn_11 : decode cX9_isOn 11 = .ok (.lcmp, 1) := by decide +kernel
theorem dX9_isOn_12 : decode cX9_isOn 12 = .ok (.ifCond .eq 7, 3) := by decide +kernel
theorem dX9_isOn_15 : decode cX9_isOn 15 = .ok (.iconst 1, 1) := by decide +kernel
theorem dX9_isOn_16 : decode cX9_isOn 16 = .ok (.goto 4, 3) := by decide +kernel
theorem dX9_isOn_19 : decode cX9_isOn 19 = .ok (.iconst 0, 1) := by decide +kernel
theorem dX9_isOn_20 : decode cX9_isOn 20 = .ok (.ireturn, 1) := by decide +kernel
theorem dX9_hasAt_0 : decode cX9_hasAt 0 = .ok (.iconst 0, 1) := by decide +kernel
theorem dX9_hasAt_1 : decode cX9_hasAt 1 = .ok (.istore_n 3, 1) := by decide +kernel
theorem dX9_hasAt_2 : decode cX9_hasAt 2 = .ok (.aload_n 0, 1) := by decide +kernel
theorem dX9_hasAt_3 : decode cX9_hasAt 3 = .ok (.getfield 24, 3) := by decide +kernel
theorem dX9_hasAt_6 : decode cX9_hasAt 6 = .ok (.iconst 1, 1) := by decide +kernel
theorem dX9_hasAt_7 : decode cX9_hasAt 7 = .ok (.isub, 1) := by decide +kernel
theorem dX9_hasAt_8 : decode cX9_hasAt 8 = .ok (.istore 4, 2) := by decide +kernel
theorem dX9_hasAt_10 : decode cX9_hasAt 10 = .ok (.iload 4, 2) := by decide +kernel
theorem dX9_hasAt_12 : decode cX9_hasAt 12 = .ok (.ifCond .lt 41, 3) := by decide +kernel
theorem dX9_hasAt_15 : decode cX9_hasAt 15 = .ok (.aload_n 0, 1) := by decide +kernel
theorem dX9_hasAt_16 : decode cX9_hasAt 16 = .ok (.getfield 9, 3) := by decide +kernel
theorem dX9_hasAt_19 : decode cX9_hasAt 19 = .ok (.iload 4, 2) := by decide +kernel
theorem dX9_hasAt_21 : decode cX9_hasAt 21 = .ok (.iaload, 1) := by decide +kernel
theorem dX9_hasAt_22 : decode cX9_hasAt 22 = .ok (.iload_n 1, 1) := by decide +kernel
theorem dX9_hasAt_23 : decode cX9_hasAt 23 = .ok (.if_icmp .ne 30, 3) := by decide +kernel
theorem dX9_hasAt_26 : decode cX9_hasAt 26 = .ok (.iload_n 3, 1) := by decide +kernel
theorem dX9_hasAt_27 : decode cX9_hasAt 27 = .ok (.ifCond .ne 26, 3) := by decide +kernel
theorem dX9_hasAt_30 : decode cX9_hasAt 30 = .ok (.aload_n 0, 1) := by decide +kernel
theorem dX9_hasAt_31 : decode cX9_hasAt 31 = .ok (.getfield 15, 3) := by decide +kernel
theorem dX9_hasAt_34 : decode cX9_hasAt 34 = .ok (.iload 4, 2) := by decide +kernel
theorem dX9_hasAt_36 : decode cX9_hasAt 36 = .ok (.iaload, 1) := by decide +kernel
theorem dX9_hasAt_37 : decode cX9_hasAt 37 = .ok (.iload_n 2, 1) := by decide +kernel
theorem dX9_hasAt_38 : decode cX9_hasAt 38 = .ok (.if_icmp .ne 7, 3) := by decide +kernel
theorem dX9_hasAt_41 : decode cX9_hasAt 41 = .ok (.iconst 1, 1) := by decide +kernel
theorem dX9_hasAt_42 : decode cX9_hasAt 42 = .ok (.goto 4, 3) := by decide +kernel
theorem dX9_hasAt_45 : decode cX9_hasAt 45 = .ok (.iconst 0, 1) := by decide +kernel
theorem dX9_hasAt_46 : decode cX9_hasAt 46 = .ok (.istore_n 3, 1) := by decide +kernel
theorem dX9_hasAt_47 : decode cX9_hasAt 47 = .ok (.iinc 4 (-1), 3) := by decide +kernel
theorem dX9_hasAt_50 : decode cX9_hasAt 50 = .ok (.goto (-40), 3) := by decide +kernel
theorem dX9_hasAt_53 : decode cX9_hasAt 53 = .ok (.iload_n 3, 1) := by decide +kernel
theorem dX9_hasAt_54 : decode cX9_hasAt 54 = .ok (.ireturn, 1) := by decide +kernel
theorem dX9_insert_0 : decode cX9_insert 0 = .ok (.aload_n 0, 1) := by decide +kernel
theorem dX9_insert_1 : decode cX9_insert 1 = .ok (.getfield 24, 3) := by decide +kernel
theorem dX9_insert_4 : decode cX9_insert 4 = .ok (.istore_n 3, 1) := by decide +kernel
theorem dX9_insert_5 : decode cX9_insert 5 = .ok (.iload_n 3, 1) := by decide +kernel
theorem dX9_insert_6 : decode cX9_insert 6 = .ok (.ifCond .le 89, 3) := by decide +kernel
theorem dX9_insert_9 : decode cX9_insert 9 = .ok (.aload_n 0, 1) := by decide +kernel
theorem dX9_insert_10 : decode cX9_insert 10 = .ok (.getfield 9, 3) := by decide +kernel
theorem dX9_insert_13 : decode cX9_insert 13 = .ok (.iload_n 3, 1) := by decide +kernel
theorem dX9_insert_14 : decode cX9_insert 14 = .ok (.iconst 1, 1) := by decide +kernel
theorem dX9_insert_15 : decode cX9_insert 15 = .ok (.isub, 1) := by decide +kernel
theorem dX9_insert_16 : decode cX9_insert 16 = .ok (.iaload, 1) := by decide +kernel
theorem dX9_insert_17 : decode cX9_insert 17 = .ok (.iload_n 1, 1) := by decide +kernel
theorem dX9_insert_18 : decode cX9_insert 18 = .ok (.if_icmp .ne 77, 3) := by decide +kernel
theorem dX9_insert_21 : decode cX9_insert 21 = .ok (.aload_n 0, 1) := by decide +kernel
theorem dX9_insert_22 : decode cX9_insert 22 = .ok (.getfield 15, 3) := by decide +kernel
theorem dX9_insert_25 : decode cX9_insert 25 = .ok (.iload_n 3, 1) := by decide +kernel
theorem dX9_insert_26 : decode cX9_insert 26 = .ok (.iconst 1, 1) := by decide +kernel
theorem dX9_insert_27 : decode cX9_insert 27 = .ok (.isub, 1) := by decide +kernel
theorem dX9_insert_28 : decode cX9_insert 28 = .ok (.iaload, 1) := by decide +kernel
theorem dX9_insert_29 : decode cX9_insert 29 = .ok (.iload_n 2, 1) := by decide +kernel
theorem dX9_insert_30 : decode cX9_insert 30 = .ok (.if_icmp .le 65, 3) := by decide +kernel
theorem dX9_insert_33 : decode cX9_insert 33 = .ok (.aload_n 0, 1) := by decide +kernel
theorem dX9_insert_34 : decode cX9_insert 34 = .ok (.getfield 15, 3) := by decide +kernel
theorem dX9_insert_37 : decode cX9_insert 37 = .ok (.iload_n 3, 1) := by decide +kernel
theorem dX9_insert_38 : decode cX9_insert 38 = .ok (.aload_n 0, 1) := by decide +kernel
theorem dX9_insert_39 : decode cX9_insert 39 = .ok (.getfield 15, 3) := by decide +kernel
theorem dX9_insert_42 : decode cX9_insert 42 = .ok (.iload_n 3, 1) := by decide +kernel
theorem dX9_insert_43 : decode cX9_insert 43 = .ok (.iconst 1, 1) := by decide +kernel
theorem dX9_insert_44 : decode cX9_insert 44 = .ok (.isub, 1) := by decide +kernel
theorem dX9_insert_45 : decode cX9_insert 45 = .ok (.iaload, 1) := by decide +kernel
theorem dX9_insert_46 : decode cX9_insert 46 = .ok (.iastore, 1) := by decide +kernel
theorem dX9_insert_47 : decode cX9_insert 47 = .ok (.aload_n 0, 1) := by decide +kernel
theorem dX9_insert_48 : decode cX9_insert 48 = .ok (.getfield 9, 3) := by decide +kernel
theorem dX9_insert_51 : decode cX9_insert 51 = .ok (.iload_n 3, 1) := by decide +kernel
theorem dX9_insert_52 : decode cX9_insert 52 = .ok (.aload_n 0, 1) := by decide +kernel
theorem dX9_insert_53 : decode cX9_insert 53 = .ok (.getfield 9, 3) := by decide +kernel
theorem dX9_insert_56 : decode cX9_insert 56 = .ok (.iload_n 3, 1) := by decide +kernel
theorem dX9_insert_57 : decode cX9_insert 57 = .ok (.iconst 1, 1) := by decide +kernel
theorem dX9_insert_58 : decode cX9_insert 58 = .ok (.isub, 1) := by decide +kernel
theorem dX9_insert_59 : decode cX9_insert 59 = .ok (.iaload, 1) := by decide +kernel
theorem dX9_insert_60 : decode cX9_insert 60 = .ok (.iastore, 1) := by decide +kernel
theorem dX9_insert_61 : decode cX9_insert 61 = .ok (.aload_n 0, 1) := by decide +kernel
theorem dX9_insert_62 : decode cX9_insert 62 = .ok (.getfield 18, 3) := by decide +kernel
theorem dX9_insert_65 : decode cX9_insert 65 = .ok (.iload_n 3, 1) := by decide +kernel
theorem dX9_insert_66 : decode cX9_insert 66 = .ok (.aload_n 0, 1) := by decide +kernel
theorem dX9_insert_67 : decode cX9_insert 67 = .ok (.getfield 18, 3) := by decide +kernel
theorem dX9_insert_70 : decode cX9_insert 70 = .ok (.iload_n 3, 1) := by decide +kernel
theorem dX9_insert_71 : decode cX9_insert 71 = .ok (.iconst 1, 1) := by decide +kernel
theorem dX9_insert_72 : decode cX9_insert 72 = .ok (.isub, 1) := by decide +kernel
theorem dX9_insert_73 : decode cX9_insert 73 = .ok (.iaload, 1) := by decide +kernel
theorem dX9_insert_74 : decode cX9_insert 74 = .ok (.iastore, 1) := by decide +kernel
theorem dX9_insert_75 : decode cX9_insert 75 = .ok (.aload_n 0, 1) := by decide +kernel
theorem dX9_insert_76 : decode cX9_insert 76 = .ok (.getfield 21, 3) := by decide +kernel
theorem dX9_insert_79 : decode cX9_insert 79 = .ok (.iload_n 3, 1) := by decide +kernel
theorem dX9_insert_80 : decode cX9_insert 80 = .ok (.aload_n 0, 1) := by decide +kernel
theorem dX9_insert_81 : decode cX9_insert 81 = .ok (.getfield 21, 3) := by decide +kernel
theorem dX9_insert_84 : decode cX9_insert 84 = .ok (.iload_n 3, 1) := by decide +kernel
theorem dX9_insert_85 : decode cX9_insert 85 = .ok (.iconst 1, 1) := by decide +kernel
theorem dX9_insert_86 : decode cX9_insert 86 = .ok (.isub, 1) := by decide +kernel
theorem dX9_insert_87 : decode cX9_insert 87 = .ok (.iaload, 1) := by decide +kernel
theorem dX9_insert_88 : decode cX9_insert 88 = .ok (.iastore, 1) := by decide +kernel
theorem dX9_insert_89 : decode cX9_insert 89 = .ok (.iinc 3 (-1), 3) := by decide +kernel
theorem dX9_insert_92 : decode cX9_insert 92 = .ok (.goto (-87), 3) := by decide +kernel
theorem dX9_insert_95 : decode cX9_insert 95 = .ok (.aload_n 0, 1) := by decide +kernel
theorem dX9_insert_96 : decode cX9_insert 96 = .ok (.getfield 9, 3) := by decide +kernel
theorem dX9_insert_99 : decode cX9_insert 99 = .ok (.iload_n 3, 1) := by decide +kernel
theorem dX9_insert_100 : decode cX9_insert 100 = .ok (.iload_n 1, 1) := by decide +kernel
theorem dX9_insert_101 : decode cX9_insert 101 = .ok (.iastore, 1) := by decide +kernel
theorem dX9_insert_102 : decode cX9_insert 102 = .ok (.aload_n 0, 1) := by decide +kernel
theorem dX9_insert_103 : decode cX9_insert 103 = .ok (.getfield 15, 3) := by decide +kernel
theorem dX9_insert_106 : decode cX9_insert 106 = .ok (.iload_n 3, 1) := by decide +kernel
theorem dX9_insert_107 : decode cX9_insert 107 = .ok (.iload_n 2, 1) := by decide +kernel
theorem dX9_insert_108 : decode cX9_insert 108 = .ok (.iastore, 1) := by decide +kernel
theorem dX9_insert_109 : decode cX9_insert 109 = .ok (.aload_n 0, 1) := by decide +kernel
theorem dX9_insert_110 : decode cX9_insert 110 = .ok (.getfield 18, 3) := by decide +kernel
theorem dX9_insert_113 : decode cX9_insert 113 = .ok (.iload_n 3, 1) := by decide +kernel
theorem dX9_insert_114 : decode cX9_insert 114 = .ok (.iconst 1, 1) := by decide +kernel
theorem dX9_insert_115 : decode cX9_insert 115 = .ok (.iastore, 1) := by decide +kernel
theorem dX9_insert_116 : decode cX9_insert 116 = .ok (.aload_n 0, 1) := by decide +kernel
theorem dX9_insert_117 : decode cX9_insert 117 = .ok (.getfield 21, 3) := by decide +kernel
theorem dX9_insert_120 : decode cX9_insert 120 = .ok (.iload_n 3, 1) := by decide +kernel
theorem dX9_insert_121 : decode cX9_insert 121 = .ok (.iconst 0, 1) := by decide +kernel
theorem dX9_insert_122 : decode cX9_insert 122 = .ok (.iastore, 1) := by decide +kernel
theorem dX9_insert_123 : decode cX9_insert 123 = .ok (.aload_n 0, 1) := by decide +kernel
theorem dX9_insert_124 : decode cX9_insert 124 = .ok (.dup, 1) := by decide +kernel
theorem dX9_insert_125 : decode cX9_insert 125 = .ok (.getfield 24, 3) := by decide +kernel
theorem dX9_insert_128 : decode cX9_insert 128 = .ok (.iconst 1, 1) := by decide +kernel
theorem dX9_insert_129 : decode cX9_insert 129 = .ok (.iadd, 1) := by decide +kernel
theorem dX9_insert_130 : decode cX9_insert 130 = .ok (.putfield 24, 3) := by decide +kernel
theorem dX9_insert_133 : decode cX9_insert 133 = .ok (.iload_n 3, 1) := by decide +kernel
theorem dX9_insert_134 : decode cX9_insert 134 = .ok (.ireturn, 1) := by decide +kernel
theorem dX9_copyFrom_0 : decode cX9_copyFrom 0 = .ok (.aload_n 0, 1) := by decide +kernel
theorem dX9_copyFrom_1 : decode cX9_copyFrom 1 = .ok (.aload_n 1, 1) := by decide +kernel
theorem dX9_copyFrom_2 : decode cX9_copyFrom 2 = .ok (.getfield 24, 3) := by decide +kernel
theorem dX9_copyFrom_5 : decode cX9_copyFrom 5 = .ok (.putfield 24, 3) := by decide +kernel
theorem dX9_copyFrom_8 : decode cX9_copyFrom 8 = .ok (.aload_n 1, 1) := by decide +kernel
theorem dX9_copyFrom_9 : decode cX9_copyFrom 9 = .ok (.getfield 9, 3) := by decide +kernel
theorem dX9_copyFrom_12 : decode cX9_copyFrom 12 = .ok (.iconst 0, 1) := by decide +kernel
theorem dX9_copyFrom_13 : decode cX9_copyFrom 13 = .ok (.aload_n 0, 1) := by decide +kernel
theorem dX9_copyFrom_14 : decode cX9_copyFrom 14 = .ok (.getfield 9, 3) := by decide +kernel
theorem dX9_copyFrom_17 : decode cX9_copyFrom 17 = .ok (.iconst 0, 1) := by decide +kernel
theorem dX9_copyFrom_18 : decode cX9_copyFrom 18 = .ok (.aload_n 0, 1) := by decide +kernel
theorem dX9_copyFrom_19 : decode cX9_copyFrom 19 = .ok (.getfield 24, 3) := by decide +kernel
theorem dX9_copyFrom_22 : decode cX9_copyFrom 22 = .ok (.invokestatic 28, 3) := by decide +kernel
theorem dX9_copyFrom_25 : decode cX9_copyFrom 25 = .ok (.aload_n 1, 1) := by decide +kernel
theorem dX9_copyFrom_26 : decode cX9_copyFrom 26 = .ok (.getfield 15, 3) := by decide +kernel
theorem dX9_copyFrom_29 : decode cX9_copyFrom 29 = .ok (.iconst 0, 1) := by decide +kernel
theorem dX9_copyFrom_30 : decode cX9_copyFrom 30 = .ok (.aload_n 0, 1) := by decide +kernel
theorem dX9_copyFrom_31 : decode cX9_copyFrom 31 = .ok (.getfield 15, 3) := by decide +kernel
theorem dX9_copyFrom_34 : decode cX9_copyFrom 34 = .ok (.iconst 0, 1) := by decide +kernel
theorem dX9_copyFrom_35 : decode cX9_copyFrom 35 = .ok (.aload_n 0, 1) := by decide +kernel
theorem dX9_copyFrom_36 : decode cX9_copyFrom 36 = .ok (.getfield 24, 3) := by decide +kernel
theorem dX9_copyFrom_39 : decode cX9_copyFrom 39 = .ok (.invokestatic 28, 3) := by decide +kernel
theorem dX9_copyFrom_42 : decode cX9_copyFrom 42 = .ok (.aload_n 1, 1) := by decide +kernel
theorem dX9_copyFrom_43 : decode cX9_copyFrom 43 = .ok (.getfield 18, 3) := by decide +kernel
theorem dX9_copyFrom_46 : decode cX9_copyFrom 46 = .ok (.iconst 0, 1) := by decide +kernel
theorem dX9_copyFrom_47 : decode cX9_copyFrom 47 = .ok (.aload_n 0, 1) := by decide +kernel
theorem dX9_copyFrom_48 : decode cX9_copyFrom 48 = .ok (.getfield 18, 3) := by decide +kernel
theorem dX9_copyFrom_51 : decode cX9_copyFrom 51 = .ok (.iconst 0, 1) := by decide +kernel
theorem dX9_copyFrom_52 : decode cX9_copyFrom 52 = .ok (.aload_n 0, 1) := by decide +kernel
theorem dX9_copyFrom_53 : decode cX9_copyFrom 53 = .ok (.getfield 24, 3) := by decide +kernel
theorem dX9_copyFrom_56 : decode cX9_copyFrom 56 = .ok (.invokestatic 28, 3) := by decide +kernel
theorem dX9_copyFrom_59 : decode cX9_copyFrom 59 = .ok (.aload_n 1, 1) := by decide +kernel
theorem dX9_copyFrom_60 : decode cX9_copyFrom 60 = .ok (.getfield 21, 3) := by decide +kernel
theorem dX9_copyFrom_63 : decode cX9_copyFrom 63 = .ok (.iconst 0, 1) := by decide +kernel
theorem dX9_copyFrom_64 : decode cX9_copyFrom 64 = .ok (.aload_n 0, 1) := by decide +kernel
theorem dX9_copyFrom_65 : decode cX9_copyFrom 65 = .ok (.getfield 21, 3) := by decide +kernel
theorem dX9_copyFrom_68 : decode cX9_copyFrom 68 = .ok (.iconst 0, 1) := by decide +kernel
theorem dX9_copyFrom_69 : decode cX9_copyFrom 69 = .ok (.aload_n 0, 1) := by decide +kernel
theorem dX9_copyFrom_70 : decode cX9_copyFrom 70 = .ok (.getfield 24, 3) := by decide +kernel
theorem dX9_copyFrom_73 : decode cX9_copyFrom 73 = .ok (.invokestatic 28, 3) := by decide +kernel
theorem dX9_copyFrom_76 : decode cX9_copyFrom 76 = .ok (.return_, 1) := by decide +kernel
abbrev mX9_hasNumber : MI := (yX9_hasNumber, cX9_hasNumber, 2, some .boolean, 1, 21, [])
abbrev mX9_isOn : MI := (yX9_isOn, cX9_isOn, 4, some .boolean, 1, 21, [])
abbrev mX9_hasAt : MI := (yX9_hasAt, cX9_hasAt, 5, some .boolean, 1, 21, [])
abbrev mX9_insert : MI := (yX9_insert, cX9_insert, 4, some .int, 1, 21, [])
abbrev mX9_copyFrom : MI := (yX9_copyFrom, cX9_copyFrom, 2, none, 1, 80, [])
theorem kL_0 : Int64.ofNat ((0 : Fin 2) : Nat) = 0 := by decide
theorem kL_1 : Int64.ofNat ((1 : Fin 2) : Nat) = 1 := by decide
theorem fk_X9_9 : Fk RX9 9 9 0 := ⟨RX9, TX9, 5, tyX9, rfl, inX9, by decide, lw_in (i := 84) (by decide +kernel) (by decide +kernel), tyX9_ok, nmX9⟩
theorem fk_X9_15 : Fk RX9 15 9 1 := ⟨RX9, TX9, 5, tyX9, rfl, inX9, by decide, lw_in (i := 89) (by decide +kernel) (by decide +kernel), tyX9_ok, nmX9⟩
theorem fk_X9_18 : Fk RX9 18 9 2 := ⟨RX9, TX9, 5, tyX9, rfl, inX9, by decide, lw_in (i := 96) (by decide +kernel) (by decide +kernel), tyX9_ok, nmX9⟩
theorem fk_X9_21 : Fk RX9 21 9 3 := ⟨RX9, TX9, 5, tyX9, rfl, inX9, by decide, lw_in (i := 101) (by decide +kernel) (by decide +kernel), tyX9_ok, nmX9⟩
theorem fk_X9_24 : Fk RX9 24 9 4 := ⟨RX9, TX9, 5, tyX9, rfl, inX9, by decide, lw_in (i := 105) (by decide +kernel) (by decide +kernel), tyX9_ok, nmX9⟩
theorem fp_X9_4 : Fp 9 4 .int := ⟨RX9, TX9, 5, rfl, rfl, by decide +kernel⟩
theorem mk_X9_28 : Cond.methodLink RX9 28 arraycopyName ∈ lw_w := lw_in (i := 612) (by decide +kernel) (by decide +kernel)
section W_strokes
variable {l : Launch} {D : va_G} {ad : Nat → Nat} {kA : Nat → ClassId} {M : Mem} {Q : Outcome → Mem → Prop}
def v_X9_hasNumber (M : Mem) (x1 : Int32) : Int32 := if x1 < 0 then 0 else if (gI M 9 4) ≤ x1 then 0 else 1
theorem ct_X9_hasNumber {x1 : Int32}  (h : Q (.returned (some (.int (v_X9_hasNumber M x1)))) M) : Cal l D ad kA mX9_hasNumber [.ref (ad 9), .int x1] M Q := by
  refine Cal.of (lo := [some (.ref (ad 9)), some (.int x1)]) (by decide) rfl rfl (Nat.le_of_ble_eq_true rfl) ?_
  refine r_iload_n dX9_hasNumber_0 rfl ?_
  suffices hJ1 : Fw l D ad kA mX9_hasNumber 17 [none, none] [.int (if x1 < 0 then 0 else if (gI M 9 4) ≤ x1 then 0 else 1)] M Q by
    refine r_if_lt (tgt := 16) dX9_hasNumber_1 (by decide) (fun c1 => ?_) (fun c1 => ?_)
    · skip
      refine r_iconst (v := 0) dX9_hasNumber_16 kI_0 ?_
      exact q_weak (lo' := [none, none]) trivial (by have h9 := hJ1; simp only [if_pos c1] at h9; first | exact h9 | (simp only [if_pos c1]; exact h9))
    · skip
      refine r_iload_n dX9_hasNumber_4 rfl ?_
      refine r_aload_n dX9_hasNumber_5 rfl ?_
      refine r_getI dX9_hasNumber_6 fs_9_4 fk_X9_24 ?_
      refine r_icmp_ge (tgt := 16) dX9_hasNumber_9 (by decide) (fun c2 => ?_) (fun c2 => ?_)
      · skip
        refine r_iconst (v := 0) dX9_hasNumber_16 kI_0 ?_
        exact q_weak (lo' := [none, none]) trivial (by have h9 := hJ1; simp only [if_neg c1, if_pos c2] at h9; first | exact h9 | (simp only [if_neg c1, if_pos c2]; exact h9))
      · skip
        refine r_iconst (v := 1) dX9_hasNumber_12 kI_1 ?_
        refine r_goto (tgt := 17) dX9_hasNumber_13 (by decide) ?_
        exact q_weak (lo' := [none, none]) trivial (by have h9 := hJ1; simp only [if_neg c1, if_neg c2] at h9; first | exact h9 | (simp only [if_neg c1, if_neg c2]; exact h9))
  exact r_zret dX9_hasNumber_17 rfl (nar_z (ite01 (Or.inl rfl) (ite01 (Or.inl rfl) (Or.inr rfl)))).1 h
theorem z_X9_hasNumber {M : Mem} {x1 : Int32} : v_X9_hasNumber M x1 = 0 ∨ v_X9_hasNumber M x1 = 1 := (ite01 (Or.inl rfl) (ite01 (Or.inl rfl) (Or.inr rfl)))
def v_X9_isOn (M : Mem) (z1 : Int64) (x3 : Int32) : Int32 := if (lg_cmp ((lushr z1 (gI M 11 x3.toNatClampNeg)) &&& 1) 0) = 0 then 0 else 1
def g_X9_isOn (M : Mem) (z1 : Int64) (x3 : Int32) : Prop := (vp_in x3 160)
theorem ct_X9_isOn {z1 : Int64} {x3 : Int32}  (g : g_X9_isOn M z1 x3) (h : Q (.returned (some (.int (v_X9_isOn M z1 x3)))) M) : Cal l D ad kA mX9_isOn [.ref (ad 9), .long z1, .int x3] M Q := by
  refine Cal.of (lo := [some (.ref (ad 9)), some (.long z1), none, some (.int x3)]) (by decide) rfl rfl (Nat.le_of_ble_eq_true rfl) ?_
  have g1 := g
  refine r_lload_n dX9_isOn_0 rfl ?_
  refine r_aload_n dX9_isOn_1 rfl ?_
  refine r_getR dX9_isOn_2 fs_9_1 fk_X9_15 ?_
  refine r_iload_n dX9_isOn_5 rfl ?_
  refine r_iald dX9_isOn_6 as_11 g1 ?_
  refine q_lushr dX9_isOn_7 ?_
  refine r_lconst (v := 1) dX9_isOn_8 kL_1 ?_
  refine r_land dX9_isOn_9 ?_
  refine r_lconst (v := 0) dX9_isOn_10 kL_0 ?_
  refine r_lcmp dX9_isOn_11 ?_
  suffices hJ1 : Fw l D ad kA mX9_isOn 20 [none, none, none, none] [.int (if (lg_cmp ((lushr z1 (gI M 11 x3.toNatClampNeg)) &&& 1) 0) = 0 then 0 else 1)] M Q by
    refine r_if_eq (tgt := 19) dX9_isOn_12 (by decide) (fun c1 => ?_) (fun c1 => ?_)
    · skip
      refine r_iconst (v := 0) dX9_isOn_19 kI_0 ?_
      exact q_weak (lo' := [none, none, none, none]) trivial (by have h9 := hJ1; simp only [if_pos c1] at h9; first | exact h9 | (simp only [if_pos c1]; exact h9))
    · skip
      refine r_iconst (v := 1) dX9_isOn_15 kI_1 ?_
      refine r_goto (tgt := 20) dX9_isOn_16 (by decide) ?_
      exact q_weak (lo' := [none, none, none, none]) trivial (by have h9 := hJ1; simp only [if_neg c1] at h9; first | exact h9 | (simp only [if_neg c1]; exact h9))
  exact r_zret dX9_isOn_20 rfl (nar_z (ite01 (Or.inl rfl) (Or.inr rfl))).1 h
theorem z_X9_isOn {M : Mem} {z1 : Int64} {x3 : Int32} : v_X9_isOn M z1 x3 = 0 ∨ v_X9_isOn M z1 x3 = 1 := (ite01 (Or.inl rfl) (Or.inr rfl))
theorem t_X9_hasAt_0 {x1 : Int32} {x2 : Int32} 
    (K1 : Fw l D ad kA mX9_hasAt 10 [some (.ref (ad 4)), some (.int x1), some (.int x2), some (.int 0), some (.int ((gI M 4 4) - 1))] [] M Q) : Fw l D ad kA mX9_hasAt 0 [some (.ref (ad 4)), some (.int x1), some (.int x2), none, none] [] M Q := by
  refine r_iconst (v := 0) dX9_hasAt_0 kI_0 ?_
  refine q_istore_n (lo' := [some (.ref (ad 4)), some (.int x1), some (.int x2), some (.int 0), none]) dX9_hasAt_1 (by decide) rfl ?_
  refine r_aload_n dX9_hasAt_2 rfl ?_
  refine r_getI dX9_hasAt_3 fs_4_4 fk_X9_24 ?_
  refine r_iconst (v := 1) dX9_hasAt_6 kI_1 ?_
  refine r_isub dX9_hasAt_7 ?_
  refine q_istore (lo' := [some (.ref (ad 4)), some (.int x1), some (.int x2), some (.int 0), some (.int ((gI M 4 4) - 1))]) dX9_hasAt_8 (by decide) rfl ?_
  exact K1
theorem t_X9_hasAt_10 {x1 : Int32} {x2 : Int32} {x3 : Int32} {x4 : Int32} 
    (g1 : (x4 < 0) → x3 = 0 ∨ x3 = 1)
    (g2 : (¬ (x4 < 0)) → vp_in x4 160)
    (g3 : (¬ (x4 < 0)) → (¬ ((gI M 5 x4.toNatClampNeg) = x1)) → x3 = 0 ∨ x3 = 1)
    (g4 : (¬ (x4 < 0)) → ((gI M 5 x4.toNatClampNeg) = x1) → (¬ (x3 = 0)) → x3 = 0 ∨ x3 = 1)
    (K1 : (x4 < 0) → Q (.returned (some (.int x3))) M)
    (K2 : (¬ (x4 < 0)) → (¬ ((gI M 5 x4.toNatClampNeg) = x1)) → Q (.returned (some (.int x3))) M)
    (K3 : (¬ (x4 < 0)) → ((gI M 5 x4.toNatClampNeg) = x1) → (¬ (x3 = 0)) → Q (.returned (some (.int x3))) M)
    (K4 : (¬ (x4 < 0)) → ((gI M 5 x4.toNatClampNeg) = x1) → (x3 = 0) → Fw l D ad kA mX9_hasAt 10 [some (.ref (ad 4)), some (.int x1), some (.int x2), some (.int (if (gI M 6 x4.toNatClampNeg) = x2 then 1 else 0)), some (.int (x4 + (-1)))] [] M Q) : Fw l D ad kA mX9_hasAt 10 [some (.ref (ad 4)), some (.int x1), some (.int x2), some (.int x3), some (.int x4)] [] M Q := by
  refine r_iload dX9_hasAt_10 rfl ?_
  refine r_if_lt (tgt := 53) dX9_hasAt_12 (by decide) (fun c1 => ?_) (fun c1 => ?_)
  · skip
    refine r_iload_n dX9_hasAt_53 rfl ?_
    exact r_zret dX9_hasAt_54 rfl (nar_z (g1 c1)).1 (K1 c1)
  · skip
    refine r_aload_n dX9_hasAt_15 rfl ?_
    refine r_getR dX9_hasAt_16 fs_4_0 fk_X9_9 ?_
    refine r_iload dX9_hasAt_19 rfl ?_
    refine r_iald dX9_hasAt_21 as_5 (g2 c1) ?_
    refine r_iload_n dX9_hasAt_22 rfl ?_
    refine r_icmp_ne (tgt := 53) dX9_hasAt_23 (by decide) (fun c2 => ?_) (fun c2 => ?_)
    · skip
      refine r_iload_n dX9_hasAt_53 rfl ?_
      exact r_zret dX9_hasAt_54 rfl (nar_z (g3 c1 c2)).1 (K2 c1 c2)
    · skip
      refine r_iload_n dX9_hasAt_26 rfl ?_
      refine r_if_ne (tgt := 53) dX9_hasAt_27 (by decide) (fun c3 => ?_) (fun c3 => ?_)
      · skip
        refine r_iload_n dX9_hasAt_53 rfl ?_
        exact r_zret dX9_hasAt_54 rfl (nar_z (g4 c1 c2 c3)).1 (K3 c1 c2 c3)
      · skip
        refine r_aload_n dX9_hasAt_30 rfl ?_
        refine r_getR dX9_hasAt_31 fs_4_1 fk_X9_15 ?_
        refine r_iload dX9_hasAt_34 rfl ?_
        refine r_iald dX9_hasAt_36 as_6 (g2 c1) ?_
        refine r_iload_n dX9_hasAt_37 rfl ?_
        suffices hJ1 : Fw l D ad kA mX9_hasAt 46 [some (.ref (ad 4)), some (.int x1), some (.int x2), none, some (.int x4)] [.int (if (gI M 6 x4.toNatClampNeg) = x2 then 1 else 0)] M Q by
          refine r_icmp_ne (tgt := 45) dX9_hasAt_38 (by decide) (fun c4 => ?_) (fun c4 => ?_)
          · skip
            refine r_iconst (v := 0) dX9_hasAt_45 kI_0 ?_
            exact q_weak (lo' := [some (.ref (ad 4)), some (.int x1), some (.int x2), none, some (.int x4)]) ⟨rfl, rfl, rfl, rfl, trivial⟩ (by have h9 := hJ1; simp only [if_neg c4] at h9; first | exact h9 | (simp only [if_neg c4]; exact h9))
          · skip
            refine r_iconst (v := 1) dX9_hasAt_41 kI_1 ?_
            refine r_goto (tgt := 46) dX9_hasAt_42 (by decide) ?_
            exact q_weak (lo' := [some (.ref (ad 4)), some (.int x1), some (.int x2), none, some (.int x4)]) ⟨rfl, rfl, rfl, rfl, trivial⟩ (by have h9 := hJ1; simp only [if_pos c4] at h9; first | exact h9 | (simp only [if_pos c4]; exact h9))
        refine q_istore_n (lo' := [some (.ref (ad 4)), some (.int x1), some (.int x2), some (.int (if (gI M 6 x4.toNatClampNeg) = x2 then 1 else 0)), some (.int x4)]) dX9_hasAt_46 (by decide) rfl ?_
        refine q_iinc (v := x4 + (-1)) (lo' := [some (.ref (ad 4)), some (.int x1), some (.int x2), some (.int (if (gI M 6 x4.toNatClampNeg) = x2 then 1 else 0)), some (.int (x4 + (-1)))]) dX9_hasAt_47 rfl (congrArg (fun q => x4 + q) kI_m1) (by decide) rfl ?_
        refine r_goto (tgt := 10) dX9_hasAt_50 (by decide) ?_
        exact (K4 c1 c2 c3)
theorem en_X9_hasAt {x1 : Int32} {x2 : Int32} (K : Fw l D ad kA mX9_hasAt 0 [some (.ref (ad 4)), some (.int x1), some (.int x2), none, none] [] M Q) : Cal l D ad kA mX9_hasAt [.ref (ad 4), .int x1, .int x2] M Q := Cal.of (by decide) rfl rfl (Nat.le_of_ble_eq_true rfl) K
theorem t_X9_insert_0 {x1 : Int32} {x2 : Int32} 
    (K1 : Fw l D ad kA mX9_insert 5 [some (.ref (ad 4)), some (.int x1), some (.int x2), some (.int (gI M 4 4))] [] M Q) : Fw l D ad kA mX9_insert 0 [some (.ref (ad 4)), some (.int x1), some (.int x2), none] [] M Q := by
  refine r_aload_n dX9_insert_0 rfl ?_
  refine r_getI dX9_insert_1 fs_4_4 fk_X9_24 ?_
  refine q_istore_n (lo' := [some (.ref (ad 4)), some (.int x1), some (.int x2), some (.int (gI M 4 4))]) dX9_insert_4 (by decide) rfl ?_
  exact K1
theorem t_X9_insert_5 {x1 : Int32} {x2 : Int32} {x3 : Int32} 
    (g1 : (x3 ≤ 0) → vp_in x3 160)
    (g2 : (¬ (x3 ≤ 0)) → vp_in (x3 - 1) 160)
    (g3 : (¬ (x3 ≤ 0)) → (¬ ((gI M 5 (x3 - 1).toNatClampNeg) = x1)) → vp_in x3 160)
    (g4 : (¬ (x3 ≤ 0)) → ((gI M 5 (x3 - 1).toNatClampNeg) = x1) → ((gI M 6 (x3 - 1).toNatClampNeg) ≤ x2) → vp_in x3 160)
    (g5 : (¬ (x3 ≤ 0)) → ((gI M 5 (x3 - 1).toNatClampNeg) = x1) → (¬ ((gI M 6 (x3 - 1).toNatClampNeg) ≤ x2)) → vp_in x3 160)
    (K1 : (x3 ≤ 0) → Q (.returned (some (.int x3))) (sI (sI (sI (sI (sI M 5 x3.toNatClampNeg x1) 6 x3.toNatClampNeg x2) 7 x3.toNatClampNeg 1) 8 x3.toNatClampNeg 0) 4 4 ((gI (sI (sI (sI (sI M 5 x3.toNatClampNeg x1) 6 x3.toNatClampNeg x2) 7 x3.toNatClampNeg 1) 8 x3.toNatClampNeg 0) 4 4) + 1)))
    (K2 : (¬ (x3 ≤ 0)) → (¬ ((gI M 5 (x3 - 1).toNatClampNeg) = x1)) → Q (.returned (some (.int x3))) (sI (sI (sI (sI (sI M 5 x3.toNatClampNeg x1) 6 x3.toNatClampNeg x2) 7 x3.toNatClampNeg 1) 8 x3.toNatClampNeg 0) 4 4 ((gI (sI (sI (sI (sI M 5 x3.toNatClampNeg x1) 6 x3.toNatClampNeg x2) 7 x3.toNatClampNeg 1) 8 x3.toNatClampNeg 0) 4 4) + 1)))
    (K3 : (¬ (x3 ≤ 0)) → ((gI M 5 (x3 - 1).toNatClampNeg) = x1) → ((gI M 6 (x3 - 1).toNatClampNeg) ≤ x2) → Q (.returned (some (.int x3))) (sI (sI (sI (sI (sI M 5 x3.toNatClampNeg x1) 6 x3.toNatClampNeg x2) 7 x3.toNatClampNeg 1) 8 x3.toNatClampNeg 0) 4 4 ((gI (sI (sI (sI (sI M 5 x3.toNatClampNeg x1) 6 x3.toNatClampNeg x2) 7 x3.toNatClampNeg 1) 8 x3.toNatClampNeg 0) 4 4) + 1)))
    (K4 : (¬ (x3 ≤ 0)) → ((gI M 5 (x3 - 1).toNatClampNeg) = x1) → (¬ ((gI M 6 (x3 - 1).toNatClampNeg) ≤ x2)) → Fw l D ad kA mX9_insert 5 [some (.ref (ad 4)), some (.int x1), some (.int x2), some (.int (x3 + (-1)))] [] (sI (sI (sI (sI M 6 x3.toNatClampNeg (gI M 6 (x3 - 1).toNatClampNeg)) 5 x3.toNatClampNeg (gI (sI M 6 x3.toNatClampNeg (gI M 6 (x3 - 1).toNatClampNeg)) 5 (x3 - 1).toNatClampNeg)) 7 x3.toNatClampNeg (gI (sI (sI M 6 x3.toNatClampNeg (gI M 6 (x3 - 1).toNatClampNeg)) 5 x3.toNatClampNeg (gI (sI M 6 x3.toNatClampNeg (gI M 6 (x3 - 1).toNatClampNeg)) 5 (x3 - 1).toNatClampNeg)) 7 (x3 - 1).toNatClampNeg)) 8 x3.toNatClampNeg (gI (sI (sI (sI M 6 x3.toNatClampNeg (gI M 6 (x3 - 1).toNatClampNeg)) 5 x3.toNatClampNeg (gI (sI M 6 x3.toNatClampNeg (gI M 6 (x3 - 1).toNatClampNeg)) 5 (x3 - 1).toNatClampNeg)) 7 x3.toNatClampNeg (gI (sI (sI M 6 x3.toNatClampNeg (gI M 6 (x3 - 1).toNatClampNeg)) 5 x3.toNatClampNeg (gI (sI M 6 x3.toNatClampNeg (gI M 6 (x3 - 1).toNatClampNeg)) 5 (x3 - 1).toNatClampNeg)) 7 (x3 - 1).toNatClampNeg)) 8 (x3 - 1).toNatClampNeg)) Q) : Fw l D ad kA mX9_insert 5 [some (.ref (ad 4)), some (.int x1), some (.int x2), some (.int x3)] [] M Q := by
  refine r_iload_n dX9_insert_5 rfl ?_
  refine r_if_le (tgt := 95) dX9_insert_6 (by decide) (fun c1 => ?_) (fun c1 => ?_)
  · skip
    refine r_aload_n dX9_insert_95 rfl ?_
    refine r_getR dX9_insert_96 fs_4_0 fk_X9_9 ?_
    refine r_iload_n dX9_insert_99 rfl ?_
    refine r_iload_n dX9_insert_100 rfl ?_
    refine r_iast dX9_insert_101 as_5 (g1 c1) ?_
    refine r_aload_n dX9_insert_102 rfl ?_
    refine r_getR dX9_insert_103 fs_4_1 fk_X9_15 ?_
    refine r_iload_n dX9_insert_106 rfl ?_
    refine r_iload_n dX9_insert_107 rfl ?_
    refine r_iast dX9_insert_108 as_6 (g1 c1) ?_
    refine r_aload_n dX9_insert_109 rfl ?_
    refine r_getR dX9_insert_110 fs_4_2 fk_X9_18 ?_
    refine r_iload_n dX9_insert_113 rfl ?_
    refine r_iconst (v := 1) dX9_insert_114 kI_1 ?_
    refine r_iast dX9_insert_115 as_7 (g1 c1) ?_
    refine r_aload_n dX9_insert_116 rfl ?_
    refine r_getR dX9_insert_117 fs_4_3 fk_X9_21 ?_
    refine r_iload_n dX9_insert_120 rfl ?_
    refine r_iconst (v := 0) dX9_insert_121 kI_0 ?_
    refine r_iast dX9_insert_122 as_8 (g1 c1) ?_
    refine r_aload_n dX9_insert_123 rfl ?_
    refine r_dup dX9_insert_124 rfl ?_
    refine r_getI dX9_insert_125 fs_4_4 fk_X9_24 ?_
    refine r_iconst (v := 1) dX9_insert_128 kI_1 ?_
    refine r_iadd dX9_insert_129 ?_
    refine r_putI dX9_insert_130 fs_4_4 fk_X9_24 fp_X9_4 ?_
    refine r_iload_n dX9_insert_133 rfl ?_
    exact r_iret dX9_insert_134 rfl (K1 c1)
  · skip
    refine r_aload_n dX9_insert_9 rfl ?_
    refine r_getR dX9_insert_10 fs_4_0 fk_X9_9 ?_
    refine r_iload_n dX9_insert_13 rfl ?_
    refine r_iconst (v := 1) dX9_insert_14 kI_1 ?_
    refine r_isub dX9_insert_15 ?_
    refine r_iald dX9_insert_16 as_5 (g2 c1) ?_
    refine r_iload_n dX9_insert_17 rfl ?_
    refine r_icmp_ne (tgt := 95) dX9_insert_18 (by decide) (fun c2 => ?_) (fun c2 => ?_)
    · skip
      refine r_aload_n dX9_insert_95 rfl ?_
      refine r_getR dX9_insert_96 fs_4_0 fk_X9_9 ?_
      refine r_iload_n dX9_insert_99 rfl ?_
      refine r_iload_n dX9_insert_100 rfl ?_
      refine r_iast dX9_insert_101 as_5 (g3 c1 c2) ?_
      refine r_aload_n dX9_insert_102 rfl ?_
      refine r_getR dX9_insert_103 fs_4_1 fk_X9_15 ?_
      refine r_iload_n dX9_insert_106 rfl ?_
      refine r_iload_n dX9_insert_107 rfl ?_
      refine r_iast dX9_insert_108 as_6 (g3 c1 c2) ?_
      refine r_aload_n dX9_insert_109 rfl ?_
      refine r_getR dX9_insert_110 fs_4_2 fk_X9_18 ?_
      refine r_iload_n dX9_insert_113 rfl ?_
      refine r_iconst (v := 1) dX9_insert_114 kI_1 ?_
      refine r_iast dX9_insert_115 as_7 (g3 c1 c2) ?_
      refine r_aload_n dX9_insert_116 rfl ?_
      refine r_getR dX9_insert_117 fs_4_3 fk_X9_21 ?_
      refine r_iload_n dX9_insert_120 rfl ?_
      refine r_iconst (v := 0) dX9_insert_121 kI_0 ?_
      refine r_iast dX9_insert_122 as_8 (g3 c1 c2) ?_
      refine r_aload_n dX9_insert_123 rfl ?_
      refine r_dup dX9_insert_124 rfl ?_
      refine r_getI dX9_insert_125 fs_4_4 fk_X9_24 ?_
      refine r_iconst (v := 1) dX9_insert_128 kI_1 ?_
      refine r_iadd dX9_insert_129 ?_
      refine r_putI dX9_insert_130 fs_4_4 fk_X9_24 fp_X9_4 ?_
      refine r_iload_n dX9_insert_133 rfl ?_
      exact r_iret dX9_insert_134 rfl (K2 c1 c2)
    · skip
      refine r_aload_n dX9_insert_21 rfl ?_
      refine r_getR dX9_insert_22 fs_4_1 fk_X9_15 ?_
      refine r_iload_n dX9_insert_25 rfl ?_
      refine r_iconst (v := 1) dX9_insert_26 kI_1 ?_
      refine r_isub dX9_insert_27 ?_
      refine r_iald dX9_insert_28 as_6 (g2 c1) ?_
      refine r_iload_n dX9_insert_29 rfl ?_
      refine r_icmp_le (tgt := 95) dX9_insert_30 (by decide) (fun c3 => ?_) (fun c3 => ?_)
      · skip
        refine r_aload_n dX9_insert_95 rfl ?_
        refine r_getR dX9_insert_96 fs_4_0 fk_X9_9 ?_
        refine r_iload_n dX9_insert_99 rfl ?_
        refine r_iload_n dX9_insert_100 rfl ?_
        refine r_iast dX9_insert_101 as_5 (g4 c1 c2 c3) ?_
        refine r_aload_n dX9_insert_102 rfl ?_
        refine r_getR dX9_insert_103 fs_4_1 fk_X9_15 ?_
        refine r_iload_n dX9_insert_106 rfl ?_
        refine r_iload_n dX9_insert_107 rfl ?_
        refine r_iast dX9_insert_108 as_6 (g4 c1 c2 c3) ?_
        refine r_aload_n dX9_insert_109 rfl ?_
        refine r_getR dX9_insert_110 fs_4_2 fk_X9_18 ?_
        refine r_iload_n dX9_insert_113 rfl ?_
        refine r_iconst (v := 1) dX9_insert_114 kI_1 ?_
        refine r_iast dX9_insert_115 as_7 (g4 c1 c2 c3) ?_
        refine r_aload_n dX9_insert_116 rfl ?_
        refine r_getR dX9_insert_117 fs_4_3 fk_X9_21 ?_
        refine r_iload_n dX9_insert_120 rfl ?_
        refine r_iconst (v := 0) dX9_insert_121 kI_0 ?_
        refine r_iast dX9_insert_122 as_8 (g4 c1 c2 c3) ?_
        refine r_aload_n dX9_insert_123 rfl ?_
        refine r_dup dX9_insert_124 rfl ?_
        refine r_getI dX9_insert_125 fs_4_4 fk_X9_24 ?_
        refine r_iconst (v := 1) dX9_insert_128 kI_1 ?_
        refine r_iadd dX9_insert_129 ?_
        refine r_putI dX9_insert_130 fs_4_4 fk_X9_24 fp_X9_4 ?_
        refine r_iload_n dX9_insert_133 rfl ?_
        exact r_iret dX9_insert_134 rfl (K3 c1 c2 c3)
      · skip
        refine r_aload_n dX9_insert_33 rfl ?_
        refine r_getR dX9_insert_34 fs_4_1 fk_X9_15 ?_
        refine r_iload_n dX9_insert_37 rfl ?_
        refine r_aload_n dX9_insert_38 rfl ?_
        refine r_getR dX9_insert_39 fs_4_1 fk_X9_15 ?_
        refine r_iload_n dX9_insert_42 rfl ?_
        refine r_iconst (v := 1) dX9_insert_43 kI_1 ?_
        refine r_isub dX9_insert_44 ?_
        refine r_iald dX9_insert_45 as_6 (g2 c1) ?_
        refine r_iast dX9_insert_46 as_6 (g5 c1 c2 c3) ?_
        refine r_aload_n dX9_insert_47 rfl ?_
        refine r_getR dX9_insert_48 fs_4_0 fk_X9_9 ?_
        refine r_iload_n dX9_insert_51 rfl ?_
        refine r_aload_n dX9_insert_52 rfl ?_
        refine r_getR dX9_insert_53 fs_4_0 fk_X9_9 ?_
        refine r_iload_n dX9_insert_56 rfl ?_
        refine r_iconst (v := 1) dX9_insert_57 kI_1 ?_
        refine r_isub dX9_insert_58 ?_
        refine r_iald dX9_insert_59 as_5 (g2 c1) ?_
        refine r_iast dX9_insert_60 as_5 (g5 c1 c2 c3) ?_
        refine r_aload_n dX9_insert_61 rfl ?_
        refine r_getR dX9_insert_62 fs_4_2 fk_X9_18 ?_
        refine r_iload_n dX9_insert_65 rfl ?_
        refine r_aload_n dX9_insert_66 rfl ?_
        refine r_getR dX9_insert_67 fs_4_2 fk_X9_18 ?_
        refine r_iload_n dX9_insert_70 rfl ?_
        refine r_iconst (v := 1) dX9_insert_71 kI_1 ?_
        refine r_isub dX9_insert_72 ?_
        refine r_iald dX9_insert_73 as_7 (g2 c1) ?_
        refine r_iast dX9_insert_74 as_7 (g5 c1 c2 c3) ?_
        refine r_aload_n dX9_insert_75 rfl ?_
        refine r_getR dX9_insert_76 fs_4_3 fk_X9_21 ?_
        refine r_iload_n dX9_insert_79 rfl ?_
        refine r_aload_n dX9_insert_80 rfl ?_
        refine r_getR dX9_insert_81 fs_4_3 fk_X9_21 ?_
        refine r_iload_n dX9_insert_84 rfl ?_
        refine r_iconst (v := 1) dX9_insert_85 kI_1 ?_
        refine r_isub dX9_insert_86 ?_
        refine r_iald dX9_insert_87 as_8 (g2 c1) ?_
        refine r_iast dX9_insert_88 as_8 (g5 c1 c2 c3) ?_
        refine q_iinc (v := x3 + (-1)) (lo' := [some (.ref (ad 4)), some (.int x1), some (.int x2), some (.int (x3 + (-1)))]) dX9_insert_89 rfl (congrArg (fun q => x3 + q) kI_m1) (by decide) rfl ?_
        refine r_goto (tgt := 5) dX9_insert_92 (by decide) ?_
        exact (K4 c1 c2 c3)
theorem en_X9_insert {x1 : Int32} {x2 : Int32} (K : Fw l D ad kA mX9_insert 0 [some (.ref (ad 4)), some (.int x1), some (.int x2), none] [] M Q) : Cal l D ad kA mX9_insert [.ref (ad 4), .int x1, .int x2] M Q := Cal.of (by decide) rfl rfl (Nat.le_of_ble_eq_true rfl) K
theorem t_X9_copyFrom_0  
    (g1 : ¬ (gI (sI M 9 4 (gI M 4 4)) 9 4) < 0)
    (g2 : (gI (sI M 9 4 (gI M 4 4)) 9 4).toNatClampNeg ≤ 160)
    (g3 : ¬ (gI (mcp (sI M 9 4 (gI M 4 4)) 5 10 (gI (sI M 9 4 (gI M 4 4)) 9 4).toNatClampNeg) 9 4) < 0)
    (g4 : (gI (mcp (sI M 9 4 (gI M 4 4)) 5 10 (gI (sI M 9 4 (gI M 4 4)) 9 4).toNatClampNeg) 9 4).toNatClampNeg ≤ 160)
    (g5 : ¬ (gI (mcp (mcp (sI M 9 4 (gI M 4 4)) 5 10 (gI (sI M 9 4 (gI M 4 4)) 9 4).toNatClampNeg) 6 11 (gI (mcp (sI M 9 4 (gI M 4 4)) 5 10 (gI (sI M 9 4 (gI M 4 4)) 9 4).toNatClampNeg) 9 4).toNatClampNeg) 9 4) < 0)
    (g6 : (gI (mcp (mcp (sI M 9 4 (gI M 4 4)) 5 10 (gI (sI M 9 4 (gI M 4 4)) 9 4).toNatClampNeg) 6 11 (gI (mcp (sI M 9 4 (gI M 4 4)) 5 10 (gI (sI M 9 4 (gI M 4 4)) 9 4).toNatClampNeg) 9 4).toNatClampNeg) 9 4).toNatClampNeg ≤ 160)
    (g7 : ¬ (gI (mcp (mcp (mcp (sI M 9 4 (gI M 4 4)) 5 10 (gI (sI M 9 4 (gI M 4 4)) 9 4).toNatClampNeg) 6 11 (gI (mcp (sI M 9 4 (gI M 4 4)) 5 10 (gI (sI M 9 4 (gI M 4 4)) 9 4).toNatClampNeg) 9 4).toNatClampNeg) 7 12 (gI (mcp (mcp (sI M 9 4 (gI M 4 4)) 5 10 (gI (sI M 9 4 (gI M 4 4)) 9 4).toNatClampNeg) 6 11 (gI (mcp (sI M 9 4 (gI M 4 4)) 5 10 (gI (sI M 9 4 (gI M 4 4)) 9 4).toNatClampNeg) 9 4).toNatClampNeg) 9 4).toNatClampNeg) 9 4) < 0)
    (g8 : (gI (mcp (mcp (mcp (sI M 9 4 (gI M 4 4)) 5 10 (gI (sI M 9 4 (gI M 4 4)) 9 4).toNatClampNeg) 6 11 (gI (mcp (sI M 9 4 (gI M 4 4)) 5 10 (gI (sI M 9 4 (gI M 4 4)) 9 4).toNatClampNeg) 9 4).toNatClampNeg) 7 12 (gI (mcp (mcp (sI M 9 4 (gI M 4 4)) 5 10 (gI (sI M 9 4 (gI M 4 4)) 9 4).toNatClampNeg) 6 11 (gI (mcp (sI M 9 4 (gI M 4 4)) 5 10 (gI (sI M 9 4 (gI M 4 4)) 9 4).toNatClampNeg) 9 4).toNatClampNeg) 9 4).toNatClampNeg) 9 4).toNatClampNeg ≤ 160)
    (K1 : Q (.returned none) (mcp (mcp (mcp (mcp (sI M 9 4 (gI M 4 4)) 5 10 (gI (sI M 9 4 (gI M 4 4)) 9 4).toNatClampNeg) 6 11 (gI (mcp (sI M 9 4 (gI M 4 4)) 5 10 (gI (sI M 9 4 (gI M 4 4)) 9 4).toNatClampNeg) 9 4).toNatClampNeg) 7 12 (gI (mcp (mcp (sI M 9 4 (gI M 4 4)) 5 10 (gI (sI M 9 4 (gI M 4 4)) 9 4).toNatClampNeg) 6 11 (gI (mcp (sI M 9 4 (gI M 4 4)) 5 10 (gI (sI M 9 4 (gI M 4 4)) 9 4).toNatClampNeg) 9 4).toNatClampNeg) 9 4).toNatClampNeg) 8 13 (gI (mcp (mcp (mcp (sI M 9 4 (gI M 4 4)) 5 10 (gI (sI M 9 4 (gI M 4 4)) 9 4).toNatClampNeg) 6 11 (gI (mcp (sI M 9 4 (gI M 4 4)) 5 10 (gI (sI M 9 4 (gI M 4 4)) 9 4).toNatClampNeg) 9 4).toNatClampNeg) 7 12 (gI (mcp (mcp (sI M 9 4 (gI M 4 4)) 5 10 (gI (sI M 9 4 (gI M 4 4)) 9 4).toNatClampNeg) 6 11 (gI (mcp (sI M 9 4 (gI M 4 4)) 5 10 (gI (sI M 9 4 (gI M 4 4)) 9 4).toNatClampNeg) 9 4).toNatClampNeg) 9 4).toNatClampNeg) 9 4).toNatClampNeg)) : Fw l D ad kA mX9_copyFrom 0 [some (.ref (ad 9)), some (.ref (ad 4))] [] M Q := by
  refine r_aload_n dX9_copyFrom_0 rfl ?_
  refine r_aload_n dX9_copyFrom_1 rfl ?_
  refine r_getI dX9_copyFrom_2 fs_4_4 fk_X9_24 ?_
  refine r_putI dX9_copyFrom_5 fs_9_4 fk_X9_24 fp_X9_4 ?_
  refine r_aload_n dX9_copyFrom_8 rfl ?_
  refine r_getR dX9_copyFrom_9 fs_4_0 fk_X9_9 ?_
  refine r_iconst (v := 0) dX9_copyFrom_12 kI_0 ?_
  refine r_aload_n dX9_copyFrom_13 rfl ?_
  refine r_getR dX9_copyFrom_14 fs_9_0 fk_X9_9 ?_
  refine r_iconst (v := 0) dX9_copyFrom_17 kI_0 ?_
  refine r_aload_n dX9_copyFrom_18 rfl ?_
  refine r_getI dX9_copyFrom_19 fs_9_4 fk_X9_24 ?_
  refine r_copy dX9_copyFrom_22 mk_X9_28 (by decide) (Nat.le_of_ble_eq_true (by decide +kernel)) as_5 as_10 g1 g2 g2 ?_
  refine r_aload_n dX9_copyFrom_25 rfl ?_
  refine r_getR dX9_copyFrom_26 fs_4_1 fk_X9_15 ?_
  refine r_iconst (v := 0) dX9_copyFrom_29 kI_0 ?_
  refine r_aload_n dX9_copyFrom_30 rfl ?_
  refine r_getR dX9_copyFrom_31 fs_9_1 fk_X9_15 ?_
  refine r_iconst (v := 0) dX9_copyFrom_34 kI_0 ?_
  refine r_aload_n dX9_copyFrom_35 rfl ?_
  refine r_getI dX9_copyFrom_36 fs_9_4 fk_X9_24 ?_
  refine r_copy dX9_copyFrom_39 mk_X9_28 (by decide) (Nat.le_of_ble_eq_true (by decide +kernel)) as_6 as_11 g3 g4 g4 ?_
  refine r_aload_n dX9_copyFrom_42 rfl ?_
  refine r_getR dX9_copyFrom_43 fs_4_2 fk_X9_18 ?_
  refine r_iconst (v := 0) dX9_copyFrom_46 kI_0 ?_
  refine r_aload_n dX9_copyFrom_47 rfl ?_
  refine r_getR dX9_copyFrom_48 fs_9_2 fk_X9_18 ?_
  refine r_iconst (v := 0) dX9_copyFrom_51 kI_0 ?_
  refine r_aload_n dX9_copyFrom_52 rfl ?_
  refine r_getI dX9_copyFrom_53 fs_9_4 fk_X9_24 ?_
  refine r_copy dX9_copyFrom_56 mk_X9_28 (by decide) (Nat.le_of_ble_eq_true (by decide +kernel)) as_7 as_12 g5 g6 g6 ?_
  refine r_aload_n dX9_copyFrom_59 rfl ?_
  refine r_getR dX9_copyFrom_60 fs_4_3 fk_X9_21 ?_
  refine r_iconst (v := 0) dX9_copyFrom_63 kI_0 ?_
  refine r_aload_n dX9_copyFrom_64 rfl ?_
  refine r_getR dX9_copyFrom_65 fs_9_3 fk_X9_21 ?_
  refine r_iconst (v := 0) dX9_copyFrom_68 kI_0 ?_
  refine r_aload_n dX9_copyFrom_69 rfl ?_
  refine r_getI dX9_copyFrom_70 fs_9_4 fk_X9_24 ?_
  refine r_copy dX9_copyFrom_73 mk_X9_28 (by decide) (Nat.le_of_ble_eq_true (by decide +kernel)) as_8 as_13 g7 g8 g8 ?_
  exact r_vret dX9_copyFrom_76 rfl K1
theorem en_X9_copyFrom  (K : Fw l D ad kA mX9_copyFrom 0 [some (.ref (ad 9)), some (.ref (ad 4))] [] M Q) : Cal l D ad kA mX9_copyFrom [.ref (ad 9), .ref (ad 4)] M Q := Cal.of (by decide) rfl rfl (Nat.le_of_ble_eq_true rfl) K
end W_strokes
end
section
/-! isWord, BeatText: decode rows, links, walks from cut to cut (printed by wip/gen) -/
theorem dX10_isWord_0 : decode cX10_isWord 0 = .ok (.aload_n 0, 1) := by decide +kernel
theorem dX10_isWord_1 : decode cX10_isWord 1 = .ok (.getfield 39, 3) := by decide +kernel
theorem dX10_isWord_4 : decode cX10_isWord 4 = .ok (.iconst 1, 1) := by decide +kernel
theorem dX10_isWord_5 : decode cX10_isWord 5 = .ok (.if_icmp .ne 23, 3) := by decide +kernel
theorem dX10_isWord_8 : decode cX10_isWord 8 = .ok (.aload_n 1, 1) := by decide +kernel
theorem dX10_isWord_9 : decode cX10_isWord 9 = .ok (.invokevirtual 57, 3) := by decide +kernel
theorem dX10_isWord_12 : decode cX10_isWord 12 = .ok (.aload_n 0, 1) := by decide +kernel
theorem dX10_isWord_13 : decode cX10_isWord 13 = .ok (.getfield 22, 3) := by decide +kernel
theorem dX10_isWord_16 : decode cX10_isWord 16 = .ok (.aload_n 0, 1) := by decide +kernel
theorem dX10_isWord_17 : decode cX10_isWord 17 = .ok (.getfield 28, 3) := by decide +kernel
theorem dX10_isWord_20 : decode cX10_isWord 20 = .ok (.isub, 1) := by decide +kernel
theorem dX10_isWord_21 : decode cX10_isWord 21 = .ok (.if_icmp .ne 7, 3) := by decide +kernel
theorem dX10_isWord_24 : decode cX10_isWord 24 = .ok (.iconst 1, 1) := by decide +kernel
theorem dX10_isWord_25 : decode cX10_isWord 25 = .ok (.goto 4, 3) := by decide +kernel
theorem dX10_isWord_28 : decode cX10_isWord 28 = .ok (.iconst 0, 1) := by decide +kernel
theorem dX10_isWord_29 : decode cX10_isWord 29 = .ok (.istore_n 2, 1) := by decide +kernel
theorem dX10_isWord_30 : decode cX10_isWord 30 = .ok (.iconst 0, 1) := by decide +kernel
theorem dX10_isWord_31 : decode cX10_isWord 31 = .ok (.istore_n 3, 1) := by decide +kernel
theorem dX10_isWord_32 : decode cX10_isWord 32 = .ok (.iload_n 2, 1) := by decide +kernel
theorem dX10_isWord_33 : decode cX10_isWord 33 = .ok (.ifCond .eq 41, 3) := by decide +kernel
theorem dX10_isWord_36 : decode cX10_isWord 36 = .ok (.iload_n 3, 1) := by decide +kernel
theorem dX10_isWord_37 : decode cX10_isWord 37 = .ok (.aload_n 1, 1) := by decide +kernel
theorem dX10_isWord_38 : decode cX10_isWord 38 = .ok (.invokevirtual 57, 3) := by decide +kernel
theorem dX10_isWord_41 : decode cX10_isWord 41 = .ok (.if_icmp .ge 33, 3) := by decide +kernel
theorem dX10_isWord_44 : decode cX10_isWord 44 = .ok (.aload_n 1, 1) := by decide +kernel
theorem dX10_isWord_45 : decode cX10_isWord 45 = .ok (.iload_n 3, 1) := by decide +kernel
theorem dX10_isWord_46 : decode cX10_isWord 46 = .ok (.invokevirtual 63, 3) := by decide +kernel
theorem dX10_isWord_49 : decode cX10_isWord 49 = .ok (.aload_n 0, 1) := by decide +kernel
theorem dX10_isWord_50 : decode cX10_isWord 50 = .ok (.aload_n 0, 1) := by decide +kernel
theorem dX10_isWord_51 : decode cX10_isWord 51 = .ok (.getfield 28, 3) := by decide +kernel
theorem dX10_isWord_54 : decode cX10_isWord 54 = .ok (.iload_n 3, 1) := by decide +kernel
theorem dX10_isWord_55 : decode cX10_isWord 55 = .ok (.iadd, 1) := by decide +kernel
theorem dX10_isWord_56 : decode cX10_isWord 56 = .ok (.invokevirtual 31, 3) := by decide +kernel
theorem dX10_isWord_59 : decode cX10_isWord 59 = .ok (.if_icmp .ne 7, 3) := by decide +kernel
theorem dX10_isWord_62 : decode cX10_isWord 62 = .ok (.iconst 1, 1) := by decide +kernel
theorem dX10_isWord_63 : decode cX10_isWord 63 = .ok (.goto 4, 3) := by decide +kernel
theorem dX10_isWord_66 : decode cX10_isWord 66 = .ok (.iconst 0, 1) := by decide +kernel
theorem dX10_isWord_67 : decode cX10_isWord 67 = .ok (.istore_n 2, 1) := by decide +kernel
theorem dX10_isWord_68 : decode cX10_isWord 68 = .ok (.iinc 3 1, 3) := by decide +kernel
theorem dX10_isWord_71 : decode cX10_isWord 71 = .ok (.goto (-39), 3) := by decide +kernel
theorem dX10_isWord_74 : decode cX10_isWord 74 = .ok (.iload_n 2, 1) := by decide +kernel
theorem dX10_isWord_75 : decode cX10_isWord 75 = .ok (.ireturn, 1) := by decide +kernel
theorem dX0_goOnIf_0 : decode cX0_goOnIf 0 = .ok (.iload_n 1, 1) := by decide +kernel
theorem dX0_goOnIf_1 : decode cX0_goOnIf 1 = .ok (.ifCond .eq 11, 3) := by decide +kernel
theorem dX0_goOnIf_4 : decode cX0_goOnIf 4 = .ok (.aload_n 0, 1) := by decide +kernel
theorem dX0_goOnIf_5 : decode cX0_goOnIf 5 = .ok (.iload_n 2, 1) := by decide +kernel
theorem dX0_goOnIf_6 : decode cX0_goOnIf 6 = .ok (.putfield 31, 3) := by decide +kernel
theorem dX0_goOnIf_9 : decode cX0_goOnIf 9 = .ok (.goto 11, 3) := by decide +kernel
theorem dX0_goOnIf_12 : decode cX0_goOnIf 12 = .ok (.aload_n 0, 1) := by decide +kernel
theorem dX0_goOnIf_13 : decode cX0_goOnIf 13 = .ok (.getfield 18, 3) := by decide +kernel
theorem dX0_goOnIf_16 : decode cX0_goOnIf 16 = .ok (.iconst 1, 1) := by decide +kernel
theorem dX0_goOnIf_17 : decode cX0_goOnIf 17 = .ok (.invokevirtual 72, 3) := by decide +kernel
theorem dX0_goOnIf_20 : decode cX0_goOnIf 20 = .ok (.return_, 1) := by decide +kernel
theorem dX0_takeBeat_0 : decode cX0_takeBeat 0 = .ok (.aload_n 0, 1) := by decide +kernel
theorem dX0_takeBeat_1 : decode cX0_takeBeat 1 = .ok (.aload_n 0, 1) := by decide +kernel
theorem dX0_takeBeat_2 : decode cX0_takeBeat 2 = .ok (.getfield 18, 3) := by decide +kernel
theorem dX0_takeBeat_5 : decode cX0_takeBeat 5 = .ok (.getfield 43, 3) := by decide +kernel
theorem dX0_takeBeat_8 : decode cX0_takeBeat 8 = .ok (.iconst 2, 1) := by decide +kernel
theorem dX0_takeBeat_9 : decode cX0_takeBeat 9 = .ok (.if_icmp .ne 7, 3) := by decide +kernel
theorem dX0_takeBeat_12 : decode cX0_takeBeat 12 = .ok (.iconst 1, 1) := by decide +kernel
theorem dX0_takeBeat_13 : decode cX0_takeBeat 13 = .ok (.goto 4, 3) := by decide +kernel
theorem dX0_takeBeat_16 : decode cX0_takeBeat 16 = .ok (.iconst 0, 1) := by decide +kernel
theorem dX0_takeBeat_17 : decode cX0_takeBeat 17 = .ok (.iconst 2, 1) := by decide +kernel
theorem dX0_takeBeat_18 : decode cX0_takeBeat 18 = .ok (.invokevirtual 56, 3) := by decide +kernel
theorem dX0_takeBeat_21 : decode cX0_takeBeat 21 = .ok (.aload_n 0, 1) := by decide +kernel
theorem dX0_takeBeat_22 : decode cX0_takeBeat 22 = .ok (.getfield 18, 3) := by decide +kernel
theorem dX0_takeBeat_25 : decode cX0_takeBeat 25 = .ok (.getfield 37, 3) := by decide +kernel
theorem dX0_takeBeat_28 : decode cX0_takeBeat 28 = .ok (.ifCond .ne 25, 3) := by decide +kernel
theorem dX0_takeBeat_31 : decode cX0_takeBeat 31 = .ok (.aload_n 0, 1) := by decide +kernel
theorem dX0_takeBeat_32 : decode cX0_takeBeat 32 = .ok (.getfield 18, 3) := by decide +kernel
theorem dX0_takeBeat_35 : decode cX0_takeBeat 35 = .ok (.getfield 76, 3) := by decide +kernel
theorem dX0_takeBeat_38 : decode cX0_takeBeat 38 = .ok (.aload_n 0, 1) := by decide +kernel
theorem dX0_takeBeat_39 : decode cX0_takeBeat 39 = .ok (.getfield 34, 3) := by decide +kernel
theorem dX0_takeBeat_42 : decode cX0_takeBeat 42 = .ok (.if_icmp .ge 11, 3) := by decide +kernel
theorem dX0_takeBeat_45 : decode cX0_takeBeat 45 = .ok (.aload_n 0, 1) := by decide +kernel
theorem dX0_takeBeat_46 : decode cX0_takeBeat 46 = .ok (.getfield 18, 3) := by decide +kernel
theorem dX0_takeBeat_49 : decode cX0_takeBeat 49 = .ok (.iconst 2, 1) := by decide +kernel
theorem dX0_takeBeat_50 : decode cX0_takeBeat 50 = .ok (.invokevirtual 72, 3) := by decide +kernel
theorem dX0_takeBeat_53 : decode cX0_takeBeat 53 = .ok (.aload_n 0, 1) := by decide +kernel
theorem dX0_takeBeat_54 : decode cX0_takeBeat 54 = .ok (.aload_n 0, 1) := by decide +kernel
theorem dX0_takeBeat_55 : decode cX0_takeBeat 55 = .ok (.getfield 18, 3) := by decide +kernel
theorem dX0_takeBeat_58 : decode cX0_takeBeat 58 = .ok (.getfield 76, 3) := by decide +kernel
theorem dX0_takeBeat_61 : decode cX0_takeBeat 61 = .ok (.putfield 34, 3) := by decide +kernel
theorem dX0_takeBeat_64 : decode cX0_takeBeat 64 = .ok (.return_, 1) := by decide +kernel
theorem dX0_takeBell_0 : decode cX0_takeBell 0 = .ok (.aload_n 0, 1) := by decide +kernel
theorem dX0_takeBell_1 : decode cX0_takeBell 1 = .ok (.getfield 18, 3) := by decide +kernel
theorem dX0_takeBell_4 : decode cX0_takeBell 4 = .ok (.getfield 76, 3) := by decide +kernel
theorem dX0_takeBell_7 : decode cX0_takeBell 7 = .ok (.invokestatic 79, 3) := by decide +kernel
theorem dX0_takeBell_10 : decode cX0_takeBell 10 = .ok (.ifCond .ne 14, 3) := by decide +kernel
theorem dX0_takeBell_13 : decode cX0_takeBell 13 = .ok (.aload_n 0, 1) := by decide +kernel
theorem dX0_takeBell_14 : decode cX0_takeBell 14 = .ok (.getfield 18, 3) := by decide +kernel
theorem dX0_takeBell_17 : decode cX0_takeBell 17 = .ok (.iconst 2, 1) := by decide +kernel
theorem dX0_takeBell_18 : decode cX0_takeBell 18 = .ok (.invokevirtual 72, 3) := by decide +kernel
theorem dX0_takeBell_21 : decode cX0_takeBell 21 = .ok (.goto 95, 3) := by decide +kernel
theorem dX0_takeBell_24 : decode cX0_takeBell 24 = .ok (.aload_n 0, 1) := by decide +kernel
theorem dX0_takeBell_25 : decode cX0_takeBell 25 = .ok (.getfield 12, 3) := by decide +kernel
theorem dX0_takeBell_28 : decode cX0_takeBell 28 = .ok (.aload_n 0, 1) := by decide +kernel
theorem dX0_takeBell_29 : decode cX0_takeBell 29 = .ok (.getfield 34, 3) := by decide +kernel
theorem dX0_takeBell_32 : decode cX0_takeBell 32 = .ok (.aload_n 0, 1) := by decide +kernel
theorem dX0_takeBell_33 : decode cX0_takeBell 33 = .ok (.getfield 18, 3) := by decide +kernel
theorem dX0_takeBell_36 : decode cX0_takeBell 36 = .ok (.getfield 76, 3) := by decide +kernel
theorem dX0_takeBell_39 : decode cX0_takeBell 39 = .ok (.invokevirtual 83, 3) := by decide +kernel
theorem dX0_takeBell_42 : decode cX0_takeBell 42 = .ok (.ifCond .eq 14, 3) := by decide +kernel
theorem dX0_takeBell_45 : decode cX0_takeBell 45 = .ok (.aload_n 0, 1) := by decide +kernel
theorem dX0_takeBell_46 : decode cX0_takeBell 46 = .ok (.getfield 18, 3) := by decide +kernel
theorem dX0_takeBell_49 : decode cX0_takeBell 49 = .ok (.iconst 3, 1) := by decide +kernel
theorem dX0_takeBell_50 : decode cX0_takeBell 50 = .ok (.invokevirtual 72, 3) := by decide +kernel
theorem dX0_takeBell_53 : decode cX0_takeBell 53 = .ok (.goto 63, 3) := by decide +kernel
theorem dX0_takeBell_56 : decode cX0_takeBell 56 = .ok (.aload_n 0, 1) := by decide +kernel
theorem dX0_takeBell_57 : decode cX0_takeBell 57 = .ok (.getfield 12, 3) := by decide +kernel
theorem dX0_takeBell_60 : decode cX0_takeBell 60 = .ok (.getfield 27, 3) := by decide +kernel
theorem dX0_takeBell_63 : decode cX0_takeBell 63 = .ok (.sipush 160, 3) := by decide +kernel
theorem dX0_takeBell_66 : decode cX0_takeBell 66 = .ok (.if_icmp .lt 14, 3) := by decide +kernel
theorem dX0_takeBell_69 : decode cX0_takeBell 69 = .ok (.aload_n 0, 1) := by decide +kernel
theorem dX0_takeBell_70 : decode cX0_takeBell 70 = .ok (.getfield 18, 3) := by decide +kernel
theorem dX0_takeBell_73 : decode cX0_takeBell 73 = .ok (.iconst 4, 1) := by decide +kernel
theorem dX0_takeBell_74 : decode cX0_takeBell 74 = .ok (.invokevirtual 72, 3) := by decide +kernel
theorem dX0_takeBell_77 : decode cX0_takeBell 77 = .ok (.goto 39, 3) := by decide +kernel
theorem dX0_takeBell_80 : decode cX0_takeBell 80 = .ok (.aload_n 0, 1) := by decide +kernel
theorem dX0_takeBell_81 : decode cX0_takeBell 81 = .ok (.aload_n 0, 1) := by decide +kernel
theorem dX0_takeBell_82 : decode cX0_takeBell 82 = .ok (.getfield 12, 3) := by decide +kernel
theorem dX0_takeBell_85 : decode cX0_takeBell 85 = .ok (.aload_n 0, 1) := by decide +kernel
theorem dX0_takeBell_86 : decode cX0_takeBell 86 = .ok (.getfield 34, 3) := by decide +kernel
theorem dX0_takeBell_89 : decode cX0_takeBell 89 = .ok (.aload_n 0, 1) := by decide +kernel
theorem dX0_takeBell_90 : decode cX0_takeBell 90 = .ok (.getfield 18, 3) := by decide +kernel
theorem dX0_takeBell_93 : decode cX0_takeBell 93 = .ok (.getfield 76, 3) := by decide +kernel
theorem dX0_takeBell_96 : decode cX0_takeBell 96 = .ok (.invokevirtual 87, 3) := by decide +kernel
theorem dX0_takeBell_99 : decode cX0_takeBell 99 = .ok (.putfield 91, 3) := by decide +kernel
theorem dX0_takeBell_102 : decode cX0_takeBell 102 = .ok (.aload_n 0, 1) := by decide +kernel
theorem dX0_takeBell_103 : decode cX0_takeBell 103 = .ok (.iload_n 1, 1) := by decide +kernel
theorem dX0_takeBell_104 : decode cX0_takeBell 104 = .ok (.ifCond .eq 8, 3) := by decide +kernel
theorem dX0_takeBell_107 : decode cX0_takeBell 107 = .ok (.bipush 6, 2) := by decide +kernel
theorem dX0_takeBell_109 : decode cX0_takeBell 109 = .ok (.goto 4, 3) := by decide +kernel
theorem dX0_takeBell_112 : decode cX0_takeBell 112 = .ok (.iconst 3, 1) := by decide +kernel
theorem dX0_takeBell_113 : decode cX0_takeBell 113 = .ok (.putfield 31, 3) := by decide +kernel
theorem dX0_takeBell_116 : decode cX0_takeBell 116 = .ok (.return_, 1) := by decide +kernel
theorem dX0_takeLength_0 : decode cX0_takeLength 0 = .ok (.aload_n 0, 1) := by decide +kernel
theorem dX0_takeLength_1 : decode cX0_takeLength 1 = .ok (.aload_n 0, 1) := by decide +kernel
theorem dX0_takeLength_2 : decode cX0_takeLength 2 = .ok (.getfield 18, 3) := by decide +kernel
theorem dX0_takeLength_5 : decode cX0_takeLength 5 = .ok (.getfield 43, 3) := by decide +kernel
theorem dX0_takeLength_8 : decode cX0_takeLength 8 = .ok (.iconst 2, 1) := by decide +kernel
theorem dX0_takeLength_9 : decode cX0_takeLength 9 = .ok (.if_icmp .ne 7, 3) := by decide +kernel
theorem dX0_takeLength_12 : decode cX0_takeLength 12 = .ok (.iconst 1, 1) := by decide +kernel
theorem dX0_takeLength_13 : decode cX0_takeLength 13 = .ok (.goto 4, 3) := by decide +kernel
theorem dX0_takeLength_16 : decode cX0_takeLength 16 = .ok (.iconst 0, 1) := by decide +kernel
theorem dX0_takeLength_17 : decode cX0_takeLength 17 = .ok (.iconst 5, 1) := by decide +kernel
theorem dX0_takeLength_18 : decode cX0_takeLength 18 = .ok (.invokevirtual 56, 3) := by decide +kernel
theorem dX0_takeLength_21 : decode cX0_takeLength 21 = .ok (.aload_n 0, 1) := by decide +kernel
theorem dX0_takeLength_22 : decode cX0_takeLength 22 = .ok (.getfield 18, 3) := by decide +kernel
theorem dX0_takeLength_25 : decode cX0_takeLength 25 = .ok (.getfield 37, 3) := by decide +kernel
theorem dX0_takeLength_28 : decode cX0_takeLength 28 = .ok (.ifCond .eq 4, 3) := by decide +kernel
theorem dX0_takeLength_31 : decode cX0_takeLength 31 = .ok (.return_, 1) := by decide +kernel
theorem dX0_takeLength_32 : decode cX0_takeLength 32 = .ok (.aload_n 0, 1) := by decide +kernel
theorem dX0_takeLength_33 : decode cX0_takeLength 33 = .ok (.getfield 18, 3) := by decide +kernel
theorem dX0_takeLength_36 : decode cX0_takeLength 36 = .ok (.getfield 76, 3) := by decide +kernel
theorem dX0_takeLength_39 : decode cX0_takeLength 39 = .ok (.iconst 1, 1) := by decide +kernel
theorem dX0_takeLength_40 : decode cX0_takeLength 40 = .ok (.if_icmp .lt 15, 3) := by decide +kernel
theorem dX0_takeLength_43 : decode cX0_takeLength 43 = .ok (.aload_n 0, 1) := by decide +kernel
theorem dX0_takeLength_44 : decode cX0_takeLength 44 = .ok (.getfield 18, 3) := by decide +kernel
theorem dX0_takeLength_47 : decode cX0_takeLength 47 = .ok (.getfield 76, 3) := by decide +kernel
theorem dX0_takeLength_50 : decode cX0_takeLength 50 = .ok (.bipush 16, 2) := by decide +kernel
theorem dX0_takeLength_52 : decode cX0_takeLength 52 = .ok (.if_icmp .le 12, 3) := by decide +kernel
theorem dX0_takeLength_55 : decode cX0_takeLength 55 = .ok (.aload_n 0, 1) := by decide +kernel
theorem dX0_takeLength_56 : decode cX0_takeLength 56 = .ok (.getfield 18, 3) := by decide +kernel
theorem dX0_takeLength_59 : decode cX0_takeLength 59 = .ok (.iconst 2, 1) := by decide +kernel
theorem dX0_takeLength_60 : decode cX0_takeLength 60 = .ok (.invokevirtual 72, 3) := by decide +kernel
theorem dX0_takeLength_63 : decode cX0_takeLength 63 = .ok (.return_, 1) := by decide +kernel
theorem dX0_takeLength_64 : decode cX0_takeLength 64 = .ok (.aload_n 0, 1) := by decide +kernel
theorem dX0_takeLength_65 : decode cX0_takeLength 65 = .ok (.getfield 12, 3) := by decide +kernel
theorem dX0_takeLength_68 : decode cX0_takeLength 68 = .ok (.getfield 94, 3) := by decide +kernel
theorem dX0_takeLength_71 : decode cX0_takeLength 71 = .ok (.aload_n 0, 1) := by decide +kernel
theorem dX0_takeLength_72 : decode cX0_takeLength 72 = .ok (.getfield 91, 3) := by decide +kernel
theorem dX0_takeLength_75 : decode cX0_takeLength 75 = .ok (.aload_n 0, 1) := by decide +kernel
theorem dX0_takeLength_76 : decode cX0_takeLength 76 = .ok (.getfield 18, 3) := by decide +kernel
theorem dX0_takeLength_79 : decode cX0_takeLength 79 = .ok (.getfield 76, 3) := by decide +kernel
theorem dX0_takeLength_82 : decode cX0_takeLength 82 = .ok (.iastore, 1) := by decide +kernel
theorem dX0_takeLength_83 : decode cX0_takeLength 83 = .ok (.return_, 1) := by decide +kernel
theorem dX0_takeWord_0 : decode cX0_takeWord 0 = .ok (.aload_n 0, 1) := by decide +kernel
theorem dX0_takeWord_1 : decode cX0_takeWord 1 = .ok (.getfield 31, 3) := by decide +kernel
theorem dX0_takeWord_4 : decode cX0_takeWord 4 = .ok (.iconst 3, 1) := by decide +kernel
theorem dX0_takeWord_5 : decode cX0_takeWord 5 = .ok (.if_icmp .eq 11, 3) := by decide +kernel
theorem dX0_takeWord_8 : decode cX0_takeWord 8 = .ok (.aload_n 0, 1) := by decide +kernel
theorem dX0_takeWord_9 : decode cX0_takeWord 9 = .ok (.getfield 31, 3) := by decide +kernel
theorem dX0_takeWord_12 : decode cX0_takeWord 12 = .ok (.iconst 5, 1) := by decide +kernel
theorem dX0_takeWord_13 : decode cX0_takeWord 13 = .ok (.if_icmp .ne 7, 3) := by decide +kernel
theorem dX0_takeWord_16 : decode cX0_takeWord 16 = .ok (.iconst 1, 1) := by decide +kernel
theorem dX0_takeWord_17 : decode cX0_takeWord 17 = .ok (.goto 4, 3) := by decide +kernel
theorem dX0_takeWord_20 : decode cX0_takeWord 20 = .ok (.iconst 0, 1) := by decide +kernel
theorem dX0_takeWord_21 : decode cX0_takeWord 21 = .ok (.istore_n 1, 1) := by decide +kernel
theorem dX0_takeWord_22 : decode cX0_takeWord 22 = .ok (.aload_n 0, 1) := by decide +kernel
theorem dX0_takeWord_23 : decode cX0_takeWord 23 = .ok (.getfield 31, 3) := by decide +kernel
theorem dX0_takeWord_26 : decode cX0_takeWord 26 = .ok (.iconst 3, 1) := by decide +kernel
theorem dX0_takeWord_27 : decode cX0_takeWord 27 = .ok (.if_icmp .ne 23, 3) := by decide +kernel
theorem dX0_takeWord_30 : decode cX0_takeWord 30 = .ok (.aload_n 0, 1) := by decide +kernel
theorem dX0_takeWord_31 : decode cX0_takeWord 31 = .ok (.getfield 18, 3) := by decide +kernel
theorem dX0_takeWord_34 : decode cX0_takeWord 34 = .ok (.ldc 98, 2) := by decide +kernel
theorem dX0_takeWord_36 : decode cX0_takeWord 36 = .ok (.invokevirtual 52, 3) := by decide +kernel
theorem dX0_takeWord_39 : decode cX0_takeWord 39 = .ok (.ifCond .eq 11, 3) := by decide +kernel
theorem dX0_takeWord_42 : decode cX0_takeWord 42 = .ok (.aload_n 0, 1) := by decide +kernel
theorem dX0_takeWord_43 : decode cX0_takeWord 43 = .ok (.iconst 4, 1) := by decide +kernel
theorem dX0_takeWord_44 : decode cX0_takeWord 44 = .ok (.putfield 31, 3) := by decide +kernel
theorem dX0_takeWord_47 : decode cX0_takeWord 47 = .ok (.goto 87, 3) := by decide +kernel
theorem dX0_takeWord_50 : decode cX0_takeWord 50 = .ok (.iload_n 1, 1) := by decide +kernel
theorem dX0_takeWord_51 : decode cX0_takeWord 51 = .ok (.ifCond .eq 37, 3) := by decide +kernel
theorem dX0_takeWord_54 : decode cX0_takeWord 54 = .ok (.aload_n 0, 1) := by decide +kernel
theorem dX0_takeWord_55 : decode cX0_takeWord 55 = .ok (.getfield 18, 3) := by decide +kernel
theorem dX0_takeWord_58 : decode cX0_takeWord 58 = .ok (.ldc 100, 2) := by decide +kernel
theorem dX0_takeWord_60 : decode cX0_takeWord 60 = .ok (.invokevirtual 52, 3) := by decide +kernel
theorem dX0_takeWord_63 : decode cX0_takeWord 63 = .ok (.ifCond .eq 25, 3) := by decide +kernel
theorem dX0_takeWord_66 : decode cX0_takeWord 66 = .ok (.aload_n 0, 1) := by decide +kernel
theorem dX0_takeWord_67 : decode cX0_takeWord 67 = .ok (.getfield 12, 3) := by decide +kernel
theorem dX0_takeWord_70 : decode cX0_takeWord 70 = .ok (.getfield 102, 3) := by decide +kernel
theorem dX0_takeWord_73 : decode cX0_takeWord 73 = .ok (.aload_n 0, 1) := by decide +kernel
theorem dX0_takeWord_74 : decode cX0_takeWord 74 = .ok (.getfield 91, 3) := by decide +kernel
theorem dX0_takeWord_77 : decode cX0_takeWord 77 = .ok (.iconst 1, 1) := by decide +kernel
theorem dX0_takeWord_78 : decode cX0_takeWord 78 = .ok (.iastore, 1) := by decide +kernel
theorem dX0_takeWord_79 : decode cX0_takeWord 79 = .ok (.aload_n 0, 1) := by decide +kernel
theorem dX0_takeWord_80 : decode cX0_takeWord 80 = .ok (.bipush 6, 2) := by decide +kernel
theorem dX0_takeWord_82 : decode cX0_takeWord 82 = .ok (.putfield 31, 3) := by decide +kernel
theorem dX0_takeWord_85 : decode cX0_takeWord 85 = .ok (.goto 49, 3) := by decide +kernel
theorem dX0_takeWord_88 : decode cX0_takeWord 88 = .ok (.iload_n 1, 1) := by decide +kernel
theorem dX0_takeWord_89 : decode cX0_takeWord 89 = .ok (.ifCond .eq 37, 3) := by decide +kernel
theorem dX0_takeWord_92 : decode cX0_takeWord 92 = .ok (.aload_n 0, 1) := by decide +kernel
theorem dX0_takeWord_93 : decode cX0_takeWord 93 = .ok (.getfield 18, 3) := by decide +kernel
theorem dX0_takeWord_96 : decode cX0_takeWord 96 = .ok (.ldc 105, 2) := by decide +kernel
theorem dX0_takeWord_98 : decode cX0_takeWord 98 = .ok (.invokevirtual 52, 3) := by decide +kernel
theorem dX0_takeWord_101 : decode cX0_takeWord 101 = .ok (.ifCond .eq 25, 3) := by decide +kernel
theorem dX0_takeWord_104 : decode cX0_takeWord 104 = .ok (.aload_n 0, 1) := by decide +kernel
theorem dX0_takeWord_105 : decode cX0_takeWord 105 = .ok (.getfield 12, 3) := by decide +kernel
theorem dX0_takeWord_108 : decode cX0_takeWord 108 = .ok (.getfield 102, 3) := by decide +kernel
theorem dX0_takeWord_111 : decode cX0_takeWord 111 = .ok (.aload_n 0, 1) := by decide +kernel
theorem dX0_takeWord_112 : decode cX0_takeWord 112 = .ok (.getfield 91, 3) := by decide +kernel
theorem dX0_takeWord_115 : decode cX0_takeWord 115 = .ok (.iconst 2, 1) := by decide +kernel
theorem dX0_takeWord_116 : decode cX0_takeWord 116 = .ok (.iastore, 1) := by decide +kernel
theorem dX0_takeWord_117 : decode cX0_takeWord 117 = .ok (.aload_n 0, 1) := by decide +kernel
theorem dX0_takeWord_118 : decode cX0_takeWord 118 = .ok (.bipush 6, 2) := by decide +kernel
theorem dX0_takeWord_120 : decode cX0_takeWord 120 = .ok (.putfield 31, 3) := by decide +kernel
theorem dX0_takeWord_123 : decode cX0_takeWord 123 = .ok (.goto 11, 3) := by decide +kernel
theorem dX0_takeWord_126 : decode cX0_takeWord 126 = .ok (.aload_n 0, 1) := by decide +kernel
theorem dX0_takeWord_127 : decode cX0_takeWord 127 = .ok (.getfield 18, 3) := by decide +kernel
theorem dX0_takeWord_130 : decode cX0_takeWord 130 = .ok (.iconst 1, 1) := by decide +kernel
theorem dX0_takeWord_131 : decode cX0_takeWord 131 = .ok (.invokevirtual 72, 3) := by decide +kernel
theorem dX0_takeWord_134 : decode cX0_takeWord 134 = .ok (.return_, 1) := by decide +kernel
theorem dX0_take_0 : decode cX0_take 0 = .ok (.aload_n 0, 1) := by decide +kernel
theorem dX0_take_1 : decode cX0_take 1 = .ok (.getfield 31, 3) := by decide +kernel
theorem dX0_take_4 : decode cX0_take 4 = .ok (.ifCond .ne 20, 3) := by decide +kernel
theorem dX0_take_7 : decode cX0_take 7 = .ok (.aload_n 0, 1) := by decide +kernel
theorem dX0_take_8 : decode cX0_take 8 = .ok (.aload_n 0, 1) := by decide +kernel
theorem dX0_take_9 : decode cX0_take 9 = .ok (.getfield 18, 3) := by decide +kernel
theorem dX0_take_12 : decode cX0_take 12 = .ok (.ldc 50, 2) := by decide +kernel
theorem dX0_take_14 : decode cX0_take 14 = .ok (.invokevirtual 52, 3) := by decide +kernel
theorem dX0_take_17 : decode cX0_take 17 = .ok (.iconst 1, 1) := by decide +kernel
theorem dX0_take_18 : decode cX0_take 18 = .ok (.invokevirtual 56, 3) := by decide +kernel
theorem dX0_take_21 : decode cX0_take 21 = .ok (.goto 88, 3) := by decide +kernel
theorem dX0_take_24 : decode cX0_take 24 = .ok (.aload_n 0, 1) := by decide +kernel
theorem dX0_take_25 : decode cX0_take 25 = .ok (.getfield 31, 3) := by decide +kernel
theorem dX0_take_28 : decode cX0_take 28 = .ok (.iconst 1, 1) := by decide +kernel
theorem dX0_take_29 : decode cX0_take 29 = .ok (.if_icmp .ne 10, 3) := by decide +kernel
theorem dX0_take_32 : decode cX0_take 32 = .ok (.aload_n 0, 1) := by decide +kernel
theorem dX0_take_33 : decode cX0_take 33 = .ok (.invokevirtual 60, 3) := by decide +kernel
theorem dX0_take_36 : decode cX0_take 36 = .ok (.goto 73, 3) := by decide +kernel
theorem dX0_take_39 : decode cX0_take 39 = .ok (.aload_n 0, 1) := by decide +kernel
theorem dX0_take_40 : decode cX0_take 40 = .ok (.getfield 31, 3) := by decide +kernel
theorem dX0_take_43 : decode cX0_take 43 = .ok (.iconst 4, 1) := by decide +kernel
theorem dX0_take_44 : decode cX0_take 44 = .ok (.if_icmp .ne 10, 3) := by decide +kernel
theorem dX0_take_47 : decode cX0_take 47 = .ok (.aload_n 0, 1) := by decide +kernel
theorem dX0_take_48 : decode cX0_take 48 = .ok (.invokevirtual 63, 3) := by decide +kernel
theorem dX0_take_51 : decode cX0_take 51 = .ok (.goto 58, 3) := by decide +kernel
theorem dX0_take_54 : decode cX0_take 54 = .ok (.aload_n 0, 1) := by decide +kernel
theorem dX0_take_55 : decode cX0_take 55 = .ok (.getfield 18, 3) := by decide +kernel
theorem dX0_take_58 : decode cX0_take 58 = .ok (.getfield 43, 3) := by decide +kernel
theorem dX0_take_61 : decode cX0_take 61 = .ok (.iconst 2, 1) := by decide +kernel
theorem dX0_take_62 : decode cX0_take 62 = .ok (.if_icmp .ne 11, 3) := by decide +kernel
theorem dX0_take_65 : decode cX0_take 65 = .ok (.aload_n 0, 1) := by decide +kernel
theorem dX0_take_66 : decode cX0_take 66 = .ok (.iload_n 1, 1) := by decide +kernel
theorem dX0_take_67 : decode cX0_take 67 = .ok (.invokevirtual 66, 3) := by decide +kernel
theorem dX0_take_70 : decode cX0_take 70 = .ok (.goto 39, 3) := by decide +kernel
theorem dX0_take_73 : decode cX0_take 73 = .ok (.aload_n 0, 1) := by decide +kernel
theorem dX0_take_74 : decode cX0_take 74 = .ok (.getfield 18, 3) := by decide +kernel
theorem dX0_take_77 : decode cX0_take 77 = .ok (.getfield 43, 3) := by decide +kernel
theorem dX0_take_80 : decode cX0_take 80 = .ok (.iconst 3, 1) := by decide +kernel
theorem dX0_take_81 : decode cX0_take 81 = .ok (.if_icmp .ne 24, 3) := by decide +kernel
theorem dX0_take_84 : decode cX0_take 84 = .ok (.aload_n 0, 1) := by decide +kernel
theorem dX0_take_85 : decode cX0_take 85 = .ok (.aload_n 0, 1) := by decide +kernel
theorem dX0_take_86 : decode cX0_take 86 = .ok (.getfield 31, 3) := by decide +kernel
theorem dX0_take_89 : decode cX0_take 89 = .ok (.iconst 2, 1) := by decide +kernel
theorem dX0_take_90 : decode cX0_take 90 = .ok (.if_icmp .eq 7, 3) := by decide +kernel
theorem dX0_take_93 : decode cX0_take 93 = .ok (.iconst 1, 1) := by decide +kernel
theorem dX0_take_94 : decode cX0_take 94 = .ok (.goto 4, 3) := by decide +kernel
theorem dX0_take_97 : decode cX0_take 97 = .ok (.iconst 0, 1) := by decide +kernel
theorem dX0_take_98 : decode cX0_take 98 = .ok (.iconst 0, 1) := by decide +kernel
theorem dX0_take_99 : decode cX0_take 99 = .ok (.invokevirtual 56, 3) := by decide +kernel
theorem dX0_take_102 : decode cX0_take 102 = .ok (.goto 7, 3) := by decide +kernel
theorem dX0_take_105 : decode cX0_take 105 = .ok (.aload_n 0, 1) := by decide +kernel
theorem dX0_take_106 : decode cX0_take 106 = .ok (.invokevirtual 69, 3) := by decide +kernel
theorem dX0_take_109 : decode cX0_take 109 = .ok (.return_, 1) := by decide +kernel
theorem dX0_readAll_0 : decode cX0_readAll 0 = .ok (.aload_n 0, 1) := by decide +kernel
theorem dX0_readAll_1 : decode cX0_readAll 1 = .ok (.getfield 18, 3) := by decide +kernel
theorem dX0_readAll_4 : decode cX0_readAll 4 = .ok (.invokevirtual 22, 3) := by decide +kernel
theorem dX0_readAll_7 : decode cX0_readAll 7 = .ok (.aload_n 0, 1) := by decide +kernel
theorem dX0_readAll_8 : decode cX0_readAll 8 = .ok (.getfield 12, 3) := by decide +kernel
theorem dX0_readAll_11 : decode cX0_readAll 11 = .ok (.iconst 0, 1) := by decide +kernel
theorem dX0_readAll_12 : decode cX0_readAll 12 = .ok (.putfield 27, 3) := by decide +kernel
theorem dX0_readAll_15 : decode cX0_readAll 15 = .ok (.aload_n 0, 1) := by decide +kernel
theorem dX0_readAll_16 : decode cX0_readAll 16 = .ok (.iconst 0, 1) := by decide +kernel
theorem dX0_readAll_17 : decode cX0_readAll 17 = .ok (.putfield 31, 3) := by decide +kernel
theorem dX0_readAll_20 : decode cX0_readAll 20 = .ok (.aload_n 0, 1) := by decide +kernel
theorem dX0_readAll_21 : decode cX0_readAll 21 = .ok (.iconst 0, 1) := by decide +kernel
theorem dX0_readAll_22 : decode cX0_readAll 22 = .ok (.putfield 34, 3) := by decide +kernel
theorem dX0_readAll_25 : decode cX0_readAll 25 = .ok (.iconst 0, 1) := by decide +kernel
theorem dX0_readAll_26 : decode cX0_readAll 26 = .ok (.istore_n 2, 1) := by decide +kernel
theorem dX0_readAll_27 : decode cX0_readAll 27 = .ok (.iconst 0, 1) := by decide +kernel
theorem dX0_readAll_28 : decode cX0_readAll 28 = .ok (.istore_n 3, 1) := by decide +kernel
theorem dX0_readAll_29 : decode cX0_readAll 29 = .ok (.iload_n 3, 1) := by decide +kernel
theorem dX0_readAll_30 : decode cX0_readAll 30 = .ok (.sipush 1200, 3) := by decide +kernel
theorem dX0_readAll_33 : decode cX0_readAll 33 = .ok (.if_icmp .gt 62, 3) := by decide +kernel
theorem dX0_readAll_36 : decode cX0_readAll 36 = .ok (.iload_n 2, 1) := by decide +kernel
theorem dX0_readAll_37 : decode cX0_readAll 37 = .ok (.ifCond .ne 58, 3) := by decide +kernel
theorem dX0_readAll_40 : decode cX0_readAll 40 = .ok (.aload_n 0, 1) := by decide +kernel
theorem dX0_readAll_41 : decode cX0_readAll 41 = .ok (.getfield 18, 3) := by decide +kernel
theorem dX0_readAll_44 : decode cX0_readAll 44 = .ok (.getfield 37, 3) := by decide +kernel
theorem dX0_readAll_47 : decode cX0_readAll 47 = .ok (.ifCond .ne 48, 3) := by decide +kernel
theorem dX0_readAll_50 : decode cX0_readAll 50 = .ok (.aload_n 0, 1) := by decide +kernel
theorem dX0_readAll_51 : decode cX0_readAll 51 = .ok (.getfield 18, 3) := by decide +kernel
theorem dX0_readAll_54 : decode cX0_readAll 54 = .ok (.invokevirtual 40, 3) := by decide +kernel
theorem dX0_readAll_57 : decode cX0_readAll 57 = .ok (.aload_n 0, 1) := by decide +kernel
theorem dX0_readAll_58 : decode cX0_readAll 58 = .ok (.getfield 18, 3) := by decide +kernel
theorem dX0_readAll_61 : decode cX0_readAll 61 = .ok (.getfield 43, 3) := by decide +kernel
theorem dX0_readAll_64 : decode cX0_readAll 64 = .ok (.ifCond .ne 14, 3) := by decide +kernel
theorem dX0_readAll_67 : decode cX0_readAll 67 = .ok (.aload_n 0, 1) := by decide +kernel
theorem dX0_readAll_68 : decode cX0_readAll 68 = .ok (.getfield 31, 3) := by decide +kernel
theorem dX0_readAll_71 : decode cX0_readAll 71 = .ok (.ifCond .ne 7, 3) := by decide +kernel
theorem dX0_readAll_74 : decode cX0_readAll 74 = .ok (.iconst 1, 1) := by decide +kernel
theorem dX0_readAll_75 : decode cX0_readAll 75 = .ok (.goto 4, 3) := by decide +kernel
theorem dX0_readAll_78 : decode cX0_readAll 78 = .ok (.iconst 0, 1) := by decide +kernel
theorem dX0_readAll_79 : decode cX0_readAll 79 = .ok (.istore_n 2, 1) := by decide +kernel
theorem dX0_readAll_80 : decode cX0_readAll 80 = .ok (.iload_n 2, 1) := by decide +kernel
theorem dX0_readAll_81 : decode cX0_readAll 81 = .ok (.ifCond .ne 8, 3) := by decide +kernel
theorem dX0_readAll_84 : decode cX0_readAll 84 = .ok (.aload_n 0, 1) := by decide +kernel
theorem dX0_readAll_85 : decode cX0_readAll 85 = .ok (.iload_n 1, 1) := by decide +kernel
theorem dX0_readAll_86 : decode cX0_readAll 86 = .ok (.invokevirtual 46, 3) := by decide +kernel
theorem dX0_readAll_89 : decode cX0_readAll 89 = .ok (.iinc 3 1, 3) := by decide +kernel
theorem dX0_readAll_92 : decode cX0_readAll 92 = .ok (.goto (-63), 3) := by decide +kernel
theorem dX0_readAll_95 : decode cX0_readAll 95 = .ok (.iload_n 2, 1) := by decide +kernel
theorem dX0_readAll_96 : decode cX0_readAll 96 = .ok (.ireturn, 1) := by decide +kernel
abbrev mX10_isWord : MI := (yX10_isWord, cX10_isWord, 4, some .boolean, 5, 106, [])
abbrev mX0_goOnIf : MI := (yX0_goOnIf, cX0_goOnIf, 3, none, 2, 42, [])
abbrev mX0_takeBeat : MI := (yX0_takeBeat, cX0_takeBeat, 1, none, 3, 64, [])
abbrev mX0_takeBell : MI := (yX0_takeBell, cX0_takeBell, 2, none, 2, 45, [])
abbrev mX0_takeLength : MI := (yX0_takeLength, cX0_takeLength, 1, none, 3, 64, [])
abbrev mX0_takeWord : MI := (yX0_takeWord, cX0_takeWord, 2, none, 6, 129, [])
abbrev mX0_take : MI := (yX0_take, cX0_take, 2, none, 7, 150, [])
abbrev mX0_readAll : MI := (yX0_readAll, cX0_readAll, 4, some .boolean, 8, 171, [])
theorem kB_6 : (Int8.ofInt 6).toInt32 = 6 := by decide
theorem kB_16 : (Int8.ofInt 16).toInt32 = 16 := by decide
theorem kI_5 : Int32.ofInt 5 = 5 := by decide
theorem kS_160 : (Int16.ofInt 160).toInt32 = 160 := by decide
theorem fk_X0_12 : Fk RX0 12 0 1 := ⟨RX0, TX0, 5, tyX0, rfl, inX0, by decide, lw_in (i := 127) (by decide +kernel) (by decide +kernel), tyX0_ok, nmX0⟩
theorem fk_X0_18 : Fk RX0 18 0 0 := ⟨RX0, TX0, 5, tyX0, rfl, inX0, by decide, lw_in (i := 126) (by decide +kernel) (by decide +kernel), tyX0_ok, nmX0⟩
theorem fk_X0_27 : Fk RX0 27 9 4 := ⟨RX9, TX9, 5, tyX9, rfl, inX9, by decide, lw_in (i := 106) (by decide +kernel) (by decide +kernel), tyX9_ok, nmX9⟩
theorem fk_X0_31 : Fk RX0 31 0 2 := ⟨RX0, TX0, 5, tyX0, rfl, inX0, by decide, lw_in (i := 129) (by decide +kernel) (by decide +kernel), tyX0_ok, nmX0⟩
theorem fk_X0_34 : Fk RX0 34 0 3 := ⟨RX0, TX0, 5, tyX0, rfl, inX0, by decide, lw_in (i := 130) (by decide +kernel) (by decide +kernel), tyX0_ok, nmX0⟩
theorem fk_X0_37 : Fk RX0 37 10 3 := ⟨RX10, TX10, 8, tyX10, rfl, inX10, by decide, lw_in (i := 45) (by decide +kernel) (by decide +kernel), tyX10_ok, nmX10⟩
theorem fk_X0_43 : Fk RX0 43 10 1 := ⟨RX10, TX10, 8, tyX10, rfl, inX10, by decide, lw_in (i := 39) (by decide +kernel) (by decide +kernel), tyX10_ok, nmX10⟩
theorem fk_X0_76 : Fk RX0 76 10 2 := ⟨RX10, TX10, 8, tyX10, rfl, inX10, by decide, lw_in (i := 43) (by decide +kernel) (by decide +kernel), tyX10_ok, nmX10⟩
theorem fk_X0_91 : Fk RX0 91 0 4 := ⟨RX0, TX0, 5, tyX0, rfl, inX0, by decide, lw_in (i := 131) (by decide +kernel) (by decide +kernel), tyX0_ok, nmX0⟩
theorem fk_X0_94 : Fk RX0 94 9 2 := ⟨RX9, TX9, 5, tyX9, rfl, inX9, by decide, lw_in (i := 98) (by decide +kernel) (by decide +kernel), tyX9_ok, nmX9⟩
theorem fk_X0_102 : Fk RX0 102 9 3 := ⟨RX9, TX9, 5, tyX9, rfl, inX9, by decide, lw_in (i := 102) (by decide +kernel) (by decide +kernel), tyX9_ok, nmX9⟩
theorem fp_X0_2 : Fp 0 2 .int := ⟨RX0, TX0, 5, rfl, rfl, by decide +kernel⟩
theorem fp_X0_3 : Fp 0 3 .int := ⟨RX0, TX0, 5, rfl, rfl, by decide +kernel⟩
theorem fp_X0_4 : Fp 0 4 .int := ⟨RX0, TX0, 5, rfl, rfl, by decide +kernel⟩
theorem mi_X11_isBell : Cond.initialized mX11_isBell.y.cls ∈ lw_w ∧ Cond.code mX11_isBell.y mX11_isBell.cc mX11_isBell.nL mX11_isBell.ret ∈ lw_w := ⟨lw_in (i := 1) (by decide +kernel) (by decide +kernel), lw_in (i := 592) (by decide +kernel) (by decide +kernel)⟩
theorem ms_X11_isBell : Cond.static mX11_isBell.y ∈ lw_w := lw_in (i := 591) (by decide +kernel) (by decide +kernel)
theorem mv_J0_charAt_5068e : MkV mJ0_charAt_5068e := ⟨lw_in (i := 533) (by decide +kernel) (by decide +kernel), lw_in (i := 534) (by decide +kernel) (by decide +kernel)⟩
theorem mv_J0_length_8abf5 : MkV mJ0_length_8abf5 := ⟨lw_in (i := 523) (by decide +kernel) (by decide +kernel), lw_in (i := 524) (by decide +kernel) (by decide +kernel)⟩
theorem mv_X0_goOnIf : MkV mX0_goOnIf := ⟨lw_in (i := 572) (by decide +kernel) (by decide +kernel), lw_se (i := 4) (by decide +kernel) (by decide +kernel)⟩
theorem mv_X0_take : MkV mX0_take := ⟨lw_in (i := 515) (by decide +kernel) (by decide +kernel), lw_se (i := 3) (by decide +kernel) (by decide +kernel)⟩
theorem mv_X0_takeBeat : MkV mX0_takeBeat := ⟨lw_in (i := 580) (by decide +kernel) (by decide +kernel), lw_se (i := 5) (by decide +kernel) (by decide +kernel)⟩
theorem mv_X0_takeBell : MkV mX0_takeBell := ⟨lw_in (i := 588) (by decide +kernel) (by decide +kernel), lw_se (i := 7) (by decide +kernel) (by decide +kernel)⟩
theorem mv_X0_takeLength : MkV mX0_takeLength := ⟨lw_in (i := 584) (by decide +kernel) (by decide +kernel), lw_se (i := 6) (by decide +kernel) (by decide +kernel)⟩
theorem mv_X0_takeWord : MkV mX0_takeWord := ⟨lw_in (i := 603) (by decide +kernel) (by decide +kernel), lw_se (i := 8) (by decide +kernel) (by decide +kernel)⟩
theorem mv_X10_isWord : MkV mX10_isWord := ⟨lw_in (i := 519) (by decide +kernel) (by decide +kernel), lw_in (i := 520) (by decide +kernel) (by decide +kernel)⟩
theorem mv_X10_readToken : MkV mX10_readToken := ⟨lw_in (i := 489) (by decide +kernel) (by decide +kernel), lw_in (i := 490) (by decide +kernel) (by decide +kernel)⟩
theorem mv_X10_refuse : MkV mX10_refuse := ⟨lw_in (i := 575) (by decide +kernel) (by decide +kernel), lw_in (i := 576) (by decide +kernel) (by decide +kernel)⟩
theorem mv_X10_start : MkV mX10_start := ⟨lw_in (i := 485) (by decide +kernel) (by decide +kernel), lw_in (i := 486) (by decide +kernel) (by decide +kernel)⟩
theorem mv_X9_hasAt : MkV mX9_hasAt := ⟨lw_in (i := 594) (by decide +kernel) (by decide +kernel), lw_in (i := 595) (by decide +kernel) (by decide +kernel)⟩
theorem mv_X9_insert : MkV mX9_insert := ⟨lw_in (i := 598) (by decide +kernel) (by decide +kernel), lw_in (i := 599) (by decide +kernel) (by decide +kernel)⟩
theorem mk_X0_22 : Mk RX0 22 mX10_start 0 := ⟨lw_in (i := 484) (by decide +kernel) (by decide +kernel), lw_in (i := 2) (by decide +kernel) (by decide +kernel), lw_in (i := 487) (by decide +kernel) (by decide +kernel), by decide +kernel⟩
theorem mk_X0_40 : Mk RX0 40 mX10_readToken 0 := ⟨lw_in (i := 488) (by decide +kernel) (by decide +kernel), lw_in (i := 2) (by decide +kernel) (by decide +kernel), lw_in (i := 491) (by decide +kernel) (by decide +kernel), by decide +kernel⟩
theorem mk_X0_46 : Mk RX0 46 mX0_take 1 := ⟨lw_in (i := 513) (by decide +kernel) (by decide +kernel), lw_in (i := 3) (by decide +kernel) (by decide +kernel), lw_in (i := 516) (by decide +kernel) (by decide +kernel), by decide +kernel⟩
theorem mk_X0_52 : Mk RX0 52 mX10_isWord 1 := ⟨lw_in (i := 518) (by decide +kernel) (by decide +kernel), lw_in (i := 2) (by decide +kernel) (by decide +kernel), lw_in (i := 521) (by decide +kernel) (by decide +kernel), by decide +kernel⟩
theorem mk_X0_56 : Mk RX0 56 mX0_goOnIf 2 := ⟨lw_in (i := 570) (by decide +kernel) (by decide +kernel), lw_in (i := 3) (by decide +kernel) (by decide +kernel), lw_in (i := 573) (by decide +kernel) (by decide +kernel), by decide +kernel⟩
theorem mk_X0_60 : Mk RX0 60 mX0_takeBeat 0 := ⟨lw_in (i := 578) (by decide +kernel) (by decide +kernel), lw_in (i := 3) (by decide +kernel) (by decide +kernel), lw_in (i := 581) (by decide +kernel) (by decide +kernel), by decide +kernel⟩
theorem mk_X0_63 : Mk RX0 63 mX0_takeLength 0 := ⟨lw_in (i := 582) (by decide +kernel) (by decide +kernel), lw_in (i := 3) (by decide +kernel) (by decide +kernel), lw_in (i := 585) (by decide +kernel) (by decide +kernel), by decide +kernel⟩
theorem mk_X0_66 : Mk RX0 66 mX0_takeBell 1 := ⟨lw_in (i := 586) (by decide +kernel) (by decide +kernel), lw_in (i := 3) (by decide +kernel) (by decide +kernel), lw_in (i := 589) (by decide +kernel) (by decide +kernel), by decide +kernel⟩
theorem mk_X0_69 : Mk RX0 69 mX0_takeWord 0 := ⟨lw_in (i := 601) (by decide +kernel) (by decide +kernel), lw_in (i := 3) (by decide +kernel) (by decide +kernel), lw_in (i := 604) (by decide +kernel) (by decide +kernel), by decide +kernel⟩
theorem mk_X0_72 : Mk RX0 72 mX10_refuse 1 := ⟨lw_in (i := 574) (by decide +kernel) (by decide +kernel), lw_in (i := 2) (by decide +kernel) (by decide +kernel), lw_in (i := 577) (by decide +kernel) (by decide +kernel), by decide +kernel⟩
theorem mk_X0_83 : Mk RX0 83 mX9_hasAt 2 := ⟨lw_in (i := 593) (by decide +kernel) (by decide +kernel), lw_in (i := 4) (by decide +kernel) (by decide +kernel), lw_in (i := 596) (by decide +kernel) (by decide +kernel), by decide +kernel⟩
theorem mk_X0_87 : Mk RX0 87 mX9_insert 2 := ⟨lw_in (i := 597) (by decide +kernel) (by decide +kernel), lw_in (i := 4) (by decide +kernel) (by decide +kernel), lw_in (i := 600) (by decide +kernel) (by decide +kernel), by decide +kernel⟩
theorem mk_X10_57 : Mk RX10 57 mJ0_length_8abf5 0 := ⟨lw_in (i := 522) (by decide +kernel) (by decide +kernel), lw_in (i := 18) (by decide +kernel) (by decide +kernel), lw_in (i := 525) (by decide +kernel) (by decide +kernel), by decide +kernel⟩
theorem mk_X10_63 : Mk RX10 63 mJ0_charAt_5068e 1 := ⟨lw_in (i := 532) (by decide +kernel) (by decide +kernel), lw_in (i := 18) (by decide +kernel) (by decide +kernel), lw_in (i := 535) (by decide +kernel) (by decide +kernel), by decide +kernel⟩
theorem rm_X0_goOnIf_X10_refuse : Rm mX0_goOnIf mX10_refuse := ⟨by decide, by decide⟩
theorem rm_X0_readAll_X0_take : Rm mX0_readAll mX0_take := ⟨by decide, by decide⟩
theorem rm_X0_readAll_X10_readToken : Rm mX0_readAll mX10_readToken := ⟨by decide, by decide⟩
theorem rm_X0_readAll_X10_start : Rm mX0_readAll mX10_start := ⟨by decide, by decide⟩
theorem rm_X0_take_X0_goOnIf : Rm mX0_take mX0_goOnIf := ⟨by decide, by decide⟩
theorem rm_X0_take_X0_takeBeat : Rm mX0_take mX0_takeBeat := ⟨by decide, by decide⟩
theorem rm_X0_take_X0_takeBell : Rm mX0_take mX0_takeBell := ⟨by decide, by decide⟩
theorem rm_X0_take_X0_takeLength : Rm mX0_take mX0_takeLength := ⟨by decide, by decide⟩
theorem rm_X0_take_X0_takeWord : Rm mX0_take mX0_takeWord := ⟨by decide, by decide⟩
theorem rm_X0_take_X10_isWord : Rm mX0_take mX10_isWord := ⟨by decide, by decide⟩
theorem rm_X0_takeBeat_X0_goOnIf : Rm mX0_takeBeat mX0_goOnIf := ⟨by decide, by decide⟩
theorem rm_X0_takeBeat_X10_refuse : Rm mX0_takeBeat mX10_refuse := ⟨by decide, by decide⟩
theorem rm_X0_takeBell_X10_refuse : Rm mX0_takeBell mX10_refuse := ⟨by decide, by decide⟩
theorem rm_X0_takeBell_X11_isBell : Rm mX0_takeBell mX11_isBell := ⟨by decide, by decide⟩
theorem rm_X0_takeBell_X9_hasAt : Rm mX0_takeBell mX9_hasAt := ⟨by decide, by decide⟩
theorem rm_X0_takeBell_X9_insert : Rm mX0_takeBell mX9_insert := ⟨by decide, by decide⟩
theorem rm_X0_takeLength_X0_goOnIf : Rm mX0_takeLength mX0_goOnIf := ⟨by decide, by decide⟩
theorem rm_X0_takeLength_X10_refuse : Rm mX0_takeLength mX10_refuse := ⟨by decide, by decide⟩
theorem rm_X0_takeWord_X10_isWord : Rm mX0_takeWord mX10_isWord := ⟨by decide, by decide⟩
theorem rm_X0_takeWord_X10_refuse : Rm mX0_takeWord mX10_refuse := ⟨by decide, by decide⟩
theorem rm_X10_isWord_J0_charAt_5068e : Rm mX10_isWord mJ0_charAt_5068e := ⟨by decide, by decide⟩
theorem rm_X10_isWord_J0_length_8abf5 : Rm mX10_isWord mJ0_length_8abf5 := ⟨by decide, by decide⟩
theorem rm_X10_isWord_X10_byteAt : Rm mX10_isWord mX10_byteAt := ⟨by decide, by decide⟩
section W_text
variable {l : Launch} {D : va_G} {ad : Nat → Nat} {kA : Nat → ClassId} {M : Mem} {Q : Outcome → Mem → Prop}
theorem t_X10_isWord_0 {w : Nat} (hw : w < 15)
    (K1 : Fw l D ad kA mX10_isWord 32 [some (.ref (ad 1)), some (.ref (ad (210 + w))), some (.int (if (gI M 1 1) = 1 then if (v_J0_length_8abf5 w) = ((gI M 1 7) - (gI M 1 6)) then 1 else 0 else 0)), some (.int 0)] [] M Q) : Fw l D ad kA mX10_isWord 0 [some (.ref (ad 1)), some (.ref (ad (210 + w))), none, none] [] M Q := by
  refine r_aload_n dX10_isWord_0 rfl ?_
  refine r_getI dX10_isWord_1 fs_1_1 fk_X10_39 ?_
  refine r_iconst (v := 1) dX10_isWord_4 kI_1 ?_
  suffices hJ1 : Fw l D ad kA mX10_isWord 29 [some (.ref (ad 1)), some (.ref (ad (210 + w))), none, none] [.int (if (gI M 1 1) = 1 then if (v_J0_length_8abf5 w) = ((gI M 1 7) - (gI M 1 6)) then 1 else 0 else 0)] M Q by
    refine r_icmp_ne (tgt := 28) dX10_isWord_5 (by decide) (fun c1 => ?_) (fun c1 => ?_)
    · skip
      refine r_iconst (v := 0) dX10_isWord_28 kI_0 ?_
      exact q_weak (lo' := [some (.ref (ad 1)), some (.ref (ad (210 + w))), none, none]) ⟨rfl, rfl, trivial⟩ (by have h9 := hJ1; simp only [if_neg c1] at h9; first | exact h9 | (simp only [if_neg c1]; exact h9))
    · skip
      refine r_aload_n dX10_isWord_8 rfl ?_
      refine r_callT (i := w) (As := []) (rest := []) dX10_isWord_9 mk_X10_57 mv_J0_length_8abf5 rm_X10_isWord_J0_length_8abf5 rfl rfl hw rfl (Nat.le_of_ble_eq_true rfl) (ct_J0_length_8abf5 hw (⟨_, rfl, ?_⟩))
      refine r_aload_n dX10_isWord_12 rfl ?_
      refine r_getI dX10_isWord_13 fs_1_7 fk_X10_22 ?_
      refine r_aload_n dX10_isWord_16 rfl ?_
      refine r_getI dX10_isWord_17 fs_1_6 fk_X10_28 ?_
      refine r_isub dX10_isWord_20 ?_
      refine r_icmp_ne (tgt := 28) dX10_isWord_21 (by decide) (fun c2 => ?_) (fun c2 => ?_)
      · skip
        refine r_iconst (v := 0) dX10_isWord_28 kI_0 ?_
        exact q_weak (lo' := [some (.ref (ad 1)), some (.ref (ad (210 + w))), none, none]) ⟨rfl, rfl, trivial⟩ (by have h9 := hJ1; simp only [if_pos c1, if_neg c2] at h9; first | exact h9 | (simp only [if_pos c1, if_neg c2]; exact h9))
      · skip
        refine r_iconst (v := 1) dX10_isWord_24 kI_1 ?_
        refine r_goto (tgt := 29) dX10_isWord_25 (by decide) ?_
        exact q_weak (lo' := [some (.ref (ad 1)), some (.ref (ad (210 + w))), none, none]) ⟨rfl, rfl, trivial⟩ (by have h9 := hJ1; simp only [if_pos c1, if_pos c2] at h9; first | exact h9 | (simp only [if_pos c1, if_pos c2]; exact h9))
  refine q_istore_n (lo' := [some (.ref (ad 1)), some (.ref (ad (210 + w))), some (.int (if (gI M 1 1) = 1 then if (v_J0_length_8abf5 w) = ((gI M 1 7) - (gI M 1 6)) then 1 else 0 else 0)), none]) dX10_isWord_29 (by decide) rfl ?_
  refine r_iconst (v := 0) dX10_isWord_30 kI_0 ?_
  refine q_istore_n (lo' := [some (.ref (ad 1)), some (.ref (ad (210 + w))), some (.int (if (gI M 1 1) = 1 then if (v_J0_length_8abf5 w) = ((gI M 1 7) - (gI M 1 6)) then 1 else 0 else 0)), some (.int 0)]) dX10_isWord_31 (by decide) rfl ?_
  exact K1
theorem t_X10_isWord_32 {w : Nat} {x2 : Int32} {x3 : Int32} (hw : w < 15)
    (g1 : (x2 = 0) → x2 = 0 ∨ x2 = 1)
    (g2 : (¬ (x2 = 0)) → ((v_J0_length_8abf5 w) ≤ x3) → x2 = 0 ∨ x2 = 1)
    (g3 : (¬ (x2 = 0)) → (¬ ((v_J0_length_8abf5 w) ≤ x3)) → g_J0_charAt_5068e M w x3)
    (g4 : (¬ (x2 = 0)) → (¬ ((v_J0_length_8abf5 w) ≤ x3)) → g_X10_byteAt M ((gI M 1 6) + x3))
    (K1 : (x2 = 0) → Q (.returned (some (.int x2))) M)
    (K2 : (¬ (x2 = 0)) → ((v_J0_length_8abf5 w) ≤ x3) → Q (.returned (some (.int x2))) M)
    (K3 : (¬ (x2 = 0)) → (¬ ((v_J0_length_8abf5 w) ≤ x3)) → Fw l D ad kA mX10_isWord 32 [some (.ref (ad 1)), some (.ref (ad (210 + w))), some (.int (if (v_J0_charAt_5068e w x3) = (v_X10_byteAt M ((gI M 1 6) + x3)) then 1 else 0)), some (.int (x3 + 1))] [] M Q) : Fw l D ad kA mX10_isWord 32 [some (.ref (ad 1)), some (.ref (ad (210 + w))), some (.int x2), some (.int x3)] [] M Q := by
  refine r_iload_n dX10_isWord_32 rfl ?_
  refine r_if_eq (tgt := 74) dX10_isWord_33 (by decide) (fun c1 => ?_) (fun c1 => ?_)
  · skip
    refine r_iload_n dX10_isWord_74 rfl ?_
    exact r_zret dX10_isWord_75 rfl (nar_z (g1 c1)).1 (K1 c1)
  · skip
    refine r_iload_n dX10_isWord_36 rfl ?_
    refine r_aload_n dX10_isWord_37 rfl ?_
    refine r_callT (i := w) (As := []) (rest := [.int x3]) dX10_isWord_38 mk_X10_57 mv_J0_length_8abf5 rm_X10_isWord_J0_length_8abf5 rfl rfl hw rfl (Nat.le_of_ble_eq_true rfl) (ct_J0_length_8abf5 hw (⟨_, rfl, ?_⟩))
    refine r_icmp_ge (tgt := 74) dX10_isWord_41 (by decide) (fun c2 => ?_) (fun c2 => ?_)
    · skip
      refine r_iload_n dX10_isWord_74 rfl ?_
      exact r_zret dX10_isWord_75 rfl (nar_z (g2 c1 c2)).1 (K2 c1 c2)
    · skip
      refine r_aload_n dX10_isWord_44 rfl ?_
      refine r_iload_n dX10_isWord_45 rfl ?_
      refine r_callT (i := w) (As := [.int x3]) (rest := []) dX10_isWord_46 mk_X10_63 mv_J0_charAt_5068e rm_X10_isWord_J0_charAt_5068e rfl rfl hw rfl (Nat.le_of_ble_eq_true rfl) (ct_J0_charAt_5068e hw (g3 c1 c2) (⟨_, rfl, ?_⟩))
      refine r_aload_n dX10_isWord_49 rfl ?_
      refine r_aload_n dX10_isWord_50 rfl ?_
      refine r_getI dX10_isWord_51 fs_1_6 fk_X10_28 ?_
      refine r_iload_n dX10_isWord_54 rfl ?_
      refine r_iadd dX10_isWord_55 ?_
      refine r_callV (x := 1) (As := [.int ((gI M 1 6) + x3)]) (rest := [.int (v_J0_charAt_5068e w x3)]) dX10_isWord_56 mk_X10_31 mv_X10_byteAt rm_X10_isWord_X10_byteAt rfl rfl (by decide +kernel) (Nat.le_of_ble_eq_true rfl) (ct_X10_byteAt (g4 c1 c2) (⟨_, rfl, ?_⟩))
      suffices hJ1 : Fw l D ad kA mX10_isWord 67 [some (.ref (ad 1)), some (.ref (ad (210 + w))), none, some (.int x3)] [.int (if (v_J0_charAt_5068e w x3) = (v_X10_byteAt M ((gI M 1 6) + x3)) then 1 else 0)] M Q by
        refine r_icmp_ne (tgt := 66) dX10_isWord_59 (by decide) (fun c3 => ?_) (fun c3 => ?_)
        · skip
          refine r_iconst (v := 0) dX10_isWord_66 kI_0 ?_
          exact q_weak (lo' := [some (.ref (ad 1)), some (.ref (ad (210 + w))), none, some (.int x3)]) ⟨rfl, rfl, rfl, trivial⟩ (by have h9 := hJ1; simp only [if_neg c3] at h9; first | exact h9 | (simp only [if_neg c3]; exact h9))
        · skip
          refine r_iconst (v := 1) dX10_isWord_62 kI_1 ?_
          refine r_goto (tgt := 67) dX10_isWord_63 (by decide) ?_
          exact q_weak (lo' := [some (.ref (ad 1)), some (.ref (ad (210 + w))), none, some (.int x3)]) ⟨rfl, rfl, rfl, trivial⟩ (by have h9 := hJ1; simp only [if_pos c3] at h9; first | exact h9 | (simp only [if_pos c3]; exact h9))
      refine q_istore_n (lo' := [some (.ref (ad 1)), some (.ref (ad (210 + w))), some (.int (if (v_J0_charAt_5068e w x3) = (v_X10_byteAt M ((gI M 1 6) + x3)) then 1 else 0)), some (.int x3)]) dX10_isWord_67 (by decide) rfl ?_
      refine q_iinc (v := x3 + 1) (lo' := [some (.ref (ad 1)), some (.ref (ad (210 + w))), some (.int (if (v_J0_charAt_5068e w x3) = (v_X10_byteAt M ((gI M 1 6) + x3)) then 1 else 0)), some (.int (x3 + 1))]) dX10_isWord_68 rfl (congrArg (fun q => x3 + q) kI_1) (by decide) rfl ?_
      refine r_goto (tgt := 32) dX10_isWord_71 (by decide) ?_
      exact (K3 c1 c2)
theorem en_X10_isWord {w : Nat} (K : Fw l D ad kA mX10_isWord 0 [some (.ref (ad 1)), some (.ref (ad (210 + w))), none, none] [] M Q) : Cal l D ad kA mX10_isWord [.ref (ad 1), .ref (ad (210 + w))] M Q := Cal.of (by decide) rfl rfl (Nat.le_of_ble_eq_true rfl) K
theorem t_X0_goOnIf_0 {x1 : Int32} {x2 : Int32} 
    (K1 : (x1 = 0) → Cal l D ad kA mX10_refuse [.ref (ad 1), .int 1] M (fun oc M2 => oc = .returned none ∧ Fw l D ad kA mX0_goOnIf 20 [none, none, none] [] M2 Q))
    (K2 : (¬ (x1 = 0)) → Q (.returned none) (sI M 3 2 x2)) : Fw l D ad kA mX0_goOnIf 0 [some (.ref (ad 3)), some (.int x1), some (.int x2)] [] M Q := by
  refine r_iload_n dX0_goOnIf_0 rfl ?_
  refine r_if_eq (tgt := 12) dX0_goOnIf_1 (by decide) (fun c1 => ?_) (fun c1 => ?_)
  · skip
    refine r_aload_n dX0_goOnIf_12 rfl ?_
    refine r_getR dX0_goOnIf_13 fs_3_0 fk_X0_18 ?_
    refine r_iconst (v := 1) dX0_goOnIf_16 kI_1 ?_
    exact r_callV (x := 1) (As := [.int 1]) (rest := []) dX0_goOnIf_17 mk_X0_72 mv_X10_refuse rm_X0_goOnIf_X10_refuse rfl rfl (by decide +kernel) (Nat.le_of_ble_eq_true rfl) (cal_v (lo' := [none, none, none]) trivial (K1 c1))
  · skip
    refine r_aload_n dX0_goOnIf_4 rfl ?_
    refine r_iload_n dX0_goOnIf_5 rfl ?_
    refine r_putI dX0_goOnIf_6 fs_3_2 fk_X0_31 fp_X0_2 ?_
    refine r_goto (tgt := 20) dX0_goOnIf_9 (by decide) ?_
    exact r_vret dX0_goOnIf_20 rfl (K2 c1)
theorem t_X0_goOnIf_20  
    (K1 : Q (.returned none) M) : Fw l D ad kA mX0_goOnIf 20 [none, none, none] [] M Q := by
  exact r_vret dX0_goOnIf_20 rfl K1
theorem en_X0_goOnIf {x1 : Int32} {x2 : Int32} (K : Fw l D ad kA mX0_goOnIf 0 [some (.ref (ad 3)), some (.int x1), some (.int x2)] [] M Q) : Cal l D ad kA mX0_goOnIf [.ref (ad 3), .int x1, .int x2] M Q := Cal.of (by decide) rfl rfl (Nat.le_of_ble_eq_true rfl) K
theorem t_X0_takeBeat_0  
    (K1 : Cal l D ad kA mX0_goOnIf [.ref (ad 3), .int (if (gI M 1 1) = 2 then 1 else 0), .int 2] M (fun oc M2 => oc = .returned none ∧ Fw l D ad kA mX0_takeBeat 21 [some (.ref (ad 3))] [] M2 Q)) : Fw l D ad kA mX0_takeBeat 0 [some (.ref (ad 3))] [] M Q := by
  refine r_aload_n dX0_takeBeat_0 rfl ?_
  refine r_aload_n dX0_takeBeat_1 rfl ?_
  refine r_getR dX0_takeBeat_2 fs_3_0 fk_X0_18 ?_
  refine r_getI dX0_takeBeat_5 fs_1_1 fk_X0_43 ?_
  refine r_iconst (v := 2) dX0_takeBeat_8 kI_2 ?_
  suffices hJ1 : Fw l D ad kA mX0_takeBeat 17 [some (.ref (ad 3))] [.int (if (gI M 1 1) = 2 then 1 else 0), .ref (ad 3)] M Q by
    refine r_icmp_ne (tgt := 16) dX0_takeBeat_9 (by decide) (fun c1 => ?_) (fun c1 => ?_)
    · skip
      refine r_iconst (v := 0) dX0_takeBeat_16 kI_0 ?_
      exact q_weak (lo' := [some (.ref (ad 3))]) ⟨rfl, trivial⟩ (by have h9 := hJ1; simp only [if_neg c1] at h9; first | exact h9 | (simp only [if_neg c1]; exact h9))
    · skip
      refine r_iconst (v := 1) dX0_takeBeat_12 kI_1 ?_
      refine r_goto (tgt := 17) dX0_takeBeat_13 (by decide) ?_
      exact q_weak (lo' := [some (.ref (ad 3))]) ⟨rfl, trivial⟩ (by have h9 := hJ1; simp only [if_pos c1] at h9; first | exact h9 | (simp only [if_pos c1]; exact h9))
  refine r_iconst (v := 2) dX0_takeBeat_17 kI_2 ?_
  exact r_callV (x := 3) (As := [.int (if (gI M 1 1) = 2 then 1 else 0), .int 2]) (rest := []) dX0_takeBeat_18 mk_X0_56 mv_X0_goOnIf rm_X0_takeBeat_X0_goOnIf rfl rfl (by decide +kernel) (Nat.le_of_ble_eq_true rfl) (cal_v (lo' := [some (.ref (ad 3))]) ⟨rfl, trivial⟩ K1)
theorem t_X0_takeBeat_21  
    (K1 : (¬ ((gI M 1 3) = 0)) → Q (.returned none) (sI M 3 3 (gI M 1 2)))
    (K2 : ((gI M 1 3) = 0) → ((gI M 3 3) ≤ (gI M 1 2)) → Q (.returned none) (sI M 3 3 (gI M 1 2)))
    (K3 : ((gI M 1 3) = 0) → (¬ ((gI M 3 3) ≤ (gI M 1 2))) → Cal l D ad kA mX10_refuse [.ref (ad 1), .int 2] M (fun oc M2 => oc = .returned none ∧ Fw l D ad kA mX0_takeBeat 53 [some (.ref (ad 3))] [] M2 Q)) : Fw l D ad kA mX0_takeBeat 21 [some (.ref (ad 3))] [] M Q := by
  refine r_aload_n dX0_takeBeat_21 rfl ?_
  refine r_getR dX0_takeBeat_22 fs_3_0 fk_X0_18 ?_
  refine r_getI dX0_takeBeat_25 fs_1_3 fk_X0_37 ?_
  refine r_if_ne (tgt := 53) dX0_takeBeat_28 (by decide) (fun c1 => ?_) (fun c1 => ?_)
  · skip
    refine r_aload_n dX0_takeBeat_53 rfl ?_
    refine r_aload_n dX0_takeBeat_54 rfl ?_
    refine r_getR dX0_takeBeat_55 fs_3_0 fk_X0_18 ?_
    refine r_getI dX0_takeBeat_58 fs_1_2 fk_X0_76 ?_
    refine r_putI dX0_takeBeat_61 fs_3_3 fk_X0_34 fp_X0_3 ?_
    exact r_vret dX0_takeBeat_64 rfl (K1 c1)
  · skip
    refine r_aload_n dX0_takeBeat_31 rfl ?_
    refine r_getR dX0_takeBeat_32 fs_3_0 fk_X0_18 ?_
    refine r_getI dX0_takeBeat_35 fs_1_2 fk_X0_76 ?_
    refine r_aload_n dX0_takeBeat_38 rfl ?_
    refine r_getI dX0_takeBeat_39 fs_3_3 fk_X0_34 ?_
    refine r_icmp_ge (tgt := 53) dX0_takeBeat_42 (by decide) (fun c2 => ?_) (fun c2 => ?_)
    · skip
      refine r_aload_n dX0_takeBeat_53 rfl ?_
      refine r_aload_n dX0_takeBeat_54 rfl ?_
      refine r_getR dX0_takeBeat_55 fs_3_0 fk_X0_18 ?_
      refine r_getI dX0_takeBeat_58 fs_1_2 fk_X0_76 ?_
      refine r_putI dX0_takeBeat_61 fs_3_3 fk_X0_34 fp_X0_3 ?_
      exact r_vret dX0_takeBeat_64 rfl (K2 c1 c2)
    · skip
      refine r_aload_n dX0_takeBeat_45 rfl ?_
      refine r_getR dX0_takeBeat_46 fs_3_0 fk_X0_18 ?_
      refine r_iconst (v := 2) dX0_takeBeat_49 kI_2 ?_
      exact r_callV (x := 1) (As := [.int 2]) (rest := []) dX0_takeBeat_50 mk_X0_72 mv_X10_refuse rm_X0_takeBeat_X10_refuse rfl rfl (by decide +kernel) (Nat.le_of_ble_eq_true rfl) (cal_v (lo' := [some (.ref (ad 3))]) ⟨rfl, trivial⟩ (K3 c1 c2))
theorem t_X0_takeBeat_53  
    (K1 : Q (.returned none) (sI M 3 3 (gI M 1 2))) : Fw l D ad kA mX0_takeBeat 53 [some (.ref (ad 3))] [] M Q := by
  refine r_aload_n dX0_takeBeat_53 rfl ?_
  refine r_aload_n dX0_takeBeat_54 rfl ?_
  refine r_getR dX0_takeBeat_55 fs_3_0 fk_X0_18 ?_
  refine r_getI dX0_takeBeat_58 fs_1_2 fk_X0_76 ?_
  refine r_putI dX0_takeBeat_61 fs_3_3 fk_X0_34 fp_X0_3 ?_
  exact r_vret dX0_takeBeat_64 rfl K1
theorem en_X0_takeBeat  (K : Fw l D ad kA mX0_takeBeat 0 [some (.ref (ad 3))] [] M Q) : Cal l D ad kA mX0_takeBeat [.ref (ad 3)] M Q := Cal.of (by decide) rfl rfl (Nat.le_of_ble_eq_true rfl) K
theorem t_X0_takeBell_0 {x1 : Int32} 
    (K1 : (¬ ((v_X11_isBell (gI M 1 2)) = 0)) → Cal l D ad kA mX9_hasAt [.ref (ad 4), .int (gI M 3 3), .int (gI M 1 2)] M (fun oc M2 => ∃ r : Int32, oc = .returned (some (.int r)) ∧ Fw l D ad kA mX0_takeBell 42 [some (.ref (ad 3)), some (.int x1)] [.int r] M2 Q))
    (K2 : ((v_X11_isBell (gI M 1 2)) = 0) → Cal l D ad kA mX10_refuse [.ref (ad 1), .int 2] M (fun oc M2 => oc = .returned none ∧ Fw l D ad kA mX0_takeBell 21 [none, none] [] M2 Q)) : Fw l D ad kA mX0_takeBell 0 [some (.ref (ad 3)), some (.int x1)] [] M Q := by
  refine r_aload_n dX0_takeBell_0 rfl ?_
  refine r_getR dX0_takeBell_1 fs_3_0 fk_X0_18 ?_
  refine r_getI dX0_takeBell_4 fs_1_2 fk_X0_76 ?_
  refine r_callN (As := [.int (gI M 1 2)]) (rest := []) (n := 1) (mi2 := mX11_isBell) dX0_takeBell_7 rfl (by decide) mi_X11_isBell.1 mi_X11_isBell.2 (by decide +kernel) ms_X11_isBell rm_X0_takeBell_X11_isBell rfl rfl (Nat.le_of_ble_eq_true rfl) (ct_X11_isBell (⟨_, rfl, ?_⟩))
  refine r_if_ne (tgt := 24) dX0_takeBell_10 (by decide) (fun c1 => ?_) (fun c1 => ?_)
  · skip
    refine r_aload_n dX0_takeBell_24 rfl ?_
    refine r_getR dX0_takeBell_25 fs_3_1 fk_X0_12 ?_
    refine r_aload_n dX0_takeBell_28 rfl ?_
    refine r_getI dX0_takeBell_29 fs_3_3 fk_X0_34 ?_
    refine r_aload_n dX0_takeBell_32 rfl ?_
    refine r_getR dX0_takeBell_33 fs_3_0 fk_X0_18 ?_
    refine r_getI dX0_takeBell_36 fs_1_2 fk_X0_76 ?_
    exact r_callV (x := 4) (As := [.int (gI M 3 3), .int (gI M 1 2)]) (rest := []) dX0_takeBell_39 mk_X0_83 mv_X9_hasAt rm_X0_takeBell_X9_hasAt rfl rfl (by decide +kernel) (Nat.le_of_ble_eq_true rfl) (cal_i (lo' := [some (.ref (ad 3)), some (.int x1)]) ⟨rfl, rfl, trivial⟩ (K1 c1))
  · skip
    refine r_aload_n dX0_takeBell_13 rfl ?_
    refine r_getR dX0_takeBell_14 fs_3_0 fk_X0_18 ?_
    refine r_iconst (v := 2) dX0_takeBell_17 kI_2 ?_
    exact r_callV (x := 1) (As := [.int 2]) (rest := []) dX0_takeBell_18 mk_X0_72 mv_X10_refuse rm_X0_takeBell_X10_refuse rfl rfl (by decide +kernel) (Nat.le_of_ble_eq_true rfl) (cal_v (lo' := [none, none]) trivial (K2 c1))
theorem t_X0_takeBell_42 {x1 : Int32} {s1 : Int32} 
    (K1 : (s1 = 0) → ((gI M 4 4) < 160) → Cal l D ad kA mX9_insert [.ref (ad 4), .int (gI M 3 3), .int (gI M 1 2)] M (fun oc M2 => ∃ r : Int32, oc = .returned (some (.int r)) ∧ Fw l D ad kA mX0_takeBell 99 [some (.ref (ad 3)), some (.int x1)] [.int r, .ref (ad 3)] M2 Q))
    (K2 : (s1 = 0) → (¬ ((gI M 4 4) < 160)) → Cal l D ad kA mX10_refuse [.ref (ad 1), .int 4] M (fun oc M2 => oc = .returned none ∧ Fw l D ad kA mX0_takeBell 77 [none, none] [] M2 Q))
    (K3 : (¬ (s1 = 0)) → Cal l D ad kA mX10_refuse [.ref (ad 1), .int 3] M (fun oc M2 => oc = .returned none ∧ Fw l D ad kA mX0_takeBell 53 [none, none] [] M2 Q)) : Fw l D ad kA mX0_takeBell 42 [some (.ref (ad 3)), some (.int x1)] [.int s1] M Q := by
  refine r_if_eq (tgt := 56) dX0_takeBell_42 (by decide) (fun c1 => ?_) (fun c1 => ?_)
  · skip
    refine r_aload_n dX0_takeBell_56 rfl ?_
    refine r_getR dX0_takeBell_57 fs_3_1 fk_X0_12 ?_
    refine r_getI dX0_takeBell_60 fs_4_4 fk_X0_27 ?_
    refine r_sipush (v := 160) dX0_takeBell_63 kS_160 ?_
    refine r_icmp_lt (tgt := 80) dX0_takeBell_66 (by decide) (fun c2 => ?_) (fun c2 => ?_)
    · skip
      refine r_aload_n dX0_takeBell_80 rfl ?_
      refine r_aload_n dX0_takeBell_81 rfl ?_
      refine r_getR dX0_takeBell_82 fs_3_1 fk_X0_12 ?_
      refine r_aload_n dX0_takeBell_85 rfl ?_
      refine r_getI dX0_takeBell_86 fs_3_3 fk_X0_34 ?_
      refine r_aload_n dX0_takeBell_89 rfl ?_
      refine r_getR dX0_takeBell_90 fs_3_0 fk_X0_18 ?_
      refine r_getI dX0_takeBell_93 fs_1_2 fk_X0_76 ?_
      exact r_callV (x := 4) (As := [.int (gI M 3 3), .int (gI M 1 2)]) (rest := [.ref (ad 3)]) dX0_takeBell_96 mk_X0_87 mv_X9_insert rm_X0_takeBell_X9_insert rfl rfl (by decide +kernel) (Nat.le_of_ble_eq_true rfl) (cal_i (lo' := [some (.ref (ad 3)), some (.int x1)]) ⟨rfl, rfl, trivial⟩ (K1 c1 c2))
    · skip
      refine r_aload_n dX0_takeBell_69 rfl ?_
      refine r_getR dX0_takeBell_70 fs_3_0 fk_X0_18 ?_
      refine r_iconst (v := 4) dX0_takeBell_73 kI_4 ?_
      exact r_callV (x := 1) (As := [.int 4]) (rest := []) dX0_takeBell_74 mk_X0_72 mv_X10_refuse rm_X0_takeBell_X10_refuse rfl rfl (by decide +kernel) (Nat.le_of_ble_eq_true rfl) (cal_v (lo' := [none, none]) trivial (K2 c1 c2))
  · skip
    refine r_aload_n dX0_takeBell_45 rfl ?_
    refine r_getR dX0_takeBell_46 fs_3_0 fk_X0_18 ?_
    refine r_iconst (v := 3) dX0_takeBell_49 kI_3 ?_
    exact r_callV (x := 1) (As := [.int 3]) (rest := []) dX0_takeBell_50 mk_X0_72 mv_X10_refuse rm_X0_takeBell_X10_refuse rfl rfl (by decide +kernel) (Nat.le_of_ble_eq_true rfl) (cal_v (lo' := [none, none]) trivial (K3 c1))
theorem t_X0_takeBell_21  
    (K1 : Q (.returned none) M) : Fw l D ad kA mX0_takeBell 21 [none, none] [] M Q := by
  refine r_goto (tgt := 116) dX0_takeBell_21 (by decide) ?_
  exact r_vret dX0_takeBell_116 rfl K1
theorem t_X0_takeBell_99 {x1 : Int32} {s2 : Int32} 
    (K1 : Q (.returned none) (sI (sI M 3 4 s2) 3 2 (if x1 = 0 then 3 else 6))) : Fw l D ad kA mX0_takeBell 99 [some (.ref (ad 3)), some (.int x1)] [.int s2, .ref (ad 3)] M Q := by
  refine r_putI dX0_takeBell_99 fs_3_4 fk_X0_91 fp_X0_4 ?_
  refine r_aload_n dX0_takeBell_102 rfl ?_
  refine r_iload_n dX0_takeBell_103 rfl ?_
  suffices hJ1 : Fw l D ad kA mX0_takeBell 113 [none, none] [.int (if x1 = 0 then 3 else 6), .ref (ad 3)] (sI M 3 4 s2) Q by
    refine r_if_eq (tgt := 112) dX0_takeBell_104 (by decide) (fun c1 => ?_) (fun c1 => ?_)
    · skip
      refine r_iconst (v := 3) dX0_takeBell_112 kI_3 ?_
      exact q_weak (lo' := [none, none]) trivial (by have h9 := hJ1; simp only [if_pos c1] at h9; first | exact h9 | (simp only [if_pos c1]; exact h9))
    · skip
      refine r_bipush (v := 6) dX0_takeBell_107 kB_6 ?_
      refine r_goto (tgt := 113) dX0_takeBell_109 (by decide) ?_
      exact q_weak (lo' := [none, none]) trivial (by have h9 := hJ1; simp only [if_neg c1] at h9; first | exact h9 | (simp only [if_neg c1]; exact h9))
  refine r_putI dX0_takeBell_113 fs_3_2 fk_X0_31 fp_X0_2 ?_
  exact r_vret dX0_takeBell_116 rfl K1
theorem t_X0_takeBell_77  
    (K1 : Q (.returned none) M) : Fw l D ad kA mX0_takeBell 77 [none, none] [] M Q := by
  refine r_goto (tgt := 116) dX0_takeBell_77 (by decide) ?_
  exact r_vret dX0_takeBell_116 rfl K1
theorem t_X0_takeBell_53  
    (K1 : Q (.returned none) M) : Fw l D ad kA mX0_takeBell 53 [none, none] [] M Q := by
  refine r_goto (tgt := 116) dX0_takeBell_53 (by decide) ?_
  exact r_vret dX0_takeBell_116 rfl K1
theorem en_X0_takeBell {x1 : Int32} (K : Fw l D ad kA mX0_takeBell 0 [some (.ref (ad 3)), some (.int x1)] [] M Q) : Cal l D ad kA mX0_takeBell [.ref (ad 3), .int x1] M Q := Cal.of (by decide) rfl rfl (Nat.le_of_ble_eq_true rfl) K
theorem t_X0_takeLength_0  
    (K1 : Cal l D ad kA mX0_goOnIf [.ref (ad 3), .int (if (gI M 1 1) = 2 then 1 else 0), .int 5] M (fun oc M2 => oc = .returned none ∧ Fw l D ad kA mX0_takeLength 21 [some (.ref (ad 3))] [] M2 Q)) : Fw l D ad kA mX0_takeLength 0 [some (.ref (ad 3))] [] M Q := by
  refine r_aload_n dX0_takeLength_0 rfl ?_
  refine r_aload_n dX0_takeLength_1 rfl ?_
  refine r_getR dX0_takeLength_2 fs_3_0 fk_X0_18 ?_
  refine r_getI dX0_takeLength_5 fs_1_1 fk_X0_43 ?_
  refine r_iconst (v := 2) dX0_takeLength_8 kI_2 ?_
  suffices hJ1 : Fw l D ad kA mX0_takeLength 17 [some (.ref (ad 3))] [.int (if (gI M 1 1) = 2 then 1 else 0), .ref (ad 3)] M Q by
    refine r_icmp_ne (tgt := 16) dX0_takeLength_9 (by decide) (fun c1 => ?_) (fun c1 => ?_)
    · skip
      refine r_iconst (v := 0) dX0_takeLength_16 kI_0 ?_
      exact q_weak (lo' := [some (.ref (ad 3))]) ⟨rfl, trivial⟩ (by have h9 := hJ1; simp only [if_neg c1] at h9; first | exact h9 | (simp only [if_neg c1]; exact h9))
    · skip
      refine r_iconst (v := 1) dX0_takeLength_12 kI_1 ?_
      refine r_goto (tgt := 17) dX0_takeLength_13 (by decide) ?_
      exact q_weak (lo' := [some (.ref (ad 3))]) ⟨rfl, trivial⟩ (by have h9 := hJ1; simp only [if_pos c1] at h9; first | exact h9 | (simp only [if_pos c1]; exact h9))
  refine r_iconst (v := 5) dX0_takeLength_17 kI_5 ?_
  exact r_callV (x := 3) (As := [.int (if (gI M 1 1) = 2 then 1 else 0), .int 5]) (rest := []) dX0_takeLength_18 mk_X0_56 mv_X0_goOnIf rm_X0_takeLength_X0_goOnIf rfl rfl (by decide +kernel) (Nat.le_of_ble_eq_true rfl) (cal_v (lo' := [some (.ref (ad 3))]) ⟨rfl, trivial⟩ K1)
theorem t_X0_takeLength_21  
    (g1 : ((gI M 1 3) = 0) → (¬ ((gI M 1 2) < 1)) → ((gI M 1 2) ≤ 16) → vp_in (gI M 3 4) 160)
    (K1 : ((gI M 1 3) = 0) → ((gI M 1 2) < 1) → Cal l D ad kA mX10_refuse [.ref (ad 1), .int 2] M (fun oc M2 => oc = .returned none ∧ Fw l D ad kA mX0_takeLength 63 [none] [] M2 Q))
    (K2 : ((gI M 1 3) = 0) → (¬ ((gI M 1 2) < 1)) → ((gI M 1 2) ≤ 16) → Q (.returned none) (sI M 7 (gI M 3 4).toNatClampNeg (gI M 1 2)))
    (K3 : ((gI M 1 3) = 0) → (¬ ((gI M 1 2) < 1)) → (¬ ((gI M 1 2) ≤ 16)) → Cal l D ad kA mX10_refuse [.ref (ad 1), .int 2] M (fun oc M2 => oc = .returned none ∧ Fw l D ad kA mX0_takeLength 63 [none] [] M2 Q))
    (K4 : (¬ ((gI M 1 3) = 0)) → Q (.returned none) M) : Fw l D ad kA mX0_takeLength 21 [some (.ref (ad 3))] [] M Q := by
  refine r_aload_n dX0_takeLength_21 rfl ?_
  refine r_getR dX0_takeLength_22 fs_3_0 fk_X0_18 ?_
  refine r_getI dX0_takeLength_25 fs_1_3 fk_X0_37 ?_
  refine r_if_eq (tgt := 32) dX0_takeLength_28 (by decide) (fun c1 => ?_) (fun c1 => ?_)
  · skip
    refine r_aload_n dX0_takeLength_32 rfl ?_
    refine r_getR dX0_takeLength_33 fs_3_0 fk_X0_18 ?_
    refine r_getI dX0_takeLength_36 fs_1_2 fk_X0_76 ?_
    refine r_iconst (v := 1) dX0_takeLength_39 kI_1 ?_
    refine r_icmp_lt (tgt := 55) dX0_takeLength_40 (by decide) (fun c2 => ?_) (fun c2 => ?_)
    · skip
      refine r_aload_n dX0_takeLength_55 rfl ?_
      refine r_getR dX0_takeLength_56 fs_3_0 fk_X0_18 ?_
      refine r_iconst (v := 2) dX0_takeLength_59 kI_2 ?_
      exact r_callV (x := 1) (As := [.int 2]) (rest := []) dX0_takeLength_60 mk_X0_72 mv_X10_refuse rm_X0_takeLength_X10_refuse rfl rfl (by decide +kernel) (Nat.le_of_ble_eq_true rfl) (cal_v (lo' := [none]) trivial (K1 c1 c2))
    · skip
      refine r_aload_n dX0_takeLength_43 rfl ?_
      refine r_getR dX0_takeLength_44 fs_3_0 fk_X0_18 ?_
      refine r_getI dX0_takeLength_47 fs_1_2 fk_X0_76 ?_
      refine r_bipush (v := 16) dX0_takeLength_50 kB_16 ?_
      refine r_icmp_le (tgt := 64) dX0_takeLength_52 (by decide) (fun c3 => ?_) (fun c3 => ?_)
      · skip
        refine r_aload_n dX0_takeLength_64 rfl ?_
        refine r_getR dX0_takeLength_65 fs_3_1 fk_X0_12 ?_
        refine r_getR dX0_takeLength_68 fs_4_2 fk_X0_94 ?_
        refine r_aload_n dX0_takeLength_71 rfl ?_
        refine r_getI dX0_takeLength_72 fs_3_4 fk_X0_91 ?_
        refine r_aload_n dX0_takeLength_75 rfl ?_
        refine r_getR dX0_takeLength_76 fs_3_0 fk_X0_18 ?_
        refine r_getI dX0_takeLength_79 fs_1_2 fk_X0_76 ?_
        refine r_iast dX0_takeLength_82 as_7 (g1 c1 c2 c3) ?_
        exact r_vret dX0_takeLength_83 rfl (K2 c1 c2 c3)
      · skip
        refine r_aload_n dX0_takeLength_55 rfl ?_
        refine r_getR dX0_takeLength_56 fs_3_0 fk_X0_18 ?_
        refine r_iconst (v := 2) dX0_takeLength_59 kI_2 ?_
        exact r_callV (x := 1) (As := [.int 2]) (rest := []) dX0_takeLength_60 mk_X0_72 mv_X10_refuse rm_X0_takeLength_X10_refuse rfl rfl (by decide +kernel) (Nat.le_of_ble_eq_true rfl) (cal_v (lo' := [none]) trivial (K3 c1 c2 c3))
  · skip
    exact r_vret dX0_takeLength_31 rfl (K4 c1)
theorem t_X0_takeLength_63  
    (K1 : Q (.returned none) M) : Fw l D ad kA mX0_takeLength 63 [none] [] M Q := by
  exact r_vret dX0_takeLength_63 rfl K1
theorem en_X0_takeLength  (K : Fw l D ad kA mX0_takeLength 0 [some (.ref (ad 3))] [] M Q) : Cal l D ad kA mX0_takeLength [.ref (ad 3)] M Q := Cal.of (by decide) rfl rfl (Nat.le_of_ble_eq_true rfl) K
theorem t_X0_takeWord_0  
    (K1 : (¬ ((gI M 3 2) = 3)) → ((if (gI M 3 2) = 3 then 1 else if (gI M 3 2) = 5 then 1 else 0 : Int32) = 0) → Cal l D ad kA mX10_refuse [.ref (ad 1), .int 1] M (fun oc M2 => oc = .returned none ∧ Fw l D ad kA mX0_takeWord 134 [none, none] [] M2 Q))
    (K2 : (¬ ((gI M 3 2) = 3)) → (¬ ((if (gI M 3 2) = 3 then 1 else if (gI M 3 2) = 5 then 1 else 0 : Int32) = 0)) → Cal l D ad kA mX10_isWord [.ref (ad 1), .ref (ad (210 + 2))] M (fun oc M2 => ∃ r : Int32, oc = .returned (some (.int r)) ∧ Fw l D ad kA mX0_takeWord 63 [some (.ref (ad 3)), some (.int (if (gI M 3 2) = 3 then 1 else if (gI M 3 2) = 5 then 1 else 0))] [.int r] M2 Q))
    (K3 : ((gI M 3 2) = 3) → Cal l D ad kA mX10_isWord [.ref (ad 1), .ref (ad (210 + 1))] M (fun oc M2 => ∃ r : Int32, oc = .returned (some (.int r)) ∧ Fw l D ad kA mX0_takeWord 39 [some (.ref (ad 3)), some (.int (if (gI M 3 2) = 3 then 1 else if (gI M 3 2) = 5 then 1 else 0))] [.int r] M2 Q)) : Fw l D ad kA mX0_takeWord 0 [some (.ref (ad 3)), none] [] M Q := by
  refine r_aload_n dX0_takeWord_0 rfl ?_
  refine r_getI dX0_takeWord_1 fs_3_2 fk_X0_31 ?_
  refine r_iconst (v := 3) dX0_takeWord_4 kI_3 ?_
  suffices hJ1 : Fw l D ad kA mX0_takeWord 21 [some (.ref (ad 3)), none] [.int (if (gI M 3 2) = 3 then 1 else if (gI M 3 2) = 5 then 1 else 0)] M Q by
    refine r_icmp_eq (tgt := 16) dX0_takeWord_5 (by decide) (fun c1 => ?_) (fun c1 => ?_)
    · skip
      refine r_iconst (v := 1) dX0_takeWord_16 kI_1 ?_
      refine r_goto (tgt := 21) dX0_takeWord_17 (by decide) ?_
      exact q_weak (lo' := [some (.ref (ad 3)), none]) ⟨rfl, trivial⟩ (by have h9 := hJ1; simp only [if_pos c1] at h9; first | exact h9 | (simp only [if_pos c1]; exact h9))
    · skip
      refine r_aload_n dX0_takeWord_8 rfl ?_
      refine r_getI dX0_takeWord_9 fs_3_2 fk_X0_31 ?_
      refine r_iconst (v := 5) dX0_takeWord_12 kI_5 ?_
      refine r_icmp_ne (tgt := 20) dX0_takeWord_13 (by decide) (fun c2 => ?_) (fun c2 => ?_)
      · skip
        refine r_iconst (v := 0) dX0_takeWord_20 kI_0 ?_
        exact q_weak (lo' := [some (.ref (ad 3)), none]) ⟨rfl, trivial⟩ (by have h9 := hJ1; simp only [if_neg c1, if_neg c2] at h9; first | exact h9 | (simp only [if_neg c1, if_neg c2]; exact h9))
      · skip
        refine r_iconst (v := 1) dX0_takeWord_16 kI_1 ?_
        refine r_goto (tgt := 21) dX0_takeWord_17 (by decide) ?_
        exact q_weak (lo' := [some (.ref (ad 3)), none]) ⟨rfl, trivial⟩ (by have h9 := hJ1; simp only [if_neg c1, if_pos c2] at h9; first | exact h9 | (simp only [if_neg c1, if_pos c2]; exact h9))
  refine q_istore_n (lo' := [some (.ref (ad 3)), some (.int (if (gI M 3 2) = 3 then 1 else if (gI M 3 2) = 5 then 1 else 0))]) dX0_takeWord_21 (by decide) rfl ?_
  refine r_aload_n dX0_takeWord_22 rfl ?_
  refine r_getI dX0_takeWord_23 fs_3_2 fk_X0_31 ?_
  refine r_iconst (v := 3) dX0_takeWord_26 kI_3 ?_
  refine r_icmp_ne (tgt := 50) dX0_takeWord_27 (by decide) (fun c3 => ?_) (fun c3 => ?_)
  · skip
    refine r_iload_n dX0_takeWord_50 rfl ?_
    refine r_if_eq (tgt := 88) dX0_takeWord_51 (by decide) (fun c4 => ?_) (fun c4 => ?_)
    · skip
      refine r_iload_n dX0_takeWord_88 rfl ?_
      refine r_if_eq (tgt := 126) dX0_takeWord_89 (by decide) (fun _ => ?_) (fun q => absurd c4 q)
      refine r_aload_n dX0_takeWord_126 rfl ?_
      refine r_getR dX0_takeWord_127 fs_3_0 fk_X0_18 ?_
      refine r_iconst (v := 1) dX0_takeWord_130 kI_1 ?_
      exact r_callV (x := 1) (As := [.int 1]) (rest := []) dX0_takeWord_131 mk_X0_72 mv_X10_refuse rm_X0_takeWord_X10_refuse rfl rfl (by decide +kernel) (Nat.le_of_ble_eq_true rfl) (cal_v (lo' := [none, none]) trivial (K1 c3 c4))
    · skip
      refine r_aload_n dX0_takeWord_54 rfl ?_
      refine r_getR dX0_takeWord_55 fs_3_0 fk_X0_18 ?_
      refine r_ldcS (i := 2) dX0_takeWord_58 (by decide) rfl ?_
      exact r_callV (x := 1) (As := [.ref (ad (210 + 2))]) (rest := []) dX0_takeWord_60 mk_X0_52 mv_X10_isWord rm_X0_takeWord_X10_isWord rfl rfl (by decide +kernel) (Nat.le_of_ble_eq_true rfl) (cal_i (lo' := [some (.ref (ad 3)), some (.int (if (gI M 3 2) = 3 then 1 else if (gI M 3 2) = 5 then 1 else 0))]) ⟨rfl, rfl, trivial⟩ (K2 c3 c4))
  · skip
    refine r_aload_n dX0_takeWord_30 rfl ?_
    refine r_getR dX0_takeWord_31 fs_3_0 fk_X0_18 ?_
    refine r_ldcS (i := 1) dX0_takeWord_34 (by decide) rfl ?_
    exact r_callV (x := 1) (As := [.ref (ad (210 + 1))]) (rest := []) dX0_takeWord_36 mk_X0_52 mv_X10_isWord rm_X0_takeWord_X10_isWord rfl rfl (by decide +kernel) (Nat.le_of_ble_eq_true rfl) (cal_i (lo' := [some (.ref (ad 3)), some (.int (if (gI M 3 2) = 3 then 1 else if (gI M 3 2) = 5 then 1 else 0))]) ⟨rfl, rfl, trivial⟩ (K3 c3))
theorem t_X0_takeWord_134  
    (K1 : Q (.returned none) M) : Fw l D ad kA mX0_takeWord 134 [none, none] [] M Q := by
  exact r_vret dX0_takeWord_134 rfl K1
theorem t_X0_takeWord_63 {x1 : Int32} {s1 : Int32} 
    (g1 : (¬ (s1 = 0)) → vp_in (gI M 3 4) 160)
    (K1 : (s1 = 0) → (x1 = 0) → Cal l D ad kA mX10_refuse [.ref (ad 1), .int 1] M (fun oc M2 => oc = .returned none ∧ Fw l D ad kA mX0_takeWord 134 [none, none] [] M2 Q))
    (K2 : (s1 = 0) → (¬ (x1 = 0)) → Cal l D ad kA mX10_isWord [.ref (ad 1), .ref (ad (210 + 3))] M (fun oc M2 => ∃ r : Int32, oc = .returned (some (.int r)) ∧ Fw l D ad kA mX0_takeWord 101 [some (.ref (ad 3)), none] [.int r] M2 Q))
    (K3 : (¬ (s1 = 0)) → Q (.returned none) (sI (sI M 8 (gI M 3 4).toNatClampNeg 1) 3 2 6)) : Fw l D ad kA mX0_takeWord 63 [some (.ref (ad 3)), some (.int x1)] [.int s1] M Q := by
  refine r_if_eq (tgt := 88) dX0_takeWord_63 (by decide) (fun c1 => ?_) (fun c1 => ?_)
  · skip
    refine r_iload_n dX0_takeWord_88 rfl ?_
    refine r_if_eq (tgt := 126) dX0_takeWord_89 (by decide) (fun c2 => ?_) (fun c2 => ?_)
    · skip
      refine r_aload_n dX0_takeWord_126 rfl ?_
      refine r_getR dX0_takeWord_127 fs_3_0 fk_X0_18 ?_
      refine r_iconst (v := 1) dX0_takeWord_130 kI_1 ?_
      exact r_callV (x := 1) (As := [.int 1]) (rest := []) dX0_takeWord_131 mk_X0_72 mv_X10_refuse rm_X0_takeWord_X10_refuse rfl rfl (by decide +kernel) (Nat.le_of_ble_eq_true rfl) (cal_v (lo' := [none, none]) trivial (K1 c1 c2))
    · skip
      refine r_aload_n dX0_takeWord_92 rfl ?_
      refine r_getR dX0_takeWord_93 fs_3_0 fk_X0_18 ?_
      refine r_ldcS (i := 3) dX0_takeWord_96 (by decide) rfl ?_
      exact r_callV (x := 1) (As := [.ref (ad (210 + 3))]) (rest := []) dX0_takeWord_98 mk_X0_52 mv_X10_isWord rm_X0_takeWord_X10_isWord rfl rfl (by decide +kernel) (Nat.le_of_ble_eq_true rfl) (cal_i (lo' := [some (.ref (ad 3)), none]) ⟨rfl, trivial⟩ (K2 c1 c2))
  · skip
    refine r_aload_n dX0_takeWord_66 rfl ?_
    refine r_getR dX0_takeWord_67 fs_3_1 fk_X0_12 ?_
    refine r_getR dX0_takeWord_70 fs_4_3 fk_X0_102 ?_
    refine r_aload_n dX0_takeWord_73 rfl ?_
    refine r_getI dX0_takeWord_74 fs_3_4 fk_X0_91 ?_
    refine r_iconst (v := 1) dX0_takeWord_77 kI_1 ?_
    refine r_iast dX0_takeWord_78 as_8 (g1 c1) ?_
    refine r_aload_n dX0_takeWord_79 rfl ?_
    refine r_bipush (v := 6) dX0_takeWord_80 kB_6 ?_
    refine r_putI dX0_takeWord_82 fs_3_2 fk_X0_31 fp_X0_2 ?_
    refine r_goto (tgt := 134) dX0_takeWord_85 (by decide) ?_
    exact r_vret dX0_takeWord_134 rfl (K3 c1)
theorem t_X0_takeWord_39 {x1 : Int32} {s1 : Int32} 
    (K1 : (s1 = 0) → (x1 = 0) → Cal l D ad kA mX10_refuse [.ref (ad 1), .int 1] M (fun oc M2 => oc = .returned none ∧ Fw l D ad kA mX0_takeWord 134 [none, none] [] M2 Q))
    (K2 : (s1 = 0) → (¬ (x1 = 0)) → Cal l D ad kA mX10_isWord [.ref (ad 1), .ref (ad (210 + 2))] M (fun oc M2 => ∃ r : Int32, oc = .returned (some (.int r)) ∧ Fw l D ad kA mX0_takeWord 63 [some (.ref (ad 3)), some (.int x1)] [.int r] M2 Q))
    (K3 : (¬ (s1 = 0)) → Q (.returned none) (sI M 3 2 4)) : Fw l D ad kA mX0_takeWord 39 [some (.ref (ad 3)), some (.int x1)] [.int s1] M Q := by
  refine r_if_eq (tgt := 50) dX0_takeWord_39 (by decide) (fun c1 => ?_) (fun c1 => ?_)
  · skip
    refine r_iload_n dX0_takeWord_50 rfl ?_
    refine r_if_eq (tgt := 88) dX0_takeWord_51 (by decide) (fun c2 => ?_) (fun c2 => ?_)
    · skip
      refine r_iload_n dX0_takeWord_88 rfl ?_
      refine r_if_eq (tgt := 126) dX0_takeWord_89 (by decide) (fun _ => ?_) (fun q => absurd c2 q)
      refine r_aload_n dX0_takeWord_126 rfl ?_
      refine r_getR dX0_takeWord_127 fs_3_0 fk_X0_18 ?_
      refine r_iconst (v := 1) dX0_takeWord_130 kI_1 ?_
      exact r_callV (x := 1) (As := [.int 1]) (rest := []) dX0_takeWord_131 mk_X0_72 mv_X10_refuse rm_X0_takeWord_X10_refuse rfl rfl (by decide +kernel) (Nat.le_of_ble_eq_true rfl) (cal_v (lo' := [none, none]) trivial (K1 c1 c2))
    · skip
      refine r_aload_n dX0_takeWord_54 rfl ?_
      refine r_getR dX0_takeWord_55 fs_3_0 fk_X0_18 ?_
      refine r_ldcS (i := 2) dX0_takeWord_58 (by decide) rfl ?_
      exact r_callV (x := 1) (As := [.ref (ad (210 + 2))]) (rest := []) dX0_takeWord_60 mk_X0_52 mv_X10_isWord rm_X0_takeWord_X10_isWord rfl rfl (by decide +kernel) (Nat.le_of_ble_eq_true rfl) (cal_i (lo' := [some (.ref (ad 3)), some (.int x1)]) ⟨rfl, rfl, trivial⟩ (K2 c1 c2))
  · skip
    refine r_aload_n dX0_takeWord_42 rfl ?_
    refine r_iconst (v := 4) dX0_takeWord_43 kI_4 ?_
    refine r_putI dX0_takeWord_44 fs_3_2 fk_X0_31 fp_X0_2 ?_
    refine r_goto (tgt := 134) dX0_takeWord_47 (by decide) ?_
    exact r_vret dX0_takeWord_134 rfl (K3 c1)
theorem t_X0_takeWord_101 {s1 : Int32} 
    (g1 : (¬ (s1 = 0)) → vp_in (gI M 3 4) 160)
    (K1 : (s1 = 0) → Cal l D ad kA mX10_refuse [.ref (ad 1), .int 1] M (fun oc M2 => oc = .returned none ∧ Fw l D ad kA mX0_takeWord 134 [none, none] [] M2 Q))
    (K2 : (¬ (s1 = 0)) → Q (.returned none) (sI (sI M 8 (gI M 3 4).toNatClampNeg 2) 3 2 6)) : Fw l D ad kA mX0_takeWord 101 [some (.ref (ad 3)), none] [.int s1] M Q := by
  refine r_if_eq (tgt := 126) dX0_takeWord_101 (by decide) (fun c1 => ?_) (fun c1 => ?_)
  · skip
    refine r_aload_n dX0_takeWord_126 rfl ?_
    refine r_getR dX0_takeWord_127 fs_3_0 fk_X0_18 ?_
    refine r_iconst (v := 1) dX0_takeWord_130 kI_1 ?_
    exact r_callV (x := 1) (As := [.int 1]) (rest := []) dX0_takeWord_131 mk_X0_72 mv_X10_refuse rm_X0_takeWord_X10_refuse rfl rfl (by decide +kernel) (Nat.le_of_ble_eq_true rfl) (cal_v (lo' := [none, none]) trivial (K1 c1))
  · skip
    refine r_aload_n dX0_takeWord_104 rfl ?_
    refine r_getR dX0_takeWord_105 fs_3_1 fk_X0_12 ?_
    refine r_getR dX0_takeWord_108 fs_4_3 fk_X0_102 ?_
    refine r_aload_n dX0_takeWord_111 rfl ?_
    refine r_getI dX0_takeWord_112 fs_3_4 fk_X0_91 ?_
    refine r_iconst (v := 2) dX0_takeWord_115 kI_2 ?_
    refine r_iast dX0_takeWord_116 as_8 (g1 c1) ?_
    refine r_aload_n dX0_takeWord_117 rfl ?_
    refine r_bipush (v := 6) dX0_takeWord_118 kB_6 ?_
    refine r_putI dX0_takeWord_120 fs_3_2 fk_X0_31 fp_X0_2 ?_
    refine r_goto (tgt := 134) dX0_takeWord_123 (by decide) ?_
    exact r_vret dX0_takeWord_134 rfl (K2 c1)
theorem en_X0_takeWord  (K : Fw l D ad kA mX0_takeWord 0 [some (.ref (ad 3)), none] [] M Q) : Cal l D ad kA mX0_takeWord [.ref (ad 3)] M Q := Cal.of (by decide) rfl rfl (Nat.le_of_ble_eq_true rfl) K
theorem t_X0_take_0 {x1 : Int32} 
    (K1 : (¬ ((gI M 3 2) = 0)) → (¬ ((gI M 3 2) = 1)) → (¬ ((gI M 3 2) = 4)) → (¬ ((gI M 1 1) = 2)) → (¬ ((gI M 1 1) = 3)) → Cal l D ad kA mX0_takeWord [.ref (ad 3)] M (fun oc M2 => oc = .returned none ∧ Fw l D ad kA mX0_take 109 [none, none] [] M2 Q))
    (K2 : (¬ ((gI M 3 2) = 0)) → (¬ ((gI M 3 2) = 1)) → (¬ ((gI M 3 2) = 4)) → (¬ ((gI M 1 1) = 2)) → ((gI M 1 1) = 3) → Cal l D ad kA mX0_goOnIf [.ref (ad 3), .int (if (gI M 3 2) = 2 then 0 else 1), .int 0] M (fun oc M2 => oc = .returned none ∧ Fw l D ad kA mX0_take 102 [none, none] [] M2 Q))
    (K3 : (¬ ((gI M 3 2) = 0)) → (¬ ((gI M 3 2) = 1)) → (¬ ((gI M 3 2) = 4)) → ((gI M 1 1) = 2) → Cal l D ad kA mX0_takeBell [.ref (ad 3), .int x1] M (fun oc M2 => oc = .returned none ∧ Fw l D ad kA mX0_take 70 [none, none] [] M2 Q))
    (K4 : (¬ ((gI M 3 2) = 0)) → (¬ ((gI M 3 2) = 1)) → ((gI M 3 2) = 4) → Cal l D ad kA mX0_takeLength [.ref (ad 3)] M (fun oc M2 => oc = .returned none ∧ Fw l D ad kA mX0_take 51 [none, none] [] M2 Q))
    (K5 : (¬ ((gI M 3 2) = 0)) → ((gI M 3 2) = 1) → Cal l D ad kA mX0_takeBeat [.ref (ad 3)] M (fun oc M2 => oc = .returned none ∧ Fw l D ad kA mX0_take 36 [none, none] [] M2 Q))
    (K6 : ((gI M 3 2) = 0) → Cal l D ad kA mX10_isWord [.ref (ad 1), .ref (ad (210 + 0))] M (fun oc M2 => ∃ r : Int32, oc = .returned (some (.int r)) ∧ Fw l D ad kA mX0_take 17 [none, none] [.int r, .ref (ad 3)] M2 Q)) : Fw l D ad kA mX0_take 0 [some (.ref (ad 3)), some (.int x1)] [] M Q := by
  refine r_aload_n dX0_take_0 rfl ?_
  refine r_getI dX0_take_1 fs_3_2 fk_X0_31 ?_
  refine r_if_ne (tgt := 24) dX0_take_4 (by decide) (fun c1 => ?_) (fun c1 => ?_)
  · skip
    refine r_aload_n dX0_take_24 rfl ?_
    refine r_getI dX0_take_25 fs_3_2 fk_X0_31 ?_
    refine r_iconst (v := 1) dX0_take_28 kI_1 ?_
    refine r_icmp_ne (tgt := 39) dX0_take_29 (by decide) (fun c2 => ?_) (fun c2 => ?_)
    · skip
      refine r_aload_n dX0_take_39 rfl ?_
      refine r_getI dX0_take_40 fs_3_2 fk_X0_31 ?_
      refine r_iconst (v := 4) dX0_take_43 kI_4 ?_
      refine r_icmp_ne (tgt := 54) dX0_take_44 (by decide) (fun c3 => ?_) (fun c3 => ?_)
      · skip
        refine r_aload_n dX0_take_54 rfl ?_
        refine r_getR dX0_take_55 fs_3_0 fk_X0_18 ?_
        refine r_getI dX0_take_58 fs_1_1 fk_X0_43 ?_
        refine r_iconst (v := 2) dX0_take_61 kI_2 ?_
        refine r_icmp_ne (tgt := 73) dX0_take_62 (by decide) (fun c4 => ?_) (fun c4 => ?_)
        · skip
          refine r_aload_n dX0_take_73 rfl ?_
          refine r_getR dX0_take_74 fs_3_0 fk_X0_18 ?_
          refine r_getI dX0_take_77 fs_1_1 fk_X0_43 ?_
          refine r_iconst (v := 3) dX0_take_80 kI_3 ?_
          refine r_icmp_ne (tgt := 105) dX0_take_81 (by decide) (fun c5 => ?_) (fun c5 => ?_)
          · skip
            refine r_aload_n dX0_take_105 rfl ?_
            exact r_callV (x := 3) (As := []) (rest := []) dX0_take_106 mk_X0_69 mv_X0_takeWord rm_X0_take_X0_takeWord rfl rfl (by decide +kernel) (Nat.le_of_ble_eq_true rfl) (cal_v (lo' := [none, none]) trivial (K1 c1 c2 c3 c4 c5))
          · skip
            refine r_aload_n dX0_take_84 rfl ?_
            refine r_aload_n dX0_take_85 rfl ?_
            refine r_getI dX0_take_86 fs_3_2 fk_X0_31 ?_
            refine r_iconst (v := 2) dX0_take_89 kI_2 ?_
            suffices hJ1 : Fw l D ad kA mX0_take 98 [none, none] [.int (if (gI M 3 2) = 2 then 0 else 1), .ref (ad 3)] M Q by
              refine r_icmp_eq (tgt := 97) dX0_take_90 (by decide) (fun c6 => ?_) (fun c6 => ?_)
              · skip
                refine r_iconst (v := 0) dX0_take_97 kI_0 ?_
                exact q_weak (lo' := [none, none]) trivial (by have h9 := hJ1; simp only [if_pos c6] at h9; first | exact h9 | (simp only [if_pos c6]; exact h9))
              · skip
                refine r_iconst (v := 1) dX0_take_93 kI_1 ?_
                refine r_goto (tgt := 98) dX0_take_94 (by decide) ?_
                exact q_weak (lo' := [none, none]) trivial (by have h9 := hJ1; simp only [if_neg c6] at h9; first | exact h9 | (simp only [if_neg c6]; exact h9))
            refine r_iconst (v := 0) dX0_take_98 kI_0 ?_
            exact r_callV (x := 3) (As := [.int (if (gI M 3 2) = 2 then 0 else 1), .int 0]) (rest := []) dX0_take_99 mk_X0_56 mv_X0_goOnIf rm_X0_take_X0_goOnIf rfl rfl (by decide +kernel) (Nat.le_of_ble_eq_true rfl) (cal_v (lo' := [none, none]) trivial (K2 c1 c2 c3 c4 c5))
        · skip
          refine r_aload_n dX0_take_65 rfl ?_
          refine r_iload_n dX0_take_66 rfl ?_
          exact r_callV (x := 3) (As := [.int x1]) (rest := []) dX0_take_67 mk_X0_66 mv_X0_takeBell rm_X0_take_X0_takeBell rfl rfl (by decide +kernel) (Nat.le_of_ble_eq_true rfl) (cal_v (lo' := [none, none]) trivial (K3 c1 c2 c3 c4))
      · skip
        refine r_aload_n dX0_take_47 rfl ?_
        exact r_callV (x := 3) (As := []) (rest := []) dX0_take_48 mk_X0_63 mv_X0_takeLength rm_X0_take_X0_takeLength rfl rfl (by decide +kernel) (Nat.le_of_ble_eq_true rfl) (cal_v (lo' := [none, none]) trivial (K4 c1 c2 c3))
    · skip
      refine r_aload_n dX0_take_32 rfl ?_
      exact r_callV (x := 3) (As := []) (rest := []) dX0_take_33 mk_X0_60 mv_X0_takeBeat rm_X0_take_X0_takeBeat rfl rfl (by decide +kernel) (Nat.le_of_ble_eq_true rfl) (cal_v (lo' := [none, none]) trivial (K5 c1 c2))
  · skip
    refine r_aload_n dX0_take_7 rfl ?_
    refine r_aload_n dX0_take_8 rfl ?_
    refine r_getR dX0_take_9 fs_3_0 fk_X0_18 ?_
    refine r_ldcS (i := 0) dX0_take_12 (by decide) rfl ?_
    exact r_callV (x := 1) (As := [.ref (ad (210 + 0))]) (rest := [.ref (ad 3)]) dX0_take_14 mk_X0_52 mv_X10_isWord rm_X0_take_X10_isWord rfl rfl (by decide +kernel) (Nat.le_of_ble_eq_true rfl) (cal_i (lo' := [none, none]) trivial (K6 c1))
theorem t_X0_take_109  
    (K1 : Q (.returned none) M) : Fw l D ad kA mX0_take 109 [none, none] [] M Q := by
  exact r_vret dX0_take_109 rfl K1
theorem t_X0_take_102  
    (K1 : Q (.returned none) M) : Fw l D ad kA mX0_take 102 [none, none] [] M Q := by
  refine r_goto (tgt := 109) dX0_take_102 (by decide) ?_
  exact r_vret dX0_take_109 rfl K1
theorem t_X0_take_70  
    (K1 : Q (.returned none) M) : Fw l D ad kA mX0_take 70 [none, none] [] M Q := by
  refine r_goto (tgt := 109) dX0_take_70 (by decide) ?_
  exact r_vret dX0_take_109 rfl K1
theorem t_X0_take_51  
    (K1 : Q (.returned none) M) : Fw l D ad kA mX0_take 51 [none, none] [] M Q := by
  refine r_goto (tgt := 109) dX0_take_51 (by decide) ?_
  exact r_vret dX0_take_109 rfl K1
theorem t_X0_take_36  
    (K1 : Q (.returned none) M) : Fw l D ad kA mX0_take 36 [none, none] [] M Q := by
  refine r_goto (tgt := 109) dX0_take_36 (by decide) ?_
  exact r_vret dX0_take_109 rfl K1
theorem t_X0_take_17 {s2 : Int32} 
    (K1 : Cal l D ad kA mX0_goOnIf [.ref (ad 3), .int s2, .int 1] M (fun oc M2 => oc = .returned none ∧ Fw l D ad kA mX0_take 21 [none, none] [] M2 Q)) : Fw l D ad kA mX0_take 17 [none, none] [.int s2, .ref (ad 3)] M Q := by
  refine r_iconst (v := 1) dX0_take_17 kI_1 ?_
  exact r_callV (x := 3) (As := [.int s2, .int 1]) (rest := []) dX0_take_18 mk_X0_56 mv_X0_goOnIf rm_X0_take_X0_goOnIf rfl rfl (by decide +kernel) (Nat.le_of_ble_eq_true rfl) (cal_v (lo' := [none, none]) trivial K1)
theorem t_X0_take_21  
    (K1 : Q (.returned none) M) : Fw l D ad kA mX0_take 21 [none, none] [] M Q := by
  refine r_goto (tgt := 109) dX0_take_21 (by decide) ?_
  exact r_vret dX0_take_109 rfl K1
theorem en_X0_take {x1 : Int32} (K : Fw l D ad kA mX0_take 0 [some (.ref (ad 3)), some (.int x1)] [] M Q) : Cal l D ad kA mX0_take [.ref (ad 3), .int x1] M Q := Cal.of (by decide) rfl rfl (Nat.le_of_ble_eq_true rfl) K
theorem t_X0_readAll_0 {x1 : Int32} 
    (K1 : Cal l D ad kA mX10_start [.ref (ad 1)] M (fun oc M2 => oc = .returned none ∧ Fw l D ad kA mX0_readAll 7 [some (.ref (ad 3)), some (.int x1), none, none] [] M2 Q)) : Fw l D ad kA mX0_readAll 0 [some (.ref (ad 3)), some (.int x1), none, none] [] M Q := by
  refine r_aload_n dX0_readAll_0 rfl ?_
  refine r_getR dX0_readAll_1 fs_3_0 fk_X0_18 ?_
  exact r_callV (x := 1) (As := []) (rest := []) dX0_readAll_4 mk_X0_22 mv_X10_start rm_X0_readAll_X10_start rfl rfl (by decide +kernel) (Nat.le_of_ble_eq_true rfl) (cal_v (lo' := [some (.ref (ad 3)), some (.int x1), none, none]) ⟨rfl, rfl, trivial⟩ K1)
theorem t_X0_readAll_7 {x1 : Int32} 
    (K1 : Fw l D ad kA mX0_readAll 29 [some (.ref (ad 3)), some (.int x1), some (.int 0), some (.int 0)] [] (sI (sI (sI M 4 4 0) 3 2 0) 3 3 0) Q) : Fw l D ad kA mX0_readAll 7 [some (.ref (ad 3)), some (.int x1), none, none] [] M Q := by
  refine r_aload_n dX0_readAll_7 rfl ?_
  refine r_getR dX0_readAll_8 fs_3_1 fk_X0_12 ?_
  refine r_iconst (v := 0) dX0_readAll_11 kI_0 ?_
  refine r_putI dX0_readAll_12 fs_4_4 fk_X0_27 fp_X9_4 ?_
  refine r_aload_n dX0_readAll_15 rfl ?_
  refine r_iconst (v := 0) dX0_readAll_16 kI_0 ?_
  refine r_putI dX0_readAll_17 fs_3_2 fk_X0_31 fp_X0_2 ?_
  refine r_aload_n dX0_readAll_20 rfl ?_
  refine r_iconst (v := 0) dX0_readAll_21 kI_0 ?_
  refine r_putI dX0_readAll_22 fs_3_3 fk_X0_34 fp_X0_3 ?_
  refine r_iconst (v := 0) dX0_readAll_25 kI_0 ?_
  refine q_istore_n (lo' := [some (.ref (ad 3)), some (.int x1), some (.int 0), none]) dX0_readAll_26 (by decide) rfl ?_
  refine r_iconst (v := 0) dX0_readAll_27 kI_0 ?_
  refine q_istore_n (lo' := [some (.ref (ad 3)), some (.int x1), some (.int 0), some (.int 0)]) dX0_readAll_28 (by decide) rfl ?_
  exact K1
theorem t_X0_readAll_29 {x1 : Int32} {x2 : Int32} {x3 : Int32} 
    (g1 : (1200 < x3) → x2 = 0 ∨ x2 = 1)
    (g2 : (¬ (1200 < x3)) → (¬ (x2 = 0)) → x2 = 0 ∨ x2 = 1)
    (g3 : (¬ (1200 < x3)) → (x2 = 0) → (¬ ((gI M 1 3) = 0)) → x2 = 0 ∨ x2 = 1)
    (K1 : (1200 < x3) → Q (.returned (some (.int x2))) M)
    (K2 : (¬ (1200 < x3)) → (¬ (x2 = 0)) → Q (.returned (some (.int x2))) M)
    (K3 : (¬ (1200 < x3)) → (x2 = 0) → (¬ ((gI M 1 3) = 0)) → Q (.returned (some (.int x2))) M)
    (K4 : (¬ (1200 < x3)) → (x2 = 0) → ((gI M 1 3) = 0) → Cal l D ad kA mX10_readToken [.ref (ad 1)] M (fun oc M2 => oc = .returned none ∧ Fw l D ad kA mX0_readAll 57 [some (.ref (ad 3)), some (.int x1), none, some (.int x3)] [] M2 Q)) : Fw l D ad kA mX0_readAll 29 [some (.ref (ad 3)), some (.int x1), some (.int x2), some (.int x3)] [] M Q := by
  refine r_iload_n dX0_readAll_29 rfl ?_
  refine r_sipush (v := 1200) dX0_readAll_30 kS_1200 ?_
  refine r_icmp_gt (tgt := 95) dX0_readAll_33 (by decide) (fun c1 => ?_) (fun c1 => ?_)
  · skip
    refine r_iload_n dX0_readAll_95 rfl ?_
    exact r_zret dX0_readAll_96 rfl (nar_z (g1 c1)).1 (K1 c1)
  · skip
    refine r_iload_n dX0_readAll_36 rfl ?_
    refine r_if_ne (tgt := 95) dX0_readAll_37 (by decide) (fun c2 => ?_) (fun c2 => ?_)
    · skip
      refine r_iload_n dX0_readAll_95 rfl ?_
      exact r_zret dX0_readAll_96 rfl (nar_z (g2 c1 c2)).1 (K2 c1 c2)
    · skip
      refine r_aload_n dX0_readAll_40 rfl ?_
      refine r_getR dX0_readAll_41 fs_3_0 fk_X0_18 ?_
      refine r_getI dX0_readAll_44 fs_1_3 fk_X0_37 ?_
      refine r_if_ne (tgt := 95) dX0_readAll_47 (by decide) (fun c3 => ?_) (fun c3 => ?_)
      · skip
        refine r_iload_n dX0_readAll_95 rfl ?_
        exact r_zret dX0_readAll_96 rfl (nar_z (g3 c1 c2 c3)).1 (K3 c1 c2 c3)
      · skip
        refine r_aload_n dX0_readAll_50 rfl ?_
        refine r_getR dX0_readAll_51 fs_3_0 fk_X0_18 ?_
        exact r_callV (x := 1) (As := []) (rest := []) dX0_readAll_54 mk_X0_40 mv_X10_readToken rm_X0_readAll_X10_readToken rfl rfl (by decide +kernel) (Nat.le_of_ble_eq_true rfl) (cal_v (lo' := [some (.ref (ad 3)), some (.int x1), none, some (.int x3)]) ⟨rfl, rfl, rfl, trivial⟩ (K4 c1 c2 c3))
theorem t_X0_readAll_57 {x1 : Int32} {x3 : Int32} 
    (K1 : (¬ ((if (gI M 1 1) = 0 then if (gI M 3 2) = 0 then 1 else 0 else 0 : Int32) = 0)) → Fw l D ad kA mX0_readAll 29 [some (.ref (ad 3)), some (.int x1), some (.int (if (gI M 1 1) = 0 then if (gI M 3 2) = 0 then 1 else 0 else 0)), some (.int (x3 + 1))] [] M Q)
    (K2 : ((if (gI M 1 1) = 0 then if (gI M 3 2) = 0 then 1 else 0 else 0 : Int32) = 0) → Cal l D ad kA mX0_take [.ref (ad 3), .int x1] M (fun oc M2 => oc = .returned none ∧ Fw l D ad kA mX0_readAll 89 [some (.ref (ad 3)), some (.int x1), some (.int (if (gI M 1 1) = 0 then if (gI M 3 2) = 0 then 1 else 0 else 0)), some (.int x3)] [] M2 Q)) : Fw l D ad kA mX0_readAll 57 [some (.ref (ad 3)), some (.int x1), none, some (.int x3)] [] M Q := by
  refine r_aload_n dX0_readAll_57 rfl ?_
  refine r_getR dX0_readAll_58 fs_3_0 fk_X0_18 ?_
  refine r_getI dX0_readAll_61 fs_1_1 fk_X0_43 ?_
  suffices hJ1 : Fw l D ad kA mX0_readAll 79 [some (.ref (ad 3)), some (.int x1), none, some (.int x3)] [.int (if (gI M 1 1) = 0 then if (gI M 3 2) = 0 then 1 else 0 else 0)] M Q by
    refine r_if_ne (tgt := 78) dX0_readAll_64 (by decide) (fun c1 => ?_) (fun c1 => ?_)
    · skip
      refine r_iconst (v := 0) dX0_readAll_78 kI_0 ?_
      exact q_weak (lo' := [some (.ref (ad 3)), some (.int x1), none, some (.int x3)]) ⟨rfl, rfl, rfl, trivial⟩ (by have h9 := hJ1; simp only [if_neg c1] at h9; first | exact h9 | (simp only [if_neg c1]; exact h9))
    · skip
      refine r_aload_n dX0_readAll_67 rfl ?_
      refine r_getI dX0_readAll_68 fs_3_2 fk_X0_31 ?_
      refine r_if_ne (tgt := 78) dX0_readAll_71 (by decide) (fun c2 => ?_) (fun c2 => ?_)
      · skip
        refine r_iconst (v := 0) dX0_readAll_78 kI_0 ?_
        exact q_weak (lo' := [some (.ref (ad 3)), some (.int x1), none, some (.int x3)]) ⟨rfl, rfl, rfl, trivial⟩ (by have h9 := hJ1; simp only [if_pos c1, if_neg c2] at h9; first | exact h9 | (simp only [if_pos c1, if_neg c2]; exact h9))
      · skip
        refine r_iconst (v := 1) dX0_readAll_74 kI_1 ?_
        refine r_goto (tgt := 79) dX0_readAll_75 (by decide) ?_
        exact q_weak (lo' := [some (.ref (ad 3)), some (.int x1), none, some (.int x3)]) ⟨rfl, rfl, rfl, trivial⟩ (by have h9 := hJ1; simp only [if_pos c1, if_pos c2] at h9; first | exact h9 | (simp only [if_pos c1, if_pos c2]; exact h9))
  refine q_istore_n (lo' := [some (.ref (ad 3)), some (.int x1), some (.int (if (gI M 1 1) = 0 then if (gI M 3 2) = 0 then 1 else 0 else 0)), some (.int x3)]) dX0_readAll_79 (by decide) rfl ?_
  refine r_iload_n dX0_readAll_80 rfl ?_
  refine r_if_ne (tgt := 89) dX0_readAll_81 (by decide) (fun c3 => ?_) (fun c3 => ?_)
  · skip
    refine q_iinc (v := x3 + 1) (lo' := [some (.ref (ad 3)), some (.int x1), some (.int (if (gI M 1 1) = 0 then if (gI M 3 2) = 0 then 1 else 0 else 0)), some (.int (x3 + 1))]) dX0_readAll_89 rfl (congrArg (fun q => x3 + q) kI_1) (by decide) rfl ?_
    refine r_goto (tgt := 29) dX0_readAll_92 (by decide) ?_
    exact (K1 c3)
  · skip
    refine r_aload_n dX0_readAll_84 rfl ?_
    refine r_iload_n dX0_readAll_85 rfl ?_
    exact r_callV (x := 3) (As := [.int x1]) (rest := []) dX0_readAll_86 mk_X0_46 mv_X0_take rm_X0_readAll_X0_take rfl rfl (by decide +kernel) (Nat.le_of_ble_eq_true rfl) (cal_v (lo' := [some (.ref (ad 3)), some (.int x1), some (.int (if (gI M 1 1) = 0 then if (gI M 3 2) = 0 then 1 else 0 else 0)), some (.int x3)]) ⟨rfl, rfl, rfl, rfl, trivial⟩ (K2 c3))
theorem t_X0_readAll_89 {x1 : Int32} {x2 : Int32} {x3 : Int32} 
    (K1 : Fw l D ad kA mX0_readAll 29 [some (.ref (ad 3)), some (.int x1), some (.int x2), some (.int (x3 + 1))] [] M Q) : Fw l D ad kA mX0_readAll 89 [some (.ref (ad 3)), some (.int x1), some (.int x2), some (.int x3)] [] M Q := by
  refine q_iinc (v := x3 + 1) (lo' := [some (.ref (ad 3)), some (.int x1), some (.int x2), some (.int (x3 + 1))]) dX0_readAll_89 rfl (congrArg (fun q => x3 + q) kI_1) (by decide) rfl ?_
  refine r_goto (tgt := 29) dX0_readAll_92 (by decide) ?_
  exact K1
theorem en_X0_readAll {x1 : Int32} (K : Fw l D ad kA mX0_readAll 0 [some (.ref (ad 3)), some (.int x1), none, none] [] M Q) : Cal l D ad kA mX0_readAll [.ref (ad 3), .int x1] M Q := Cal.of (by decide) rfl rfl (Nat.le_of_ble_eq_true rfl) K
end W_text
end
section
/-! Manners: decode rows, links, walks from cut to cut (printed by wip/gen) -/
theorem dX6_ruleNamed_0 : decode cX6_ruleNamed 0 = .ok (.aload_n 0, 1) := by decide +kernel
theorem dX6_ruleNamed_1 : decode cX6_ruleNamed 1 = .ok (.ldc 78, 2) := by decide +kernel
theorem dX6_ruleNamed_3 : decode cX6_ruleNamed 3 = .ok (.invokevirtual 79, 3) := by decide +kernel
theorem dX6_ruleNamed_6 : decode cX6_ruleNamed 6 = .ok (.ifCond .eq 5, 3) := by decide +kernel
theorem dX6_ruleNamed_9 : decode cX6_ruleNamed 9 = .ok (.iconst 0, 1) := by decide +kernel
theorem dX6_ruleNamed_10 : decode cX6_ruleNamed 10 = .ok (.ireturn, 1) := by decide +kernel
theorem dX6_ruleNamed_11 : decode cX6_ruleNamed 11 = .ok (.aload_n 0, 1) := by decide +kernel
theorem dX6_ruleNamed_12 : decode cX6_ruleNamed 12 = .ok (.ldc 83, 2) := by decide +kernel
theorem dX6_ruleNamed_14 : decode cX6_ruleNamed 14 = .ok (.invokevirtual 79, 3) := by decide +kernel
theorem dX6_ruleNamed_17 : decode cX6_ruleNamed 17 = .ok (.ifCond .eq 5, 3) := by decide +kernel
theorem dX6_ruleNamed_20 : decode cX6_ruleNamed 20 = .ok (.iconst 1, 1) := by decide +kernel
theorem dX6_ruleNamed_21 : decode cX6_ruleNamed 21 = .ok (.ireturn, 1) := by decide +kernel
theorem dX6_ruleNamed_22 : decode cX6_ruleNamed 22 = .ok (.aload_n 0, 1) := by decide +kernel
theorem dX6_ruleNamed_23 : decode cX6_ruleNamed 23 = .ok (.ldc 85, 2) := by decide +kernel
theorem dX6_ruleNamed_25 : decode cX6_ruleNamed 25 = .ok (.invokevirtual 79, 3) := by decide +kernel
theorem dX6_ruleNamed_28 : decode cX6_ruleNamed 28 = .ok (.ifCond .eq 5, 3) := by decide +kernel
theorem dX6_ruleNamed_31 : decode cX6_ruleNamed 31 = .ok (.iconst 2, 1) := by decide +kernel
theorem dX6_ruleNamed_32 : decode cX6_ruleNamed 32 = .ok (.ireturn, 1) := by decide +kernel
theorem dX6_ruleNamed_33 : decode cX6_ruleNamed 33 = .ok (.aload_n 0, 1) := by decide +kernel
theorem dX6_ruleNamed_34 : decode cX6_ruleNamed 34 = .ok (.ldc 87, 2) := by decide +kernel
theorem dX6_ruleNamed_36 : decode cX6_ruleNamed 36 = .ok (.invokevirtual 79, 3) := by decide +kernel
theorem dX6_ruleNamed_39 : decode cX6_ruleNamed 39 = .ok (.ifCond .eq 7, 3) := by decide +kernel
theorem dX6_ruleNamed_42 : decode cX6_ruleNamed 42 = .ok (.iconst 3, 1) := by decide +kernel
theorem dX6_ruleNamed_43 : decode cX6_ruleNamed 43 = .ok (.goto 4, 3) := by decide +kernel
theorem dX6_ruleNamed_46 : decode cX6_ruleNamed 46 = .ok (.iconst (-1), 1) := by decide +kernel
theorem dX6_ruleNamed_47 : decode cX6_ruleNamed 47 = .ok (.ireturn, 1) := by decide +kernel
theorem dX6_takeWord_0 : decode cX6_takeWord 0 = .ok (.aload_n 0, 1) := by decide +kernel
theorem dX6_takeWord_1 : decode cX6_takeWord 1 = .ok (.aload_n 1, 1) := by decide +kernel
theorem dX6_takeWord_2 : decode cX6_takeWord 2 = .ok (.invokestatic 62, 3) := by decide +kernel
theorem dX6_takeWord_5 : decode cX6_takeWord 5 = .ok (.putfield 66, 3) := by decide +kernel
theorem dX6_takeWord_8 : decode cX6_takeWord 8 = .ok (.aload_n 0, 1) := by decide +kernel
theorem dX6_takeWord_9 : decode cX6_takeWord 9 = .ok (.getfield 66, 3) := by decide +kernel
theorem dX6_takeWord_12 : decode cX6_takeWord 12 = .ok (.iconst (-1), 1) := by decide +kernel
theorem dX6_takeWord_13 : decode cX6_takeWord 13 = .ok (.if_icmp .ne 11, 3) := by decide +kernel
theorem dX6_takeWord_16 : decode cX6_takeWord 16 = .ok (.aload_n 1, 1) := by decide +kernel
theorem dX6_takeWord_17 : decode cX6_takeWord 17 = .ok (.iconst 1, 1) := by decide +kernel
theorem dX6_takeWord_18 : decode cX6_takeWord 18 = .ok (.invokevirtual 58, 3) := by decide +kernel
theorem dX6_takeWord_21 : decode cX6_takeWord 21 = .ok (.goto 29, 3) := by decide +kernel
theorem dX6_takeWord_24 : decode cX6_takeWord 24 = .ok (.aload_n 0, 1) := by decide +kernel
theorem dX6_takeWord_25 : decode cX6_takeWord 25 = .ok (.getfield 15, 3) := by decide +kernel
theorem dX6_takeWord_28 : decode cX6_takeWord 28 = .ok (.aload_n 0, 1) := by decide +kernel
theorem dX6_takeWord_29 : decode cX6_takeWord 29 = .ok (.getfield 66, 3) := by decide +kernel
theorem dX6_takeWord_32 : decode cX6_takeWord 32 = .ok (.iaload, 1) := by decide +kernel
theorem dX6_takeWord_33 : decode cX6_takeWord 33 = .ok (.iconst (-1), 1) := by decide +kernel
theorem dX6_takeWord_34 : decode cX6_takeWord 34 = .ok (.if_icmp .eq 11, 3) := by decide +kernel
theorem dX6_takeWord_37 : decode cX6_takeWord 37 = .ok (.aload_n 1, 1) := by decide +kernel
theorem dX6_takeWord_38 : decode cX6_takeWord 38 = .ok (.iconst 3, 1) := by decide +kernel
theorem dX6_takeWord_39 : decode cX6_takeWord 39 = .ok (.invokevirtual 58, 3) := by decide +kernel
theorem dX6_takeWord_42 : decode cX6_takeWord 42 = .ok (.goto 8, 3) := by decide +kernel
theorem dX6_takeWord_45 : decode cX6_takeWord 45 = .ok (.aload_n 0, 1) := by decide +kernel
theorem dX6_takeWord_46 : decode cX6_takeWord 46 = .ok (.iconst 1, 1) := by decide +kernel
theorem dX6_takeWord_47 : decode cX6_takeWord 47 = .ok (.putfield 32, 3) := by decide +kernel
theorem dX6_takeWord_50 : decode cX6_takeWord 50 = .ok (.return_, 1) := by decide +kernel
theorem dX6_takeNumber_0 : decode cX6_takeNumber 0 = .ok (.aload_n 0, 1) := by decide +kernel
theorem dX6_takeNumber_1 : decode cX6_takeNumber 1 = .ok (.getfield 66, 3) := by decide +kernel
theorem dX6_takeNumber_4 : decode cX6_takeNumber 4 = .ok (.ifCond .lt 33, 3) := by decide +kernel
theorem dX6_takeNumber_7 : decode cX6_takeNumber 7 = .ok (.aload_n 1, 1) := by decide +kernel
theorem dX6_takeNumber_8 : decode cX6_takeNumber 8 = .ok (.getfield 69, 3) := by decide +kernel
theorem dX6_takeNumber_11 : decode cX6_takeNumber 11 = .ok (.getstatic 72, 3) := by decide +kernel
theorem dX6_takeNumber_14 : decode cX6_takeNumber 14 = .ok (.aload_n 0, 1) := by decide +kernel
theorem dX6_takeNumber_15 : decode cX6_takeNumber 15 = .ok (.getfield 66, 3) := by decide +kernel
theorem dX6_takeNumber_18 : decode cX6_takeNumber 18 = .ok (.iaload, 1) := by decide +kernel
theorem dX6_takeNumber_19 : decode cX6_takeNumber 19 = .ok (.if_icmp .lt 18, 3) := by decide +kernel
theorem dX6_takeNumber_22 : decode cX6_takeNumber 22 = .ok (.aload_n 1, 1) := by decide +kernel
theorem dX6_takeNumber_23 : decode cX6_takeNumber 23 = .ok (.getfield 69, 3) := by decide +kernel
theorem dX6_takeNumber_26 : decode cX6_takeNumber 26 = .ok (.getstatic 75, 3) := by decide +kernel
theorem dX6_takeNumber_29 : decode cX6_takeNumber 29 = .ok (.aload_n 0, 1) := by decide +kernel
theorem dX6_takeNumber_30 : decode cX6_takeNumber 30 = .ok (.getfield 66, 3) := by decide +kernel
theorem dX6_takeNumber_33 : decode cX6_takeNumber 33 = .ok (.iaload, 1) := by decide +kernel
theorem dX6_takeNumber_34 : decode cX6_takeNumber 34 = .ok (.if_icmp .le 11, 3) := by decide +kernel
theorem dX6_takeNumber_37 : decode cX6_takeNumber 37 = .ok (.aload_n 1, 1) := by decide +kernel
theorem dX6_takeNumber_38 : decode cX6_takeNumber 38 = .ok (.iconst 2, 1) := by decide +kernel
theorem dX6_takeNumber_39 : decode cX6_takeNumber 39 = .ok (.invokevirtual 58, 3) := by decide +kernel
theorem dX6_takeNumber_42 : decode cX6_takeNumber 42 = .ok (.goto 21, 3) := by decide +kernel
theorem dX6_takeNumber_45 : decode cX6_takeNumber 45 = .ok (.aload_n 0, 1) := by decide +kernel
theorem dX6_takeNumber_46 : decode cX6_takeNumber 46 = .ok (.getfield 15, 3) := by decide +kernel
theorem dX6_takeNumber_49 : decode cX6_takeNumber 49 = .ok (.aload_n 0, 1) := by decide +kernel
theorem dX6_takeNumber_50 : decode cX6_takeNumber 50 = .ok (.getfield 66, 3) := by decide +kernel
theorem dX6_takeNumber_53 : decode cX6_takeNumber 53 = .ok (.aload_n 1, 1) := by decide +kernel
theorem dX6_takeNumber_54 : decode cX6_takeNumber 54 = .ok (.getfield 69, 3) := by decide +kernel
theorem dX6_takeNumber_57 : decode cX6_takeNumber 57 = .ok (.iastore, 1) := by decide +kernel
theorem dX6_takeNumber_58 : decode cX6_takeNumber 58 = .ok (.aload_n 0, 1) := by decide +kernel
theorem dX6_takeNumber_59 : decode cX6_takeNumber 59 = .ok (.iconst 2, 1) := by decide +kernel
theorem dX6_takeNumber_60 : decode cX6_takeNumber 60 = .ok (.putfield 32, 3) := by decide +kernel
theorem dX6_takeNumber_63 : decode cX6_takeNumber 63 = .ok (.return_, 1) := by decide +kernel
theorem dX6_take_0 : decode cX6_take 0 = .ok (.aload_n 0, 1) := by decide +kernel
theorem dX6_take_1 : decode cX6_take 1 = .ok (.getfield 32, 3) := by decide +kernel
theorem dX6_take_4 : decode cX6_take 4 = .ok (.ifCond .ne 11, 3) := by decide +kernel
theorem dX6_take_7 : decode cX6_take 7 = .ok (.aload_n 0, 1) := by decide +kernel
theorem dX6_take_8 : decode cX6_take 8 = .ok (.aload_n 1, 1) := by decide +kernel
theorem dX6_take_9 : decode cX6_take 9 = .ok (.invokevirtual 52, 3) := by decide +kernel
theorem dX6_take_12 : decode cX6_take 12 = .ok (.goto 66, 3) := by decide +kernel
theorem dX6_take_15 : decode cX6_take 15 = .ok (.aload_n 0, 1) := by decide +kernel
theorem dX6_take_16 : decode cX6_take 16 = .ok (.getfield 32, 3) := by decide +kernel
theorem dX6_take_19 : decode cX6_take 19 = .ok (.iconst 1, 1) := by decide +kernel
theorem dX6_take_20 : decode cX6_take 20 = .ok (.if_icmp .ne 19, 3) := by decide +kernel
theorem dX6_take_23 : decode cX6_take 23 = .ok (.aload_n 1, 1) := by decide +kernel
theorem dX6_take_24 : decode cX6_take 24 = .ok (.getfield 45, 3) := by decide +kernel
theorem dX6_take_27 : decode cX6_take 27 = .ok (.iconst 2, 1) := by decide +kernel
theorem dX6_take_28 : decode cX6_take 28 = .ok (.if_icmp .ne 11, 3) := by decide +kernel
theorem dX6_take_31 : decode cX6_take 31 = .ok (.aload_n 0, 1) := by decide +kernel
theorem dX6_take_32 : decode cX6_take 32 = .ok (.aload_n 1, 1) := by decide +kernel
theorem dX6_take_33 : decode cX6_take 33 = .ok (.invokevirtual 55, 3) := by decide +kernel
theorem dX6_take_36 : decode cX6_take 36 = .ok (.goto 42, 3) := by decide +kernel
theorem dX6_take_39 : decode cX6_take 39 = .ok (.aload_n 0, 1) := by decide +kernel
theorem dX6_take_40 : decode cX6_take 40 = .ok (.getfield 32, 3) := by decide +kernel
theorem dX6_take_43 : decode cX6_take 43 = .ok (.iconst 2, 1) := by decide +kernel
theorem dX6_take_44 : decode cX6_take 44 = .ok (.if_icmp .ne 29, 3) := by decide +kernel
theorem dX6_take_47 : decode cX6_take 47 = .ok (.aload_n 1, 1) := by decide +kernel
theorem dX6_take_48 : decode cX6_take 48 = .ok (.getfield 45, 3) := by decide +kernel
theorem dX6_take_51 : decode cX6_take 51 = .ok (.iconst 3, 1) := by decide +kernel
theorem dX6_take_52 : decode cX6_take 52 = .ok (.if_icmp .ne 21, 3) := by decide +kernel
theorem dX6_take_55 : decode cX6_take 55 = .ok (.aload_n 0, 1) := by decide +kernel
theorem dX6_take_56 : decode cX6_take 56 = .ok (.dup, 1) := by decide +kernel
theorem dX6_take_57 : decode cX6_take 57 = .ok (.getfield 36, 3) := by decide +kernel
theorem dX6_take_60 : decode cX6_take 60 = .ok (.iconst 1, 1) := by decide +kernel
theorem dX6_take_61 : decode cX6_take 61 = .ok (.iadd, 1) := by decide +kernel
theorem dX6_take_62 : decode cX6_take 62 = .ok (.putfield 36, 3) := by decide +kernel
theorem dX6_take_65 : decode cX6_take 65 = .ok (.aload_n 0, 1) := by decide +kernel
theorem dX6_take_66 : decode cX6_take 66 = .ok (.iconst 0, 1) := by decide +kernel
theorem dX6_take_67 : decode cX6_take 67 = .ok (.putfield 32, 3) := by decide +kernel
theorem dX6_take_70 : decode cX6_take 70 = .ok (.goto 8, 3) := by decide +kernel
theorem dX6_take_73 : decode cX6_take 73 = .ok (.aload_n 1, 1) := by decide +kernel
theorem dX6_take_74 : decode cX6_take 74 = .ok (.iconst 1, 1) := by decide +kernel
theorem dX6_take_75 : decode cX6_take 75 = .ok (.invokevirtual 58, 3) := by decide +kernel
theorem dX6_take_78 : decode cX6_take 78 = .ok (.return_, 1) := by decide +kernel
theorem dX6_readAll_0 : decode cX6_readAll 0 = .ok (.aload_n 1, 1) := by decide +kernel
theorem dX6_readAll_1 : decode cX6_readAll 1 = .ok (.invokevirtual 27, 3) := by decide +kernel
theorem dX6_readAll_4 : decode cX6_readAll 4 = .ok (.iconst 0, 1) := by decide +kernel
theorem dX6_readAll_5 : decode cX6_readAll 5 = .ok (.istore_n 2, 1) := by decide +kernel
theorem dX6_readAll_6 : decode cX6_readAll 6 = .ok (.iload_n 2, 1) := by decide +kernel
theorem dX6_readAll_7 : decode cX6_readAll 7 = .ok (.iconst 4, 1) := by decide +kernel
theorem dX6_readAll_8 : decode cX6_readAll 8 = .ok (.if_icmp .ge 16, 3) := by decide +kernel
theorem dX6_readAll_11 : decode cX6_readAll 11 = .ok (.aload_n 0, 1) := by decide +kernel
theorem dX6_readAll_12 : decode cX6_readAll 12 = .ok (.getfield 15, 3) := by decide +kernel
theorem dX6_readAll_15 : decode cX6_readAll 15 = .ok (.iload_n 2, 1) := by decide +kernel
theorem dX6_readAll_16 : decode cX6_readAll 16 = .ok (.iconst (-1), 1) := by decide +kernel
theorem dX6_readAll_17 : decode cX6_readAll 17 = .ok (.iastore, 1) := by decide +kernel
theorem dX6_readAll_18 : decode cX6_readAll 18 = .ok (.iinc 2 1, 3) := by decide +kernel
theorem dX6_readAll_21 : decode cX6_readAll 21 = .ok (.goto (-15), 3) := by decide +kernel
theorem dX6_readAll_24 : decode cX6_readAll 24 = .ok (.aload_n 0, 1) := by decide +kernel
theorem dX6_readAll_25 : decode cX6_readAll 25 = .ok (.iconst 0, 1) := by decide +kernel
theorem dX6_readAll_26 : decode cX6_readAll 26 = .ok (.putfield 32, 3) := by decide +kernel
theorem dX6_readAll_29 : decode cX6_readAll 29 = .ok (.aload_n 0, 1) := by decide +kernel
theorem dX6_readAll_30 : decode cX6_readAll 30 = .ok (.iconst 0, 1) := by decide +kernel
theorem dX6_readAll_31 : decode cX6_readAll 31 = .ok (.putfield 36, 3) := by decide +kernel
theorem dX6_readAll_34 : decode cX6_readAll 34 = .ok (.iconst 0, 1) := by decide +kernel
theorem dX6_readAll_35 : decode cX6_readAll 35 = .ok (.istore_n 2, 1) := by decide +kernel
theorem dX6_readAll_36 : decode cX6_readAll 36 = .ok (.iconst 0, 1) := by decide +kernel
theorem dX6_readAll_37 : decode cX6_readAll 37 = .ok (.istore_n 3, 1) := by decide +kernel
theorem dX6_readAll_38 : decode cX6_readAll 38 = .ok (.iload_n 3, 1) := by decide +kernel
theorem dX6_readAll_39 : decode cX6_readAll 39 = .ok (.sipush 1200, 3) := by decide +kernel
theorem dX6_readAll_42 : decode cX6_readAll 42 = .ok (.if_icmp .gt 53, 3) := by decide +kernel
theorem dX6_readAll_45 : decode cX6_readAll 45 = .ok (.iload_n 2, 1) := by decide +kernel
theorem dX6_readAll_46 : decode cX6_readAll 46 = .ok (.ifCond .ne 49, 3) := by decide +kernel
theorem dX6_readAll_49 : decode cX6_readAll 49 = .ok (.aload_n 1, 1) := by decide +kernel
theorem dX6_readAll_50 : decode cX6_readAll 50 = .ok (.getfield 39, 3) := by decide +kernel
theorem dX6_readAll_53 : decode cX6_readAll 53 = .ok (.ifCond .ne 42, 3) := by decide +kernel
theorem dX6_readAll_56 : decode cX6_readAll 56 = .ok (.aload_n 1, 1) := by decide +kernel
theorem dX6_readAll_57 : decode cX6_readAll 57 = .ok (.invokevirtual 42, 3) := by decide +kernel
theorem dX6_readAll_60 : decode cX6_readAll 60 = .ok (.aload_n 1, 1) := by decide +kernel
theorem dX6_readAll_61 : decode cX6_readAll 61 = .ok (.getfield 45, 3) := by decide +kernel
theorem dX6_readAll_64 : decode cX6_readAll 64 = .ok (.ifCond .ne 14, 3) := by decide +kernel
theorem dX6_readAll_67 : decode cX6_readAll 67 = .ok (.aload_n 0, 1) := by decide +kernel
theorem dX6_readAll_68 : decode cX6_readAll 68 = .ok (.getfield 32, 3) := by decide +kernel
theorem dX6_readAll_71 : decode cX6_readAll 71 = .ok (.ifCond .ne 7, 3) := by decide +kernel
theorem dX6_readAll_74 : decode cX6_readAll 74 = .ok (.iconst 1, 1) := by decide +kernel
theorem dX6_readAll_75 : decode cX6_readAll 75 = .ok (.goto 4, 3) := by decide +kernel
theorem dX6_readAll_78 : decode cX6_readAll 78 = .ok (.iconst 0, 1) := by decide +kernel
theorem dX6_readAll_79 : decode cX6_readAll 79 = .ok (.istore_n 2, 1) := by decide +kernel
theorem dX6_readAll_80 : decode cX6_readAll 80 = .ok (.iload_n 2, 1) := by decide +kernel
theorem dX6_readAll_81 : decode cX6_readAll 81 = .ok (.ifCond .ne 8, 3) := by decide +kernel
theorem dX6_readAll_84 : decode cX6_readAll 84 = .ok (.aload_n 0, 1) := by decide +kernel
theorem dX6_readAll_85 : decode cX6_readAll 85 = .ok (.aload_n 1, 1) := by decide +kernel
theorem dX6_readAll_86 : decode cX6_readAll 86 = .ok (.invokevirtual 48, 3) := by decide +kernel
theorem dX6_readAll_89 : decode cX6_readAll 89 = .ok (.iinc 3 1, 3) := by decide +kernel
theorem dX6_readAll_92 : decode cX6_readAll 92 = .ok (.goto (-54), 3) := by decide +kernel
theorem dX6_readAll_95 : decode cX6_readAll 95 = .ok (.iload_n 2, 1) := by decide +kernel
theorem dX6_readAll_96 : decode cX6_readAll 96 = .ok (.ifCond .ne 5, 3) := by decide +kernel
theorem dX6_readAll_99 : decode cX6_readAll 99 = .ok (.iconst (-1), 1) := by decide +kernel
theorem dX6_readAll_100 : decode cX6_readAll 100 = .ok (.ireturn, 1) := by decide +kernel
theorem dX6_readAll_101 : decode cX6_readAll 101 = .ok (.iconst 0, 1) := by decide +kernel
theorem dX6_readAll_102 : decode cX6_readAll 102 = .ok (.istore_n 3, 1) := by decide +kernel
theorem dX6_readAll_103 : decode cX6_readAll 103 = .ok (.iload_n 3, 1) := by decide +kernel
theorem dX6_readAll_104 : decode cX6_readAll 104 = .ok (.iconst 4, 1) := by decide +kernel
theorem dX6_readAll_105 : decode cX6_readAll 105 = .ok (.if_icmp .ge 39, 3) := by decide +kernel
theorem dX6_readAll_108 : decode cX6_readAll 108 = .ok (.aload_n 0, 1) := by decide +kernel
theorem dX6_readAll_109 : decode cX6_readAll 109 = .ok (.getfield 11, 3) := by decide +kernel
theorem dX6_readAll_112 : decode cX6_readAll 112 = .ok (.iload_n 3, 1) := by decide +kernel
theorem dX6_readAll_113 : decode cX6_readAll 113 = .ok (.aload_n 0, 1) := by decide +kernel
theorem dX6_readAll_114 : decode cX6_readAll 114 = .ok (.getfield 15, 3) := by decide +kernel
theorem dX6_readAll_117 : decode cX6_readAll 117 = .ok (.iload_n 3, 1) := by decide +kernel
theorem dX6_readAll_118 : decode cX6_readAll 118 = .ok (.iaload, 1) := by decide +kernel
theorem dX6_readAll_119 : decode cX6_readAll 119 = .ok (.iconst (-1), 1) := by decide +kernel
theorem dX6_readAll_120 : decode cX6_readAll 120 = .ok (.if_icmp .ne 11, 3) := by decide +kernel
theorem dX6_readAll_123 : decode cX6_readAll 123 = .ok (.getstatic 18, 3) := by decide +kernel
theorem dX6_readAll_126 : decode cX6_readAll 126 = .ok (.iload_n 3, 1) := by decide +kernel
theorem dX6_readAll_127 : decode cX6_readAll 127 = .ok (.iaload, 1) := by decide +kernel
theorem dX6_readAll_128 : decode cX6_readAll 128 = .ok (.goto 9, 3) := by decide +kernel
theorem dX6_readAll_131 : decode cX6_readAll 131 = .ok (.aload_n 0, 1) := by decide +kernel
theorem dX6_readAll_132 : decode cX6_readAll 132 = .ok (.getfield 15, 3) := by decide +kernel
theorem dX6_readAll_135 : decode cX6_readAll 135 = .ok (.iload_n 3, 1) := by decide +kernel
theorem dX6_readAll_136 : decode cX6_readAll 136 = .ok (.iaload, 1) := by decide +kernel
theorem dX6_readAll_137 : decode cX6_readAll 137 = .ok (.iastore, 1) := by decide +kernel
theorem dX6_readAll_138 : decode cX6_readAll 138 = .ok (.iinc 3 1, 3) := by decide +kernel
theorem dX6_readAll_141 : decode cX6_readAll 141 = .ok (.goto (-38), 3) := by decide +kernel
theorem dX6_readAll_144 : decode cX6_readAll 144 = .ok (.aload_n 0, 1) := by decide +kernel
theorem dX6_readAll_145 : decode cX6_readAll 145 = .ok (.getfield 36, 3) := by decide +kernel
theorem dX6_readAll_148 : decode cX6_readAll 148 = .ok (.ireturn, 1) := by decide +kernel
abbrev mX6_ruleNamed : MI := (yX6_ruleNamed, cX6_ruleNamed, 1, some .int, 6, 129, [])
abbrev mX6_takeWord : MI := (yX6_takeWord, cX6_takeWord, 2, none, 7, 149, [])
abbrev mX6_takeNumber : MI := (yX6_takeNumber, cX6_takeNumber, 2, none, 2, 42, [])
abbrev mX6_take : MI := (yX6_take, cX6_take, 2, none, 8, 170, [])
abbrev mX6_readAll : MI := (yX6_readAll, cX6_readAll, 4, some .int, 9, 191, [])
theorem fk_X6_11 : Fk RX6 11 6 0 := ⟨RX6, TX6, 5, tyX6, rfl, inX6, by decide, lw_in (i := 156) (by decide +kernel) (by decide +kernel), tyX6_ok, nmX6⟩
theorem fk_X6_15 : Fk RX6 15 6 1 := ⟨RX6, TX6, 5, tyX6, rfl, inX6, by decide, lw_in (i := 160) (by decide +kernel) (by decide +kernel), tyX6_ok, nmX6⟩
theorem fl_X6_18 : Cond.fieldLink RX6 18 "BellTable$Manners" "AT_FIRST" "[I" ∈ lw_w := lw_in (i := 151) (by decide +kernel) (by decide +kernel)
theorem fk_X6_32 : Fk RX6 32 6 2 := ⟨RX6, TX6, 5, tyX6, rfl, inX6, by decide, lw_in (i := 161) (by decide +kernel) (by decide +kernel), tyX6_ok, nmX6⟩
theorem fk_X6_36 : Fk RX6 36 6 4 := ⟨RX6, TX6, 5, tyX6, rfl, inX6, by decide, lw_in (i := 163) (by decide +kernel) (by decide +kernel), tyX6_ok, nmX6⟩
theorem fk_X6_39 : Fk RX6 39 10 3 := ⟨RX10, TX10, 8, tyX10, rfl, inX10, by decide, lw_in (i := 46) (by decide +kernel) (by decide +kernel), tyX10_ok, nmX10⟩
theorem fk_X6_45 : Fk RX6 45 10 1 := ⟨RX10, TX10, 8, tyX10, rfl, inX10, by decide, lw_in (i := 40) (by decide +kernel) (by decide +kernel), tyX10_ok, nmX10⟩
theorem fk_X6_66 : Fk RX6 66 6 3 := ⟨RX6, TX6, 5, tyX6, rfl, inX6, by decide, lw_in (i := 162) (by decide +kernel) (by decide +kernel), tyX6_ok, nmX6⟩
theorem fk_X6_69 : Fk RX6 69 10 2 := ⟨RX10, TX10, 8, tyX10, rfl, inX10, by decide, lw_in (i := 42) (by decide +kernel) (by decide +kernel), tyX10_ok, nmX10⟩
theorem fl_X6_72 : Cond.fieldLink RX6 72 "BellTable$Manners" "LEAST" "[I" ∈ lw_w := lw_in (i := 677) (by decide +kernel) (by decide +kernel)
theorem fl_X6_75 : Cond.fieldLink RX6 75 "BellTable$Manners" "GREATEST" "[I" ∈ lw_w := lw_in (i := 679) (by decide +kernel) (by decide +kernel)
theorem fp_X6_2 : Fp 6 2 .int := ⟨RX6, TX6, 5, rfl, rfl, by decide +kernel⟩
theorem fp_X6_3 : Fp 6 3 .int := ⟨RX6, TX6, 5, rfl, rfl, by decide +kernel⟩
theorem fp_X6_4 : Fp 6 4 .int := ⟨RX6, TX6, 5, rfl, rfl, by decide +kernel⟩
theorem ms_X6_ruleNamed : Cond.static mX6_ruleNamed.y ∈ lw_w := lw_in (i := 665) (by decide +kernel) (by decide +kernel)
theorem mv_X6_take : MkV mX6_take := ⟨lw_in (i := 658) (by decide +kernel) (by decide +kernel), lw_se (i := 9) (by decide +kernel) (by decide +kernel)⟩
theorem mv_X6_takeNumber : MkV mX6_takeNumber := ⟨lw_in (i := 675) (by decide +kernel) (by decide +kernel), lw_se (i := 11) (by decide +kernel) (by decide +kernel)⟩
theorem mv_X6_takeWord : MkV mX6_takeWord := ⟨lw_in (i := 662) (by decide +kernel) (by decide +kernel), lw_se (i := 10) (by decide +kernel) (by decide +kernel)⟩
theorem mk_X6_27 : Mk RX6 27 mX10_start 0 := ⟨lw_in (i := 654) (by decide +kernel) (by decide +kernel), lw_in (i := 2) (by decide +kernel) (by decide +kernel), lw_in (i := 487) (by decide +kernel) (by decide +kernel), by decide +kernel⟩
theorem mk_X6_42 : Mk RX6 42 mX10_readToken 0 := ⟨lw_in (i := 655) (by decide +kernel) (by decide +kernel), lw_in (i := 2) (by decide +kernel) (by decide +kernel), lw_in (i := 491) (by decide +kernel) (by decide +kernel), by decide +kernel⟩
theorem mk_X6_48 : Mk RX6 48 mX6_take 1 := ⟨lw_in (i := 656) (by decide +kernel) (by decide +kernel), lw_in (i := 5) (by decide +kernel) (by decide +kernel), lw_in (i := 659) (by decide +kernel) (by decide +kernel), by decide +kernel⟩
theorem mk_X6_52 : Mk RX6 52 mX6_takeWord 1 := ⟨lw_in (i := 660) (by decide +kernel) (by decide +kernel), lw_in (i := 5) (by decide +kernel) (by decide +kernel), lw_in (i := 663) (by decide +kernel) (by decide +kernel), by decide +kernel⟩
theorem mk_X6_55 : Mk RX6 55 mX6_takeNumber 1 := ⟨lw_in (i := 673) (by decide +kernel) (by decide +kernel), lw_in (i := 5) (by decide +kernel) (by decide +kernel), lw_in (i := 676) (by decide +kernel) (by decide +kernel), by decide +kernel⟩
theorem mk_X6_58 : Mk RX6 58 mX10_refuse 1 := ⟨lw_in (i := 672) (by decide +kernel) (by decide +kernel), lw_in (i := 2) (by decide +kernel) (by decide +kernel), lw_in (i := 577) (by decide +kernel) (by decide +kernel), by decide +kernel⟩
theorem mk_X6_62 : Mk RX6 62 mX6_ruleNamed 1 := ⟨lw_in (i := 664) (by decide +kernel) (by decide +kernel), lw_in (i := 5) (by decide +kernel) (by decide +kernel), lw_in (i := 666) (by decide +kernel) (by decide +kernel), by decide +kernel⟩
theorem mk_X6_79 : Mk RX6 79 mX10_isWord 1 := ⟨lw_in (i := 668) (by decide +kernel) (by decide +kernel), lw_in (i := 2) (by decide +kernel) (by decide +kernel), lw_in (i := 521) (by decide +kernel) (by decide +kernel), by decide +kernel⟩
theorem rm_X6_readAll_X10_readToken : Rm mX6_readAll mX10_readToken := ⟨by decide, by decide⟩
theorem rm_X6_readAll_X10_start : Rm mX6_readAll mX10_start := ⟨by decide, by decide⟩
theorem rm_X6_readAll_X6_take : Rm mX6_readAll mX6_take := ⟨by decide, by decide⟩
theorem rm_X6_ruleNamed_X10_isWord : Rm mX6_ruleNamed mX10_isWord := ⟨by decide, by decide⟩
theorem rm_X6_take_X10_refuse : Rm mX6_take mX10_refuse := ⟨by decide, by decide⟩
theorem rm_X6_take_X6_takeNumber : Rm mX6_take mX6_takeNumber := ⟨by decide, by decide⟩
theorem rm_X6_take_X6_takeWord : Rm mX6_take mX6_takeWord := ⟨by decide, by decide⟩
theorem rm_X6_takeNumber_X10_refuse : Rm mX6_takeNumber mX10_refuse := ⟨by decide, by decide⟩
theorem rm_X6_takeWord_X10_refuse : Rm mX6_takeWord mX10_refuse := ⟨by decide, by decide⟩
theorem rm_X6_takeWord_X6_ruleNamed : Rm mX6_takeWord mX6_ruleNamed := ⟨by decide, by decide⟩
section W_manners
variable {l : Launch} {D : va_G} {ad : Nat → Nat} {kA : Nat → ClassId} {M : Mem} {Q : Outcome → Mem → Prop}
theorem t_X6_ruleNamed_0  
    (K1 : Cal l D ad kA mX10_isWord [.ref (ad 1), .ref (ad (210 + 4))] M (fun oc M2 => ∃ r : Int32, oc = .returned (some (.int r)) ∧ Fw l D ad kA mX6_ruleNamed 6 [some (.ref (ad 1))] [.int r] M2 Q)) : Fw l D ad kA mX6_ruleNamed 0 [some (.ref (ad 1))] [] M Q := by
  refine r_aload_n dX6_ruleNamed_0 rfl ?_
  refine r_ldcS (i := 4) dX6_ruleNamed_1 (by decide) rfl ?_
  exact r_callV (x := 1) (As := [.ref (ad (210 + 4))]) (rest := []) dX6_ruleNamed_3 mk_X6_79 mv_X10_isWord rm_X6_ruleNamed_X10_isWord rfl rfl (by decide +kernel) (Nat.le_of_ble_eq_true rfl) (cal_i (lo' := [some (.ref (ad 1))]) ⟨rfl, trivial⟩ K1)
theorem t_X6_ruleNamed_6 {s1 : Int32} 
    (K1 : (s1 = 0) → Cal l D ad kA mX10_isWord [.ref (ad 1), .ref (ad (210 + 5))] M (fun oc M2 => ∃ r : Int32, oc = .returned (some (.int r)) ∧ Fw l D ad kA mX6_ruleNamed 17 [some (.ref (ad 1))] [.int r] M2 Q))
    (K2 : (¬ (s1 = 0)) → Q (.returned (some (.int 0))) M) : Fw l D ad kA mX6_ruleNamed 6 [some (.ref (ad 1))] [.int s1] M Q := by
  refine r_if_eq (tgt := 11) dX6_ruleNamed_6 (by decide) (fun c1 => ?_) (fun c1 => ?_)
  · skip
    refine r_aload_n dX6_ruleNamed_11 rfl ?_
    refine r_ldcS (i := 5) dX6_ruleNamed_12 (by decide) rfl ?_
    exact r_callV (x := 1) (As := [.ref (ad (210 + 5))]) (rest := []) dX6_ruleNamed_14 mk_X6_79 mv_X10_isWord rm_X6_ruleNamed_X10_isWord rfl rfl (by decide +kernel) (Nat.le_of_ble_eq_true rfl) (cal_i (lo' := [some (.ref (ad 1))]) ⟨rfl, trivial⟩ (K1 c1))
  · skip
    refine r_iconst (v := 0) dX6_ruleNamed_9 kI_0 ?_
    exact r_iret dX6_ruleNamed_10 rfl (K2 c1)
theorem t_X6_ruleNamed_17 {s1 : Int32} 
    (K1 : (s1 = 0) → Cal l D ad kA mX10_isWord [.ref (ad 1), .ref (ad (210 + 6))] M (fun oc M2 => ∃ r : Int32, oc = .returned (some (.int r)) ∧ Fw l D ad kA mX6_ruleNamed 28 [some (.ref (ad 1))] [.int r] M2 Q))
    (K2 : (¬ (s1 = 0)) → Q (.returned (some (.int 1))) M) : Fw l D ad kA mX6_ruleNamed 17 [some (.ref (ad 1))] [.int s1] M Q := by
  refine r_if_eq (tgt := 22) dX6_ruleNamed_17 (by decide) (fun c1 => ?_) (fun c1 => ?_)
  · skip
    refine r_aload_n dX6_ruleNamed_22 rfl ?_
    refine r_ldcS (i := 6) dX6_ruleNamed_23 (by decide) rfl ?_
    exact r_callV (x := 1) (As := [.ref (ad (210 + 6))]) (rest := []) dX6_ruleNamed_25 mk_X6_79 mv_X10_isWord rm_X6_ruleNamed_X10_isWord rfl rfl (by decide +kernel) (Nat.le_of_ble_eq_true rfl) (cal_i (lo' := [some (.ref (ad 1))]) ⟨rfl, trivial⟩ (K1 c1))
  · skip
    refine r_iconst (v := 1) dX6_ruleNamed_20 kI_1 ?_
    exact r_iret dX6_ruleNamed_21 rfl (K2 c1)
theorem t_X6_ruleNamed_28 {s1 : Int32} 
    (K1 : (s1 = 0) → Cal l D ad kA mX10_isWord [.ref (ad 1), .ref (ad (210 + 7))] M (fun oc M2 => ∃ r : Int32, oc = .returned (some (.int r)) ∧ Fw l D ad kA mX6_ruleNamed 39 [none] [.int r] M2 Q))
    (K2 : (¬ (s1 = 0)) → Q (.returned (some (.int 2))) M) : Fw l D ad kA mX6_ruleNamed 28 [some (.ref (ad 1))] [.int s1] M Q := by
  refine r_if_eq (tgt := 33) dX6_ruleNamed_28 (by decide) (fun c1 => ?_) (fun c1 => ?_)
  · skip
    refine r_aload_n dX6_ruleNamed_33 rfl ?_
    refine r_ldcS (i := 7) dX6_ruleNamed_34 (by decide) rfl ?_
    exact r_callV (x := 1) (As := [.ref (ad (210 + 7))]) (rest := []) dX6_ruleNamed_36 mk_X6_79 mv_X10_isWord rm_X6_ruleNamed_X10_isWord rfl rfl (by decide +kernel) (Nat.le_of_ble_eq_true rfl) (cal_i (lo' := [none]) trivial (K1 c1))
  · skip
    refine r_iconst (v := 2) dX6_ruleNamed_31 kI_2 ?_
    exact r_iret dX6_ruleNamed_32 rfl (K2 c1)
theorem t_X6_ruleNamed_39 {s1 : Int32} 
    (K1 : Q (.returned (some (.int (if s1 = 0 then (-1) else 3)))) M) : Fw l D ad kA mX6_ruleNamed 39 [none] [.int s1] M Q := by
  suffices hJ1 : Fw l D ad kA mX6_ruleNamed 47 [none] [.int (if s1 = 0 then (-1) else 3)] M Q by
    refine r_if_eq (tgt := 46) dX6_ruleNamed_39 (by decide) (fun c1 => ?_) (fun c1 => ?_)
    · skip
      refine r_iconst (v := (-1)) dX6_ruleNamed_46 kI_m1 ?_
      exact q_weak (lo' := [none]) trivial (by have h9 := hJ1; simp only [if_pos c1] at h9; first | exact h9 | (simp only [if_pos c1]; exact h9))
    · skip
      refine r_iconst (v := 3) dX6_ruleNamed_42 kI_3 ?_
      refine r_goto (tgt := 47) dX6_ruleNamed_43 (by decide) ?_
      exact q_weak (lo' := [none]) trivial (by have h9 := hJ1; simp only [if_neg c1] at h9; first | exact h9 | (simp only [if_neg c1]; exact h9))
  exact r_iret dX6_ruleNamed_47 rfl K1
theorem en_X6_ruleNamed  (K : Fw l D ad kA mX6_ruleNamed 0 [some (.ref (ad 1))] [] M Q) : Cal l D ad kA mX6_ruleNamed [.ref (ad 1)] M Q := Cal.of (by decide) rfl rfl (Nat.le_of_ble_eq_true rfl) K
theorem t_X6_takeWord_0  
    (K1 : Cal l D ad kA mX6_ruleNamed [.ref (ad 1)] M (fun oc M2 => ∃ r : Int32, oc = .returned (some (.int r)) ∧ Fw l D ad kA mX6_takeWord 5 [some (.ref (ad 14)), some (.ref (ad 1))] [.int r, .ref (ad 14)] M2 Q)) : Fw l D ad kA mX6_takeWord 0 [some (.ref (ad 14)), some (.ref (ad 1))] [] M Q := by
  refine r_aload_n dX6_takeWord_0 rfl ?_
  refine r_aload_n dX6_takeWord_1 rfl ?_
  exact r_callS (As := [.ref (ad 1)]) (rest := [.ref (ad 14)]) dX6_takeWord_2 mk_X6_62 ms_X6_ruleNamed rm_X6_takeWord_X6_ruleNamed rfl rfl (Nat.le_of_ble_eq_true rfl) (cal_i (lo' := [some (.ref (ad 14)), some (.ref (ad 1))]) ⟨rfl, rfl, trivial⟩ K1)
theorem t_X6_takeWord_5 {s2 : Int32} 
    (g1 : (¬ ((gI (sI M 14 3 s2) 14 3) = (-1))) → vp_in (gI (sI M 14 3 s2) 14 3) 4)
    (K1 : (¬ ((gI (sI M 14 3 s2) 14 3) = (-1))) → ((gI (sI M 14 3 s2) 16 (gI (sI M 14 3 s2) 14 3).toNatClampNeg) = (-1)) → Q (.returned none) (sI (sI M 14 3 s2) 14 2 1))
    (K2 : (¬ ((gI (sI M 14 3 s2) 14 3) = (-1))) → (¬ ((gI (sI M 14 3 s2) 16 (gI (sI M 14 3 s2) 14 3).toNatClampNeg) = (-1))) → Cal l D ad kA mX10_refuse [.ref (ad 1), .int 3] (sI M 14 3 s2) (fun oc M2 => oc = .returned none ∧ Fw l D ad kA mX6_takeWord 42 [none, none] [] M2 Q))
    (K3 : ((gI (sI M 14 3 s2) 14 3) = (-1)) → Cal l D ad kA mX10_refuse [.ref (ad 1), .int 1] (sI M 14 3 s2) (fun oc M2 => oc = .returned none ∧ Fw l D ad kA mX6_takeWord 21 [none, none] [] M2 Q)) : Fw l D ad kA mX6_takeWord 5 [some (.ref (ad 14)), some (.ref (ad 1))] [.int s2, .ref (ad 14)] M Q := by
  refine r_putI dX6_takeWord_5 fs_14_3 fk_X6_66 fp_X6_3 ?_
  refine r_aload_n dX6_takeWord_8 rfl ?_
  refine r_getI dX6_takeWord_9 fs_14_3 fk_X6_66 ?_
  refine r_iconst (v := (-1)) dX6_takeWord_12 kI_m1 ?_
  refine r_icmp_ne (tgt := 24) dX6_takeWord_13 (by decide) (fun c1 => ?_) (fun c1 => ?_)
  · skip
    refine r_aload_n dX6_takeWord_24 rfl ?_
    refine r_getR dX6_takeWord_25 fs_14_1 fk_X6_15 ?_
    refine r_aload_n dX6_takeWord_28 rfl ?_
    refine r_getI dX6_takeWord_29 fs_14_3 fk_X6_66 ?_
    refine r_iald dX6_takeWord_32 as_16 (g1 c1) ?_
    refine r_iconst (v := (-1)) dX6_takeWord_33 kI_m1 ?_
    refine r_icmp_eq (tgt := 45) dX6_takeWord_34 (by decide) (fun c2 => ?_) (fun c2 => ?_)
    · skip
      refine r_aload_n dX6_takeWord_45 rfl ?_
      refine r_iconst (v := 1) dX6_takeWord_46 kI_1 ?_
      refine r_putI dX6_takeWord_47 fs_14_2 fk_X6_32 fp_X6_2 ?_
      exact r_vret dX6_takeWord_50 rfl (K1 c1 c2)
    · skip
      refine r_aload_n dX6_takeWord_37 rfl ?_
      refine r_iconst (v := 3) dX6_takeWord_38 kI_3 ?_
      exact r_callV (x := 1) (As := [.int 3]) (rest := []) dX6_takeWord_39 mk_X6_58 mv_X10_refuse rm_X6_takeWord_X10_refuse rfl rfl (by decide +kernel) (Nat.le_of_ble_eq_true rfl) (cal_v (lo' := [none, none]) trivial (K2 c1 c2))
  · skip
    refine r_aload_n dX6_takeWord_16 rfl ?_
    refine r_iconst (v := 1) dX6_takeWord_17 kI_1 ?_
    exact r_callV (x := 1) (As := [.int 1]) (rest := []) dX6_takeWord_18 mk_X6_58 mv_X10_refuse rm_X6_takeWord_X10_refuse rfl rfl (by decide +kernel) (Nat.le_of_ble_eq_true rfl) (cal_v (lo' := [none, none]) trivial (K3 c1))
theorem t_X6_takeWord_42  
    (K1 : Q (.returned none) M) : Fw l D ad kA mX6_takeWord 42 [none, none] [] M Q := by
  refine r_goto (tgt := 50) dX6_takeWord_42 (by decide) ?_
  exact r_vret dX6_takeWord_50 rfl K1
theorem t_X6_takeWord_21  
    (K1 : Q (.returned none) M) : Fw l D ad kA mX6_takeWord 21 [none, none] [] M Q := by
  refine r_goto (tgt := 50) dX6_takeWord_21 (by decide) ?_
  exact r_vret dX6_takeWord_50 rfl K1
theorem en_X6_takeWord  (K : Fw l D ad kA mX6_takeWord 0 [some (.ref (ad 14)), some (.ref (ad 1))] [] M Q) : Cal l D ad kA mX6_takeWord [.ref (ad 14), .ref (ad 1)] M Q := Cal.of (by decide) rfl rfl (Nat.le_of_ble_eq_true rfl) K
theorem t_X6_takeNumber_0  
    (g1 : (¬ ((gI M 14 3) < 0)) → vp_in (gI M 14 3) 4)
    (K1 : ((gI M 14 3) < 0) → Cal l D ad kA mX10_refuse [.ref (ad 1), .int 2] M (fun oc M2 => oc = .returned none ∧ Fw l D ad kA mX6_takeNumber 42 [none, none] [] M2 Q))
    (K2 : (¬ ((gI M 14 3) < 0)) → ((gI M 1 2) < ((stV.getD 1 []).getD (gI M 14 3).toNatClampNeg 0)) → Cal l D ad kA mX10_refuse [.ref (ad 1), .int 2] M (fun oc M2 => oc = .returned none ∧ Fw l D ad kA mX6_takeNumber 42 [none, none] [] M2 Q))
    (K3 : (¬ ((gI M 14 3) < 0)) → (¬ ((gI M 1 2) < ((stV.getD 1 []).getD (gI M 14 3).toNatClampNeg 0))) → ((gI M 1 2) ≤ ((stV.getD 2 []).getD (gI M 14 3).toNatClampNeg 0)) → Q (.returned none) (sI (sI M 16 (gI M 14 3).toNatClampNeg (gI M 1 2)) 14 2 2))
    (K4 : (¬ ((gI M 14 3) < 0)) → (¬ ((gI M 1 2) < ((stV.getD 1 []).getD (gI M 14 3).toNatClampNeg 0))) → (¬ ((gI M 1 2) ≤ ((stV.getD 2 []).getD (gI M 14 3).toNatClampNeg 0))) → Cal l D ad kA mX10_refuse [.ref (ad 1), .int 2] M (fun oc M2 => oc = .returned none ∧ Fw l D ad kA mX6_takeNumber 42 [none, none] [] M2 Q)) : Fw l D ad kA mX6_takeNumber 0 [some (.ref (ad 14)), some (.ref (ad 1))] [] M Q := by
  refine r_aload_n dX6_takeNumber_0 rfl ?_
  refine r_getI dX6_takeNumber_1 fs_14_3 fk_X6_66 ?_
  refine r_if_lt (tgt := 37) dX6_takeNumber_4 (by decide) (fun c1 => ?_) (fun c1 => ?_)
  · skip
    refine r_aload_n dX6_takeNumber_37 rfl ?_
    refine r_iconst (v := 2) dX6_takeNumber_38 kI_2 ?_
    exact r_callV (x := 1) (As := [.int 2]) (rest := []) dX6_takeNumber_39 mk_X6_58 mv_X10_refuse rm_X6_takeNumber_X10_refuse rfl rfl (by decide +kernel) (Nat.le_of_ble_eq_true rfl) (cal_v (lo' := [none, none]) trivial (K1 c1))
  · skip
    refine r_aload_n dX6_takeNumber_7 rfl ?_
    refine r_getI dX6_takeNumber_8 fs_1_2 fk_X6_69 ?_
    refine r_getst (j := 1) dX6_takeNumber_11 (by decide) fl_X6_72 ?_
    refine r_aload_n dX6_takeNumber_14 rfl ?_
    refine r_getI dX6_takeNumber_15 fs_14_3 fk_X6_66 ?_
    refine r_staticald (j := 1) dX6_takeNumber_18 (by decide) (g1 c1) ?_
    refine r_icmp_lt (tgt := 37) dX6_takeNumber_19 (by decide) (fun c2 => ?_) (fun c2 => ?_)
    · skip
      refine r_aload_n dX6_takeNumber_37 rfl ?_
      refine r_iconst (v := 2) dX6_takeNumber_38 kI_2 ?_
      exact r_callV (x := 1) (As := [.int 2]) (rest := []) dX6_takeNumber_39 mk_X6_58 mv_X10_refuse rm_X6_takeNumber_X10_refuse rfl rfl (by decide +kernel) (Nat.le_of_ble_eq_true rfl) (cal_v (lo' := [none, none]) trivial (K2 c1 c2))
    · skip
      refine r_aload_n dX6_takeNumber_22 rfl ?_
      refine r_getI dX6_takeNumber_23 fs_1_2 fk_X6_69 ?_
      refine r_getst (j := 2) dX6_takeNumber_26 (by decide) fl_X6_75 ?_
      refine r_aload_n dX6_takeNumber_29 rfl ?_
      refine r_getI dX6_takeNumber_30 fs_14_3 fk_X6_66 ?_
      refine r_staticald (j := 2) dX6_takeNumber_33 (by decide) (g1 c1) ?_
      refine r_icmp_le (tgt := 45) dX6_takeNumber_34 (by decide) (fun c3 => ?_) (fun c3 => ?_)
      · skip
        refine r_aload_n dX6_takeNumber_45 rfl ?_
        refine r_getR dX6_takeNumber_46 fs_14_1 fk_X6_15 ?_
        refine r_aload_n dX6_takeNumber_49 rfl ?_
        refine r_getI dX6_takeNumber_50 fs_14_3 fk_X6_66 ?_
        refine r_aload_n dX6_takeNumber_53 rfl ?_
        refine r_getI dX6_takeNumber_54 fs_1_2 fk_X6_69 ?_
        refine r_iast dX6_takeNumber_57 as_16 (g1 c1) ?_
        refine r_aload_n dX6_takeNumber_58 rfl ?_
        refine r_iconst (v := 2) dX6_takeNumber_59 kI_2 ?_
        refine r_putI dX6_takeNumber_60 fs_14_2 fk_X6_32 fp_X6_2 ?_
        exact r_vret dX6_takeNumber_63 rfl (K3 c1 c2 c3)
      · skip
        refine r_aload_n dX6_takeNumber_37 rfl ?_
        refine r_iconst (v := 2) dX6_takeNumber_38 kI_2 ?_
        exact r_callV (x := 1) (As := [.int 2]) (rest := []) dX6_takeNumber_39 mk_X6_58 mv_X10_refuse rm_X6_takeNumber_X10_refuse rfl rfl (by decide +kernel) (Nat.le_of_ble_eq_true rfl) (cal_v (lo' := [none, none]) trivial (K4 c1 c2 c3))
theorem t_X6_takeNumber_42  
    (K1 : Q (.returned none) M) : Fw l D ad kA mX6_takeNumber 42 [none, none] [] M Q := by
  refine r_goto (tgt := 63) dX6_takeNumber_42 (by decide) ?_
  exact r_vret dX6_takeNumber_63 rfl K1
theorem en_X6_takeNumber  (K : Fw l D ad kA mX6_takeNumber 0 [some (.ref (ad 14)), some (.ref (ad 1))] [] M Q) : Cal l D ad kA mX6_takeNumber [.ref (ad 14), .ref (ad 1)] M Q := Cal.of (by decide) rfl rfl (Nat.le_of_ble_eq_true rfl) K
theorem t_X6_take_0  
    (K1 : (¬ ((gI M 14 2) = 0)) → (¬ ((gI M 14 2) = 1)) → (¬ ((gI M 14 2) = 2)) → Cal l D ad kA mX10_refuse [.ref (ad 1), .int 1] M (fun oc M2 => oc = .returned none ∧ Fw l D ad kA mX6_take 78 [none, none] [] M2 Q))
    (K2 : (¬ ((gI M 14 2) = 0)) → (¬ ((gI M 14 2) = 1)) → ((gI M 14 2) = 2) → (¬ ((gI M 1 1) = 3)) → Cal l D ad kA mX10_refuse [.ref (ad 1), .int 1] M (fun oc M2 => oc = .returned none ∧ Fw l D ad kA mX6_take 78 [none, none] [] M2 Q))
    (K3 : (¬ ((gI M 14 2) = 0)) → (¬ ((gI M 14 2) = 1)) → ((gI M 14 2) = 2) → ((gI M 1 1) = 3) → Q (.returned none) (sI (sI M 14 4 ((gI M 14 4) + 1)) 14 2 0))
    (K4 : (¬ ((gI M 14 2) = 0)) → ((gI M 14 2) = 1) → (¬ ((gI M 1 1) = 2)) → (¬ ((gI M 14 2) = 2)) → Cal l D ad kA mX10_refuse [.ref (ad 1), .int 1] M (fun oc M2 => oc = .returned none ∧ Fw l D ad kA mX6_take 78 [none, none] [] M2 Q))
    (K5 : (¬ ((gI M 14 2) = 0)) → ((gI M 14 2) = 1) → (¬ ((gI M 1 1) = 2)) → ((gI M 14 2) = 2) → (¬ ((gI M 1 1) = 3)) → Cal l D ad kA mX10_refuse [.ref (ad 1), .int 1] M (fun oc M2 => oc = .returned none ∧ Fw l D ad kA mX6_take 78 [none, none] [] M2 Q))
    (K6 : (¬ ((gI M 14 2) = 0)) → ((gI M 14 2) = 1) → (¬ ((gI M 1 1) = 2)) → ((gI M 14 2) = 2) → ((gI M 1 1) = 3) → Q (.returned none) (sI (sI M 14 4 ((gI M 14 4) + 1)) 14 2 0))
    (K7 : (¬ ((gI M 14 2) = 0)) → ((gI M 14 2) = 1) → ((gI M 1 1) = 2) → Cal l D ad kA mX6_takeNumber [.ref (ad 14), .ref (ad 1)] M (fun oc M2 => oc = .returned none ∧ Fw l D ad kA mX6_take 36 [none, none] [] M2 Q))
    (K8 : ((gI M 14 2) = 0) → Cal l D ad kA mX6_takeWord [.ref (ad 14), .ref (ad 1)] M (fun oc M2 => oc = .returned none ∧ Fw l D ad kA mX6_take 12 [none, none] [] M2 Q)) : Fw l D ad kA mX6_take 0 [some (.ref (ad 14)), some (.ref (ad 1))] [] M Q := by
  refine r_aload_n dX6_take_0 rfl ?_
  refine r_getI dX6_take_1 fs_14_2 fk_X6_32 ?_
  refine r_if_ne (tgt := 15) dX6_take_4 (by decide) (fun c1 => ?_) (fun c1 => ?_)
  · skip
    refine r_aload_n dX6_take_15 rfl ?_
    refine r_getI dX6_take_16 fs_14_2 fk_X6_32 ?_
    refine r_iconst (v := 1) dX6_take_19 kI_1 ?_
    refine r_icmp_ne (tgt := 39) dX6_take_20 (by decide) (fun c2 => ?_) (fun c2 => ?_)
    · skip
      refine r_aload_n dX6_take_39 rfl ?_
      refine r_getI dX6_take_40 fs_14_2 fk_X6_32 ?_
      refine r_iconst (v := 2) dX6_take_43 kI_2 ?_
      refine r_icmp_ne (tgt := 73) dX6_take_44 (by decide) (fun c3 => ?_) (fun c3 => ?_)
      · skip
        refine r_aload_n dX6_take_73 rfl ?_
        refine r_iconst (v := 1) dX6_take_74 kI_1 ?_
        exact r_callV (x := 1) (As := [.int 1]) (rest := []) dX6_take_75 mk_X6_58 mv_X10_refuse rm_X6_take_X10_refuse rfl rfl (by decide +kernel) (Nat.le_of_ble_eq_true rfl) (cal_v (lo' := [none, none]) trivial (K1 c1 c2 c3))
      · skip
        refine r_aload_n dX6_take_47 rfl ?_
        refine r_getI dX6_take_48 fs_1_1 fk_X6_45 ?_
        refine r_iconst (v := 3) dX6_take_51 kI_3 ?_
        refine r_icmp_ne (tgt := 73) dX6_take_52 (by decide) (fun c4 => ?_) (fun c4 => ?_)
        · skip
          refine r_aload_n dX6_take_73 rfl ?_
          refine r_iconst (v := 1) dX6_take_74 kI_1 ?_
          exact r_callV (x := 1) (As := [.int 1]) (rest := []) dX6_take_75 mk_X6_58 mv_X10_refuse rm_X6_take_X10_refuse rfl rfl (by decide +kernel) (Nat.le_of_ble_eq_true rfl) (cal_v (lo' := [none, none]) trivial (K2 c1 c2 c3 c4))
        · skip
          refine r_aload_n dX6_take_55 rfl ?_
          refine r_dup dX6_take_56 rfl ?_
          refine r_getI dX6_take_57 fs_14_4 fk_X6_36 ?_
          refine r_iconst (v := 1) dX6_take_60 kI_1 ?_
          refine r_iadd dX6_take_61 ?_
          refine r_putI dX6_take_62 fs_14_4 fk_X6_36 fp_X6_4 ?_
          refine r_aload_n dX6_take_65 rfl ?_
          refine r_iconst (v := 0) dX6_take_66 kI_0 ?_
          refine r_putI dX6_take_67 fs_14_2 fk_X6_32 fp_X6_2 ?_
          refine r_goto (tgt := 78) dX6_take_70 (by decide) ?_
          exact r_vret dX6_take_78 rfl (K3 c1 c2 c3 c4)
    · skip
      refine r_aload_n dX6_take_23 rfl ?_
      refine r_getI dX6_take_24 fs_1_1 fk_X6_45 ?_
      refine r_iconst (v := 2) dX6_take_27 kI_2 ?_
      refine r_icmp_ne (tgt := 39) dX6_take_28 (by decide) (fun c5 => ?_) (fun c5 => ?_)
      · skip
        refine r_aload_n dX6_take_39 rfl ?_
        refine r_getI dX6_take_40 fs_14_2 fk_X6_32 ?_
        refine r_iconst (v := 2) dX6_take_43 kI_2 ?_
        refine r_icmp_ne (tgt := 73) dX6_take_44 (by decide) (fun c6 => ?_) (fun c6 => ?_)
        · skip
          refine r_aload_n dX6_take_73 rfl ?_
          refine r_iconst (v := 1) dX6_take_74 kI_1 ?_
          exact r_callV (x := 1) (As := [.int 1]) (rest := []) dX6_take_75 mk_X6_58 mv_X10_refuse rm_X6_take_X10_refuse rfl rfl (by decide +kernel) (Nat.le_of_ble_eq_true rfl) (cal_v (lo' := [none, none]) trivial (K4 c1 c2 c5 c6))
        · skip
          refine r_aload_n dX6_take_47 rfl ?_
          refine r_getI dX6_take_48 fs_1_1 fk_X6_45 ?_
          refine r_iconst (v := 3) dX6_take_51 kI_3 ?_
          refine r_icmp_ne (tgt := 73) dX6_take_52 (by decide) (fun c7 => ?_) (fun c7 => ?_)
          · skip
            refine r_aload_n dX6_take_73 rfl ?_
            refine r_iconst (v := 1) dX6_take_74 kI_1 ?_
            exact r_callV (x := 1) (As := [.int 1]) (rest := []) dX6_take_75 mk_X6_58 mv_X10_refuse rm_X6_take_X10_refuse rfl rfl (by decide +kernel) (Nat.le_of_ble_eq_true rfl) (cal_v (lo' := [none, none]) trivial (K5 c1 c2 c5 c6 c7))
          · skip
            refine r_aload_n dX6_take_55 rfl ?_
            refine r_dup dX6_take_56 rfl ?_
            refine r_getI dX6_take_57 fs_14_4 fk_X6_36 ?_
            refine r_iconst (v := 1) dX6_take_60 kI_1 ?_
            refine r_iadd dX6_take_61 ?_
            refine r_putI dX6_take_62 fs_14_4 fk_X6_36 fp_X6_4 ?_
            refine r_aload_n dX6_take_65 rfl ?_
            refine r_iconst (v := 0) dX6_take_66 kI_0 ?_
            refine r_putI dX6_take_67 fs_14_2 fk_X6_32 fp_X6_2 ?_
            refine r_goto (tgt := 78) dX6_take_70 (by decide) ?_
            exact r_vret dX6_take_78 rfl (K6 c1 c2 c5 c6 c7)
      · skip
        refine r_aload_n dX6_take_31 rfl ?_
        refine r_aload_n dX6_take_32 rfl ?_
        exact r_callV (x := 14) (As := [.ref (ad 1)]) (rest := []) dX6_take_33 mk_X6_55 mv_X6_takeNumber rm_X6_take_X6_takeNumber rfl rfl (by decide +kernel) (Nat.le_of_ble_eq_true rfl) (cal_v (lo' := [none, none]) trivial (K7 c1 c2 c5))
  · skip
    refine r_aload_n dX6_take_7 rfl ?_
    refine r_aload_n dX6_take_8 rfl ?_
    exact r_callV (x := 14) (As := [.ref (ad 1)]) (rest := []) dX6_take_9 mk_X6_52 mv_X6_takeWord rm_X6_take_X6_takeWord rfl rfl (by decide +kernel) (Nat.le_of_ble_eq_true rfl) (cal_v (lo' := [none, none]) trivial (K8 c1))
theorem t_X6_take_78  
    (K1 : Q (.returned none) M) : Fw l D ad kA mX6_take 78 [none, none] [] M Q := by
  exact r_vret dX6_take_78 rfl K1
theorem t_X6_take_36  
    (K1 : Q (.returned none) M) : Fw l D ad kA mX6_take 36 [none, none] [] M Q := by
  refine r_goto (tgt := 78) dX6_take_36 (by decide) ?_
  exact r_vret dX6_take_78 rfl K1
theorem t_X6_take_12  
    (K1 : Q (.returned none) M) : Fw l D ad kA mX6_take 12 [none, none] [] M Q := by
  refine r_goto (tgt := 78) dX6_take_12 (by decide) ?_
  exact r_vret dX6_take_78 rfl K1
theorem en_X6_take  (K : Fw l D ad kA mX6_take 0 [some (.ref (ad 14)), some (.ref (ad 1))] [] M Q) : Cal l D ad kA mX6_take [.ref (ad 14), .ref (ad 1)] M Q := Cal.of (by decide) rfl rfl (Nat.le_of_ble_eq_true rfl) K
theorem t_X6_readAll_0  
    (K1 : Cal l D ad kA mX10_start [.ref (ad 1)] M (fun oc M2 => oc = .returned none ∧ Fw l D ad kA mX6_readAll 4 [some (.ref (ad 14)), some (.ref (ad 1)), none, none] [] M2 Q)) : Fw l D ad kA mX6_readAll 0 [some (.ref (ad 14)), some (.ref (ad 1)), none, none] [] M Q := by
  refine r_aload_n dX6_readAll_0 rfl ?_
  exact r_callV (x := 1) (As := []) (rest := []) dX6_readAll_1 mk_X6_27 mv_X10_start rm_X6_readAll_X10_start rfl rfl (by decide +kernel) (Nat.le_of_ble_eq_true rfl) (cal_v (lo' := [some (.ref (ad 14)), some (.ref (ad 1)), none, none]) ⟨rfl, rfl, trivial⟩ K1)
theorem t_X6_readAll_4  
    (K1 : Fw l D ad kA mX6_readAll 6 [some (.ref (ad 14)), some (.ref (ad 1)), some (.int 0), none] [] M Q) : Fw l D ad kA mX6_readAll 4 [some (.ref (ad 14)), some (.ref (ad 1)), none, none] [] M Q := by
  refine r_iconst (v := 0) dX6_readAll_4 kI_0 ?_
  refine q_istore_n (lo' := [some (.ref (ad 14)), some (.ref (ad 1)), some (.int 0), none]) dX6_readAll_5 (by decide) rfl ?_
  exact K1
theorem t_X6_readAll_6 {x2 : Int32} 
    (g1 : (¬ (4 ≤ x2)) → vp_in x2 4)
    (K1 : (4 ≤ x2) → Fw l D ad kA mX6_readAll 38 [some (.ref (ad 14)), some (.ref (ad 1)), some (.int 0), some (.int 0)] [] (sI (sI M 14 2 0) 14 4 0) Q)
    (K2 : (¬ (4 ≤ x2)) → Fw l D ad kA mX6_readAll 6 [some (.ref (ad 14)), some (.ref (ad 1)), some (.int (x2 + 1)), none] [] (sI M 16 x2.toNatClampNeg (-1)) Q) : Fw l D ad kA mX6_readAll 6 [some (.ref (ad 14)), some (.ref (ad 1)), some (.int x2), none] [] M Q := by
  refine r_iload_n dX6_readAll_6 rfl ?_
  refine r_iconst (v := 4) dX6_readAll_7 kI_4 ?_
  refine r_icmp_ge (tgt := 24) dX6_readAll_8 (by decide) (fun c1 => ?_) (fun c1 => ?_)
  · skip
    refine r_aload_n dX6_readAll_24 rfl ?_
    refine r_iconst (v := 0) dX6_readAll_25 kI_0 ?_
    refine r_putI dX6_readAll_26 fs_14_2 fk_X6_32 fp_X6_2 ?_
    refine r_aload_n dX6_readAll_29 rfl ?_
    refine r_iconst (v := 0) dX6_readAll_30 kI_0 ?_
    refine r_putI dX6_readAll_31 fs_14_4 fk_X6_36 fp_X6_4 ?_
    refine r_iconst (v := 0) dX6_readAll_34 kI_0 ?_
    refine q_istore_n (lo' := [some (.ref (ad 14)), some (.ref (ad 1)), some (.int 0), none]) dX6_readAll_35 (by decide) rfl ?_
    refine r_iconst (v := 0) dX6_readAll_36 kI_0 ?_
    refine q_istore_n (lo' := [some (.ref (ad 14)), some (.ref (ad 1)), some (.int 0), some (.int 0)]) dX6_readAll_37 (by decide) rfl ?_
    exact (K1 c1)
  · skip
    refine r_aload_n dX6_readAll_11 rfl ?_
    refine r_getR dX6_readAll_12 fs_14_1 fk_X6_15 ?_
    refine r_iload_n dX6_readAll_15 rfl ?_
    refine r_iconst (v := (-1)) dX6_readAll_16 kI_m1 ?_
    refine r_iast dX6_readAll_17 as_16 (g1 c1) ?_
    refine q_iinc (v := x2 + 1) (lo' := [some (.ref (ad 14)), some (.ref (ad 1)), some (.int (x2 + 1)), none]) dX6_readAll_18 rfl (congrArg (fun q => x2 + q) kI_1) (by decide) rfl ?_
    refine r_goto (tgt := 6) dX6_readAll_21 (by decide) ?_
    exact (K2 c1)
theorem t_X6_readAll_38 {x2 : Int32} {x3 : Int32} 
    (K1 : (1200 < x3) → (¬ (x2 = 0)) → Fw l D ad kA mX6_readAll 103 [some (.ref (ad 14)), none, none, some (.int 0)] [] M Q)
    (K2 : (1200 < x3) → (x2 = 0) → Q (.returned (some (.int (-1)))) M)
    (K3 : (¬ (1200 < x3)) → (¬ (x2 = 0)) → Fw l D ad kA mX6_readAll 103 [some (.ref (ad 14)), none, none, some (.int 0)] [] M Q)
    (K4 : (¬ (1200 < x3)) → (x2 = 0) → (¬ ((gI M 1 3) = 0)) → Q (.returned (some (.int (-1)))) M)
    (K5 : (¬ (1200 < x3)) → (x2 = 0) → ((gI M 1 3) = 0) → Cal l D ad kA mX10_readToken [.ref (ad 1)] M (fun oc M2 => oc = .returned none ∧ Fw l D ad kA mX6_readAll 60 [some (.ref (ad 14)), some (.ref (ad 1)), none, some (.int x3)] [] M2 Q)) : Fw l D ad kA mX6_readAll 38 [some (.ref (ad 14)), some (.ref (ad 1)), some (.int x2), some (.int x3)] [] M Q := by
  refine r_iload_n dX6_readAll_38 rfl ?_
  refine r_sipush (v := 1200) dX6_readAll_39 kS_1200 ?_
  refine r_icmp_gt (tgt := 95) dX6_readAll_42 (by decide) (fun c1 => ?_) (fun c1 => ?_)
  · skip
    refine r_iload_n dX6_readAll_95 rfl ?_
    refine r_if_ne (tgt := 101) dX6_readAll_96 (by decide) (fun c2 => ?_) (fun c2 => ?_)
    · skip
      refine r_iconst (v := 0) dX6_readAll_101 kI_0 ?_
      refine q_istore_n (lo' := [some (.ref (ad 14)), some (.ref (ad 1)), some (.int x2), some (.int 0)]) dX6_readAll_102 (by decide) rfl ?_
      exact q_weak (lo' := [some (.ref (ad 14)), none, none, some (.int 0)]) ⟨rfl, rfl, trivial⟩ (K1 c1 c2)
    · skip
      refine r_iconst (v := (-1)) dX6_readAll_99 kI_m1 ?_
      exact r_iret dX6_readAll_100 rfl (K2 c1 c2)
  · skip
    refine r_iload_n dX6_readAll_45 rfl ?_
    refine r_if_ne (tgt := 95) dX6_readAll_46 (by decide) (fun c3 => ?_) (fun c3 => ?_)
    · skip
      refine r_iload_n dX6_readAll_95 rfl ?_
      refine r_if_ne (tgt := 101) dX6_readAll_96 (by decide) (fun _ => ?_) (fun q => absurd q c3)
      refine r_iconst (v := 0) dX6_readAll_101 kI_0 ?_
      refine q_istore_n (lo' := [some (.ref (ad 14)), some (.ref (ad 1)), some (.int x2), some (.int 0)]) dX6_readAll_102 (by decide) rfl ?_
      exact q_weak (lo' := [some (.ref (ad 14)), none, none, some (.int 0)]) ⟨rfl, rfl, trivial⟩ (K3 c1 c3)
    · skip
      refine r_aload_n dX6_readAll_49 rfl ?_
      refine r_getI dX6_readAll_50 fs_1_3 fk_X6_39 ?_
      refine r_if_ne (tgt := 95) dX6_readAll_53 (by decide) (fun c4 => ?_) (fun c4 => ?_)
      · skip
        refine r_iload_n dX6_readAll_95 rfl ?_
        refine r_if_ne (tgt := 101) dX6_readAll_96 (by decide) (fun q => absurd c3 q) (fun _ => ?_)
        refine r_iconst (v := (-1)) dX6_readAll_99 kI_m1 ?_
        exact r_iret dX6_readAll_100 rfl (K4 c1 c3 c4)
      · skip
        refine r_aload_n dX6_readAll_56 rfl ?_
        exact r_callV (x := 1) (As := []) (rest := []) dX6_readAll_57 mk_X6_42 mv_X10_readToken rm_X6_readAll_X10_readToken rfl rfl (by decide +kernel) (Nat.le_of_ble_eq_true rfl) (cal_v (lo' := [some (.ref (ad 14)), some (.ref (ad 1)), none, some (.int x3)]) ⟨rfl, rfl, rfl, trivial⟩ (K5 c1 c3 c4))
theorem t_X6_readAll_103 {x3 : Int32} 
    (g1 : (¬ (4 ≤ x3)) → vp_in x3 4)
    (K1 : (4 ≤ x3) → Q (.returned (some (.int (gI M 14 4)))) M)
    (K2 : (¬ (4 ≤ x3)) → Fw l D ad kA mX6_readAll 103 [some (.ref (ad 14)), none, none, some (.int (x3 + 1))] [] (sI M 15 x3.toNatClampNeg (if (gI M 16 x3.toNatClampNeg) = (-1) then (stV.getD 0 []).getD x3.toNatClampNeg 0 else gI M 16 x3.toNatClampNeg)) Q) : Fw l D ad kA mX6_readAll 103 [some (.ref (ad 14)), none, none, some (.int x3)] [] M Q := by
  refine r_iload_n dX6_readAll_103 rfl ?_
  refine r_iconst (v := 4) dX6_readAll_104 kI_4 ?_
  refine r_icmp_ge (tgt := 144) dX6_readAll_105 (by decide) (fun c1 => ?_) (fun c1 => ?_)
  · skip
    refine r_aload_n dX6_readAll_144 rfl ?_
    refine r_getI dX6_readAll_145 fs_14_4 fk_X6_36 ?_
    exact r_iret dX6_readAll_148 rfl (K1 c1)
  · skip
    refine r_aload_n dX6_readAll_108 rfl ?_
    refine r_getR dX6_readAll_109 fs_14_0 fk_X6_11 ?_
    refine r_iload_n dX6_readAll_112 rfl ?_
    refine r_aload_n dX6_readAll_113 rfl ?_
    refine r_getR dX6_readAll_114 fs_14_1 fk_X6_15 ?_
    refine r_iload_n dX6_readAll_117 rfl ?_
    refine r_iald dX6_readAll_118 as_16 (g1 c1) ?_
    refine r_iconst (v := (-1)) dX6_readAll_119 kI_m1 ?_
    suffices hJ1 : Fw l D ad kA mX6_readAll 137 [some (.ref (ad 14)), none, none, some (.int x3)] [.int (if (gI M 16 x3.toNatClampNeg) = (-1) then (stV.getD 0 []).getD x3.toNatClampNeg 0 else gI M 16 x3.toNatClampNeg), .int x3, .ref (ad 15)] M Q by
      refine r_icmp_ne (tgt := 131) dX6_readAll_120 (by decide) (fun c2 => ?_) (fun c2 => ?_)
      · skip
        refine r_aload_n dX6_readAll_131 rfl ?_
        refine r_getR dX6_readAll_132 fs_14_1 fk_X6_15 ?_
        refine r_iload_n dX6_readAll_135 rfl ?_
        refine r_iald dX6_readAll_136 as_16 (g1 c1) ?_
        exact q_weak (lo' := [some (.ref (ad 14)), none, none, some (.int x3)]) ⟨rfl, rfl, trivial⟩ (by have h9 := hJ1; simp only [if_neg c2] at h9; first | exact h9 | (simp only [if_neg c2]; exact h9))
      · skip
        refine r_getst (j := 0) dX6_readAll_123 (by decide) fl_X6_18 ?_
        refine r_iload_n dX6_readAll_126 rfl ?_
        refine r_staticald (j := 0) dX6_readAll_127 (by decide) (g1 c1) ?_
        refine r_goto (tgt := 137) dX6_readAll_128 (by decide) ?_
        exact q_weak (lo' := [some (.ref (ad 14)), none, none, some (.int x3)]) ⟨rfl, rfl, trivial⟩ (by have h9 := hJ1; simp only [if_pos c2] at h9; first | exact h9 | (simp only [if_pos c2]; exact h9))
    refine r_iast dX6_readAll_137 as_15 (g1 c1) ?_
    refine q_iinc (v := x3 + 1) (lo' := [some (.ref (ad 14)), none, none, some (.int (x3 + 1))]) dX6_readAll_138 rfl (congrArg (fun q => x3 + q) kI_1) (by decide) rfl ?_
    refine r_goto (tgt := 103) dX6_readAll_141 (by decide) ?_
    exact (K2 c1)
theorem t_X6_readAll_60 {x3 : Int32} 
    (K1 : (¬ ((if (gI M 1 1) = 0 then if (gI M 14 2) = 0 then 1 else 0 else 0 : Int32) = 0)) → Fw l D ad kA mX6_readAll 38 [some (.ref (ad 14)), some (.ref (ad 1)), some (.int (if (gI M 1 1) = 0 then if (gI M 14 2) = 0 then 1 else 0 else 0)), some (.int (x3 + 1))] [] M Q)
    (K2 : ((if (gI M 1 1) = 0 then if (gI M 14 2) = 0 then 1 else 0 else 0 : Int32) = 0) → Cal l D ad kA mX6_take [.ref (ad 14), .ref (ad 1)] M (fun oc M2 => oc = .returned none ∧ Fw l D ad kA mX6_readAll 89 [some (.ref (ad 14)), some (.ref (ad 1)), some (.int (if (gI M 1 1) = 0 then if (gI M 14 2) = 0 then 1 else 0 else 0)), some (.int x3)] [] M2 Q)) : Fw l D ad kA mX6_readAll 60 [some (.ref (ad 14)), some (.ref (ad 1)), none, some (.int x3)] [] M Q := by
  refine r_aload_n dX6_readAll_60 rfl ?_
  refine r_getI dX6_readAll_61 fs_1_1 fk_X6_45 ?_
  suffices hJ1 : Fw l D ad kA mX6_readAll 79 [some (.ref (ad 14)), some (.ref (ad 1)), none, some (.int x3)] [.int (if (gI M 1 1) = 0 then if (gI M 14 2) = 0 then 1 else 0 else 0)] M Q by
    refine r_if_ne (tgt := 78) dX6_readAll_64 (by decide) (fun c1 => ?_) (fun c1 => ?_)
    · skip
      refine r_iconst (v := 0) dX6_readAll_78 kI_0 ?_
      exact q_weak (lo' := [some (.ref (ad 14)), some (.ref (ad 1)), none, some (.int x3)]) ⟨rfl, rfl, rfl, trivial⟩ (by have h9 := hJ1; simp only [if_neg c1] at h9; first | exact h9 | (simp only [if_neg c1]; exact h9))
    · skip
      refine r_aload_n dX6_readAll_67 rfl ?_
      refine r_getI dX6_readAll_68 fs_14_2 fk_X6_32 ?_
      refine r_if_ne (tgt := 78) dX6_readAll_71 (by decide) (fun c2 => ?_) (fun c2 => ?_)
      · skip
        refine r_iconst (v := 0) dX6_readAll_78 kI_0 ?_
        exact q_weak (lo' := [some (.ref (ad 14)), some (.ref (ad 1)), none, some (.int x3)]) ⟨rfl, rfl, rfl, trivial⟩ (by have h9 := hJ1; simp only [if_pos c1, if_neg c2] at h9; first | exact h9 | (simp only [if_pos c1, if_neg c2]; exact h9))
      · skip
        refine r_iconst (v := 1) dX6_readAll_74 kI_1 ?_
        refine r_goto (tgt := 79) dX6_readAll_75 (by decide) ?_
        exact q_weak (lo' := [some (.ref (ad 14)), some (.ref (ad 1)), none, some (.int x3)]) ⟨rfl, rfl, rfl, trivial⟩ (by have h9 := hJ1; simp only [if_pos c1, if_pos c2] at h9; first | exact h9 | (simp only [if_pos c1, if_pos c2]; exact h9))
  refine q_istore_n (lo' := [some (.ref (ad 14)), some (.ref (ad 1)), some (.int (if (gI M 1 1) = 0 then if (gI M 14 2) = 0 then 1 else 0 else 0)), some (.int x3)]) dX6_readAll_79 (by decide) rfl ?_
  refine r_iload_n dX6_readAll_80 rfl ?_
  refine r_if_ne (tgt := 89) dX6_readAll_81 (by decide) (fun c3 => ?_) (fun c3 => ?_)
  · skip
    refine q_iinc (v := x3 + 1) (lo' := [some (.ref (ad 14)), some (.ref (ad 1)), some (.int (if (gI M 1 1) = 0 then if (gI M 14 2) = 0 then 1 else 0 else 0)), some (.int (x3 + 1))]) dX6_readAll_89 rfl (congrArg (fun q => x3 + q) kI_1) (by decide) rfl ?_
    refine r_goto (tgt := 38) dX6_readAll_92 (by decide) ?_
    exact (K1 c3)
  · skip
    refine r_aload_n dX6_readAll_84 rfl ?_
    refine r_aload_n dX6_readAll_85 rfl ?_
    exact r_callV (x := 14) (As := [.ref (ad 1)]) (rest := []) dX6_readAll_86 mk_X6_48 mv_X6_take rm_X6_readAll_X6_take rfl rfl (by decide +kernel) (Nat.le_of_ble_eq_true rfl) (cal_v (lo' := [some (.ref (ad 14)), some (.ref (ad 1)), some (.int (if (gI M 1 1) = 0 then if (gI M 14 2) = 0 then 1 else 0 else 0)), some (.int x3)]) ⟨rfl, rfl, rfl, rfl, trivial⟩ (K2 c3))
theorem t_X6_readAll_89 {x2 : Int32} {x3 : Int32} 
    (K1 : Fw l D ad kA mX6_readAll 38 [some (.ref (ad 14)), some (.ref (ad 1)), some (.int x2), some (.int (x3 + 1))] [] M Q) : Fw l D ad kA mX6_readAll 89 [some (.ref (ad 14)), some (.ref (ad 1)), some (.int x2), some (.int x3)] [] M Q := by
  refine q_iinc (v := x3 + 1) (lo' := [some (.ref (ad 14)), some (.ref (ad 1)), some (.int x2), some (.int (x3 + 1))]) dX6_readAll_89 rfl (congrArg (fun q => x3 + q) kI_1) (by decide) rfl ?_
  refine r_goto (tgt := 38) dX6_readAll_92 (by decide) ?_
  exact K1
theorem en_X6_readAll  (K : Fw l D ad kA mX6_readAll 0 [some (.ref (ad 14)), some (.ref (ad 1)), none, none] [] M Q) : Cal l D ad kA mX6_readAll [.ref (ad 14), .ref (ad 1)] M Q := Cal.of (by decide) rfl rfl (Nat.le_of_ble_eq_true rfl) K
end W_manners
end
section
/-! Sound: decode rows, links, walks from cut to cut (printed by wip/gen) -/
theorem dX8_areNext_0 : decode cX8_areNext 0 = .ok (.aload_n 0, 1) := by decide +kernel
theorem dX8_areNext_1 : decode cX8_areNext 1 = .ok (.getfield 25, 3) := by decide +kernel
theorem dX8_areNext_4 : decode cX8_areNext 4 = .ok (.getfield 35, 3) := by decide +kernel
theorem dX8_areNext_7 : decode cX8_areNext 7 = .ok (.iload_n 1, 1) := by decide +kernel
theorem dX8_areNext_8 : decode cX8_areNext 8 = .ok (.iaload, 1) := by decide +kernel
theorem dX8_areNext_9 : decode cX8_areNext 9 = .ok (.aload_n 0, 1) := by decide +kernel
theorem dX8_areNext_10 : decode cX8_areNext 10 = .ok (.getfield 25, 3) := by decide +kernel
theorem dX8_areNext_13 : decode cX8_areNext 13 = .ok (.getfield 35, 3) := by decide +kernel
theorem dX8_areNext_16 : decode cX8_areNext 16 = .ok (.iload_n 2, 1) := by decide +kernel
theorem dX8_areNext_17 : decode cX8_areNext 17 = .ok (.iaload, 1) := by decide +kernel
theorem dX8_areNext_18 : decode cX8_areNext 18 = .ok (.isub, 1) := by decide +kernel
theorem dX8_areNext_19 : decode cX8_areNext 19 = .ok (.invokestatic 65, 3) := by decide +kernel
theorem dX8_areNext_22 : decode cX8_areNext 22 = .ok (.iconst 1, 1) := by decide +kernel
theorem dX8_areNext_23 : decode cX8_areNext 23 = .ok (.if_icmp .ne 7, 3) := by decide +kernel
theorem dX8_areNext_26 : decode cX8_areNext 26 = .ok (.iconst 1, 1) := by decide +kernel
theorem dX8_areNext_27 : decode cX8_areNext 27 = .ok (.goto 4, 3) := by decide +kernel
theorem dX8_areNext_30 : decode cX8_areNext 30 = .ok (.iconst 0, 1) := by decide +kernel
theorem dX8_areNext_31 : decode cX8_areNext 31 = .ok (.ireturn, 1) := by decide +kernel
theorem dX8_measure_0 : decode cX8_measure 0 = .ok (.iconst 0, 1) := by decide +kernel
theorem dX8_measure_1 : decode cX8_measure 1 = .ok (.istore_n 1, 1) := by decide +kernel
theorem dX8_measure_2 : decode cX8_measure 2 = .ok (.iload_n 1, 1) := by decide +kernel
theorem dX8_measure_3 : decode cX8_measure 3 = .ok (.bipush 48, 2) := by decide +kernel
theorem dX8_measure_5 : decode cX8_measure 5 = .ok (.if_icmp .ge 17, 3) := by decide +kernel
theorem dX8_measure_8 : decode cX8_measure 8 = .ok (.aload_n 0, 1) := by decide +kernel
theorem dX8_measure_9 : decode cX8_measure 9 = .ok (.getfield 22, 3) := by decide +kernel
theorem dX8_measure_12 : decode cX8_measure 12 = .ok (.iload_n 1, 1) := by decide +kernel
theorem dX8_measure_13 : decode cX8_measure 13 = .ok (.ldc 29, 2) := by decide +kernel
theorem dX8_measure_15 : decode cX8_measure 15 = .ok (.iastore, 1) := by decide +kernel
theorem dX8_measure_16 : decode cX8_measure 16 = .ok (.iinc 1 1, 3) := by decide +kernel
theorem dX8_measure_19 : decode cX8_measure 19 = .ok (.goto (-17), 3) := by decide +kernel
theorem dX8_measure_22 : decode cX8_measure 22 = .ok (.aload_n 0, 1) := by decide +kernel
theorem dX8_measure_23 : decode cX8_measure 23 = .ok (.getfield 25, 3) := by decide +kernel
theorem dX8_measure_26 : decode cX8_measure 26 = .ok (.getfield 30, 3) := by decide +kernel
theorem dX8_measure_29 : decode cX8_measure 29 = .ok (.iconst 1, 1) := by decide +kernel
theorem dX8_measure_30 : decode cX8_measure 30 = .ok (.isub, 1) := by decide +kernel
theorem dX8_measure_31 : decode cX8_measure 31 = .ok (.istore_n 1, 1) := by decide +kernel
theorem dX8_measure_32 : decode cX8_measure 32 = .ok (.iload_n 1, 1) := by decide +kernel
theorem dX8_measure_33 : decode cX8_measure 33 = .ok (.ifCond .lt 68, 3) := by decide +kernel
theorem dX8_measure_36 : decode cX8_measure 36 = .ok (.aload_n 0, 1) := by decide +kernel
theorem dX8_measure_37 : decode cX8_measure 37 = .ok (.getfield 25, 3) := by decide +kernel
theorem dX8_measure_40 : decode cX8_measure 40 = .ok (.getfield 35, 3) := by decide +kernel
theorem dX8_measure_43 : decode cX8_measure 43 = .ok (.iload_n 1, 1) := by decide +kernel
theorem dX8_measure_44 : decode cX8_measure 44 = .ok (.iaload, 1) := by decide +kernel
theorem dX8_measure_45 : decode cX8_measure 45 = .ok (.istore_n 2, 1) := by decide +kernel
theorem dX8_measure_46 : decode cX8_measure 46 = .ok (.aload_n 0, 1) := by decide +kernel
theorem dX8_measure_47 : decode cX8_measure 47 = .ok (.getfield 9, 3) := by decide +kernel
theorem dX8_measure_50 : decode cX8_measure 50 = .ok (.iload_n 1, 1) := by decide +kernel
theorem dX8_measure_51 : decode cX8_measure 51 = .ok (.aload_n 0, 1) := by decide +kernel
theorem dX8_measure_52 : decode cX8_measure 52 = .ok (.getfield 25, 3) := by decide +kernel
theorem dX8_measure_55 : decode cX8_measure 55 = .ok (.getfield 38, 3) := by decide +kernel
theorem dX8_measure_58 : decode cX8_measure 58 = .ok (.iload_n 1, 1) := by decide +kernel
theorem dX8_measure_59 : decode cX8_measure 59 = .ok (.iaload, 1) := by decide +kernel
theorem dX8_measure_60 : decode cX8_measure 60 = .ok (.aload_n 0, 1) := by decide +kernel
theorem dX8_measure_61 : decode cX8_measure 61 = .ok (.getfield 25, 3) := by decide +kernel
theorem dX8_measure_64 : decode cX8_measure 64 = .ok (.getfield 41, 3) := by decide +kernel
theorem dX8_measure_67 : decode cX8_measure 67 = .ok (.iload_n 1, 1) := by decide +kernel
theorem dX8_measure_68 : decode cX8_measure 68 = .ok (.iaload, 1) := by decide +kernel
theorem dX8_measure_69 : decode cX8_measure 69 = .ok (.iadd, 1) := by decide +kernel
theorem dX8_measure_70 : decode cX8_measure 70 = .ok (.aload_n 0, 1) := by decide +kernel
theorem dX8_measure_71 : decode cX8_measure 71 = .ok (.getfield 22, 3) := by decide +kernel
theorem dX8_measure_74 : decode cX8_measure 74 = .ok (.iload_n 2, 1) := by decide +kernel
theorem dX8_measure_75 : decode cX8_measure 75 = .ok (.iaload, 1) := by decide +kernel
theorem dX8_measure_76 : decode cX8_measure 76 = .ok (.invokestatic 44, 3) := by decide +kernel
theorem dX8_measure_79 : decode cX8_measure 79 = .ok (.iastore, 1) := by decide +kernel
theorem dX8_measure_80 : decode cX8_measure 80 = .ok (.aload_n 0, 1) := by decide +kernel
theorem dX8_measure_81 : decode cX8_measure 81 = .ok (.getfield 22, 3) := by decide +kernel
theorem dX8_measure_84 : decode cX8_measure 84 = .ok (.iload_n 2, 1) := by decide +kernel
theorem dX8_measure_85 : decode cX8_measure 85 = .ok (.aload_n 0, 1) := by decide +kernel
theorem dX8_measure_86 : decode cX8_measure 86 = .ok (.getfield 25, 3) := by decide +kernel
theorem dX8_measure_89 : decode cX8_measure 89 = .ok (.getfield 38, 3) := by decide +kernel
theorem dX8_measure_92 : decode cX8_measure 92 = .ok (.iload_n 1, 1) := by decide +kernel
theorem dX8_measure_93 : decode cX8_measure 93 = .ok (.iaload, 1) := by decide +kernel
theorem dX8_measure_94 : decode cX8_measure 94 = .ok (.iastore, 1) := by decide +kernel
theorem dX8_measure_95 : decode cX8_measure 95 = .ok (.iinc 1 (-1), 3) := by decide +kernel
theorem dX8_measure_98 : decode cX8_measure 98 = .ok (.goto (-66), 3) := by decide +kernel
theorem dX8_measure_101 : decode cX8_measure 101 = .ok (.return_, 1) := by decide +kernel
theorem dX8_walkTo_0 : decode cX8_walkTo 0 = .ok (.iconst 0, 1) := by decide +kernel
theorem dX8_walkTo_1 : decode cX8_walkTo 1 = .ok (.istore_n 2, 1) := by decide +kernel
theorem dX8_walkTo_2 : decode cX8_walkTo 2 = .ok (.aload_n 0, 1) := by decide +kernel
theorem dX8_walkTo_3 : decode cX8_walkTo 3 = .ok (.iconst (-1), 1) := by decide +kernel
theorem dX8_walkTo_4 : decode cX8_walkTo 4 = .ok (.putfield 15, 3) := by decide +kernel
theorem dX8_walkTo_7 : decode cX8_walkTo 7 = .ok (.aload_n 0, 1) := by decide +kernel
theorem dX8_walkTo_8 : decode cX8_walkTo 8 = .ok (.iconst (-1), 1) := by decide +kernel
theorem dX8_walkTo_9 : decode cX8_walkTo 9 = .ok (.putfield 19, 3) := by decide +kernel
theorem dX8_walkTo_12 : decode cX8_walkTo 12 = .ok (.iconst 0, 1) := by decide +kernel
theorem dX8_walkTo_13 : decode cX8_walkTo 13 = .ok (.istore_n 3, 1) := by decide +kernel
theorem dX8_walkTo_14 : decode cX8_walkTo 14 = .ok (.iload_n 3, 1) := by decide +kernel
theorem dX8_walkTo_15 : decode cX8_walkTo 15 = .ok (.aload_n 0, 1) := by decide +kernel
theorem dX8_walkTo_16 : decode cX8_walkTo 16 = .ok (.getfield 25, 3) := by decide +kernel
theorem dX8_walkTo_19 : decode cX8_walkTo 19 = .ok (.getfield 30, 3) := by decide +kernel
theorem dX8_walkTo_22 : decode cX8_walkTo 22 = .ok (.if_icmp .ge 108, 3) := by decide +kernel
theorem dX8_walkTo_25 : decode cX8_walkTo 25 = .ok (.aload_n 0, 1) := by decide +kernel
theorem dX8_walkTo_26 : decode cX8_walkTo 26 = .ok (.getfield 15, 3) := by decide +kernel
theorem dX8_walkTo_29 : decode cX8_walkTo 29 = .ok (.iconst (-1), 1) := by decide +kernel
theorem dX8_walkTo_30 : decode cX8_walkTo 30 = .ok (.if_icmp .ne 100, 3) := by decide +kernel
theorem dX8_walkTo_33 : decode cX8_walkTo 33 = .ok (.iload_n 3, 1) := by decide +kernel
theorem dX8_walkTo_34 : decode cX8_walkTo 34 = .ok (.iconst 1, 1) := by decide +kernel
theorem dX8_walkTo_35 : decode cX8_walkTo 35 = .ok (.iadd, 1) := by decide +kernel
theorem dX8_walkTo_36 : decode cX8_walkTo 36 = .ok (.istore 4, 2) := by decide +kernel
theorem dX8_walkTo_38 : decode cX8_walkTo 38 = .ok (.iload 4, 2) := by decide +kernel
theorem dX8_walkTo_40 : decode cX8_walkTo 40 = .ok (.aload_n 0, 1) := by decide +kernel
theorem dX8_walkTo_41 : decode cX8_walkTo 41 = .ok (.getfield 25, 3) := by decide +kernel
theorem dX8_walkTo_44 : decode cX8_walkTo 44 = .ok (.getfield 30, 3) := by decide +kernel
theorem dX8_walkTo_47 : decode cX8_walkTo 47 = .ok (.if_icmp .ge 77, 3) := by decide +kernel
theorem dX8_walkTo_50 : decode cX8_walkTo 50 = .ok (.aload_n 0, 1) := by decide +kernel
theorem dX8_walkTo_51 : decode cX8_walkTo 51 = .ok (.getfield 25, 3) := by decide +kernel
theorem dX8_walkTo_54 : decode cX8_walkTo 54 = .ok (.getfield 38, 3) := by decide +kernel
theorem dX8_walkTo_57 : decode cX8_walkTo 57 = .ok (.iload 4, 2) := by decide +kernel
theorem dX8_walkTo_59 : decode cX8_walkTo 59 = .ok (.iaload, 1) := by decide +kernel
theorem dX8_walkTo_60 : decode cX8_walkTo 60 = .ok (.aload_n 0, 1) := by decide +kernel
theorem dX8_walkTo_61 : decode cX8_walkTo 61 = .ok (.getfield 9, 3) := by decide +kernel
theorem dX8_walkTo_64 : decode cX8_walkTo 64 = .ok (.iload_n 3, 1) := by decide +kernel
theorem dX8_walkTo_65 : decode cX8_walkTo 65 = .ok (.iaload, 1) := by decide +kernel
theorem dX8_walkTo_66 : decode cX8_walkTo 66 = .ok (.if_icmp .ge 58, 3) := by decide +kernel
theorem dX8_walkTo_69 : decode cX8_walkTo 69 = .ok (.aload_n 0, 1) := by decide +kernel
theorem dX8_walkTo_70 : decode cX8_walkTo 70 = .ok (.getfield 15, 3) := by decide +kernel
theorem dX8_walkTo_73 : decode cX8_walkTo 73 = .ok (.iconst (-1), 1) := by decide +kernel
theorem dX8_walkTo_74 : decode cX8_walkTo 74 = .ok (.if_icmp .ne 50, 3) := by decide +kernel
theorem dX8_walkTo_77 : decode cX8_walkTo 77 = .ok (.aload_n 0, 1) := by decide +kernel
theorem dX8_walkTo_78 : decode cX8_walkTo 78 = .ok (.iload_n 3, 1) := by decide +kernel
theorem dX8_walkTo_79 : decode cX8_walkTo 79 = .ok (.iload 4, 2) := by decide +kernel
theorem dX8_walkTo_81 : decode cX8_walkTo 81 = .ok (.invokevirtual 50, 3) := by decide +kernel
theorem dX8_walkTo_84 : decode cX8_walkTo 84 = .ok (.istore 5, 2) := by decide +kernel
theorem dX8_walkTo_86 : decode cX8_walkTo 86 = .ok (.iload 5, 2) := by decide +kernel
theorem dX8_walkTo_88 : decode cX8_walkTo 88 = .ok (.ifCond .eq 22, 3) := by decide +kernel
theorem dX8_walkTo_91 : decode cX8_walkTo 91 = .ok (.iload_n 2, 1) := by decide +kernel
theorem dX8_walkTo_92 : decode cX8_walkTo 92 = .ok (.iload_n 1, 1) := by decide +kernel
theorem dX8_walkTo_93 : decode cX8_walkTo 93 = .ok (.if_icmp .ne 17, 3) := by decide +kernel
theorem dX8_walkTo_96 : decode cX8_walkTo 96 = .ok (.aload_n 0, 1) := by decide +kernel
theorem dX8_walkTo_97 : decode cX8_walkTo 97 = .ok (.iload_n 3, 1) := by decide +kernel
theorem dX8_walkTo_98 : decode cX8_walkTo 98 = .ok (.putfield 15, 3) := by decide +kernel
theorem dX8_walkTo_101 : decode cX8_walkTo 101 = .ok (.aload_n 0, 1) := by decide +kernel
theorem dX8_walkTo_102 : decode cX8_walkTo 102 = .ok (.iload 4, 2) := by decide +kernel
theorem dX8_walkTo_104 : decode cX8_walkTo 104 = .ok (.putfield 19, 3) := by decide +kernel
theorem dX8_walkTo_107 : decode cX8_walkTo 107 = .ok (.goto 11, 3) := by decide +kernel
theorem dX8_walkTo_110 : decode cX8_walkTo 110 = .ok (.iload 5, 2) := by decide +kernel
theorem dX8_walkTo_112 : decode cX8_walkTo 112 = .ok (.ifCond .eq 6, 3) := by decide +kernel
theorem dX8_walkTo_115 : decode cX8_walkTo 115 = .ok (.iinc 2 1, 3) := by decide +kernel
theorem dX8_walkTo_118 : decode cX8_walkTo 118 = .ok (.iinc 4 1, 3) := by decide +kernel
theorem dX8_walkTo_121 : decode cX8_walkTo 121 = .ok (.goto (-83), 3) := by decide +kernel
theorem dX8_walkTo_124 : decode cX8_walkTo 124 = .ok (.iinc 3 1, 3) := by decide +kernel
theorem dX8_walkTo_127 : decode cX8_walkTo 127 = .ok (.goto (-113), 3) := by decide +kernel
theorem dX8_walkTo_130 : decode cX8_walkTo 130 = .ok (.iload_n 2, 1) := by decide +kernel
theorem dX8_walkTo_131 : decode cX8_walkTo 131 = .ok (.ireturn, 1) := by decide +kernel
theorem dX8_beatsOfBoth_0 : decode cX8_beatsOfBoth 0 = .ok (.aload_n 0, 1) := by decide +kernel
theorem dX8_beatsOfBoth_1 : decode cX8_beatsOfBoth 1 = .ok (.getfield 25, 3) := by decide +kernel
theorem dX8_beatsOfBoth_4 : decode cX8_beatsOfBoth 4 = .ok (.aload_n 0, 1) := by decide +kernel
theorem dX8_beatsOfBoth_5 : decode cX8_beatsOfBoth 5 = .ok (.getfield 15, 3) := by decide +kernel
theorem dX8_beatsOfBoth_8 : decode cX8_beatsOfBoth 8 = .ok (.invokevirtual 54, 3) := by decide +kernel
theorem dX8_beatsOfBoth_11 : decode cX8_beatsOfBoth 11 = .ok (.ifCond .eq 17, 3) := by decide +kernel
theorem dX8_beatsOfBoth_14 : decode cX8_beatsOfBoth 14 = .ok (.aload_n 0, 1) := by decide +kernel
theorem dX8_beatsOfBoth_15 : decode cX8_beatsOfBoth 15 = .ok (.getfield 25, 3) := by decide +kernel
theorem dX8_beatsOfBoth_18 : decode cX8_beatsOfBoth 18 = .ok (.aload_n 0, 1) := by decide +kernel
theorem dX8_beatsOfBoth_19 : decode cX8_beatsOfBoth 19 = .ok (.getfield 19, 3) := by decide +kernel
theorem dX8_beatsOfBoth_22 : decode cX8_beatsOfBoth 22 = .ok (.invokevirtual 54, 3) := by decide +kernel
theorem dX8_beatsOfBoth_25 : decode cX8_beatsOfBoth 25 = .ok (.ifCond .ne 5, 3) := by decide +kernel
theorem dX8_beatsOfBoth_28 : decode cX8_beatsOfBoth 28 = .ok (.iconst (-1), 1) := by decide +kernel
theorem dX8_beatsOfBoth_29 : decode cX8_beatsOfBoth 29 = .ok (.ireturn, 1) := by decide +kernel
theorem dX8_beatsOfBoth_30 : decode cX8_beatsOfBoth 30 = .ok (.aload_n 0, 1) := by decide +kernel
theorem dX8_beatsOfBoth_31 : decode cX8_beatsOfBoth 31 = .ok (.getfield 9, 3) := by decide +kernel
theorem dX8_beatsOfBoth_34 : decode cX8_beatsOfBoth 34 = .ok (.aload_n 0, 1) := by decide +kernel
theorem dX8_beatsOfBoth_35 : decode cX8_beatsOfBoth 35 = .ok (.getfield 15, 3) := by decide +kernel
theorem dX8_beatsOfBoth_38 : decode cX8_beatsOfBoth 38 = .ok (.iaload, 1) := by decide +kernel
theorem dX8_beatsOfBoth_39 : decode cX8_beatsOfBoth 39 = .ok (.aload_n 0, 1) := by decide +kernel
theorem dX8_beatsOfBoth_40 : decode cX8_beatsOfBoth 40 = .ok (.getfield 9, 3) := by decide +kernel
theorem dX8_beatsOfBoth_43 : decode cX8_beatsOfBoth 43 = .ok (.aload_n 0, 1) := by decide +kernel
theorem dX8_beatsOfBoth_44 : decode cX8_beatsOfBoth 44 = .ok (.getfield 19, 3) := by decide +kernel
theorem dX8_beatsOfBoth_47 : decode cX8_beatsOfBoth 47 = .ok (.iaload, 1) := by decide +kernel
theorem dX8_beatsOfBoth_48 : decode cX8_beatsOfBoth 48 = .ok (.invokestatic 44, 3) := by decide +kernel
theorem dX8_beatsOfBoth_51 : decode cX8_beatsOfBoth 51 = .ok (.aload_n 0, 1) := by decide +kernel
theorem dX8_beatsOfBoth_52 : decode cX8_beatsOfBoth 52 = .ok (.getfield 25, 3) := by decide +kernel
theorem dX8_beatsOfBoth_55 : decode cX8_beatsOfBoth 55 = .ok (.getfield 38, 3) := by decide +kernel
theorem dX8_beatsOfBoth_58 : decode cX8_beatsOfBoth 58 = .ok (.aload_n 0, 1) := by decide +kernel
theorem dX8_beatsOfBoth_59 : decode cX8_beatsOfBoth 59 = .ok (.getfield 19, 3) := by decide +kernel
theorem dX8_beatsOfBoth_62 : decode cX8_beatsOfBoth 62 = .ok (.iaload, 1) := by decide +kernel
theorem dX8_beatsOfBoth_63 : decode cX8_beatsOfBoth 63 = .ok (.isub, 1) := by decide +kernel
theorem dX8_beatsOfBoth_64 : decode cX8_beatsOfBoth 64 = .ok (.ireturn, 1) := by decide +kernel
theorem dX8_lengthDamped_0 : decode cX8_lengthDamped 0 = .ok (.iconst (-1), 1) := by decide +kernel
theorem dX8_lengthDamped_1 : decode cX8_lengthDamped 1 = .ok (.istore_n 2, 1) := by decide +kernel
theorem dX8_lengthDamped_2 : decode cX8_lengthDamped 2 = .ok (.iload_n 1, 1) := by decide +kernel
theorem dX8_lengthDamped_3 : decode cX8_lengthDamped 3 = .ok (.iconst 1, 1) := by decide +kernel
theorem dX8_lengthDamped_4 : decode cX8_lengthDamped 4 = .ok (.iadd, 1) := by decide +kernel
theorem dX8_lengthDamped_5 : decode cX8_lengthDamped 5 = .ok (.istore_n 3, 1) := by decide +kernel
theorem dX8_lengthDamped_6 : decode cX8_lengthDamped 6 = .ok (.iload_n 3, 1) := by decide +kernel
theorem dX8_lengthDamped_7 : decode cX8_lengthDamped 7 = .ok (.aload_n 0, 1) := by decide +kernel
theorem dX8_lengthDamped_8 : decode cX8_lengthDamped 8 = .ok (.getfield 25, 3) := by decide +kernel
theorem dX8_lengthDamped_11 : decode cX8_lengthDamped 11 = .ok (.getfield 30, 3) := by decide +kernel
theorem dX8_lengthDamped_14 : decode cX8_lengthDamped 14 = .ok (.if_icmp .ge 82, 3) := by decide +kernel
theorem dX8_lengthDamped_17 : decode cX8_lengthDamped 17 = .ok (.aload_n 0, 1) := by decide +kernel
theorem dX8_lengthDamped_18 : decode cX8_lengthDamped 18 = .ok (.getfield 25, 3) := by decide +kernel
theorem dX8_lengthDamped_21 : decode cX8_lengthDamped 21 = .ok (.getfield 38, 3) := by decide +kernel
theorem dX8_lengthDamped_24 : decode cX8_lengthDamped 24 = .ok (.iload_n 3, 1) := by decide +kernel
theorem dX8_lengthDamped_25 : decode cX8_lengthDamped 25 = .ok (.iaload, 1) := by decide +kernel
theorem dX8_lengthDamped_26 : decode cX8_lengthDamped 26 = .ok (.aload_n 0, 1) := by decide +kernel
theorem dX8_lengthDamped_27 : decode cX8_lengthDamped 27 = .ok (.getfield 9, 3) := by decide +kernel
theorem dX8_lengthDamped_30 : decode cX8_lengthDamped 30 = .ok (.iload_n 1, 1) := by decide +kernel
theorem dX8_lengthDamped_31 : decode cX8_lengthDamped 31 = .ok (.iaload, 1) := by decide +kernel
theorem dX8_lengthDamped_32 : decode cX8_lengthDamped 32 = .ok (.if_icmp .ge 64, 3) := by decide +kernel
theorem dX8_lengthDamped_35 : decode cX8_lengthDamped 35 = .ok (.iload_n 2, 1) := by decide +kernel
theorem dX8_lengthDamped_36 : decode cX8_lengthDamped 36 = .ok (.iconst (-1), 1) := by decide +kernel
theorem dX8_lengthDamped_37 : decode cX8_lengthDamped 37 = .ok (.if_icmp .ne 59, 3) := by decide +kernel
theorem dX8_lengthDamped_40 : decode cX8_lengthDamped 40 = .ok (.aload_n 0, 1) := by decide +kernel
theorem dX8_lengthDamped_41 : decode cX8_lengthDamped 41 = .ok (.iload_n 1, 1) := by decide +kernel
theorem dX8_lengthDamped_42 : decode cX8_lengthDamped 42 = .ok (.iload_n 3, 1) := by decide +kernel
theorem dX8_lengthDamped_43 : decode cX8_lengthDamped 43 = .ok (.invokevirtual 50, 3) := by decide +kernel
theorem dX8_lengthDamped_46 : decode cX8_lengthDamped 46 = .ok (.ifCond .eq 44, 3) := by decide +kernel
theorem dX8_lengthDamped_49 : decode cX8_lengthDamped 49 = .ok (.aload_n 0, 1) := by decide +kernel
theorem dX8_lengthDamped_50 : decode cX8_lengthDamped 50 = .ok (.getfield 25, 3) := by decide +kernel
theorem dX8_lengthDamped_53 : decode cX8_lengthDamped 53 = .ok (.getfield 38, 3) := by decide +kernel
theorem dX8_lengthDamped_56 : decode cX8_lengthDamped 56 = .ok (.iload_n 3, 1) := by decide +kernel
theorem dX8_lengthDamped_57 : decode cX8_lengthDamped 57 = .ok (.iaload, 1) := by decide +kernel
theorem dX8_lengthDamped_58 : decode cX8_lengthDamped 58 = .ok (.aload_n 0, 1) := by decide +kernel
theorem dX8_lengthDamped_59 : decode cX8_lengthDamped 59 = .ok (.getfield 25, 3) := by decide +kernel
theorem dX8_lengthDamped_62 : decode cX8_lengthDamped 62 = .ok (.getfield 38, 3) := by decide +kernel
theorem dX8_lengthDamped_65 : decode cX8_lengthDamped 65 = .ok (.iload_n 1, 1) := by decide +kernel
theorem dX8_lengthDamped_66 : decode cX8_lengthDamped 66 = .ok (.iaload, 1) := by decide +kernel
theorem dX8_lengthDamped_67 : decode cX8_lengthDamped 67 = .ok (.if_icmp .le 23, 3) := by decide +kernel
theorem dX8_lengthDamped_70 : decode cX8_lengthDamped 70 = .ok (.aload_n 0, 1) := by decide +kernel
theorem dX8_lengthDamped_71 : decode cX8_lengthDamped 71 = .ok (.getfield 25, 3) := by decide +kernel
theorem dX8_lengthDamped_74 : decode cX8_lengthDamped 74 = .ok (.getfield 38, 3) := by decide +kernel
theorem dX8_lengthDamped_77 : decode cX8_lengthDamped 77 = .ok (.iload_n 3, 1) := by decide +kernel
theorem dX8_lengthDamped_78 : decode cX8_lengthDamped 78 = .ok (.iaload, 1) := by decide +kernel
theorem dX8_lengthDamped_79 : decode cX8_lengthDamped 79 = .ok (.aload_n 0, 1) := by decide +kernel
theorem dX8_lengthDamped_80 : decode cX8_lengthDamped 80 = .ok (.getfield 25, 3) := by decide +kernel
theorem dX8_lengthDamped_83 : decode cX8_lengthDamped 83 = .ok (.getfield 38, 3) := by decide +kernel
theorem dX8_lengthDamped_86 : decode cX8_lengthDamped 86 = .ok (.iload_n 1, 1) := by decide +kernel
theorem dX8_lengthDamped_87 : decode cX8_lengthDamped 87 = .ok (.iaload, 1) := by decide +kernel
theorem dX8_lengthDamped_88 : decode cX8_lengthDamped 88 = .ok (.isub, 1) := by decide +kernel
theorem dX8_lengthDamped_89 : decode cX8_lengthDamped 89 = .ok (.istore_n 2, 1) := by decide +kernel
theorem dX8_lengthDamped_90 : decode cX8_lengthDamped 90 = .ok (.iinc 3 1, 3) := by decide +kernel
theorem dX8_lengthDamped_93 : decode cX8_lengthDamped 93 = .ok (.goto (-87), 3) := by decide +kernel
theorem dX8_lengthDamped_96 : decode cX8_lengthDamped 96 = .ok (.iload_n 2, 1) := by decide +kernel
theorem dX8_lengthDamped_97 : decode cX8_lengthDamped 97 = .ok (.iconst (-1), 1) := by decide +kernel
theorem dX8_lengthDamped_98 : decode cX8_lengthDamped 98 = .ok (.if_icmp .ne 15, 3) := by decide +kernel
theorem dX8_lengthDamped_101 : decode cX8_lengthDamped 101 = .ok (.aload_n 0, 1) := by decide +kernel
theorem dX8_lengthDamped_102 : decode cX8_lengthDamped 102 = .ok (.getfield 25, 3) := by decide +kernel
theorem dX8_lengthDamped_105 : decode cX8_lengthDamped 105 = .ok (.getfield 41, 3) := by decide +kernel
theorem dX8_lengthDamped_108 : decode cX8_lengthDamped 108 = .ok (.iload_n 1, 1) := by decide +kernel
theorem dX8_lengthDamped_109 : decode cX8_lengthDamped 109 = .ok (.iaload, 1) := by decide +kernel
theorem dX8_lengthDamped_110 : decode cX8_lengthDamped 110 = .ok (.goto 4, 3) := by decide +kernel
theorem dX8_lengthDamped_113 : decode cX8_lengthDamped 113 = .ok (.iload_n 2, 1) := by decide +kernel
theorem dX8_lengthDamped_114 : decode cX8_lengthDamped 114 = .ok (.ireturn, 1) := by decide +kernel
theorem dX8_cutDown_0 : decode cX8_cutDown 0 = .ok (.iconst 0, 1) := by decide +kernel
theorem dX8_cutDown_1 : decode cX8_cutDown 1 = .ok (.istore_n 1, 1) := by decide +kernel
theorem dX8_cutDown_2 : decode cX8_cutDown 2 = .ok (.iconst 0, 1) := by decide +kernel
theorem dX8_cutDown_3 : decode cX8_cutDown 3 = .ok (.istore_n 2, 1) := by decide +kernel
theorem dX8_cutDown_4 : decode cX8_cutDown 4 = .ok (.iload_n 2, 1) := by decide +kernel
theorem dX8_cutDown_5 : decode cX8_cutDown 5 = .ok (.aload_n 0, 1) := by decide +kernel
theorem dX8_cutDown_6 : decode cX8_cutDown 6 = .ok (.getfield 25, 3) := by decide +kernel
theorem dX8_cutDown_9 : decode cX8_cutDown 9 = .ok (.getfield 30, 3) := by decide +kernel
theorem dX8_cutDown_12 : decode cX8_cutDown 12 = .ok (.if_icmp .ge 39, 3) := by decide +kernel
theorem dX8_cutDown_15 : decode cX8_cutDown 15 = .ok (.aload_n 0, 1) := by decide +kernel
theorem dX8_cutDown_16 : decode cX8_cutDown 16 = .ok (.iload_n 2, 1) := by decide +kernel
theorem dX8_cutDown_17 : decode cX8_cutDown 17 = .ok (.invokevirtual 58, 3) := by decide +kernel
theorem dX8_cutDown_20 : decode cX8_cutDown 20 = .ok (.istore_n 3, 1) := by decide +kernel
theorem dX8_cutDown_21 : decode cX8_cutDown 21 = .ok (.iload_n 1, 1) := by decide +kernel
theorem dX8_cutDown_22 : decode cX8_cutDown 22 = .ok (.aload_n 0, 1) := by decide +kernel
theorem dX8_cutDown_23 : decode cX8_cutDown 23 = .ok (.getfield 25, 3) := by decide +kernel
theorem dX8_cutDown_26 : decode cX8_cutDown 26 = .ok (.getfield 41, 3) := by decide +kernel
theorem dX8_cutDown_29 : decode cX8_cutDown 29 = .ok (.iload_n 2, 1) := by decide +kernel
theorem dX8_cutDown_30 : decode cX8_cutDown 30 = .ok (.iaload, 1) := by decide +kernel
theorem dX8_cutDown_31 : decode cX8_cutDown 31 = .ok (.iload_n 3, 1) := by decide +kernel
theorem dX8_cutDown_32 : decode cX8_cutDown 32 = .ok (.isub, 1) := by decide +kernel
theorem dX8_cutDown_33 : decode cX8_cutDown 33 = .ok (.iadd, 1) := by decide +kernel
theorem dX8_cutDown_34 : decode cX8_cutDown 34 = .ok (.istore_n 1, 1) := by decide +kernel
theorem dX8_cutDown_35 : decode cX8_cutDown 35 = .ok (.aload_n 0, 1) := by decide +kernel
theorem dX8_cutDown_36 : decode cX8_cutDown 36 = .ok (.getfield 25, 3) := by decide +kernel
theorem dX8_cutDown_39 : decode cX8_cutDown 39 = .ok (.getfield 41, 3) := by decide +kernel
theorem dX8_cutDown_42 : decode cX8_cutDown 42 = .ok (.iload_n 2, 1) := by decide +kernel
theorem dX8_cutDown_43 : decode cX8_cutDown 43 = .ok (.iload_n 3, 1) := by decide +kernel
theorem dX8_cutDown_44 : decode cX8_cutDown 44 = .ok (.iastore, 1) := by decide +kernel
theorem dX8_cutDown_45 : decode cX8_cutDown 45 = .ok (.iinc 2 1, 3) := by decide +kernel
theorem dX8_cutDown_48 : decode cX8_cutDown 48 = .ok (.goto (-44), 3) := by decide +kernel
theorem dX8_cutDown_51 : decode cX8_cutDown 51 = .ok (.aload_n 0, 1) := by decide +kernel
theorem dX8_cutDown_52 : decode cX8_cutDown 52 = .ok (.invokevirtual 62, 3) := by decide +kernel
theorem dX8_cutDown_55 : decode cX8_cutDown 55 = .ok (.iload_n 1, 1) := by decide +kernel
theorem dX8_cutDown_56 : decode cX8_cutDown 56 = .ok (.ireturn, 1) := by decide +kernel
abbrev mX8_areNext : MI := (yX8_areNext, cX8_areNext, 3, some .boolean, 1, 21, [])
abbrev mX8_measure : MI := (yX8_measure, cX8_measure, 3, none, 1, 21, [])
abbrev mX8_walkTo : MI := (yX8_walkTo, cX8_walkTo, 6, some .int, 2, 43, [])
abbrev mX8_beatsOfBoth : MI := (yX8_beatsOfBoth, cX8_beatsOfBoth, 1, some .int, 2, 42, [])
abbrev mX8_lengthDamped : MI := (yX8_lengthDamped, cX8_lengthDamped, 4, some .int, 2, 43, [])
abbrev mX8_cutDown : MI := (yX8_cutDown, cX8_cutDown, 4, some .int, 3, 66, [])
theorem co_X8_29 : Cond.constant RX8 29 16777216 ∈ lw_w := lw_in (i := 617) (by decide +kernel) (by decide +kernel)
theorem fk_X8_9 : Fk RX8 9 8 1 := ⟨RX8, TX8, 5, tyX8, rfl, inX8, by decide, lw_in (i := 304) (by decide +kernel) (by decide +kernel), tyX8_ok, nmX8⟩
theorem fk_X8_15 : Fk RX8 15 8 2 := ⟨RX8, TX8, 5, tyX8, rfl, inX8, by decide, lw_in (i := 306) (by decide +kernel) (by decide +kernel), tyX8_ok, nmX8⟩
theorem fk_X8_19 : Fk RX8 19 8 3 := ⟨RX8, TX8, 5, tyX8, rfl, inX8, by decide, lw_in (i := 308) (by decide +kernel) (by decide +kernel), tyX8_ok, nmX8⟩
theorem fk_X8_22 : Fk RX8 22 8 4 := ⟨RX8, TX8, 5, tyX8, rfl, inX8, by decide, lw_in (i := 310) (by decide +kernel) (by decide +kernel), tyX8_ok, nmX8⟩
theorem fk_X8_25 : Fk RX8 25 8 0 := ⟨RX8, TX8, 5, tyX8, rfl, inX8, by decide, lw_in (i := 303) (by decide +kernel) (by decide +kernel), tyX8_ok, nmX8⟩
theorem fk_X8_30 : Fk RX8 30 9 4 := ⟨RX9, TX9, 5, tyX9, rfl, inX9, by decide, lw_in (i := 107) (by decide +kernel) (by decide +kernel), tyX9_ok, nmX9⟩
theorem fk_X8_35 : Fk RX8 35 9 1 := ⟨RX9, TX9, 5, tyX9, rfl, inX9, by decide, lw_in (i := 90) (by decide +kernel) (by decide +kernel), tyX9_ok, nmX9⟩
theorem fk_X8_38 : Fk RX8 38 9 0 := ⟨RX9, TX9, 5, tyX9, rfl, inX9, by decide, lw_in (i := 85) (by decide +kernel) (by decide +kernel), tyX9_ok, nmX9⟩
theorem fk_X8_41 : Fk RX8 41 9 2 := ⟨RX9, TX9, 5, tyX9, rfl, inX9, by decide, lw_in (i := 97) (by decide +kernel) (by decide +kernel), tyX9_ok, nmX9⟩
theorem fp_X8_2 : Fp 8 2 .int := ⟨RX8, TX8, 5, rfl, rfl, by decide +kernel⟩
theorem fp_X8_3 : Fp 8 3 .int := ⟨RX8, TX8, 5, rfl, rfl, by decide +kernel⟩
theorem mv_X8_areNext : MkV mX8_areNext := ⟨lw_in (i := 925) (by decide +kernel) (by decide +kernel), lw_se (i := 37) (by decide +kernel) (by decide +kernel)⟩
theorem mv_X8_lengthDamped : MkV mX8_lengthDamped := ⟨lw_in (i := 949) (by decide +kernel) (by decide +kernel), lw_se (i := 38) (by decide +kernel) (by decide +kernel)⟩
theorem mv_X8_measure : MkV mX8_measure := ⟨lw_in (i := 614) (by decide +kernel) (by decide +kernel), lw_in (i := 615) (by decide +kernel) (by decide +kernel)⟩
theorem mv_X9_hasNumber : MkV mX9_hasNumber := ⟨lw_in (i := 698) (by decide +kernel) (by decide +kernel), lw_in (i := 699) (by decide +kernel) (by decide +kernel)⟩
theorem mk_X8_44 : Cond.methodLink RX8 44 Lib.Math.min.name ∈ lw_w := lw_in (i := 618) (by decide +kernel) (by decide +kernel)
theorem mk_X8_50 : Mk RX8 50 mX8_areNext 2 := ⟨lw_in (i := 923) (by decide +kernel) (by decide +kernel), lw_in (i := 10) (by decide +kernel) (by decide +kernel), lw_in (i := 926) (by decide +kernel) (by decide +kernel), by decide +kernel⟩
theorem mk_X8_54 : Mk RX8 54 mX9_hasNumber 1 := ⟨lw_in (i := 938) (by decide +kernel) (by decide +kernel), lw_in (i := 4) (by decide +kernel) (by decide +kernel), lw_in (i := 700) (by decide +kernel) (by decide +kernel), by decide +kernel⟩
theorem mk_X8_58 : Mk RX8 58 mX8_lengthDamped 1 := ⟨lw_in (i := 947) (by decide +kernel) (by decide +kernel), lw_in (i := 10) (by decide +kernel) (by decide +kernel), lw_in (i := 950) (by decide +kernel) (by decide +kernel), by decide +kernel⟩
theorem mk_X8_62 : Mk RX8 62 mX8_measure 0 := ⟨lw_in (i := 951) (by decide +kernel) (by decide +kernel), lw_in (i := 10) (by decide +kernel) (by decide +kernel), lw_in (i := 616) (by decide +kernel) (by decide +kernel), by decide +kernel⟩
theorem mk_X8_65 : Cond.methodLink RX8 65 Lib.Math.abs.name ∈ lw_w := lw_in (i := 927) (by decide +kernel) (by decide +kernel)
theorem rm_X8_beatsOfBoth_X9_hasNumber : Rm mX8_beatsOfBoth mX9_hasNumber := ⟨by decide, by decide⟩
theorem rm_X8_cutDown_X8_lengthDamped : Rm mX8_cutDown mX8_lengthDamped := ⟨by decide, by decide⟩
theorem rm_X8_cutDown_X8_measure : Rm mX8_cutDown mX8_measure := ⟨by decide, by decide⟩
theorem rm_X8_lengthDamped_X8_areNext : Rm mX8_lengthDamped mX8_areNext := ⟨by decide, by decide⟩
theorem rm_X8_walkTo_X8_areNext : Rm mX8_walkTo mX8_areNext := ⟨by decide, by decide⟩
section W_sound
variable {l : Launch} {D : va_G} {ad : Nat → Nat} {kA : Nat → ClassId} {M : Mem} {Q : Outcome → Mem → Prop}
def v_X8_areNext (M : Mem) (x1 : Int32) (x2 : Int32) : Int32 := if (iabs ((gI M 11 x1.toNatClampNeg) - (gI M 11 x2.toNatClampNeg))) = 1 then 1 else 0
def g_X8_areNext (M : Mem) (x1 : Int32) (x2 : Int32) : Prop := (vp_in x1 160) ∧ (vp_in x2 160)
theorem ct_X8_areNext {x1 : Int32} {x2 : Int32}  (g : g_X8_areNext M x1 x2) (h : Q (.returned (some (.int (v_X8_areNext M x1 x2)))) M) : Cal l D ad kA mX8_areNext [.ref (ad 32), .int x1, .int x2] M Q := by
  refine Cal.of (lo := [some (.ref (ad 32)), some (.int x1), some (.int x2)]) (by decide) rfl rfl (Nat.le_of_ble_eq_true rfl) ?_
  obtain ⟨g1, g2⟩ := g
  refine r_aload_n dX8_areNext_0 rfl ?_
  refine r_getR dX8_areNext_1 fs_32_0 fk_X8_25 ?_
  refine r_getR dX8_areNext_4 fs_9_1 fk_X8_35 ?_
  refine r_iload_n dX8_areNext_7 rfl ?_
  refine r_iald dX8_areNext_8 as_11 g1 ?_
  refine r_aload_n dX8_areNext_9 rfl ?_
  refine r_getR dX8_areNext_10 fs_32_0 fk_X8_25 ?_
  refine r_getR dX8_areNext_13 fs_9_1 fk_X8_35 ?_
  refine r_iload_n dX8_areNext_16 rfl ?_
  refine r_iald dX8_areNext_17 as_11 g2 ?_
  refine r_isub dX8_areNext_18 ?_
  refine q_mabs dX8_areNext_19 mk_X8_65 (by decide) (Nat.le_of_ble_eq_true rfl) ?_
  refine r_iconst (v := 1) dX8_areNext_22 kI_1 ?_
  suffices hJ1 : Fw l D ad kA mX8_areNext 31 [none, none, none] [.int (if (iabs ((gI M 11 x1.toNatClampNeg) - (gI M 11 x2.toNatClampNeg))) = 1 then 1 else 0)] M Q by
    refine r_icmp_ne (tgt := 30) dX8_areNext_23 (by decide) (fun c1 => ?_) (fun c1 => ?_)
    · skip
      refine r_iconst (v := 0) dX8_areNext_30 kI_0 ?_
      exact q_weak (lo' := [none, none, none]) trivial (by have h9 := hJ1; simp only [if_neg c1] at h9; first | exact h9 | (simp only [if_neg c1]; exact h9))
    · skip
      refine r_iconst (v := 1) dX8_areNext_26 kI_1 ?_
      refine r_goto (tgt := 31) dX8_areNext_27 (by decide) ?_
      exact q_weak (lo' := [none, none, none]) trivial (by have h9 := hJ1; simp only [if_pos c1] at h9; first | exact h9 | (simp only [if_pos c1]; exact h9))
  exact r_zret dX8_areNext_31 rfl (nar_z (ite01 (Or.inr rfl) (Or.inl rfl))).1 h
theorem z_X8_areNext {M : Mem} {x1 : Int32} {x2 : Int32} : v_X8_areNext M x1 x2 = 0 ∨ v_X8_areNext M x1 x2 = 1 := (ite01 (Or.inr rfl) (Or.inl rfl))
theorem t_X8_measure_0  
    (K1 : Fw l D ad kA mX8_measure 2 [some (.ref (ad 32)), some (.int 0), none] [] M Q) : Fw l D ad kA mX8_measure 0 [some (.ref (ad 32)), none, none] [] M Q := by
  refine r_iconst (v := 0) dX8_measure_0 kI_0 ?_
  refine q_istore_n (lo' := [some (.ref (ad 32)), some (.int 0), none]) dX8_measure_1 (by decide) rfl ?_
  exact K1
theorem t_X8_measure_2 {x1 : Int32} 
    (g1 : (¬ (48 ≤ x1)) → vp_in x1 48)
    (K1 : (48 ≤ x1) → Fw l D ad kA mX8_measure 32 [some (.ref (ad 32)), some (.int ((gI M 9 4) - 1)), none] [] M Q)
    (K2 : (¬ (48 ≤ x1)) → Fw l D ad kA mX8_measure 2 [some (.ref (ad 32)), some (.int (x1 + 1)), none] [] (sI M 34 x1.toNatClampNeg 16777216) Q) : Fw l D ad kA mX8_measure 2 [some (.ref (ad 32)), some (.int x1), none] [] M Q := by
  refine r_iload_n dX8_measure_2 rfl ?_
  refine r_bipush (v := 48) dX8_measure_3 kB_48 ?_
  refine r_icmp_ge (tgt := 22) dX8_measure_5 (by decide) (fun c1 => ?_) (fun c1 => ?_)
  · skip
    refine r_aload_n dX8_measure_22 rfl ?_
    refine r_getR dX8_measure_23 fs_32_0 fk_X8_25 ?_
    refine r_getI dX8_measure_26 fs_9_4 fk_X8_30 ?_
    refine r_iconst (v := 1) dX8_measure_29 kI_1 ?_
    refine r_isub dX8_measure_30 ?_
    refine q_istore_n (lo' := [some (.ref (ad 32)), some (.int ((gI M 9 4) - 1)), none]) dX8_measure_31 (by decide) rfl ?_
    exact (K1 c1)
  · skip
    refine r_aload_n dX8_measure_8 rfl ?_
    refine r_getR dX8_measure_9 fs_32_4 fk_X8_22 ?_
    refine r_iload_n dX8_measure_12 rfl ?_
    refine r_ldc (v := 16777216) dX8_measure_13 co_X8_29 ?_
    refine r_iast dX8_measure_15 as_34 (g1 c1) ?_
    refine q_iinc (v := x1 + 1) (lo' := [some (.ref (ad 32)), some (.int (x1 + 1)), none]) dX8_measure_16 rfl (congrArg (fun q => x1 + q) kI_1) (by decide) rfl ?_
    refine r_goto (tgt := 2) dX8_measure_19 (by decide) ?_
    exact (K2 c1)
theorem t_X8_measure_32 {x1 : Int32} 
    (g1 : (¬ (x1 < 0)) → vp_in x1 160)
    (g2 : (¬ (x1 < 0)) → vp_in (gI M 11 x1.toNatClampNeg) 48)
    (K1 : (x1 < 0) → Q (.returned none) M)
    (K2 : (¬ (x1 < 0)) → Fw l D ad kA mX8_measure 32 [some (.ref (ad 32)), some (.int (x1 + (-1))), none] [] (sI (sI M 33 x1.toNatClampNeg (imin ((gI M 10 x1.toNatClampNeg) + (gI M 12 x1.toNatClampNeg)) (gI M 34 (gI M 11 x1.toNatClampNeg).toNatClampNeg))) 34 (gI M 11 x1.toNatClampNeg).toNatClampNeg (gI (sI M 33 x1.toNatClampNeg (imin ((gI M 10 x1.toNatClampNeg) + (gI M 12 x1.toNatClampNeg)) (gI M 34 (gI M 11 x1.toNatClampNeg).toNatClampNeg))) 10 x1.toNatClampNeg)) Q) : Fw l D ad kA mX8_measure 32 [some (.ref (ad 32)), some (.int x1), none] [] M Q := by
  refine r_iload_n dX8_measure_32 rfl ?_
  refine r_if_lt (tgt := 101) dX8_measure_33 (by decide) (fun c1 => ?_) (fun c1 => ?_)
  · skip
    exact r_vret dX8_measure_101 rfl (K1 c1)
  · skip
    refine r_aload_n dX8_measure_36 rfl ?_
    refine r_getR dX8_measure_37 fs_32_0 fk_X8_25 ?_
    refine r_getR dX8_measure_40 fs_9_1 fk_X8_35 ?_
    refine r_iload_n dX8_measure_43 rfl ?_
    refine r_iald dX8_measure_44 as_11 (g1 c1) ?_
    refine q_istore_n (lo' := [some (.ref (ad 32)), some (.int x1), some (.int (gI M 11 x1.toNatClampNeg))]) dX8_measure_45 (by decide) rfl ?_
    refine r_aload_n dX8_measure_46 rfl ?_
    refine r_getR dX8_measure_47 fs_32_1 fk_X8_9 ?_
    refine r_iload_n dX8_measure_50 rfl ?_
    refine r_aload_n dX8_measure_51 rfl ?_
    refine r_getR dX8_measure_52 fs_32_0 fk_X8_25 ?_
    refine r_getR dX8_measure_55 fs_9_0 fk_X8_38 ?_
    refine r_iload_n dX8_measure_58 rfl ?_
    refine r_iald dX8_measure_59 as_10 (g1 c1) ?_
    refine r_aload_n dX8_measure_60 rfl ?_
    refine r_getR dX8_measure_61 fs_32_0 fk_X8_25 ?_
    refine r_getR dX8_measure_64 fs_9_2 fk_X8_41 ?_
    refine r_iload_n dX8_measure_67 rfl ?_
    refine r_iald dX8_measure_68 as_12 (g1 c1) ?_
    refine r_iadd dX8_measure_69 ?_
    refine r_aload_n dX8_measure_70 rfl ?_
    refine r_getR dX8_measure_71 fs_32_4 fk_X8_22 ?_
    refine r_iload_n dX8_measure_74 rfl ?_
    refine r_iald dX8_measure_75 as_34 (g2 c1) ?_
    refine q_mmin dX8_measure_76 mk_X8_44 (by decide) (Nat.le_of_ble_eq_true rfl) ?_
    refine r_iast dX8_measure_79 as_33 (g1 c1) ?_
    refine r_aload_n dX8_measure_80 rfl ?_
    refine r_getR dX8_measure_81 fs_32_4 fk_X8_22 ?_
    refine r_iload_n dX8_measure_84 rfl ?_
    refine r_aload_n dX8_measure_85 rfl ?_
    refine r_getR dX8_measure_86 fs_32_0 fk_X8_25 ?_
    refine r_getR dX8_measure_89 fs_9_0 fk_X8_38 ?_
    refine r_iload_n dX8_measure_92 rfl ?_
    refine r_iald dX8_measure_93 as_10 (g1 c1) ?_
    refine r_iast dX8_measure_94 as_34 (g2 c1) ?_
    refine q_iinc (v := x1 + (-1)) (lo' := [some (.ref (ad 32)), some (.int (x1 + (-1))), some (.int (gI M 11 x1.toNatClampNeg))]) dX8_measure_95 rfl (congrArg (fun q => x1 + q) kI_m1) (by decide) rfl ?_
    refine r_goto (tgt := 32) dX8_measure_98 (by decide) ?_
    exact q_weak (lo' := [some (.ref (ad 32)), some (.int (x1 + (-1))), none]) ⟨rfl, rfl, trivial⟩ (K2 c1)
theorem en_X8_measure  (K : Fw l D ad kA mX8_measure 0 [some (.ref (ad 32)), none, none] [] M Q) : Cal l D ad kA mX8_measure [.ref (ad 32)] M Q := Cal.of (by decide) rfl rfl (Nat.le_of_ble_eq_true rfl) K
theorem t_X8_walkTo_0 {x1 : Int32} 
    (K1 : Fw l D ad kA mX8_walkTo 14 [some (.ref (ad 32)), some (.int x1), some (.int 0), some (.int 0), none, none] [] (sI (sI M 32 2 (-1)) 32 3 (-1)) Q) : Fw l D ad kA mX8_walkTo 0 [some (.ref (ad 32)), some (.int x1), none, none, none, none] [] M Q := by
  refine r_iconst (v := 0) dX8_walkTo_0 kI_0 ?_
  refine q_istore_n (lo' := [some (.ref (ad 32)), some (.int x1), some (.int 0), none, none, none]) dX8_walkTo_1 (by decide) rfl ?_
  refine r_aload_n dX8_walkTo_2 rfl ?_
  refine r_iconst (v := (-1)) dX8_walkTo_3 kI_m1 ?_
  refine r_putI dX8_walkTo_4 fs_32_2 fk_X8_15 fp_X8_2 ?_
  refine r_aload_n dX8_walkTo_7 rfl ?_
  refine r_iconst (v := (-1)) dX8_walkTo_8 kI_m1 ?_
  refine r_putI dX8_walkTo_9 fs_32_3 fk_X8_19 fp_X8_3 ?_
  refine r_iconst (v := 0) dX8_walkTo_12 kI_0 ?_
  refine q_istore_n (lo' := [some (.ref (ad 32)), some (.int x1), some (.int 0), some (.int 0), none, none]) dX8_walkTo_13 (by decide) rfl ?_
  exact K1
theorem t_X8_walkTo_14 {x1 : Int32} {x2 : Int32} {x3 : Int32} 
    (K1 : ((gI M 9 4) ≤ x3) → Q (.returned (some (.int x2))) M)
    (K2 : (¬ ((gI M 9 4) ≤ x3)) → (¬ ((gI M 32 2) = (-1))) → Q (.returned (some (.int x2))) M)
    (K3 : (¬ ((gI M 9 4) ≤ x3)) → ((gI M 32 2) = (-1)) → Fw l D ad kA mX8_walkTo 38 [some (.ref (ad 32)), some (.int x1), some (.int x2), some (.int x3), some (.int (x3 + 1)), none] [] M Q) : Fw l D ad kA mX8_walkTo 14 [some (.ref (ad 32)), some (.int x1), some (.int x2), some (.int x3), none, none] [] M Q := by
  refine r_iload_n dX8_walkTo_14 rfl ?_
  refine r_aload_n dX8_walkTo_15 rfl ?_
  refine r_getR dX8_walkTo_16 fs_32_0 fk_X8_25 ?_
  refine r_getI dX8_walkTo_19 fs_9_4 fk_X8_30 ?_
  refine r_icmp_ge (tgt := 130) dX8_walkTo_22 (by decide) (fun c1 => ?_) (fun c1 => ?_)
  · skip
    refine r_iload_n dX8_walkTo_130 rfl ?_
    exact r_iret dX8_walkTo_131 rfl (K1 c1)
  · skip
    refine r_aload_n dX8_walkTo_25 rfl ?_
    refine r_getI dX8_walkTo_26 fs_32_2 fk_X8_15 ?_
    refine r_iconst (v := (-1)) dX8_walkTo_29 kI_m1 ?_
    refine r_icmp_ne (tgt := 130) dX8_walkTo_30 (by decide) (fun c2 => ?_) (fun c2 => ?_)
    · skip
      refine r_iload_n dX8_walkTo_130 rfl ?_
      exact r_iret dX8_walkTo_131 rfl (K2 c1 c2)
    · skip
      refine r_iload_n dX8_walkTo_33 rfl ?_
      refine r_iconst (v := 1) dX8_walkTo_34 kI_1 ?_
      refine r_iadd dX8_walkTo_35 ?_
      refine q_istore (lo' := [some (.ref (ad 32)), some (.int x1), some (.int x2), some (.int x3), some (.int (x3 + 1)), none]) dX8_walkTo_36 (by decide) rfl ?_
      exact (K3 c1 c2)
theorem t_X8_walkTo_38 {x1 : Int32} {x2 : Int32} {x3 : Int32} {x4 : Int32} 
    (g1 : (¬ ((gI M 9 4) ≤ x4)) → vp_in x4 160)
    (g2 : (¬ ((gI M 9 4) ≤ x4)) → vp_in x3 160)
    (g3 : (¬ ((gI M 9 4) ≤ x4)) → (¬ ((gI M 33 x3.toNatClampNeg) ≤ (gI M 10 x4.toNatClampNeg))) → ((gI M 32 2) = (-1)) → g_X8_areNext M x3 x4)
    (K1 : ((gI M 9 4) ≤ x4) → Fw l D ad kA mX8_walkTo 14 [some (.ref (ad 32)), some (.int x1), some (.int x2), some (.int (x3 + 1)), none, none] [] M Q)
    (K2 : (¬ ((gI M 9 4) ≤ x4)) → ((gI M 33 x3.toNatClampNeg) ≤ (gI M 10 x4.toNatClampNeg)) → Fw l D ad kA mX8_walkTo 14 [some (.ref (ad 32)), some (.int x1), some (.int x2), some (.int (x3 + 1)), none, none] [] M Q)
    (K3 : (¬ ((gI M 9 4) ≤ x4)) → (¬ ((gI M 33 x3.toNatClampNeg) ≤ (gI M 10 x4.toNatClampNeg))) → (¬ ((gI M 32 2) = (-1))) → Fw l D ad kA mX8_walkTo 14 [some (.ref (ad 32)), some (.int x1), some (.int x2), some (.int (x3 + 1)), none, none] [] M Q)
    (K4 : (¬ ((gI M 9 4) ≤ x4)) → (¬ ((gI M 33 x3.toNatClampNeg) ≤ (gI M 10 x4.toNatClampNeg))) → ((gI M 32 2) = (-1)) → ((v_X8_areNext M x3 x4) = 0) → Fw l D ad kA mX8_walkTo 38 [some (.ref (ad 32)), some (.int x1), some (.int x2), some (.int x3), some (.int (x4 + 1)), none] [] M Q)
    (K5 : (¬ ((gI M 9 4) ≤ x4)) → (¬ ((gI M 33 x3.toNatClampNeg) ≤ (gI M 10 x4.toNatClampNeg))) → ((gI M 32 2) = (-1)) → (¬ ((v_X8_areNext M x3 x4) = 0)) → (¬ (x2 = x1)) → Fw l D ad kA mX8_walkTo 38 [some (.ref (ad 32)), some (.int x1), some (.int (x2 + 1)), some (.int x3), some (.int (x4 + 1)), none] [] M Q)
    (K6 : (¬ ((gI M 9 4) ≤ x4)) → (¬ ((gI M 33 x3.toNatClampNeg) ≤ (gI M 10 x4.toNatClampNeg))) → ((gI M 32 2) = (-1)) → (¬ ((v_X8_areNext M x3 x4) = 0)) → (x2 = x1) → Fw l D ad kA mX8_walkTo 38 [some (.ref (ad 32)), some (.int x1), some (.int x2), some (.int x3), some (.int (x4 + 1)), none] [] (sI (sI M 32 2 x3) 32 3 x4) Q) : Fw l D ad kA mX8_walkTo 38 [some (.ref (ad 32)), some (.int x1), some (.int x2), some (.int x3), some (.int x4), none] [] M Q := by
  refine r_iload dX8_walkTo_38 rfl ?_
  refine r_aload_n dX8_walkTo_40 rfl ?_
  refine r_getR dX8_walkTo_41 fs_32_0 fk_X8_25 ?_
  refine r_getI dX8_walkTo_44 fs_9_4 fk_X8_30 ?_
  refine r_icmp_ge (tgt := 124) dX8_walkTo_47 (by decide) (fun c1 => ?_) (fun c1 => ?_)
  · skip
    refine q_iinc (v := x3 + 1) (lo' := [some (.ref (ad 32)), some (.int x1), some (.int x2), some (.int (x3 + 1)), some (.int x4), none]) dX8_walkTo_124 rfl (congrArg (fun q => x3 + q) kI_1) (by decide) rfl ?_
    refine r_goto (tgt := 14) dX8_walkTo_127 (by decide) ?_
    exact q_weak (lo' := [some (.ref (ad 32)), some (.int x1), some (.int x2), some (.int (x3 + 1)), none, none]) ⟨rfl, rfl, rfl, rfl, trivial⟩ (K1 c1)
  · skip
    refine r_aload_n dX8_walkTo_50 rfl ?_
    refine r_getR dX8_walkTo_51 fs_32_0 fk_X8_25 ?_
    refine r_getR dX8_walkTo_54 fs_9_0 fk_X8_38 ?_
    refine r_iload dX8_walkTo_57 rfl ?_
    refine r_iald dX8_walkTo_59 as_10 (g1 c1) ?_
    refine r_aload_n dX8_walkTo_60 rfl ?_
    refine r_getR dX8_walkTo_61 fs_32_1 fk_X8_9 ?_
    refine r_iload_n dX8_walkTo_64 rfl ?_
    refine r_iald dX8_walkTo_65 as_33 (g2 c1) ?_
    refine r_icmp_ge (tgt := 124) dX8_walkTo_66 (by decide) (fun c2 => ?_) (fun c2 => ?_)
    · skip
      refine q_iinc (v := x3 + 1) (lo' := [some (.ref (ad 32)), some (.int x1), some (.int x2), some (.int (x3 + 1)), some (.int x4), none]) dX8_walkTo_124 rfl (congrArg (fun q => x3 + q) kI_1) (by decide) rfl ?_
      refine r_goto (tgt := 14) dX8_walkTo_127 (by decide) ?_
      exact q_weak (lo' := [some (.ref (ad 32)), some (.int x1), some (.int x2), some (.int (x3 + 1)), none, none]) ⟨rfl, rfl, rfl, rfl, trivial⟩ (K2 c1 c2)
    · skip
      refine r_aload_n dX8_walkTo_69 rfl ?_
      refine r_getI dX8_walkTo_70 fs_32_2 fk_X8_15 ?_
      refine r_iconst (v := (-1)) dX8_walkTo_73 kI_m1 ?_
      refine r_icmp_ne (tgt := 124) dX8_walkTo_74 (by decide) (fun c3 => ?_) (fun c3 => ?_)
      · skip
        refine q_iinc (v := x3 + 1) (lo' := [some (.ref (ad 32)), some (.int x1), some (.int x2), some (.int (x3 + 1)), some (.int x4), none]) dX8_walkTo_124 rfl (congrArg (fun q => x3 + q) kI_1) (by decide) rfl ?_
        refine r_goto (tgt := 14) dX8_walkTo_127 (by decide) ?_
        exact q_weak (lo' := [some (.ref (ad 32)), some (.int x1), some (.int x2), some (.int (x3 + 1)), none, none]) ⟨rfl, rfl, rfl, rfl, trivial⟩ (K3 c1 c2 c3)
      · skip
        refine r_aload_n dX8_walkTo_77 rfl ?_
        refine r_iload_n dX8_walkTo_78 rfl ?_
        refine r_iload dX8_walkTo_79 rfl ?_
        refine r_callV (x := 32) (As := [.int x3, .int x4]) (rest := []) dX8_walkTo_81 mk_X8_50 mv_X8_areNext rm_X8_walkTo_X8_areNext rfl rfl (by decide +kernel) (Nat.le_of_ble_eq_true rfl) (ct_X8_areNext (g3 c1 c2 c3) (⟨_, rfl, ?_⟩))
        refine q_istore (lo' := [some (.ref (ad 32)), some (.int x1), some (.int x2), some (.int x3), some (.int x4), some (.int (v_X8_areNext M x3 x4))]) dX8_walkTo_84 (by decide) rfl ?_
        refine r_iload dX8_walkTo_86 rfl ?_
        refine r_if_eq (tgt := 110) dX8_walkTo_88 (by decide) (fun c4 => ?_) (fun c4 => ?_)
        · skip
          refine r_iload dX8_walkTo_110 rfl ?_
          refine r_if_eq (tgt := 118) dX8_walkTo_112 (by decide) (fun _ => ?_) (fun q => absurd c4 q)
          refine q_iinc (v := x4 + 1) (lo' := [some (.ref (ad 32)), some (.int x1), some (.int x2), some (.int x3), some (.int (x4 + 1)), some (.int (v_X8_areNext M x3 x4))]) dX8_walkTo_118 rfl (congrArg (fun q => x4 + q) kI_1) (by decide) rfl ?_
          refine r_goto (tgt := 38) dX8_walkTo_121 (by decide) ?_
          exact q_weak (lo' := [some (.ref (ad 32)), some (.int x1), some (.int x2), some (.int x3), some (.int (x4 + 1)), none]) ⟨rfl, rfl, rfl, rfl, rfl, trivial⟩ (K4 c1 c2 c3 c4)
        · skip
          refine r_iload_n dX8_walkTo_91 rfl ?_
          refine r_iload_n dX8_walkTo_92 rfl ?_
          refine r_icmp_ne (tgt := 110) dX8_walkTo_93 (by decide) (fun c5 => ?_) (fun c5 => ?_)
          · skip
            refine r_iload dX8_walkTo_110 rfl ?_
            refine r_if_eq (tgt := 118) dX8_walkTo_112 (by decide) (fun q => absurd q c4) (fun _ => ?_)
            refine q_iinc (v := x2 + 1) (lo' := [some (.ref (ad 32)), some (.int x1), some (.int (x2 + 1)), some (.int x3), some (.int x4), some (.int (v_X8_areNext M x3 x4))]) dX8_walkTo_115 rfl (congrArg (fun q => x2 + q) kI_1) (by decide) rfl ?_
            refine q_iinc (v := x4 + 1) (lo' := [some (.ref (ad 32)), some (.int x1), some (.int (x2 + 1)), some (.int x3), some (.int (x4 + 1)), some (.int (v_X8_areNext M x3 x4))]) dX8_walkTo_118 rfl (congrArg (fun q => x4 + q) kI_1) (by decide) rfl ?_
            refine r_goto (tgt := 38) dX8_walkTo_121 (by decide) ?_
            exact q_weak (lo' := [some (.ref (ad 32)), some (.int x1), some (.int (x2 + 1)), some (.int x3), some (.int (x4 + 1)), none]) ⟨rfl, rfl, rfl, rfl, rfl, trivial⟩ (K5 c1 c2 c3 c4 c5)
          · skip
            refine r_aload_n dX8_walkTo_96 rfl ?_
            refine r_iload_n dX8_walkTo_97 rfl ?_
            refine r_putI dX8_walkTo_98 fs_32_2 fk_X8_15 fp_X8_2 ?_
            refine r_aload_n dX8_walkTo_101 rfl ?_
            refine r_iload dX8_walkTo_102 rfl ?_
            refine r_putI dX8_walkTo_104 fs_32_3 fk_X8_19 fp_X8_3 ?_
            refine r_goto (tgt := 118) dX8_walkTo_107 (by decide) ?_
            refine q_iinc (v := x4 + 1) (lo' := [some (.ref (ad 32)), some (.int x1), some (.int x2), some (.int x3), some (.int (x4 + 1)), some (.int (v_X8_areNext M x3 x4))]) dX8_walkTo_118 rfl (congrArg (fun q => x4 + q) kI_1) (by decide) rfl ?_
            refine r_goto (tgt := 38) dX8_walkTo_121 (by decide) ?_
            exact q_weak (lo' := [some (.ref (ad 32)), some (.int x1), some (.int x2), some (.int x3), some (.int (x4 + 1)), none]) ⟨rfl, rfl, rfl, rfl, rfl, trivial⟩ (K6 c1 c2 c3 c4 c5)
theorem en_X8_walkTo {x1 : Int32} (K : Fw l D ad kA mX8_walkTo 0 [some (.ref (ad 32)), some (.int x1), none, none, none, none] [] M Q) : Cal l D ad kA mX8_walkTo [.ref (ad 32), .int x1] M Q := Cal.of (by decide) rfl rfl (Nat.le_of_ble_eq_true rfl) K
def v_X8_beatsOfBoth (M : Mem)  : Int32 := if (v_X9_hasNumber M (gI M 32 2)) = 0 then (-1) else if (v_X9_hasNumber M (gI M 32 3)) = 0 then (-1) else (imin (gI M 33 (gI M 32 2).toNatClampNeg) (gI M 33 (gI M 32 3).toNatClampNeg)) - (gI M 10 (gI M 32 3).toNatClampNeg)
def g_X8_beatsOfBoth (M : Mem)  : Prop := ((¬ ((v_X9_hasNumber M (gI M 32 2)) = 0)) → (¬ ((v_X9_hasNumber M (gI M 32 3)) = 0)) → vp_in (gI M 32 2) 160) ∧ ((¬ ((v_X9_hasNumber M (gI M 32 2)) = 0)) → (¬ ((v_X9_hasNumber M (gI M 32 3)) = 0)) → vp_in (gI M 32 3) 160)
theorem ct_X8_beatsOfBoth   (g : g_X8_beatsOfBoth M ) (h : Q (.returned (some (.int (v_X8_beatsOfBoth M )))) M) : Cal l D ad kA mX8_beatsOfBoth [.ref (ad 32)] M Q := by
  refine Cal.of (lo := [some (.ref (ad 32))]) (by decide) rfl rfl (Nat.le_of_ble_eq_true rfl) ?_
  obtain ⟨g1, g2⟩ := g
  refine r_aload_n dX8_beatsOfBoth_0 rfl ?_
  refine r_getR dX8_beatsOfBoth_1 fs_32_0 fk_X8_25 ?_
  refine r_aload_n dX8_beatsOfBoth_4 rfl ?_
  refine r_getI dX8_beatsOfBoth_5 fs_32_2 fk_X8_15 ?_
  refine r_callV (x := 9) (As := [.int (gI M 32 2)]) (rest := []) dX8_beatsOfBoth_8 mk_X8_54 mv_X9_hasNumber rm_X8_beatsOfBoth_X9_hasNumber rfl rfl (by decide +kernel) (Nat.le_of_ble_eq_true rfl) (ct_X9_hasNumber (⟨_, rfl, ?_⟩))
  refine r_if_eq (tgt := 28) dX8_beatsOfBoth_11 (by decide) (fun c1 => ?_) (fun c1 => ?_)
  · skip
    refine r_iconst (v := (-1)) dX8_beatsOfBoth_28 kI_m1 ?_
    exact r_iret dX8_beatsOfBoth_29 rfl (by have h9 := h; simp only [v_X8_beatsOfBoth, if_pos c1] at h9; first | exact h9 | (simp only [if_pos c1]; exact h9))
  · skip
    refine r_aload_n dX8_beatsOfBoth_14 rfl ?_
    refine r_getR dX8_beatsOfBoth_15 fs_32_0 fk_X8_25 ?_
    refine r_aload_n dX8_beatsOfBoth_18 rfl ?_
    refine r_getI dX8_beatsOfBoth_19 fs_32_3 fk_X8_19 ?_
    refine r_callV (x := 9) (As := [.int (gI M 32 3)]) (rest := []) dX8_beatsOfBoth_22 mk_X8_54 mv_X9_hasNumber rm_X8_beatsOfBoth_X9_hasNumber rfl rfl (by decide +kernel) (Nat.le_of_ble_eq_true rfl) (ct_X9_hasNumber (⟨_, rfl, ?_⟩))
    refine r_if_ne (tgt := 30) dX8_beatsOfBoth_25 (by decide) (fun c2 => ?_) (fun c2 => ?_)
    · skip
      refine r_aload_n dX8_beatsOfBoth_30 rfl ?_
      refine r_getR dX8_beatsOfBoth_31 fs_32_1 fk_X8_9 ?_
      refine r_aload_n dX8_beatsOfBoth_34 rfl ?_
      refine r_getI dX8_beatsOfBoth_35 fs_32_2 fk_X8_15 ?_
      refine r_iald dX8_beatsOfBoth_38 as_33 (g1 c1 c2) ?_
      refine r_aload_n dX8_beatsOfBoth_39 rfl ?_
      refine r_getR dX8_beatsOfBoth_40 fs_32_1 fk_X8_9 ?_
      refine r_aload_n dX8_beatsOfBoth_43 rfl ?_
      refine r_getI dX8_beatsOfBoth_44 fs_32_3 fk_X8_19 ?_
      refine r_iald dX8_beatsOfBoth_47 as_33 (g2 c1 c2) ?_
      refine q_mmin dX8_beatsOfBoth_48 mk_X8_44 (by decide) (Nat.le_of_ble_eq_true rfl) ?_
      refine r_aload_n dX8_beatsOfBoth_51 rfl ?_
      refine r_getR dX8_beatsOfBoth_52 fs_32_0 fk_X8_25 ?_
      refine r_getR dX8_beatsOfBoth_55 fs_9_0 fk_X8_38 ?_
      refine r_aload_n dX8_beatsOfBoth_58 rfl ?_
      refine r_getI dX8_beatsOfBoth_59 fs_32_3 fk_X8_19 ?_
      refine r_iald dX8_beatsOfBoth_62 as_10 (g2 c1 c2) ?_
      refine r_isub dX8_beatsOfBoth_63 ?_
      exact r_iret dX8_beatsOfBoth_64 rfl (by have h9 := h; simp only [v_X8_beatsOfBoth, if_neg c1, if_neg c2] at h9; first | exact h9 | (simp only [if_neg c1, if_neg c2]; exact h9))
    · skip
      refine r_iconst (v := (-1)) dX8_beatsOfBoth_28 kI_m1 ?_
      exact r_iret dX8_beatsOfBoth_29 rfl (by have h9 := h; simp only [v_X8_beatsOfBoth, if_neg c1, if_pos c2] at h9; first | exact h9 | (simp only [if_neg c1, if_pos c2]; exact h9))
theorem t_X8_lengthDamped_0 {x1 : Int32} 
    (K1 : Fw l D ad kA mX8_lengthDamped 6 [some (.ref (ad 32)), some (.int x1), some (.int (-1)), some (.int (x1 + 1))] [] M Q) : Fw l D ad kA mX8_lengthDamped 0 [some (.ref (ad 32)), some (.int x1), none, none] [] M Q := by
  refine r_iconst (v := (-1)) dX8_lengthDamped_0 kI_m1 ?_
  refine q_istore_n (lo' := [some (.ref (ad 32)), some (.int x1), some (.int (-1)), none]) dX8_lengthDamped_1 (by decide) rfl ?_
  refine r_iload_n dX8_lengthDamped_2 rfl ?_
  refine r_iconst (v := 1) dX8_lengthDamped_3 kI_1 ?_
  refine r_iadd dX8_lengthDamped_4 ?_
  refine q_istore_n (lo' := [some (.ref (ad 32)), some (.int x1), some (.int (-1)), some (.int (x1 + 1))]) dX8_lengthDamped_5 (by decide) rfl ?_
  exact K1
theorem t_X8_lengthDamped_6 {x1 : Int32} {x2 : Int32} {x3 : Int32} 
    (g1 : ((gI M 9 4) ≤ x3) → (x2 = (-1)) → vp_in x1 160)
    (g2 : (¬ ((gI M 9 4) ≤ x3)) → vp_in x3 160)
    (g3 : (¬ ((gI M 9 4) ≤ x3)) → vp_in x1 160)
    (g4 : (¬ ((gI M 9 4) ≤ x3)) → (¬ ((gI M 33 x1.toNatClampNeg) ≤ (gI M 10 x3.toNatClampNeg))) → (x2 = (-1)) → g_X8_areNext M x1 x3)
    (K1 : ((gI M 9 4) ≤ x3) → Q (.returned (some (.int (if x2 = (-1) then gI M 12 x1.toNatClampNeg else x2)))) M)
    (K2 : (¬ ((gI M 9 4) ≤ x3)) → ((gI M 33 x1.toNatClampNeg) ≤ (gI M 10 x3.toNatClampNeg)) → Q (.returned (some (.int (if x2 = (-1) then gI M 12 x1.toNatClampNeg else x2)))) M)
    (K3 : (¬ ((gI M 9 4) ≤ x3)) → (¬ ((gI M 33 x1.toNatClampNeg) ≤ (gI M 10 x3.toNatClampNeg))) → (¬ (x2 = (-1))) → Q (.returned (some (.int x2))) M)
    (K4 : (¬ ((gI M 9 4) ≤ x3)) → (¬ ((gI M 33 x1.toNatClampNeg) ≤ (gI M 10 x3.toNatClampNeg))) → (x2 = (-1)) → Fw l D ad kA mX8_lengthDamped 6 [some (.ref (ad 32)), some (.int x1), some (.int (if (v_X8_areNext M x1 x3) = 0 then x2 else if (gI M 10 x3.toNatClampNeg) ≤ (gI M 10 x1.toNatClampNeg) then x2 else (gI M 10 x3.toNatClampNeg) - (gI M 10 x1.toNatClampNeg))), some (.int (x3 + 1))] [] M Q) : Fw l D ad kA mX8_lengthDamped 6 [some (.ref (ad 32)), some (.int x1), some (.int x2), some (.int x3)] [] M Q := by
  refine r_iload_n dX8_lengthDamped_6 rfl ?_
  refine r_aload_n dX8_lengthDamped_7 rfl ?_
  refine r_getR dX8_lengthDamped_8 fs_32_0 fk_X8_25 ?_
  refine r_getI dX8_lengthDamped_11 fs_9_4 fk_X8_30 ?_
  refine r_icmp_ge (tgt := 96) dX8_lengthDamped_14 (by decide) (fun c1 => ?_) (fun c1 => ?_)
  · skip
    refine r_iload_n dX8_lengthDamped_96 rfl ?_
    refine r_iconst (v := (-1)) dX8_lengthDamped_97 kI_m1 ?_
    suffices hJ1 : Fw l D ad kA mX8_lengthDamped 114 [none, none, none, none] [.int (if x2 = (-1) then gI M 12 x1.toNatClampNeg else x2)] M Q by
      refine r_icmp_ne (tgt := 113) dX8_lengthDamped_98 (by decide) (fun c2 => ?_) (fun c2 => ?_)
      · skip
        refine r_iload_n dX8_lengthDamped_113 rfl ?_
        exact q_weak (lo' := [none, none, none, none]) trivial (by have h9 := hJ1; simp only [if_neg c2] at h9; first | exact h9 | (simp only [if_neg c2]; exact h9))
      · skip
        refine r_aload_n dX8_lengthDamped_101 rfl ?_
        refine r_getR dX8_lengthDamped_102 fs_32_0 fk_X8_25 ?_
        refine r_getR dX8_lengthDamped_105 fs_9_2 fk_X8_41 ?_
        refine r_iload_n dX8_lengthDamped_108 rfl ?_
        refine r_iald dX8_lengthDamped_109 as_12 (g1 c1 c2) ?_
        refine r_goto (tgt := 114) dX8_lengthDamped_110 (by decide) ?_
        exact q_weak (lo' := [none, none, none, none]) trivial (by have h9 := hJ1; simp only [if_pos c2] at h9; first | exact h9 | (simp only [if_pos c2]; exact h9))
    exact r_iret dX8_lengthDamped_114 rfl (K1 c1)
  · skip
    refine r_aload_n dX8_lengthDamped_17 rfl ?_
    refine r_getR dX8_lengthDamped_18 fs_32_0 fk_X8_25 ?_
    refine r_getR dX8_lengthDamped_21 fs_9_0 fk_X8_38 ?_
    refine r_iload_n dX8_lengthDamped_24 rfl ?_
    refine r_iald dX8_lengthDamped_25 as_10 (g2 c1) ?_
    refine r_aload_n dX8_lengthDamped_26 rfl ?_
    refine r_getR dX8_lengthDamped_27 fs_32_1 fk_X8_9 ?_
    refine r_iload_n dX8_lengthDamped_30 rfl ?_
    refine r_iald dX8_lengthDamped_31 as_33 (g3 c1) ?_
    refine r_icmp_ge (tgt := 96) dX8_lengthDamped_32 (by decide) (fun c3 => ?_) (fun c3 => ?_)
    · skip
      refine r_iload_n dX8_lengthDamped_96 rfl ?_
      refine r_iconst (v := (-1)) dX8_lengthDamped_97 kI_m1 ?_
      suffices hJ2 : Fw l D ad kA mX8_lengthDamped 114 [none, none, none, none] [.int (if x2 = (-1) then gI M 12 x1.toNatClampNeg else x2)] M Q by
        refine r_icmp_ne (tgt := 113) dX8_lengthDamped_98 (by decide) (fun c4 => ?_) (fun c4 => ?_)
        · skip
          refine r_iload_n dX8_lengthDamped_113 rfl ?_
          exact q_weak (lo' := [none, none, none, none]) trivial (by have h9 := hJ2; simp only [if_neg c4] at h9; first | exact h9 | (simp only [if_neg c4]; exact h9))
        · skip
          refine r_aload_n dX8_lengthDamped_101 rfl ?_
          refine r_getR dX8_lengthDamped_102 fs_32_0 fk_X8_25 ?_
          refine r_getR dX8_lengthDamped_105 fs_9_2 fk_X8_41 ?_
          refine r_iload_n dX8_lengthDamped_108 rfl ?_
          refine r_iald dX8_lengthDamped_109 as_12 (g3 c1) ?_
          refine r_goto (tgt := 114) dX8_lengthDamped_110 (by decide) ?_
          exact q_weak (lo' := [none, none, none, none]) trivial (by have h9 := hJ2; simp only [if_pos c4] at h9; first | exact h9 | (simp only [if_pos c4]; exact h9))
      exact r_iret dX8_lengthDamped_114 rfl (K2 c1 c3)
    · skip
      refine r_iload_n dX8_lengthDamped_35 rfl ?_
      refine r_iconst (v := (-1)) dX8_lengthDamped_36 kI_m1 ?_
      refine r_icmp_ne (tgt := 96) dX8_lengthDamped_37 (by decide) (fun c5 => ?_) (fun c5 => ?_)
      · skip
        refine r_iload_n dX8_lengthDamped_96 rfl ?_
        refine r_iconst (v := (-1)) dX8_lengthDamped_97 kI_m1 ?_
        refine r_icmp_ne (tgt := 113) dX8_lengthDamped_98 (by decide) (fun _ => ?_) (fun q => absurd q c5)
        refine r_iload_n dX8_lengthDamped_113 rfl ?_
        exact r_iret dX8_lengthDamped_114 rfl (K3 c1 c3 c5)
      · skip
        refine r_aload_n dX8_lengthDamped_40 rfl ?_
        refine r_iload_n dX8_lengthDamped_41 rfl ?_
        refine r_iload_n dX8_lengthDamped_42 rfl ?_
        refine r_callV (x := 32) (As := [.int x1, .int x3]) (rest := []) dX8_lengthDamped_43 mk_X8_50 mv_X8_areNext rm_X8_lengthDamped_X8_areNext rfl rfl (by decide +kernel) (Nat.le_of_ble_eq_true rfl) (ct_X8_areNext (g4 c1 c3 c5) (⟨_, rfl, ?_⟩))
        suffices hJ3 : Fw l D ad kA mX8_lengthDamped 90 [some (.ref (ad 32)), some (.int x1), some (.int (if (v_X8_areNext M x1 x3) = 0 then x2 else if (gI M 10 x3.toNatClampNeg) ≤ (gI M 10 x1.toNatClampNeg) then x2 else (gI M 10 x3.toNatClampNeg) - (gI M 10 x1.toNatClampNeg))), some (.int x3)] [] M Q by
          refine r_if_eq (tgt := 90) dX8_lengthDamped_46 (by decide) (fun c6 => ?_) (fun c6 => ?_)
          · skip
            exact q_weak (lo' := [some (.ref (ad 32)), some (.int x1), some (.int x2), some (.int x3)]) ⟨rfl, rfl, rfl, rfl, trivial⟩ (by have h9 := hJ3; simp only [if_pos c6] at h9; first | exact h9 | (simp only [if_pos c6]; exact h9))
          · skip
            refine r_aload_n dX8_lengthDamped_49 rfl ?_
            refine r_getR dX8_lengthDamped_50 fs_32_0 fk_X8_25 ?_
            refine r_getR dX8_lengthDamped_53 fs_9_0 fk_X8_38 ?_
            refine r_iload_n dX8_lengthDamped_56 rfl ?_
            refine r_iald dX8_lengthDamped_57 as_10 (g2 c1) ?_
            refine r_aload_n dX8_lengthDamped_58 rfl ?_
            refine r_getR dX8_lengthDamped_59 fs_32_0 fk_X8_25 ?_
            refine r_getR dX8_lengthDamped_62 fs_9_0 fk_X8_38 ?_
            refine r_iload_n dX8_lengthDamped_65 rfl ?_
            refine r_iald dX8_lengthDamped_66 as_10 (g3 c1) ?_
            refine r_icmp_le (tgt := 90) dX8_lengthDamped_67 (by decide) (fun c7 => ?_) (fun c7 => ?_)
            · skip
              exact q_weak (lo' := [some (.ref (ad 32)), some (.int x1), some (.int x2), some (.int x3)]) ⟨rfl, rfl, rfl, rfl, trivial⟩ (by have h9 := hJ3; simp only [if_neg c6, if_pos c7] at h9; first | exact h9 | (simp only [if_neg c6, if_pos c7]; exact h9))
            · skip
              refine r_aload_n dX8_lengthDamped_70 rfl ?_
              refine r_getR dX8_lengthDamped_71 fs_32_0 fk_X8_25 ?_
              refine r_getR dX8_lengthDamped_74 fs_9_0 fk_X8_38 ?_
              refine r_iload_n dX8_lengthDamped_77 rfl ?_
              refine r_iald dX8_lengthDamped_78 as_10 (g2 c1) ?_
              refine r_aload_n dX8_lengthDamped_79 rfl ?_
              refine r_getR dX8_lengthDamped_80 fs_32_0 fk_X8_25 ?_
              refine r_getR dX8_lengthDamped_83 fs_9_0 fk_X8_38 ?_
              refine r_iload_n dX8_lengthDamped_86 rfl ?_
              refine r_iald dX8_lengthDamped_87 as_10 (g3 c1) ?_
              refine r_isub dX8_lengthDamped_88 ?_
              refine q_istore_n (lo' := [some (.ref (ad 32)), some (.int x1), some (.int ((gI M 10 x3.toNatClampNeg) - (gI M 10 x1.toNatClampNeg))), some (.int x3)]) dX8_lengthDamped_89 (by decide) rfl ?_
              exact q_weak (lo' := [some (.ref (ad 32)), some (.int x1), some (.int ((gI M 10 x3.toNatClampNeg) - (gI M 10 x1.toNatClampNeg))), some (.int x3)]) ⟨rfl, rfl, rfl, rfl, trivial⟩ (by have h9 := hJ3; simp only [if_neg c6, if_neg c7] at h9; first | exact h9 | (simp only [if_neg c6, if_neg c7]; exact h9))
        refine q_iinc (v := x3 + 1) (lo' := [some (.ref (ad 32)), some (.int x1), some (.int (if (v_X8_areNext M x1 x3) = 0 then x2 else if (gI M 10 x3.toNatClampNeg) ≤ (gI M 10 x1.toNatClampNeg) then x2 else (gI M 10 x3.toNatClampNeg) - (gI M 10 x1.toNatClampNeg))), some (.int (x3 + 1))]) dX8_lengthDamped_90 rfl (congrArg (fun q => x3 + q) kI_1) (by decide) rfl ?_
        refine r_goto (tgt := 6) dX8_lengthDamped_93 (by decide) ?_
        exact (K4 c1 c3 c5)
theorem en_X8_lengthDamped {x1 : Int32} (K : Fw l D ad kA mX8_lengthDamped 0 [some (.ref (ad 32)), some (.int x1), none, none] [] M Q) : Cal l D ad kA mX8_lengthDamped [.ref (ad 32), .int x1] M Q := Cal.of (by decide) rfl rfl (Nat.le_of_ble_eq_true rfl) K
theorem t_X8_cutDown_0  
    (K1 : Fw l D ad kA mX8_cutDown 4 [some (.ref (ad 32)), some (.int 0), some (.int 0), none] [] M Q) : Fw l D ad kA mX8_cutDown 0 [some (.ref (ad 32)), none, none, none] [] M Q := by
  refine r_iconst (v := 0) dX8_cutDown_0 kI_0 ?_
  refine q_istore_n (lo' := [some (.ref (ad 32)), some (.int 0), none, none]) dX8_cutDown_1 (by decide) rfl ?_
  refine r_iconst (v := 0) dX8_cutDown_2 kI_0 ?_
  refine q_istore_n (lo' := [some (.ref (ad 32)), some (.int 0), some (.int 0), none]) dX8_cutDown_3 (by decide) rfl ?_
  exact K1
theorem t_X8_cutDown_4 {x1 : Int32} {x2 : Int32} 
    (K1 : ((gI M 9 4) ≤ x2) → Cal l D ad kA mX8_measure [.ref (ad 32)] M (fun oc M2 => oc = .returned none ∧ Fw l D ad kA mX8_cutDown 55 [none, some (.int x1), none, none] [] M2 Q))
    (K2 : (¬ ((gI M 9 4) ≤ x2)) → Cal l D ad kA mX8_lengthDamped [.ref (ad 32), .int x2] M (fun oc M2 => ∃ r : Int32, oc = .returned (some (.int r)) ∧ Fw l D ad kA mX8_cutDown 20 [some (.ref (ad 32)), some (.int x1), some (.int x2), none] [.int r] M2 Q)) : Fw l D ad kA mX8_cutDown 4 [some (.ref (ad 32)), some (.int x1), some (.int x2), none] [] M Q := by
  refine r_iload_n dX8_cutDown_4 rfl ?_
  refine r_aload_n dX8_cutDown_5 rfl ?_
  refine r_getR dX8_cutDown_6 fs_32_0 fk_X8_25 ?_
  refine r_getI dX8_cutDown_9 fs_9_4 fk_X8_30 ?_
  refine r_icmp_ge (tgt := 51) dX8_cutDown_12 (by decide) (fun c1 => ?_) (fun c1 => ?_)
  · skip
    refine r_aload_n dX8_cutDown_51 rfl ?_
    exact r_callV (x := 32) (As := []) (rest := []) dX8_cutDown_52 mk_X8_62 mv_X8_measure rm_X8_cutDown_X8_measure rfl rfl (by decide +kernel) (Nat.le_of_ble_eq_true rfl) (cal_v (lo' := [none, some (.int x1), none, none]) ⟨rfl, trivial⟩ (K1 c1))
  · skip
    refine r_aload_n dX8_cutDown_15 rfl ?_
    refine r_iload_n dX8_cutDown_16 rfl ?_
    exact r_callV (x := 32) (As := [.int x2]) (rest := []) dX8_cutDown_17 mk_X8_58 mv_X8_lengthDamped rm_X8_cutDown_X8_lengthDamped rfl rfl (by decide +kernel) (Nat.le_of_ble_eq_true rfl) (cal_i (lo' := [some (.ref (ad 32)), some (.int x1), some (.int x2), none]) ⟨rfl, rfl, rfl, trivial⟩ (K2 c1))
theorem t_X8_cutDown_55 {x1 : Int32} 
    (K1 : Q (.returned (some (.int x1))) M) : Fw l D ad kA mX8_cutDown 55 [none, some (.int x1), none, none] [] M Q := by
  refine r_iload_n dX8_cutDown_55 rfl ?_
  exact r_iret dX8_cutDown_56 rfl K1
theorem t_X8_cutDown_20 {x1 : Int32} {x2 : Int32} {s1 : Int32} 
    (g1 : vp_in x2 160)
    (K1 : Fw l D ad kA mX8_cutDown 4 [some (.ref (ad 32)), some (.int (x1 + ((gI M 12 x2.toNatClampNeg) - s1))), some (.int (x2 + 1)), none] [] (sI M 12 x2.toNatClampNeg s1) Q) : Fw l D ad kA mX8_cutDown 20 [some (.ref (ad 32)), some (.int x1), some (.int x2), none] [.int s1] M Q := by
  refine q_istore_n (lo' := [some (.ref (ad 32)), some (.int x1), some (.int x2), some (.int s1)]) dX8_cutDown_20 (by decide) rfl ?_
  refine r_iload_n dX8_cutDown_21 rfl ?_
  refine r_aload_n dX8_cutDown_22 rfl ?_
  refine r_getR dX8_cutDown_23 fs_32_0 fk_X8_25 ?_
  refine r_getR dX8_cutDown_26 fs_9_2 fk_X8_41 ?_
  refine r_iload_n dX8_cutDown_29 rfl ?_
  refine r_iald dX8_cutDown_30 as_12 g1 ?_
  refine r_iload_n dX8_cutDown_31 rfl ?_
  refine r_isub dX8_cutDown_32 ?_
  refine r_iadd dX8_cutDown_33 ?_
  refine q_istore_n (lo' := [some (.ref (ad 32)), some (.int (x1 + ((gI M 12 x2.toNatClampNeg) - s1))), some (.int x2), some (.int s1)]) dX8_cutDown_34 (by decide) rfl ?_
  refine r_aload_n dX8_cutDown_35 rfl ?_
  refine r_getR dX8_cutDown_36 fs_32_0 fk_X8_25 ?_
  refine r_getR dX8_cutDown_39 fs_9_2 fk_X8_41 ?_
  refine r_iload_n dX8_cutDown_42 rfl ?_
  refine r_iload_n dX8_cutDown_43 rfl ?_
  refine r_iast dX8_cutDown_44 as_12 g1 ?_
  refine q_iinc (v := x2 + 1) (lo' := [some (.ref (ad 32)), some (.int (x1 + ((gI M 12 x2.toNatClampNeg) - s1))), some (.int (x2 + 1)), some (.int s1)]) dX8_cutDown_45 rfl (congrArg (fun q => x2 + q) kI_1) (by decide) rfl ?_
  refine r_goto (tgt := 4) dX8_cutDown_48 (by decide) ?_
  exact q_weak (lo' := [some (.ref (ad 32)), some (.int (x1 + ((gI M 12 x2.toNatClampNeg) - s1))), some (.int (x2 + 1)), none]) ⟨rfl, rfl, rfl, trivial⟩ K1
theorem en_X8_cutDown  (K : Fw l D ad kA mX8_cutDown 0 [some (.ref (ad 32)), none, none, none] [] M Q) : Cal l D ad kA mX8_cutDown [.ref (ad 32)] M Q := Cal.of (by decide) rfl rfl (Nat.le_of_ble_eq_true rfl) K
end W_sound
end
section
/-! Hands: decode rows, links, walks from cut to cut (printed by wip/gen) -/
theorem dX3_forget_0 : decode cX3_forget 0 = .ok (.aload_n 0, 1) := by decide +kernel
theorem dX3_forget_1 : decode cX3_forget 1 = .ok (.iconst 0, 1) := by decide +kernel
theorem dX3_forget_2 : decode cX3_forget 2 = .ok (.putfield 32, 3) := by decide +kernel
theorem dX3_forget_5 : decode cX3_forget 5 = .ok (.return_, 1) := by decide +kernel
theorem dX3_place_0 : decode cX3_place 0 = .ok (.iload_n 0, 1) := by decide +kernel
theorem dX3_place_1 : decode cX3_place 1 = .ok (.iload_n 0, 1) := by decide +kernel
theorem dX3_place_2 : decode cX3_place 2 = .ok (.iconst 1, 1) := by decide +kernel
theorem dX3_place_3 : decode cX3_place 3 = .ok (.isub, 1) := by decide +kernel
theorem dX3_place_4 : decode cX3_place 4 = .ok (.imul, 1) := by decide +kernel
theorem dX3_place_5 : decode cX3_place 5 = .ok (.iconst 2, 1) := by decide +kernel
theorem dX3_place_6 : decode cX3_place 6 = .ok (.idiv, 1) := by decide +kernel
theorem dX3_place_7 : decode cX3_place 7 = .ok (.iload_n 1, 1) := by decide +kernel
theorem dX3_place_8 : decode cX3_place 8 = .ok (.iadd, 1) := by decide +kernel
theorem dX3_place_9 : decode cX3_place 9 = .ok (.ireturn, 1) := by decide +kernel
theorem dX3_others_0 : decode cX3_others 0 = .ok (.iconst 1, 1) := by decide +kernel
theorem dX3_others_1 : decode cX3_others 1 = .ok (.iload_n 0, 1) := by decide +kernel
theorem dX3_others_2 : decode cX3_others 2 = .ok (.invokestatic 88, 3) := by decide +kernel
theorem dX3_others_5 : decode cX3_others 5 = .ok (.ireturn, 1) := by decide +kernel
theorem dX3_did_0 : decode cX3_did 0 = .ok (.iload_n 1, 1) := by decide +kernel
theorem dX3_did_1 : decode cX3_did 1 = .ok (.ifCond .gt 7, 3) := by decide +kernel
theorem dX3_did_4 : decode cX3_did 4 = .ok (.iconst (-1), 1) := by decide +kernel
theorem dX3_did_5 : decode cX3_did 5 = .ok (.goto 11, 3) := by decide +kernel
theorem dX3_did_8 : decode cX3_did 8 = .ok (.aload_n 0, 1) := by decide +kernel
theorem dX3_did_9 : decode cX3_did 9 = .ok (.getfield 15, 3) := by decide +kernel
theorem dX3_did_12 : decode cX3_did 12 = .ok (.iload_n 1, 1) := by decide +kernel
theorem dX3_did_13 : decode cX3_did 13 = .ok (.iconst 1, 1) := by decide +kernel
theorem dX3_did_14 : decode cX3_did 14 = .ok (.isub, 1) := by decide +kernel
theorem dX3_did_15 : decode cX3_did 15 = .ok (.iaload, 1) := by decide +kernel
theorem dX3_did_16 : decode cX3_did 16 = .ok (.ireturn, 1) := by decide +kernel
theorem dX3_restOf_0 : decode cX3_restOf 0 = .ok (.iload_n 1, 1) := by decide +kernel
theorem dX3_restOf_1 : decode cX3_restOf 1 = .ok (.aload_n 0, 1) := by decide +kernel
theorem dX3_restOf_2 : decode cX3_restOf 2 = .ok (.getfield 75, 3) := by decide +kernel
theorem dX3_restOf_5 : decode cX3_restOf 5 = .ok (.if_icmp .gt 8, 3) := by decide +kernel
theorem dX3_restOf_8 : decode cX3_restOf 8 = .ok (.ldc 48, 2) := by decide +kernel
theorem dX3_restOf_10 : decode cX3_restOf 10 = .ok (.goto 13, 3) := by decide +kernel
theorem dX3_restOf_13 : decode cX3_restOf 13 = .ok (.aload_n 0, 1) := by decide +kernel
theorem dX3_restOf_14 : decode cX3_restOf 14 = .ok (.getfield 18, 3) := by decide +kernel
theorem dX3_restOf_17 : decode cX3_restOf 17 = .ok (.iload_n 1, 1) := by decide +kernel
theorem dX3_restOf_18 : decode cX3_restOf 18 = .ok (.iload_n 2, 1) := by decide +kernel
theorem dX3_restOf_19 : decode cX3_restOf 19 = .ok (.invokestatic 78, 3) := by decide +kernel
theorem dX3_restOf_22 : decode cX3_restOf 22 = .ok (.iaload, 1) := by decide +kernel
theorem dX3_restOf_23 : decode cX3_restOf 23 = .ok (.ireturn, 1) := by decide +kernel
theorem dX3_holds_0 : decode cX3_holds 0 = .ok (.iload_n 1, 1) := by decide +kernel
theorem dX3_holds_1 : decode cX3_holds 1 = .ok (.iconst (-1), 1) := by decide +kernel
theorem dX3_holds_2 : decode cX3_holds 2 = .ok (.if_icmp .eq 41, 3) := by decide +kernel
theorem dX3_holds_5 : decode cX3_holds 5 = .ok (.aload_n 0, 1) := by decide +kernel
theorem dX3_holds_6 : decode cX3_holds 6 = .ok (.getfield 24, 3) := by decide +kernel
theorem dX3_holds_9 : decode cX3_holds 9 = .ok (.getfield 120, 3) := by decide +kernel
theorem dX3_holds_12 : decode cX3_holds 12 = .ok (.iload_n 1, 1) := by decide +kernel
theorem dX3_holds_13 : decode cX3_holds 13 = .ok (.iaload, 1) := by decide +kernel
theorem dX3_holds_14 : decode cX3_holds 14 = .ok (.iconst 1, 1) := by decide +kernel
theorem dX3_holds_15 : decode cX3_holds 15 = .ok (.if_icmp .eq 28, 3) := by decide +kernel
theorem dX3_holds_18 : decode cX3_holds 18 = .ok (.aload_n 0, 1) := by decide +kernel
theorem dX3_holds_19 : decode cX3_holds 19 = .ok (.getfield 24, 3) := by decide +kernel
theorem dX3_holds_22 : decode cX3_holds 22 = .ok (.getfield 126, 3) := by decide +kernel
theorem dX3_holds_25 : decode cX3_holds 25 = .ok (.iload_n 1, 1) := by decide +kernel
theorem dX3_holds_26 : decode cX3_holds 26 = .ok (.iaload, 1) := by decide +kernel
theorem dX3_holds_27 : decode cX3_holds 27 = .ok (.aload_n 0, 1) := by decide +kernel
theorem dX3_holds_28 : decode cX3_holds 28 = .ok (.getfield 24, 3) := by decide +kernel
theorem dX3_holds_31 : decode cX3_holds 31 = .ok (.getfield 126, 3) := by decide +kernel
theorem dX3_holds_34 : decode cX3_holds 34 = .ok (.iload_n 2, 1) := by decide +kernel
theorem dX3_holds_35 : decode cX3_holds 35 = .ok (.iaload, 1) := by decide +kernel
theorem dX3_holds_36 : decode cX3_holds 36 = .ok (.if_icmp .ne 7, 3) := by decide +kernel
theorem dX3_holds_39 : decode cX3_holds 39 = .ok (.iconst 1, 1) := by decide +kernel
theorem dX3_holds_40 : decode cX3_holds 40 = .ok (.goto 4, 3) := by decide +kernel
theorem dX3_holds_43 : decode cX3_holds 43 = .ok (.iconst 0, 1) := by decide +kernel
theorem dX3_holds_44 : decode cX3_holds 44 = .ok (.ireturn, 1) := by decide +kernel
theorem dX3_move_0 : decode cX3_move 0 = .ok (.iload_n 1, 1) := by decide +kernel
theorem dX3_move_1 : decode cX3_move 1 = .ok (.iconst (-1), 1) := by decide +kernel
theorem dX3_move_2 : decode cX3_move 2 = .ok (.if_icmp .ne 5, 3) := by decide +kernel
theorem dX3_move_5 : decode cX3_move 5 = .ok (.iconst 0, 1) := by decide +kernel
theorem dX3_move_6 : decode cX3_move 6 = .ok (.ireturn, 1) := by decide +kernel
theorem dX3_move_7 : decode cX3_move 7 = .ok (.aload_n 0, 1) := by decide +kernel
theorem dX3_move_8 : decode cX3_move 8 = .ok (.getfield 24, 3) := by decide +kernel
theorem dX3_move_11 : decode cX3_move 11 = .ok (.getfield 120, 3) := by decide +kernel
theorem dX3_move_14 : decode cX3_move 14 = .ok (.iload_n 1, 1) := by decide +kernel
theorem dX3_move_15 : decode cX3_move 15 = .ok (.iaload, 1) := by decide +kernel
theorem dX3_move_16 : decode cX3_move 16 = .ok (.iconst 1, 1) := by decide +kernel
theorem dX3_move_17 : decode cX3_move 17 = .ok (.if_icmp .ne 7, 3) := by decide +kernel
theorem dX3_move_20 : decode cX3_move 20 = .ok (.iconst 1, 1) := by decide +kernel
theorem dX3_move_21 : decode cX3_move 21 = .ok (.goto 4, 3) := by decide +kernel
theorem dX3_move_24 : decode cX3_move 24 = .ok (.iconst 0, 1) := by decide +kernel
theorem dX3_move_25 : decode cX3_move 25 = .ok (.istore_n 3, 1) := by decide +kernel
theorem dX3_move_26 : decode cX3_move 26 = .ok (.aload_n 0, 1) := by decide +kernel
theorem dX3_move_27 : decode cX3_move 27 = .ok (.getfield 24, 3) := by decide +kernel
theorem dX3_move_30 : decode cX3_move 30 = .ok (.getfield 120, 3) := by decide +kernel
theorem dX3_move_33 : decode cX3_move 33 = .ok (.iload_n 2, 1) := by decide +kernel
theorem dX3_move_34 : decode cX3_move 34 = .ok (.iaload, 1) := by decide +kernel
theorem dX3_move_35 : decode cX3_move 35 = .ok (.iconst 1, 1) := by decide +kernel
theorem dX3_move_36 : decode cX3_move 36 = .ok (.if_icmp .ne 7, 3) := by decide +kernel
theorem dX3_move_39 : decode cX3_move 39 = .ok (.iconst 1, 1) := by decide +kernel
theorem dX3_move_40 : decode cX3_move 40 = .ok (.goto 4, 3) := by decide +kernel
theorem dX3_move_43 : decode cX3_move 43 = .ok (.iconst 0, 1) := by decide +kernel
theorem dX3_move_44 : decode cX3_move 44 = .ok (.istore 4, 2) := by decide +kernel
theorem dX3_move_46 : decode cX3_move 46 = .ok (.aload_n 0, 1) := by decide +kernel
theorem dX3_move_47 : decode cX3_move 47 = .ok (.getfield 24, 3) := by decide +kernel
theorem dX3_move_50 : decode cX3_move 50 = .ok (.getfield 123, 3) := by decide +kernel
theorem dX3_move_53 : decode cX3_move 53 = .ok (.iload_n 2, 1) := by decide +kernel
theorem dX3_move_54 : decode cX3_move 54 = .ok (.iaload, 1) := by decide +kernel
theorem dX3_move_55 : decode cX3_move 55 = .ok (.aload_n 0, 1) := by decide +kernel
theorem dX3_move_56 : decode cX3_move 56 = .ok (.getfield 24, 3) := by decide +kernel
theorem dX3_move_59 : decode cX3_move 59 = .ok (.getfield 123, 3) := by decide +kernel
theorem dX3_move_62 : decode cX3_move 62 = .ok (.iload_n 1, 1) := by decide +kernel
theorem dX3_move_63 : decode cX3_move 63 = .ok (.iaload, 1) := by decide +kernel
theorem dX3_move_64 : decode cX3_move 64 = .ok (.isub, 1) := by decide +kernel
theorem dX3_move_65 : decode cX3_move 65 = .ok (.istore 5, 2) := by decide +kernel
theorem dX3_move_67 : decode cX3_move 67 = .ok (.iload_n 3, 1) := by decide +kernel
theorem dX3_move_68 : decode cX3_move 68 = .ok (.ifCond .eq 21, 3) := by decide +kernel
theorem dX3_move_71 : decode cX3_move 71 = .ok (.iload 4, 2) := by decide +kernel
theorem dX3_move_73 : decode cX3_move 73 = .ok (.ifCond .eq 16, 3) := by decide +kernel
theorem dX3_move_76 : decode cX3_move 76 = .ok (.iload 5, 2) := by decide +kernel
theorem dX3_move_78 : decode cX3_move 78 = .ok (.iconst 1, 1) := by decide +kernel
theorem dX3_move_79 : decode cX3_move 79 = .ok (.if_icmp .lt 7, 3) := by decide +kernel
theorem dX3_move_82 : decode cX3_move 82 = .ok (.iconst 0, 1) := by decide +kernel
theorem dX3_move_83 : decode cX3_move 83 = .ok (.goto 5, 3) := by decide +kernel
theorem dX3_move_86 : decode cX3_move 86 = .ok (.ldc 48, 2) := by decide +kernel
theorem dX3_move_88 : decode cX3_move 88 = .ok (.ireturn, 1) := by decide +kernel
theorem dX3_move_89 : decode cX3_move 89 = .ok (.iload_n 3, 1) := by decide +kernel
theorem dX3_move_90 : decode cX3_move 90 = .ok (.ifCond .ne 71, 3) := by decide +kernel
theorem dX3_move_93 : decode cX3_move 93 = .ok (.iload 4, 2) := by decide +kernel
theorem dX3_move_95 : decode cX3_move 95 = .ok (.ifCond .ne 66, 3) := by decide +kernel
theorem dX3_move_98 : decode cX3_move 98 = .ok (.aload_n 0, 1) := by decide +kernel
theorem dX3_move_99 : decode cX3_move 99 = .ok (.getfield 24, 3) := by decide +kernel
theorem dX3_move_102 : decode cX3_move 102 = .ok (.getfield 126, 3) := by decide +kernel
theorem dX3_move_105 : decode cX3_move 105 = .ok (.iload_n 1, 1) := by decide +kernel
theorem dX3_move_106 : decode cX3_move 106 = .ok (.iaload, 1) := by decide +kernel
theorem dX3_move_107 : decode cX3_move 107 = .ok (.aload_n 0, 1) := by decide +kernel
theorem dX3_move_108 : decode cX3_move 108 = .ok (.getfield 24, 3) := by decide +kernel
theorem dX3_move_111 : decode cX3_move 111 = .ok (.getfield 126, 3) := by decide +kernel
theorem dX3_move_114 : decode cX3_move 114 = .ok (.iload_n 2, 1) := by decide +kernel
theorem dX3_move_115 : decode cX3_move 115 = .ok (.iaload, 1) := by decide +kernel
theorem dX3_move_116 : decode cX3_move 116 = .ok (.if_icmp .ne 45, 3) := by decide +kernel
theorem dX3_move_119 : decode cX3_move 119 = .ok (.aload_n 0, 1) := by decide +kernel
theorem dX3_move_120 : decode cX3_move 120 = .ok (.getfield 24, 3) := by decide +kernel
theorem dX3_move_123 : decode cX3_move 123 = .ok (.getfield 120, 3) := by decide +kernel
theorem dX3_move_126 : decode cX3_move 126 = .ok (.iload_n 1, 1) := by decide +kernel
theorem dX3_move_127 : decode cX3_move 127 = .ok (.iaload, 1) := by decide +kernel
theorem dX3_move_128 : decode cX3_move 128 = .ok (.iconst 2, 1) := by decide +kernel
theorem dX3_move_129 : decode cX3_move 129 = .ok (.if_icmp .ne 15, 3) := by decide +kernel
theorem dX3_move_132 : decode cX3_move 132 = .ok (.aload_n 0, 1) := by decide +kernel
theorem dX3_move_133 : decode cX3_move 133 = .ok (.getfield 24, 3) := by decide +kernel
theorem dX3_move_136 : decode cX3_move 136 = .ok (.getfield 129, 3) := by decide +kernel
theorem dX3_move_139 : decode cX3_move 139 = .ok (.iload_n 1, 1) := by decide +kernel
theorem dX3_move_140 : decode cX3_move 140 = .ok (.iaload, 1) := by decide +kernel
theorem dX3_move_141 : decode cX3_move 141 = .ok (.goto 4, 3) := by decide +kernel
theorem dX3_move_144 : decode cX3_move 144 = .ok (.iconst 1, 1) := by decide +kernel
theorem dX3_move_145 : decode cX3_move 145 = .ok (.istore 6, 2) := by decide +kernel
theorem dX3_move_147 : decode cX3_move 147 = .ok (.iload 5, 2) := by decide +kernel
theorem dX3_move_149 : decode cX3_move 149 = .ok (.iload 6, 2) := by decide +kernel
theorem dX3_move_151 : decode cX3_move 151 = .ok (.if_icmp .lt 7, 3) := by decide +kernel
theorem dX3_move_154 : decode cX3_move 154 = .ok (.iconst 0, 1) := by decide +kernel
theorem dX3_move_155 : decode cX3_move 155 = .ok (.goto 5, 3) := by decide +kernel
theorem dX3_move_158 : decode cX3_move 158 = .ok (.ldc 48, 2) := by decide +kernel
theorem dX3_move_160 : decode cX3_move 160 = .ok (.ireturn, 1) := by decide +kernel
theorem dX3_move_161 : decode cX3_move 161 = .ok (.iload_n 3, 1) := by decide +kernel
theorem dX3_move_162 : decode cX3_move 162 = .ok (.ifCond .eq 7, 3) := by decide +kernel
theorem dX3_move_165 : decode cX3_move 165 = .ok (.iconst 1, 1) := by decide +kernel
theorem dX3_move_166 : decode cX3_move 166 = .ok (.goto 12, 3) := by decide +kernel
theorem dX3_move_169 : decode cX3_move 169 = .ok (.aload_n 0, 1) := by decide +kernel
theorem dX3_move_170 : decode cX3_move 170 = .ok (.getfield 24, 3) := by decide +kernel
theorem dX3_move_173 : decode cX3_move 173 = .ok (.getfield 129, 3) := by decide +kernel
theorem dX3_move_176 : decode cX3_move 176 = .ok (.iload_n 1, 1) := by decide +kernel
theorem dX3_move_177 : decode cX3_move 177 = .ok (.iaload, 1) := by decide +kernel
theorem dX3_move_178 : decode cX3_move 178 = .ok (.aload_n 0, 1) := by decide +kernel
theorem dX3_move_179 : decode cX3_move 179 = .ok (.getfield 28, 3) := by decide +kernel
theorem dX3_move_182 : decode cX3_move 182 = .ok (.getfield 132, 3) := by decide +kernel
theorem dX3_move_185 : decode cX3_move 185 = .ok (.iconst 0, 1) := by decide +kernel
theorem dX3_move_186 : decode cX3_move 186 = .ok (.iaload, 1) := by decide +kernel
theorem dX3_move_187 : decode cX3_move 187 = .ok (.iadd, 1) := by decide +kernel
theorem dX3_move_188 : decode cX3_move 188 = .ok (.istore 6, 2) := by decide +kernel
theorem dX3_move_190 : decode cX3_move 190 = .ok (.iload_n 3, 1) := by decide +kernel
theorem dX3_move_191 : decode cX3_move 191 = .ok (.ifCond .ne 8, 3) := by decide +kernel
theorem dX3_move_194 : decode cX3_move 194 = .ok (.iload 4, 2) := by decide +kernel
theorem dX3_move_196 : decode cX3_move 196 = .ok (.ifCond .eq 17, 3) := by decide +kernel
theorem dX3_move_199 : decode cX3_move 199 = .ok (.iload 6, 2) := by decide +kernel
theorem dX3_move_201 : decode cX3_move 201 = .ok (.aload_n 0, 1) := by decide +kernel
theorem dX3_move_202 : decode cX3_move 202 = .ok (.getfield 28, 3) := by decide +kernel
theorem dX3_move_205 : decode cX3_move 205 = .ok (.getfield 132, 3) := by decide +kernel
theorem dX3_move_208 : decode cX3_move 208 = .ok (.iconst 3, 1) := by decide +kernel
theorem dX3_move_209 : decode cX3_move 209 = .ok (.iaload, 1) := by decide +kernel
theorem dX3_move_210 : decode cX3_move 210 = .ok (.iadd, 1) := by decide +kernel
theorem dX3_move_211 : decode cX3_move 211 = .ok (.istore 6, 2) := by decide +kernel
theorem dX3_move_213 : decode cX3_move 213 = .ok (.iload 5, 2) := by decide +kernel
theorem dX3_move_215 : decode cX3_move 215 = .ok (.iload 6, 2) := by decide +kernel
theorem dX3_move_217 : decode cX3_move 217 = .ok (.if_icmp .lt 7, 3) := by decide +kernel
theorem dX3_move_220 : decode cX3_move 220 = .ok (.iconst 1, 1) := by decide +kernel
theorem dX3_move_221 : decode cX3_move 221 = .ok (.goto 5, 3) := by decide +kernel
theorem dX3_move_224 : decode cX3_move 224 = .ok (.ldc 48, 2) := by decide +kernel
theorem dX3_move_226 : decode cX3_move 226 = .ok (.ireturn, 1) := by decide +kernel
abbrev mX3_forget : MI := (yX3_forget, cX3_forget, 1, none, 1, 21, [])
abbrev mX3_place : MI := (yX3_place, cX3_place, 2, some .int, 1, 21, [])
abbrev mX3_others : MI := (yX3_others, cX3_others, 1, some .int, 1, 21, [])
abbrev mX3_did : MI := (yX3_did, cX3_did, 2, some .int, 1, 21, [])
abbrev mX3_restOf : MI := (yX3_restOf, cX3_restOf, 3, some .int, 2, 42, [])
abbrev mX3_holds : MI := (yX3_holds, cX3_holds, 3, some .boolean, 1, 21, [])
abbrev mX3_move : MI := (yX3_move, cX3_move, 7, some .int, 1, 21, [])
theorem co_X3_48 : Cond.constant RX3 48 16777216 ∈ lw_w := lw_in (i := 752) (by decide +kernel) (by decide +kernel)
theorem fk_X3_15 : Fk RX3 15 3 4 := ⟨RX3, TX3, 9, tyX3, rfl, inX3, by decide, lw_in (i := 187) (by decide +kernel) (by decide +kernel), tyX3_ok, nmX3⟩
theorem fk_X3_18 : Fk RX3 18 3 6 := ⟨RX3, TX3, 9, tyX3, rfl, inX3, by decide, lw_in (i := 189) (by decide +kernel) (by decide +kernel), tyX3_ok, nmX3⟩
theorem fk_X3_24 : Fk RX3 24 3 0 := ⟨RX3, TX3, 9, tyX3, rfl, inX3, by decide, lw_in (i := 181) (by decide +kernel) (by decide +kernel), tyX3_ok, nmX3⟩
theorem fk_X3_28 : Fk RX3 28 3 1 := ⟨RX3, TX3, 9, tyX3, rfl, inX3, by decide, lw_in (i := 182) (by decide +kernel) (by decide +kernel), tyX3_ok, nmX3⟩
theorem fk_X3_32 : Fk RX3 32 3 3 := ⟨RX3, TX3, 9, tyX3, rfl, inX3, by decide, lw_in (i := 185) (by decide +kernel) (by decide +kernel), tyX3_ok, nmX3⟩
theorem fk_X3_75 : Fk RX3 75 3 7 := ⟨RX3, TX3, 9, tyX3, rfl, inX3, by decide, lw_in (i := 190) (by decide +kernel) (by decide +kernel), tyX3_ok, nmX3⟩
theorem fk_X3_120 : Fk RX3 120 9 3 := ⟨RX9, TX9, 5, tyX9, rfl, inX9, by decide, lw_in (i := 104) (by decide +kernel) (by decide +kernel), tyX9_ok, nmX9⟩
theorem fk_X3_123 : Fk RX3 123 9 0 := ⟨RX9, TX9, 5, tyX9, rfl, inX9, by decide, lw_in (i := 88) (by decide +kernel) (by decide +kernel), tyX9_ok, nmX9⟩
theorem fk_X3_126 : Fk RX3 126 9 1 := ⟨RX9, TX9, 5, tyX9, rfl, inX9, by decide, lw_in (i := 95) (by decide +kernel) (by decide +kernel), tyX9_ok, nmX9⟩
theorem fk_X3_129 : Fk RX3 129 9 2 := ⟨RX9, TX9, 5, tyX9, rfl, inX9, by decide, lw_in (i := 100) (by decide +kernel) (by decide +kernel), tyX9_ok, nmX9⟩
theorem fk_X3_132 : Fk RX3 132 6 0 := ⟨RX6, TX6, 5, tyX6, rfl, inX6, by decide, lw_in (i := 159) (by decide +kernel) (by decide +kernel), tyX6_ok, nmX6⟩
theorem fp_X3_3 : Fp 3 3 .boolean := ⟨RX3, TX3, 9, rfl, rfl, by decide +kernel⟩
theorem ms_X3_place : Cond.static mX3_place.y ∈ lw_w := lw_in (i := 742) (by decide +kernel) (by decide +kernel)
theorem mk_X3_78 : Mk RX3 78 mX3_place 2 := ⟨lw_in (i := 741) (by decide +kernel) (by decide +kernel), lw_in (i := 7) (by decide +kernel) (by decide +kernel), lw_in (i := 743) (by decide +kernel) (by decide +kernel), by decide +kernel⟩
theorem mk_X3_88 : Cond.methodLink RX3 88 Lib.Math.max.name ∈ lw_w := lw_in (i := 882) (by decide +kernel) (by decide +kernel)
theorem rm_X3_restOf_X3_place : Rm mX3_restOf mX3_place := ⟨by decide, by decide⟩
section W_hands
variable {l : Launch} {D : va_G} {ad : Nat → Nat} {kA : Nat → ClassId} {M : Mem} {Q : Outcome → Mem → Prop}
theorem t_X3_forget_0  
    (K1 : Q (.returned none) (sI M 17 3 0)) : Fw l D ad kA mX3_forget 0 [some (.ref (ad 17))] [] M Q := by
  refine r_aload_n dX3_forget_0 rfl ?_
  refine r_iconst (v := 0) dX3_forget_1 kI_0 ?_
  refine r_putZ dX3_forget_2 fs_17_3 fk_X3_32 fp_X3_3 (Or.inl rfl) ?_
  exact r_vret dX3_forget_5 rfl K1
theorem en_X3_forget  (K : Fw l D ad kA mX3_forget 0 [some (.ref (ad 17))] [] M Q) : Cal l D ad kA mX3_forget [.ref (ad 17)] M Q := Cal.of (by decide) rfl rfl (Nat.le_of_ble_eq_true rfl) K
def v_X3_place (x0 : Int32) (x1 : Int32) : Int32 := ((x0 * (x0 - 1)) / 2) + x1
theorem ct_X3_place {x0 : Int32} {x1 : Int32}  (h : Q (.returned (some (.int (v_X3_place x0 x1)))) M) : Cal l D ad kA mX3_place [.int x0, .int x1] M Q := by
  refine Cal.of (lo := [some (.int x0), some (.int x1)]) (by decide) rfl rfl (Nat.le_of_ble_eq_true rfl) ?_
  refine r_iload_n dX3_place_0 rfl ?_
  refine r_iload_n dX3_place_1 rfl ?_
  refine r_iconst (v := 1) dX3_place_2 kI_1 ?_
  refine r_isub dX3_place_3 ?_
  refine r_imul dX3_place_4 ?_
  refine r_iconst (v := 2) dX3_place_5 kI_2 ?_
  refine r_idiv dX3_place_6 (by decide) ?_
  refine r_iload_n dX3_place_7 rfl ?_
  refine r_iadd dX3_place_8 ?_
  exact r_iret dX3_place_9 rfl h
def v_X3_others (x0 : Int32) : Int32 := imax 1 x0
theorem ct_X3_others {x0 : Int32}  (h : Q (.returned (some (.int (v_X3_others x0)))) M) : Cal l D ad kA mX3_others [.int x0] M Q := by
  refine Cal.of (lo := [some (.int x0)]) (by decide) rfl rfl (Nat.le_of_ble_eq_true rfl) ?_
  refine r_iconst (v := 1) dX3_others_0 kI_1 ?_
  refine r_iload_n dX3_others_1 rfl ?_
  refine q_mmax dX3_others_2 mk_X3_88 (by decide) (Nat.le_of_ble_eq_true rfl) ?_
  exact r_iret dX3_others_5 rfl h
def v_X3_did (M : Mem) (x1 : Int32) : Int32 := if 0 < x1 then gI M 19 (x1 - 1).toNatClampNeg else (-1)
def g_X3_did (M : Mem) (x1 : Int32) : Prop := ((0 < x1) → vp_in (x1 - 1) 160)
theorem ct_X3_did {x1 : Int32}  (g : g_X3_did M x1) (h : Q (.returned (some (.int (v_X3_did M x1)))) M) : Cal l D ad kA mX3_did [.ref (ad 17), .int x1] M Q := by
  refine Cal.of (lo := [some (.ref (ad 17)), some (.int x1)]) (by decide) rfl rfl (Nat.le_of_ble_eq_true rfl) ?_
  have g1 := g
  refine r_iload_n dX3_did_0 rfl ?_
  suffices hJ1 : Fw l D ad kA mX3_did 16 [none, none] [.int (if 0 < x1 then gI M 19 (x1 - 1).toNatClampNeg else (-1))] M Q by
    refine r_if_gt (tgt := 8) dX3_did_1 (by decide) (fun c1 => ?_) (fun c1 => ?_)
    · skip
      refine r_aload_n dX3_did_8 rfl ?_
      refine r_getR dX3_did_9 fs_17_4 fk_X3_15 ?_
      refine r_iload_n dX3_did_12 rfl ?_
      refine r_iconst (v := 1) dX3_did_13 kI_1 ?_
      refine r_isub dX3_did_14 ?_
      refine r_iald dX3_did_15 as_19 (g1 c1) ?_
      exact q_weak (lo' := [none, none]) trivial (by have h9 := hJ1; simp only [if_pos c1] at h9; first | exact h9 | (simp only [if_pos c1]; exact h9))
    · skip
      refine r_iconst (v := (-1)) dX3_did_4 kI_m1 ?_
      refine r_goto (tgt := 16) dX3_did_5 (by decide) ?_
      exact q_weak (lo' := [none, none]) trivial (by have h9 := hJ1; simp only [if_neg c1] at h9; first | exact h9 | (simp only [if_neg c1]; exact h9))
  exact r_iret dX3_did_16 rfl h
def v_X3_restOf (M : Mem) (x1 : Int32) (x2 : Int32) : Int32 := if (gI M 17 7) < x1 then gI M 20 (v_X3_place x1 x2).toNatClampNeg else 16777216
def g_X3_restOf (M : Mem) (x1 : Int32) (x2 : Int32) : Prop := (((gI M 17 7) < x1) → vp_in (v_X3_place x1 x2) 12880)
theorem ct_X3_restOf {x1 : Int32} {x2 : Int32}  (g : g_X3_restOf M x1 x2) (h : Q (.returned (some (.int (v_X3_restOf M x1 x2)))) M) : Cal l D ad kA mX3_restOf [.ref (ad 17), .int x1, .int x2] M Q := by
  refine Cal.of (lo := [some (.ref (ad 17)), some (.int x1), some (.int x2)]) (by decide) rfl rfl (Nat.le_of_ble_eq_true rfl) ?_
  have g1 := g
  refine r_iload_n dX3_restOf_0 rfl ?_
  refine r_aload_n dX3_restOf_1 rfl ?_
  refine r_getI dX3_restOf_2 fs_17_7 fk_X3_75 ?_
  suffices hJ1 : Fw l D ad kA mX3_restOf 23 [none, none, none] [.int (if (gI M 17 7) < x1 then gI M 20 (v_X3_place x1 x2).toNatClampNeg else 16777216)] M Q by
    refine r_icmp_gt (tgt := 13) dX3_restOf_5 (by decide) (fun c1 => ?_) (fun c1 => ?_)
    · skip
      refine r_aload_n dX3_restOf_13 rfl ?_
      refine r_getR dX3_restOf_14 fs_17_6 fk_X3_18 ?_
      refine r_iload_n dX3_restOf_17 rfl ?_
      refine r_iload_n dX3_restOf_18 rfl ?_
      refine r_callS (As := [.int x1, .int x2]) (rest := [.ref (ad 20)]) dX3_restOf_19 mk_X3_78 ms_X3_place rm_X3_restOf_X3_place rfl rfl (Nat.le_of_ble_eq_true rfl) (ct_X3_place (⟨_, rfl, ?_⟩))
      refine r_iald dX3_restOf_22 as_20 (g1 c1) ?_
      exact q_weak (lo' := [none, none, none]) trivial (by have h9 := hJ1; simp only [if_pos c1] at h9; first | exact h9 | (simp only [if_pos c1]; exact h9))
    · skip
      refine r_ldc (v := 16777216) dX3_restOf_8 co_X3_48 ?_
      refine r_goto (tgt := 23) dX3_restOf_10 (by decide) ?_
      exact q_weak (lo' := [none, none, none]) trivial (by have h9 := hJ1; simp only [if_neg c1] at h9; first | exact h9 | (simp only [if_neg c1]; exact h9))
  exact r_iret dX3_restOf_23 rfl h
def v_X3_holds (M : Mem) (x1 : Int32) (x2 : Int32) : Int32 := if x1 = (-1) then 0 else if (gI M 13 x1.toNatClampNeg) = 1 then 0 else if (gI M 11 x1.toNatClampNeg) = (gI M 11 x2.toNatClampNeg) then 1 else 0
def g_X3_holds (M : Mem) (x1 : Int32) (x2 : Int32) : Prop := ((¬ (x1 = (-1))) → vp_in x1 160) ∧ ((¬ (x1 = (-1))) → (¬ ((gI M 13 x1.toNatClampNeg) = 1)) → vp_in x2 160)
theorem ct_X3_holds {x1 : Int32} {x2 : Int32}  (g : g_X3_holds M x1 x2) (h : Q (.returned (some (.int (v_X3_holds M x1 x2)))) M) : Cal l D ad kA mX3_holds [.ref (ad 17), .int x1, .int x2] M Q := by
  refine Cal.of (lo := [some (.ref (ad 17)), some (.int x1), some (.int x2)]) (by decide) rfl rfl (Nat.le_of_ble_eq_true rfl) ?_
  obtain ⟨g1, g2⟩ := g
  refine r_iload_n dX3_holds_0 rfl ?_
  refine r_iconst (v := (-1)) dX3_holds_1 kI_m1 ?_
  suffices hJ1 : Fw l D ad kA mX3_holds 44 [none, none, none] [.int (if x1 = (-1) then 0 else if (gI M 13 x1.toNatClampNeg) = 1 then 0 else if (gI M 11 x1.toNatClampNeg) = (gI M 11 x2.toNatClampNeg) then 1 else 0)] M Q by
    refine r_icmp_eq (tgt := 43) dX3_holds_2 (by decide) (fun c1 => ?_) (fun c1 => ?_)
    · skip
      refine r_iconst (v := 0) dX3_holds_43 kI_0 ?_
      exact q_weak (lo' := [none, none, none]) trivial (by have h9 := hJ1; simp only [if_pos c1] at h9; first | exact h9 | (simp only [if_pos c1]; exact h9))
    · skip
      refine r_aload_n dX3_holds_5 rfl ?_
      refine r_getR dX3_holds_6 fs_17_0 fk_X3_24 ?_
      refine r_getR dX3_holds_9 fs_9_3 fk_X3_120 ?_
      refine r_iload_n dX3_holds_12 rfl ?_
      refine r_iald dX3_holds_13 as_13 (g1 c1) ?_
      refine r_iconst (v := 1) dX3_holds_14 kI_1 ?_
      refine r_icmp_eq (tgt := 43) dX3_holds_15 (by decide) (fun c2 => ?_) (fun c2 => ?_)
      · skip
        refine r_iconst (v := 0) dX3_holds_43 kI_0 ?_
        exact q_weak (lo' := [none, none, none]) trivial (by have h9 := hJ1; simp only [if_neg c1, if_pos c2] at h9; first | exact h9 | (simp only [if_neg c1, if_pos c2]; exact h9))
      · skip
        refine r_aload_n dX3_holds_18 rfl ?_
        refine r_getR dX3_holds_19 fs_17_0 fk_X3_24 ?_
        refine r_getR dX3_holds_22 fs_9_1 fk_X3_126 ?_
        refine r_iload_n dX3_holds_25 rfl ?_
        refine r_iald dX3_holds_26 as_11 (g1 c1) ?_
        refine r_aload_n dX3_holds_27 rfl ?_
        refine r_getR dX3_holds_28 fs_17_0 fk_X3_24 ?_
        refine r_getR dX3_holds_31 fs_9_1 fk_X3_126 ?_
        refine r_iload_n dX3_holds_34 rfl ?_
        refine r_iald dX3_holds_35 as_11 (g2 c1 c2) ?_
        refine r_icmp_ne (tgt := 43) dX3_holds_36 (by decide) (fun c3 => ?_) (fun c3 => ?_)
        · skip
          refine r_iconst (v := 0) dX3_holds_43 kI_0 ?_
          exact q_weak (lo' := [none, none, none]) trivial (by have h9 := hJ1; simp only [if_neg c1, if_neg c2, if_neg c3] at h9; first | exact h9 | (simp only [if_neg c1, if_neg c2, if_neg c3]; exact h9))
        · skip
          refine r_iconst (v := 1) dX3_holds_39 kI_1 ?_
          refine r_goto (tgt := 44) dX3_holds_40 (by decide) ?_
          exact q_weak (lo' := [none, none, none]) trivial (by have h9 := hJ1; simp only [if_neg c1, if_neg c2, if_pos c3] at h9; first | exact h9 | (simp only [if_neg c1, if_neg c2, if_pos c3]; exact h9))
  exact r_zret dX3_holds_44 rfl (nar_z (ite01 (Or.inl rfl) (ite01 (Or.inl rfl) (ite01 (Or.inr rfl) (Or.inl rfl))))).1 h
theorem z_X3_holds {M : Mem} {x1 : Int32} {x2 : Int32} : v_X3_holds M x1 x2 = 0 ∨ v_X3_holds M x1 x2 = 1 := (ite01 (Or.inl rfl) (ite01 (Or.inl rfl) (ite01 (Or.inr rfl) (Or.inl rfl))))
theorem t_X3_move_0 {x1 : Int32} {x2 : Int32} 
    (g1 : (¬ (x1 = (-1))) → vp_in x1 160)
    (g2 : (¬ (x1 = (-1))) → vp_in x2 160)
    (K1 : (¬ (x1 = (-1))) → Fw l D ad kA mX3_move 67 [some (.ref (ad 17)), some (.int x1), some (.int x2), some (.int (if (gI M 13 x1.toNatClampNeg) = 1 then 1 else 0)), some (.int (if (gI M 13 x2.toNatClampNeg) = 1 then 1 else 0)), some (.int ((gI M 10 x2.toNatClampNeg) - (gI M 10 x1.toNatClampNeg))), none] [] M Q)
    (K2 : (x1 = (-1)) → Q (.returned (some (.int 0))) M) : Fw l D ad kA mX3_move 0 [some (.ref (ad 17)), some (.int x1), some (.int x2), none, none, none, none] [] M Q := by
  refine r_iload_n dX3_move_0 rfl ?_
  refine r_iconst (v := (-1)) dX3_move_1 kI_m1 ?_
  refine r_icmp_ne (tgt := 7) dX3_move_2 (by decide) (fun c1 => ?_) (fun c1 => ?_)
  · skip
    refine r_aload_n dX3_move_7 rfl ?_
    refine r_getR dX3_move_8 fs_17_0 fk_X3_24 ?_
    refine r_getR dX3_move_11 fs_9_3 fk_X3_120 ?_
    refine r_iload_n dX3_move_14 rfl ?_
    refine r_iald dX3_move_15 as_13 (g1 c1) ?_
    refine r_iconst (v := 1) dX3_move_16 kI_1 ?_
    suffices hJ1 : Fw l D ad kA mX3_move 25 [some (.ref (ad 17)), some (.int x1), some (.int x2), none, none, none, none] [.int (if (gI M 13 x1.toNatClampNeg) = 1 then 1 else 0)] M Q by
      refine r_icmp_ne (tgt := 24) dX3_move_17 (by decide) (fun c2 => ?_) (fun c2 => ?_)
      · skip
        refine r_iconst (v := 0) dX3_move_24 kI_0 ?_
        exact q_weak (lo' := [some (.ref (ad 17)), some (.int x1), some (.int x2), none, none, none, none]) ⟨rfl, rfl, rfl, trivial⟩ (by have h9 := hJ1; simp only [if_neg c2] at h9; first | exact h9 | (simp only [if_neg c2]; exact h9))
      · skip
        refine r_iconst (v := 1) dX3_move_20 kI_1 ?_
        refine r_goto (tgt := 25) dX3_move_21 (by decide) ?_
        exact q_weak (lo' := [some (.ref (ad 17)), some (.int x1), some (.int x2), none, none, none, none]) ⟨rfl, rfl, rfl, trivial⟩ (by have h9 := hJ1; simp only [if_pos c2] at h9; first | exact h9 | (simp only [if_pos c2]; exact h9))
    refine q_istore_n (lo' := [some (.ref (ad 17)), some (.int x1), some (.int x2), some (.int (if (gI M 13 x1.toNatClampNeg) = 1 then 1 else 0)), none, none, none]) dX3_move_25 (by decide) rfl ?_
    refine r_aload_n dX3_move_26 rfl ?_
    refine r_getR dX3_move_27 fs_17_0 fk_X3_24 ?_
    refine r_getR dX3_move_30 fs_9_3 fk_X3_120 ?_
    refine r_iload_n dX3_move_33 rfl ?_
    refine r_iald dX3_move_34 as_13 (g2 c1) ?_
    refine r_iconst (v := 1) dX3_move_35 kI_1 ?_
    suffices hJ2 : Fw l D ad kA mX3_move 44 [some (.ref (ad 17)), some (.int x1), some (.int x2), some (.int (if (gI M 13 x1.toNatClampNeg) = 1 then 1 else 0)), none, none, none] [.int (if (gI M 13 x2.toNatClampNeg) = 1 then 1 else 0)] M Q by
      refine r_icmp_ne (tgt := 43) dX3_move_36 (by decide) (fun c3 => ?_) (fun c3 => ?_)
      · skip
        refine r_iconst (v := 0) dX3_move_43 kI_0 ?_
        exact q_weak (lo' := [some (.ref (ad 17)), some (.int x1), some (.int x2), some (.int (if (gI M 13 x1.toNatClampNeg) = 1 then 1 else 0)), none, none, none]) ⟨rfl, rfl, rfl, rfl, trivial⟩ (by have h9 := hJ2; simp only [if_neg c3] at h9; first | exact h9 | (simp only [if_neg c3]; exact h9))
      · skip
        refine r_iconst (v := 1) dX3_move_39 kI_1 ?_
        refine r_goto (tgt := 44) dX3_move_40 (by decide) ?_
        exact q_weak (lo' := [some (.ref (ad 17)), some (.int x1), some (.int x2), some (.int (if (gI M 13 x1.toNatClampNeg) = 1 then 1 else 0)), none, none, none]) ⟨rfl, rfl, rfl, rfl, trivial⟩ (by have h9 := hJ2; simp only [if_pos c3] at h9; first | exact h9 | (simp only [if_pos c3]; exact h9))
    refine q_istore (lo' := [some (.ref (ad 17)), some (.int x1), some (.int x2), some (.int (if (gI M 13 x1.toNatClampNeg) = 1 then 1 else 0)), some (.int (if (gI M 13 x2.toNatClampNeg) = 1 then 1 else 0)), none, none]) dX3_move_44 (by decide) rfl ?_
    refine r_aload_n dX3_move_46 rfl ?_
    refine r_getR dX3_move_47 fs_17_0 fk_X3_24 ?_
    refine r_getR dX3_move_50 fs_9_0 fk_X3_123 ?_
    refine r_iload_n dX3_move_53 rfl ?_
    refine r_iald dX3_move_54 as_10 (g2 c1) ?_
    refine r_aload_n dX3_move_55 rfl ?_
    refine r_getR dX3_move_56 fs_17_0 fk_X3_24 ?_
    refine r_getR dX3_move_59 fs_9_0 fk_X3_123 ?_
    refine r_iload_n dX3_move_62 rfl ?_
    refine r_iald dX3_move_63 as_10 (g1 c1) ?_
    refine r_isub dX3_move_64 ?_
    refine q_istore (lo' := [some (.ref (ad 17)), some (.int x1), some (.int x2), some (.int (if (gI M 13 x1.toNatClampNeg) = 1 then 1 else 0)), some (.int (if (gI M 13 x2.toNatClampNeg) = 1 then 1 else 0)), some (.int ((gI M 10 x2.toNatClampNeg) - (gI M 10 x1.toNatClampNeg))), none]) dX3_move_65 (by decide) rfl ?_
    exact (K1 c1)
  · skip
    refine r_iconst (v := 0) dX3_move_5 kI_0 ?_
    exact r_iret dX3_move_6 rfl (K2 c1)
theorem t_X3_move_67 {x1 : Int32} {x2 : Int32} {x3 : Int32} {x4 : Int32} {x5 : Int32} 
    (g1 : (x3 = 0) → (x4 = 0) → vp_in x1 160)
    (g2 : (x3 = 0) → (x4 = 0) → vp_in x2 160)
    (K1 : (x3 = 0) → (¬ (x4 = 0)) → Fw l D ad kA mX3_move 161 [some (.ref (ad 17)), some (.int x1), none, some (.int x3), some (.int x4), some (.int x5), none] [] M Q)
    (K2 : (x3 = 0) → (x4 = 0) → (¬ ((gI M 11 x1.toNatClampNeg) = (gI M 11 x2.toNatClampNeg))) → Fw l D ad kA mX3_move 161 [some (.ref (ad 17)), some (.int x1), none, some (.int x3), some (.int x4), some (.int x5), none] [] M Q)
    (K3 : (x3 = 0) → (x4 = 0) → ((gI M 11 x1.toNatClampNeg) = (gI M 11 x2.toNatClampNeg)) → Q (.returned (some (.int (if x5 < (if (gI M 13 x1.toNatClampNeg) = 2 then gI M 12 x1.toNatClampNeg else 1 : Int32) then 16777216 else 0)))) M)
    (K4 : (¬ (x3 = 0)) → (x4 = 0) → Fw l D ad kA mX3_move 161 [some (.ref (ad 17)), some (.int x1), none, some (.int x3), some (.int x4), some (.int x5), none] [] M Q)
    (K5 : (¬ (x3 = 0)) → (¬ (x4 = 0)) → Q (.returned (some (.int (if x5 < 1 then 16777216 else 0)))) M) : Fw l D ad kA mX3_move 67 [some (.ref (ad 17)), some (.int x1), some (.int x2), some (.int x3), some (.int x4), some (.int x5), none] [] M Q := by
  refine r_iload_n dX3_move_67 rfl ?_
  refine r_if_eq (tgt := 89) dX3_move_68 (by decide) (fun c1 => ?_) (fun c1 => ?_)
  · skip
    refine r_iload_n dX3_move_89 rfl ?_
    refine r_if_ne (tgt := 161) dX3_move_90 (by decide) (fun q => absurd c1 q) (fun _ => ?_)
    refine r_iload dX3_move_93 rfl ?_
    refine r_if_ne (tgt := 161) dX3_move_95 (by decide) (fun c2 => ?_) (fun c2 => ?_)
    · skip
      exact q_weak (lo' := [some (.ref (ad 17)), some (.int x1), none, some (.int x3), some (.int x4), some (.int x5), none]) ⟨rfl, rfl, rfl, rfl, rfl, trivial⟩ (K1 c1 c2)
    · skip
      refine r_aload_n dX3_move_98 rfl ?_
      refine r_getR dX3_move_99 fs_17_0 fk_X3_24 ?_
      refine r_getR dX3_move_102 fs_9_1 fk_X3_126 ?_
      refine r_iload_n dX3_move_105 rfl ?_
      refine r_iald dX3_move_106 as_11 (g1 c1 c2) ?_
      refine r_aload_n dX3_move_107 rfl ?_
      refine r_getR dX3_move_108 fs_17_0 fk_X3_24 ?_
      refine r_getR dX3_move_111 fs_9_1 fk_X3_126 ?_
      refine r_iload_n dX3_move_114 rfl ?_
      refine r_iald dX3_move_115 as_11 (g2 c1 c2) ?_
      refine r_icmp_ne (tgt := 161) dX3_move_116 (by decide) (fun c3 => ?_) (fun c3 => ?_)
      · skip
        exact q_weak (lo' := [some (.ref (ad 17)), some (.int x1), none, some (.int x3), some (.int x4), some (.int x5), none]) ⟨rfl, rfl, rfl, rfl, rfl, trivial⟩ (K2 c1 c2 c3)
      · skip
        refine r_aload_n dX3_move_119 rfl ?_
        refine r_getR dX3_move_120 fs_17_0 fk_X3_24 ?_
        refine r_getR dX3_move_123 fs_9_3 fk_X3_120 ?_
        refine r_iload_n dX3_move_126 rfl ?_
        refine r_iald dX3_move_127 as_13 (g1 c1 c2) ?_
        refine r_iconst (v := 2) dX3_move_128 kI_2 ?_
        suffices hJ1 : Fw l D ad kA mX3_move 145 [none, none, none, none, none, some (.int x5), none] [.int (if (gI M 13 x1.toNatClampNeg) = 2 then gI M 12 x1.toNatClampNeg else 1)] M Q by
          refine r_icmp_ne (tgt := 144) dX3_move_129 (by decide) (fun c4 => ?_) (fun c4 => ?_)
          · skip
            refine r_iconst (v := 1) dX3_move_144 kI_1 ?_
            exact q_weak (lo' := [none, none, none, none, none, some (.int x5), none]) ⟨rfl, trivial⟩ (by have h9 := hJ1; simp only [if_neg c4] at h9; first | exact h9 | (simp only [if_neg c4]; exact h9))
          · skip
            refine r_aload_n dX3_move_132 rfl ?_
            refine r_getR dX3_move_133 fs_17_0 fk_X3_24 ?_
            refine r_getR dX3_move_136 fs_9_2 fk_X3_129 ?_
            refine r_iload_n dX3_move_139 rfl ?_
            refine r_iald dX3_move_140 as_12 (g1 c1 c2) ?_
            refine r_goto (tgt := 145) dX3_move_141 (by decide) ?_
            exact q_weak (lo' := [none, none, none, none, none, some (.int x5), none]) ⟨rfl, trivial⟩ (by have h9 := hJ1; simp only [if_pos c4] at h9; first | exact h9 | (simp only [if_pos c4]; exact h9))
        refine q_istore (lo' := [none, none, none, none, none, some (.int x5), some (.int (if (gI M 13 x1.toNatClampNeg) = 2 then gI M 12 x1.toNatClampNeg else 1))]) dX3_move_145 (by decide) rfl ?_
        refine r_iload dX3_move_147 rfl ?_
        refine r_iload dX3_move_149 rfl ?_
        suffices hJ2 : Fw l D ad kA mX3_move 160 [none, none, none, none, none, none, none] [.int (if x5 < (if (gI M 13 x1.toNatClampNeg) = 2 then gI M 12 x1.toNatClampNeg else 1 : Int32) then 16777216 else 0)] M Q by
          refine r_icmp_lt (tgt := 158) dX3_move_151 (by decide) (fun c5 => ?_) (fun c5 => ?_)
          · skip
            refine r_ldc (v := 16777216) dX3_move_158 co_X3_48 ?_
            exact q_weak (lo' := [none, none, none, none, none, none, none]) trivial (by have h9 := hJ2; simp only [if_pos c5] at h9; first | exact h9 | (simp only [if_pos c5]; exact h9))
          · skip
            refine r_iconst (v := 0) dX3_move_154 kI_0 ?_
            refine r_goto (tgt := 160) dX3_move_155 (by decide) ?_
            exact q_weak (lo' := [none, none, none, none, none, none, none]) trivial (by have h9 := hJ2; simp only [if_neg c5] at h9; first | exact h9 | (simp only [if_neg c5]; exact h9))
        exact r_iret dX3_move_160 rfl (K3 c1 c2 c3)
  · skip
    refine r_iload dX3_move_71 rfl ?_
    refine r_if_eq (tgt := 89) dX3_move_73 (by decide) (fun c6 => ?_) (fun c6 => ?_)
    · skip
      refine r_iload_n dX3_move_89 rfl ?_
      refine r_if_ne (tgt := 161) dX3_move_90 (by decide) (fun _ => ?_) (fun q => absurd q c1)
      exact q_weak (lo' := [some (.ref (ad 17)), some (.int x1), none, some (.int x3), some (.int x4), some (.int x5), none]) ⟨rfl, rfl, rfl, rfl, rfl, trivial⟩ (K4 c1 c6)
    · skip
      refine r_iload dX3_move_76 rfl ?_
      refine r_iconst (v := 1) dX3_move_78 kI_1 ?_
      suffices hJ3 : Fw l D ad kA mX3_move 88 [none, none, none, none, none, none, none] [.int (if x5 < 1 then 16777216 else 0)] M Q by
        refine r_icmp_lt (tgt := 86) dX3_move_79 (by decide) (fun c7 => ?_) (fun c7 => ?_)
        · skip
          refine r_ldc (v := 16777216) dX3_move_86 co_X3_48 ?_
          exact q_weak (lo' := [none, none, none, none, none, none, none]) trivial (by have h9 := hJ3; simp only [if_pos c7] at h9; first | exact h9 | (simp only [if_pos c7]; exact h9))
        · skip
          refine r_iconst (v := 0) dX3_move_82 kI_0 ?_
          refine r_goto (tgt := 88) dX3_move_83 (by decide) ?_
          exact q_weak (lo' := [none, none, none, none, none, none, none]) trivial (by have h9 := hJ3; simp only [if_neg c7] at h9; first | exact h9 | (simp only [if_neg c7]; exact h9))
      exact r_iret dX3_move_88 rfl (K5 c1 c6)
theorem t_X3_move_161 {x1 : Int32} {x3 : Int32} {x4 : Int32} {x5 : Int32} 
    (g1 : (x3 = 0) → vp_in x1 160)
    (K1 : Fw l D ad kA mX3_move 190 [some (.ref (ad 17)), none, none, some (.int x3), some (.int x4), some (.int x5), some (.int ((if x3 = 0 then gI M 12 x1.toNatClampNeg else 1) + (gI M 15 (0 : Int32).toNatClampNeg)))] [] M Q) : Fw l D ad kA mX3_move 161 [some (.ref (ad 17)), some (.int x1), none, some (.int x3), some (.int x4), some (.int x5), none] [] M Q := by
  refine r_iload_n dX3_move_161 rfl ?_
  suffices hJ1 : Fw l D ad kA mX3_move 178 [some (.ref (ad 17)), none, none, some (.int x3), some (.int x4), some (.int x5), none] [.int (if x3 = 0 then gI M 12 x1.toNatClampNeg else 1)] M Q by
    refine r_if_eq (tgt := 169) dX3_move_162 (by decide) (fun c1 => ?_) (fun c1 => ?_)
    · skip
      refine r_aload_n dX3_move_169 rfl ?_
      refine r_getR dX3_move_170 fs_17_0 fk_X3_24 ?_
      refine r_getR dX3_move_173 fs_9_2 fk_X3_129 ?_
      refine r_iload_n dX3_move_176 rfl ?_
      refine r_iald dX3_move_177 as_12 (g1 c1) ?_
      exact q_weak (lo' := [some (.ref (ad 17)), none, none, some (.int x3), some (.int x4), some (.int x5), none]) ⟨rfl, rfl, rfl, rfl, trivial⟩ (by have h9 := hJ1; simp only [if_pos c1] at h9; first | exact h9 | (simp only [if_pos c1]; exact h9))
    · skip
      refine r_iconst (v := 1) dX3_move_165 kI_1 ?_
      refine r_goto (tgt := 178) dX3_move_166 (by decide) ?_
      exact q_weak (lo' := [some (.ref (ad 17)), none, none, some (.int x3), some (.int x4), some (.int x5), none]) ⟨rfl, rfl, rfl, rfl, trivial⟩ (by have h9 := hJ1; simp only [if_neg c1] at h9; first | exact h9 | (simp only [if_neg c1]; exact h9))
  refine r_aload_n dX3_move_178 rfl ?_
  refine r_getR dX3_move_179 fs_17_1 fk_X3_28 ?_
  refine r_getR dX3_move_182 fs_14_0 fk_X3_132 ?_
  refine r_iconst (v := 0) dX3_move_185 kI_0 ?_
  refine r_iald dX3_move_186 as_15 (by unfold vp_in; decide) ?_
  refine r_iadd dX3_move_187 ?_
  refine q_istore (lo' := [some (.ref (ad 17)), none, none, some (.int x3), some (.int x4), some (.int x5), some (.int ((if x3 = 0 then gI M 12 x1.toNatClampNeg else 1) + (gI M 15 (0 : Int32).toNatClampNeg)))]) dX3_move_188 (by decide) rfl ?_
  exact K1
theorem t_X3_move_190 {x3 : Int32} {x4 : Int32} {x5 : Int32} {x6 : Int32} 
    (K1 : Q (.returned (some (.int (if x5 < (if x3 = 0 then if x4 = 0 then x6 else x6 + (gI M 15 (3 : Int32).toNatClampNeg) else x6 + (gI M 15 (3 : Int32).toNatClampNeg) : Int32) then 16777216 else 1)))) M) : Fw l D ad kA mX3_move 190 [some (.ref (ad 17)), none, none, some (.int x3), some (.int x4), some (.int x5), some (.int x6)] [] M Q := by
  refine r_iload_n dX3_move_190 rfl ?_
  suffices hJ1 : Fw l D ad kA mX3_move 213 [none, none, none, none, none, some (.int x5), some (.int (if x3 = 0 then if x4 = 0 then x6 else x6 + (gI M 15 (3 : Int32).toNatClampNeg) else x6 + (gI M 15 (3 : Int32).toNatClampNeg)))] [] M Q by
    refine r_if_ne (tgt := 199) dX3_move_191 (by decide) (fun c1 => ?_) (fun c1 => ?_)
    · skip
      refine r_iload dX3_move_199 rfl ?_
      refine r_aload_n dX3_move_201 rfl ?_
      refine r_getR dX3_move_202 fs_17_1 fk_X3_28 ?_
      refine r_getR dX3_move_205 fs_14_0 fk_X3_132 ?_
      refine r_iconst (v := 3) dX3_move_208 kI_3 ?_
      refine r_iald dX3_move_209 as_15 (by unfold vp_in; decide) ?_
      refine r_iadd dX3_move_210 ?_
      refine q_istore (lo' := [some (.ref (ad 17)), none, none, some (.int x3), some (.int x4), some (.int x5), some (.int (x6 + (gI M 15 (3 : Int32).toNatClampNeg)))]) dX3_move_211 (by decide) rfl ?_
      exact q_weak (lo' := [none, none, none, none, none, some (.int x5), some (.int (x6 + (gI M 15 (3 : Int32).toNatClampNeg)))]) ⟨rfl, rfl, trivial⟩ (by have h9 := hJ1; simp only [if_neg c1] at h9; first | exact h9 | (simp only [if_neg c1]; exact h9))
    · skip
      refine r_iload dX3_move_194 rfl ?_
      refine r_if_eq (tgt := 213) dX3_move_196 (by decide) (fun c2 => ?_) (fun c2 => ?_)
      · skip
        exact q_weak (lo' := [none, none, none, none, none, some (.int x5), some (.int x6)]) ⟨rfl, rfl, trivial⟩ (by have h9 := hJ1; simp only [if_pos c1, if_pos c2] at h9; first | exact h9 | (simp only [if_pos c1, if_pos c2]; exact h9))
      · skip
        refine r_iload dX3_move_199 rfl ?_
        refine r_aload_n dX3_move_201 rfl ?_
        refine r_getR dX3_move_202 fs_17_1 fk_X3_28 ?_
        refine r_getR dX3_move_205 fs_14_0 fk_X3_132 ?_
        refine r_iconst (v := 3) dX3_move_208 kI_3 ?_
        refine r_iald dX3_move_209 as_15 (by unfold vp_in; decide) ?_
        refine r_iadd dX3_move_210 ?_
        refine q_istore (lo' := [some (.ref (ad 17)), none, none, some (.int x3), some (.int x4), some (.int x5), some (.int (x6 + (gI M 15 (3 : Int32).toNatClampNeg)))]) dX3_move_211 (by decide) rfl ?_
        exact q_weak (lo' := [none, none, none, none, none, some (.int x5), some (.int (x6 + (gI M 15 (3 : Int32).toNatClampNeg)))]) ⟨rfl, rfl, trivial⟩ (by have h9 := hJ1; simp only [if_pos c1, if_neg c2] at h9; first | exact h9 | (simp only [if_pos c1, if_neg c2]; exact h9))
  refine r_iload dX3_move_213 rfl ?_
  refine r_iload dX3_move_215 rfl ?_
  suffices hJ2 : Fw l D ad kA mX3_move 226 [none, none, none, none, none, none, none] [.int (if x5 < (if x3 = 0 then if x4 = 0 then x6 else x6 + (gI M 15 (3 : Int32).toNatClampNeg) else x6 + (gI M 15 (3 : Int32).toNatClampNeg) : Int32) then 16777216 else 1)] M Q by
    refine r_icmp_lt (tgt := 224) dX3_move_217 (by decide) (fun c3 => ?_) (fun c3 => ?_)
    · skip
      refine r_ldc (v := 16777216) dX3_move_224 co_X3_48 ?_
      exact q_weak (lo' := [none, none, none, none, none, none, none]) trivial (by have h9 := hJ2; simp only [if_pos c3] at h9; first | exact h9 | (simp only [if_pos c3]; exact h9))
    · skip
      refine r_iconst (v := 1) dX3_move_220 kI_1 ?_
      refine r_goto (tgt := 226) dX3_move_221 (by decide) ?_
      exact q_weak (lo' := [none, none, none, none, none, none, none]) trivial (by have h9 := hJ2; simp only [if_neg c3] at h9; first | exact h9 | (simp only [if_neg c3]; exact h9))
  exact r_iret dX3_move_226 rfl K1
theorem en_X3_move {x1 : Int32} {x2 : Int32} (K : Fw l D ad kA mX3_move 0 [some (.ref (ad 17)), some (.int x1), some (.int x2), none, none, none, none] [] M Q) : Cal l D ad kA mX3_move [.ref (ad 17), .int x1, .int x2] M Q := Cal.of (by decide) rfl rfl (Nat.le_of_ble_eq_true rfl) K
end W_hands
end
section
/-! move: the prices of one hand's step, by hand over the printed walk -/
def mvStick (M : Mem) (k : Nat) : Prop := gI M 13 k = 1
def mvWait (M : Mem) (a b : Nat) : Int32 := if gI M 13 a = 1 then 1 + gI M 15 0 + gI M 15 3 else if gI M 13 b = 1 then gI M 12 a + gI M 15 0 + gI M 15 3 else gI M 12 a + gI M 15 0
/-- from the STROKE a to the STROKE b (numbers in the SCORE) -/
def mvN (M : Mem) (a b : Nat) : Int32 :=
  if gI M 13 a = 1 ∧ gI M 13 b = 1 then (if gI M 10 b - gI M 10 a < 1 then 16777216 else 0)
  else if ¬ gI M 13 a = 1 ∧ ¬ gI M 13 b = 1 ∧ gI M 11 a = gI M 11 b then (if gI M 10 b - gI M 10 a < (if gI M 13 a = 2 then gI M 12 a else 1) then 16777216 else 0)
  else if gI M 10 b - gI M 10 a < mvWait M a b then 16777216 else 1
def v_X3_move (M : Mem) (x1 x2 : Int32) : Int32 := if x1 = (-1) then 0 else mvN M x1.toNatClampNeg x2.toNatClampNeg
def g_X3_move (M : Mem) (x1 x2 : Int32) : Prop := ¬ x1 = (-1) → vp_in x1 160 ∧ vp_in x2 160
section W_move
variable {l : Launch} {D : va_G} {ad : Nat → Nat} {kA : Nat → ClassId} {M : Mem} {Q : Outcome → Mem → Prop}
theorem ct_X3_move {x1 x2 : Int32} (g : g_X3_move M x1 x2) (h : Q (.returned (some (.int (v_X3_move M x1 x2)))) M) : Cal l D ad kA mX3_move [.ref (ad 17), .int x1, .int x2] M Q := by
  unfold v_X3_move at h
  refine en_X3_move (t_X3_move_0 (fun c => (g c).1) (fun c => (g c).2) (fun c => ?_) (fun c => by rw [if_pos c] at h; exact h))
  rw [if_neg c] at h
  obtain ⟨g1, g2⟩ := g c
  have e0 : (0 : Int32).toNatClampNeg = 0 := by decide
  have e3 : (3 : Int32).toNatClampNeg = 3 := by decide
  have n10 : ¬ (1 : Int32) = 0 := by decide
  have z : (0 : Int32) = 0 := rfl
  by_cases hA : gI M 13 x1.toNatClampNeg = 1
  · by_cases hB : gI M 13 x2.toNatClampNeg = 1
    · simp only [if_pos hA, if_pos hB]
      refine t_X3_move_67 (fun q => absurd q n10) (fun q => absurd q n10) (fun q => absurd q n10) (fun q => absurd q n10) (fun q => absurd q n10) (fun _ q => absurd q n10) (fun _ _ => ?_)
      simp only [mvN, hA, hB, and_self, if_true] at h
      exact h
    · simp only [if_pos hA, if_neg hB]
      refine t_X3_move_67 (fun q => absurd q n10) (fun q => absurd q n10) (fun q => absurd q n10) (fun q => absurd q n10) (fun q => absurd q n10) (fun _ _ => ?_) (fun _ q => absurd z q)
      refine t_X3_move_161 (fun q => absurd q n10) (t_X3_move_190 ?_)
      simp only [mvN, mvWait, hA, hB, and_false, if_false, not_true_eq_false, false_and, if_true] at h
      simp only [e0, e3, if_neg n10]
      exact h
  · by_cases hB : gI M 13 x2.toNatClampNeg = 1
    · simp only [if_neg hA, if_pos hB]
      refine t_X3_move_67 (fun _ q => absurd q n10) (fun _ q => absurd q n10) (fun _ _ => ?_) (fun _ q => absurd q n10) (fun _ q => absurd q n10) (fun q => absurd z q) (fun q => absurd z q)
      refine t_X3_move_161 (fun _ => g1) (t_X3_move_190 ?_)
      simp only [mvN, mvWait, hA, hB, and_true, if_false, not_true_eq_false, false_and, if_true, and_false] at h
      simp only [e0, e3, if_pos z, if_neg n10]
      exact h
    · simp only [if_neg hA, if_neg hB]
      by_cases hC : gI M 11 x1.toNatClampNeg = gI M 11 x2.toNatClampNeg
      · refine t_X3_move_67 (fun _ _ => g1) (fun _ _ => g2) (fun _ q => absurd z q) (fun _ _ q => absurd hC q) (fun _ _ _ => ?_) (fun q => absurd z q) (fun q => absurd z q)
        simp only [mvN, hA, hB, hC, and_self, if_false, not_false_eq_true, if_true] at h
        exact h
      · refine t_X3_move_67 (fun _ _ => g1) (fun _ _ => g2) (fun _ q => absurd z q) (fun _ _ _ => ?_) (fun _ _ q => absurd q hC) (fun q => absurd z q) (fun q => absurd z q)
        refine t_X3_move_161 (fun _ => g1) (t_X3_move_190 ?_)
        simp only [mvN, mvWait, hA, hB, hC, and_self, and_false, if_false] at h
        simp only [e0, e3, if_pos z]
        exact h
end W_move
end
section
/-! Hands: decode rows, links, walks from cut to cut (printed by wip/gen) -/
theorem dX3_step_0 : decode cX3_step 0 = .ok (.aload_n 0, 1) := by decide +kernel
theorem dX3_step_1 : decode cX3_step 1 = .ok (.iload_n 2, 1) := by decide +kernel
theorem dX3_step_2 : decode cX3_step 2 = .ok (.iload_n 3, 1) := by decide +kernel
theorem dX3_step_3 : decode cX3_step 3 = .ok (.invokevirtual 96, 3) := by decide +kernel
theorem dX3_step_6 : decode cX3_step 6 = .ok (.ifCond .eq 8, 3) := by decide +kernel
theorem dX3_step_9 : decode cX3_step 9 = .ok (.ldc 48, 2) := by decide +kernel
theorem dX3_step_11 : decode cX3_step 11 = .ok (.goto 9, 3) := by decide +kernel
theorem dX3_step_14 : decode cX3_step 14 = .ok (.aload_n 0, 1) := by decide +kernel
theorem dX3_step_15 : decode cX3_step 15 = .ok (.iload_n 1, 1) := by decide +kernel
theorem dX3_step_16 : decode cX3_step 16 = .ok (.iload_n 3, 1) := by decide +kernel
theorem dX3_step_17 : decode cX3_step 17 = .ok (.invokevirtual 93, 3) := by decide +kernel
theorem dX3_step_20 : decode cX3_step 20 = .ok (.ireturn, 1) := by decide +kernel
theorem dX3_gather_0 : decode cX3_gather 0 = .ok (.aload_n 0, 1) := by decide +kernel
theorem dX3_gather_1 : decode cX3_gather 1 = .ok (.iconst 0, 1) := by decide +kernel
theorem dX3_gather_2 : decode cX3_gather 2 = .ok (.putfield 52, 3) := by decide +kernel
theorem dX3_gather_5 : decode cX3_gather 5 = .ok (.iconst 0, 1) := by decide +kernel
theorem dX3_gather_6 : decode cX3_gather 6 = .ok (.istore_n 3, 1) := by decide +kernel
theorem dX3_gather_7 : decode cX3_gather 7 = .ok (.iload_n 3, 1) := by decide +kernel
theorem dX3_gather_8 : decode cX3_gather 8 = .ok (.aload_n 0, 1) := by decide +kernel
theorem dX3_gather_9 : decode cX3_gather 9 = .ok (.getfield 24, 3) := by decide +kernel
theorem dX3_gather_12 : decode cX3_gather 12 = .ok (.getfield 64, 3) := by decide +kernel
theorem dX3_gather_15 : decode cX3_gather 15 = .ok (.if_icmp .ge 41, 3) := by decide +kernel
theorem dX3_gather_18 : decode cX3_gather 18 = .ok (.aload_n 0, 1) := by decide +kernel
theorem dX3_gather_19 : decode cX3_gather 19 = .ok (.getfield 24, 3) := by decide +kernel
theorem dX3_gather_22 : decode cX3_gather 22 = .ok (.lload_n 1, 1) := by decide +kernel
theorem dX3_gather_23 : decode cX3_gather 23 = .ok (.iload_n 3, 1) := by decide +kernel
theorem dX3_gather_24 : decode cX3_gather 24 = .ok (.invokevirtual 67, 3) := by decide +kernel
theorem dX3_gather_27 : decode cX3_gather 27 = .ok (.ifCond .eq 23, 3) := by decide +kernel
theorem dX3_gather_30 : decode cX3_gather 30 = .ok (.aload_n 0, 1) := by decide +kernel
theorem dX3_gather_31 : decode cX3_gather 31 = .ok (.getfield 15, 3) := by decide +kernel
theorem dX3_gather_34 : decode cX3_gather 34 = .ok (.aload_n 0, 1) := by decide +kernel
theorem dX3_gather_35 : decode cX3_gather 35 = .ok (.getfield 52, 3) := by decide +kernel
theorem dX3_gather_38 : decode cX3_gather 38 = .ok (.iload_n 3, 1) := by decide +kernel
theorem dX3_gather_39 : decode cX3_gather 39 = .ok (.iastore, 1) := by decide +kernel
theorem dX3_gather_40 : decode cX3_gather 40 = .ok (.aload_n 0, 1) := by decide +kernel
theorem dX3_gather_41 : decode cX3_gather 41 = .ok (.dup, 1) := by decide +kernel
theorem dX3_gather_42 : decode cX3_gather 42 = .ok (.getfield 52, 3) := by decide +kernel
theorem dX3_gather_45 : decode cX3_gather 45 = .ok (.iconst 1, 1) := by decide +kernel
theorem dX3_gather_46 : decode cX3_gather 46 = .ok (.iadd, 1) := by decide +kernel
theorem dX3_gather_47 : decode cX3_gather 47 = .ok (.putfield 52, 3) := by decide +kernel
theorem dX3_gather_50 : decode cX3_gather 50 = .ok (.iinc 3 1, 3) := by decide +kernel
theorem dX3_gather_53 : decode cX3_gather 53 = .ok (.goto (-46), 3) := by decide +kernel
theorem dX3_gather_56 : decode cX3_gather 56 = .ok (.return_, 1) := by decide +kernel
theorem dX3_stepBack_0 : decode cX3_stepBack 0 = .ok (.aload_n 0, 1) := by decide +kernel
theorem dX3_stepBack_1 : decode cX3_stepBack 1 = .ok (.getfield 15, 3) := by decide +kernel
theorem dX3_stepBack_4 : decode cX3_stepBack 4 = .ok (.iload_n 1, 1) := by decide +kernel
theorem dX3_stepBack_5 : decode cX3_stepBack 5 = .ok (.iaload, 1) := by decide +kernel
theorem dX3_stepBack_6 : decode cX3_stepBack 6 = .ok (.istore_n 2, 1) := by decide +kernel
theorem dX3_stepBack_7 : decode cX3_stepBack 7 = .ok (.aload_n 0, 1) := by decide +kernel
theorem dX3_stepBack_8 : decode cX3_stepBack 8 = .ok (.getfield 15, 3) := by decide +kernel
theorem dX3_stepBack_11 : decode cX3_stepBack 11 = .ok (.iload_n 1, 1) := by decide +kernel
theorem dX3_stepBack_12 : decode cX3_stepBack 12 = .ok (.iconst 1, 1) := by decide +kernel
theorem dX3_stepBack_13 : decode cX3_stepBack 13 = .ok (.isub, 1) := by decide +kernel
theorem dX3_stepBack_14 : decode cX3_stepBack 14 = .ok (.iaload, 1) := by decide +kernel
theorem dX3_stepBack_15 : decode cX3_stepBack 15 = .ok (.istore_n 3, 1) := by decide +kernel
theorem dX3_stepBack_16 : decode cX3_stepBack 16 = .ok (.iload_n 1, 1) := by decide +kernel
theorem dX3_stepBack_17 : decode cX3_stepBack 17 = .ok (.iconst 0, 1) := by decide +kernel
theorem dX3_stepBack_18 : decode cX3_stepBack 18 = .ok (.invokestatic 78, 3) := by decide +kernel
theorem dX3_stepBack_21 : decode cX3_stepBack 21 = .ok (.istore 4, 2) := by decide +kernel
theorem dX3_stepBack_23 : decode cX3_stepBack 23 = .ok (.iload_n 1, 1) := by decide +kernel
theorem dX3_stepBack_24 : decode cX3_stepBack 24 = .ok (.iconst 1, 1) := by decide +kernel
theorem dX3_stepBack_25 : decode cX3_stepBack 25 = .ok (.iadd, 1) := by decide +kernel
theorem dX3_stepBack_26 : decode cX3_stepBack 26 = .ok (.iconst 0, 1) := by decide +kernel
theorem dX3_stepBack_27 : decode cX3_stepBack 27 = .ok (.invokestatic 78, 3) := by decide +kernel
theorem dX3_stepBack_30 : decode cX3_stepBack 30 = .ok (.istore 5, 2) := by decide +kernel
theorem dX3_stepBack_32 : decode cX3_stepBack 32 = .ok (.aload_n 0, 1) := by decide +kernel
theorem dX3_stepBack_33 : decode cX3_stepBack 33 = .ok (.iload_n 3, 1) := by decide +kernel
theorem dX3_stepBack_34 : decode cX3_stepBack 34 = .ok (.iload_n 2, 1) := by decide +kernel
theorem dX3_stepBack_35 : decode cX3_stepBack 35 = .ok (.invokevirtual 93, 3) := by decide +kernel
theorem dX3_stepBack_38 : decode cX3_stepBack 38 = .ok (.istore 6, 2) := by decide +kernel
theorem dX3_stepBack_40 : decode cX3_stepBack 40 = .ok (.aload_n 0, 1) := by decide +kernel
theorem dX3_stepBack_41 : decode cX3_stepBack 41 = .ok (.iload_n 3, 1) := by decide +kernel
theorem dX3_stepBack_42 : decode cX3_stepBack 42 = .ok (.iload_n 2, 1) := by decide +kernel
theorem dX3_stepBack_43 : decode cX3_stepBack 43 = .ok (.invokevirtual 96, 3) := by decide +kernel
theorem dX3_stepBack_46 : decode cX3_stepBack 46 = .ok (.ifCond .eq 8, 3) := by decide +kernel
theorem dX3_stepBack_49 : decode cX3_stepBack 49 = .ok (.ldc 48, 2) := by decide +kernel
theorem dX3_stepBack_51 : decode cX3_stepBack 51 = .ok (.goto 12, 3) := by decide +kernel
theorem dX3_stepBack_54 : decode cX3_stepBack 54 = .ok (.aload_n 0, 1) := by decide +kernel
theorem dX3_stepBack_55 : decode cX3_stepBack 55 = .ok (.getfield 18, 3) := by decide +kernel
theorem dX3_stepBack_58 : decode cX3_stepBack 58 = .ok (.iload 5, 2) := by decide +kernel
theorem dX3_stepBack_60 : decode cX3_stepBack 60 = .ok (.iload_n 1, 1) := by decide +kernel
theorem dX3_stepBack_61 : decode cX3_stepBack 61 = .ok (.iadd, 1) := by decide +kernel
theorem dX3_stepBack_62 : decode cX3_stepBack 62 = .ok (.iaload, 1) := by decide +kernel
theorem dX3_stepBack_63 : decode cX3_stepBack 63 = .ok (.istore 7, 2) := by decide +kernel
theorem dX3_stepBack_65 : decode cX3_stepBack 65 = .ok (.iconst 0, 1) := by decide +kernel
theorem dX3_stepBack_66 : decode cX3_stepBack 66 = .ok (.istore 8, 2) := by decide +kernel
theorem dX3_stepBack_68 : decode cX3_stepBack 68 = .ok (.iconst 0, 1) := by decide +kernel
theorem dX3_stepBack_69 : decode cX3_stepBack 69 = .ok (.istore 9, 2) := by decide +kernel
theorem dX3_stepBack_71 : decode cX3_stepBack 71 = .ok (.iload 9, 2) := by decide +kernel
theorem dX3_stepBack_73 : decode cX3_stepBack 73 = .ok (.iload_n 1, 1) := by decide +kernel
theorem dX3_stepBack_74 : decode cX3_stepBack 74 = .ok (.if_icmp .ge 116, 3) := by decide +kernel
theorem dX3_stepBack_77 : decode cX3_stepBack 77 = .ok (.aload_n 0, 1) := by decide +kernel
theorem dX3_stepBack_78 : decode cX3_stepBack 78 = .ok (.iload 9, 2) := by decide +kernel
theorem dX3_stepBack_80 : decode cX3_stepBack 80 = .ok (.invokevirtual 100, 3) := by decide +kernel
theorem dX3_stepBack_83 : decode cX3_stepBack 83 = .ok (.istore 10, 2) := by decide +kernel
theorem dX3_stepBack_85 : decode cX3_stepBack 85 = .ok (.aload_n 0, 1) := by decide +kernel
theorem dX3_stepBack_86 : decode cX3_stepBack 86 = .ok (.iload 10, 2) := by decide +kernel
theorem dX3_stepBack_88 : decode cX3_stepBack 88 = .ok (.iload_n 2, 1) := by decide +kernel
theorem dX3_stepBack_89 : decode cX3_stepBack 89 = .ok (.invokevirtual 96, 3) := by decide +kernel
theorem dX3_stepBack_92 : decode cX3_stepBack 92 = .ok (.ifCond .eq 8, 3) := by decide +kernel
theorem dX3_stepBack_95 : decode cX3_stepBack 95 = .ok (.ldc 48, 2) := by decide +kernel
theorem dX3_stepBack_97 : decode cX3_stepBack 97 = .ok (.goto 16, 3) := by decide +kernel
theorem dX3_stepBack_100 : decode cX3_stepBack 100 = .ok (.iload 6, 2) := by decide +kernel
theorem dX3_stepBack_102 : decode cX3_stepBack 102 = .ok (.aload_n 0, 1) := by decide +kernel
theorem dX3_stepBack_103 : decode cX3_stepBack 103 = .ok (.getfield 18, 3) := by decide +kernel
theorem dX3_stepBack_106 : decode cX3_stepBack 106 = .ok (.iload 5, 2) := by decide +kernel
theorem dX3_stepBack_108 : decode cX3_stepBack 108 = .ok (.iload 9, 2) := by decide +kernel
theorem dX3_stepBack_110 : decode cX3_stepBack 110 = .ok (.iadd, 1) := by decide +kernel
theorem dX3_stepBack_111 : decode cX3_stepBack 111 = .ok (.iaload, 1) := by decide +kernel
theorem dX3_stepBack_112 : decode cX3_stepBack 112 = .ok (.iadd, 1) := by decide +kernel
theorem dX3_stepBack_113 : decode cX3_stepBack 113 = .ok (.istore 11, 2) := by decide +kernel
theorem dX3_stepBack_115 : decode cX3_stepBack 115 = .ok (.iload 7, 2) := by decide +kernel
theorem dX3_stepBack_117 : decode cX3_stepBack 117 = .ok (.ldc 48, 2) := by decide +kernel
theorem dX3_stepBack_119 : decode cX3_stepBack 119 = .ok (.if_icmp .lt 8, 3) := by decide +kernel
theorem dX3_stepBack_122 : decode cX3_stepBack 122 = .ok (.ldc 48, 2) := by decide +kernel
theorem dX3_stepBack_124 : decode cX3_stepBack 124 = .ok (.goto 13, 3) := by decide +kernel
theorem dX3_stepBack_127 : decode cX3_stepBack 127 = .ok (.iload 7, 2) := by decide +kernel
theorem dX3_stepBack_129 : decode cX3_stepBack 129 = .ok (.aload_n 0, 1) := by decide +kernel
theorem dX3_stepBack_130 : decode cX3_stepBack 130 = .ok (.iload 10, 2) := by decide +kernel
theorem dX3_stepBack_132 : decode cX3_stepBack 132 = .ok (.iload_n 2, 1) := by decide +kernel
theorem dX3_stepBack_133 : decode cX3_stepBack 133 = .ok (.invokevirtual 93, 3) := by decide +kernel
theorem dX3_stepBack_136 : decode cX3_stepBack 136 = .ok (.iadd, 1) := by decide +kernel
theorem dX3_stepBack_137 : decode cX3_stepBack 137 = .ok (.istore 12, 2) := by decide +kernel
theorem dX3_stepBack_139 : decode cX3_stepBack 139 = .ok (.ldc 48, 2) := by decide +kernel
theorem dX3_stepBack_141 : decode cX3_stepBack 141 = .ok (.iload 11, 2) := by decide +kernel
theorem dX3_stepBack_143 : decode cX3_stepBack 143 = .ok (.iload 12, 2) := by decide +kernel
theorem dX3_stepBack_145 : decode cX3_stepBack 145 = .ok (.invokestatic 103, 3) := by decide +kernel
theorem dX3_stepBack_148 : decode cX3_stepBack 148 = .ok (.invokestatic 103, 3) := by decide +kernel
theorem dX3_stepBack_151 : decode cX3_stepBack 151 = .ok (.istore 13, 2) := by decide +kernel
theorem dX3_stepBack_153 : decode cX3_stepBack 153 = .ok (.aload_n 0, 1) := by decide +kernel
theorem dX3_stepBack_154 : decode cX3_stepBack 154 = .ok (.getfield 18, 3) := by decide +kernel
theorem dX3_stepBack_157 : decode cX3_stepBack 157 = .ok (.iload 4, 2) := by decide +kernel
theorem dX3_stepBack_159 : decode cX3_stepBack 159 = .ok (.iload 9, 2) := by decide +kernel
theorem dX3_stepBack_161 : decode cX3_stepBack 161 = .ok (.iadd, 1) := by decide +kernel
theorem dX3_stepBack_162 : decode cX3_stepBack 162 = .ok (.iload 13, 2) := by decide +kernel
theorem dX3_stepBack_164 : decode cX3_stepBack 164 = .ok (.iastore, 1) := by decide +kernel
theorem dX3_stepBack_165 : decode cX3_stepBack 165 = .ok (.iload 8, 2) := by decide +kernel
theorem dX3_stepBack_167 : decode cX3_stepBack 167 = .ok (.ifCond .ne 10, 3) := by decide +kernel
theorem dX3_stepBack_170 : decode cX3_stepBack 170 = .ok (.iload 13, 2) := by decide +kernel
theorem dX3_stepBack_172 : decode cX3_stepBack 172 = .ok (.ldc 48, 2) := by decide +kernel
theorem dX3_stepBack_174 : decode cX3_stepBack 174 = .ok (.if_icmp .ge 7, 3) := by decide +kernel
theorem dX3_stepBack_177 : decode cX3_stepBack 177 = .ok (.iconst 1, 1) := by decide +kernel
theorem dX3_stepBack_178 : decode cX3_stepBack 178 = .ok (.goto 4, 3) := by decide +kernel
theorem dX3_stepBack_181 : decode cX3_stepBack 181 = .ok (.iconst 0, 1) := by decide +kernel
theorem dX3_stepBack_182 : decode cX3_stepBack 182 = .ok (.istore 8, 2) := by decide +kernel
theorem dX3_stepBack_184 : decode cX3_stepBack 184 = .ok (.iinc 9 1, 3) := by decide +kernel
theorem dX3_stepBack_187 : decode cX3_stepBack 187 = .ok (.goto (-116), 3) := by decide +kernel
theorem dX3_stepBack_190 : decode cX3_stepBack 190 = .ok (.iload 8, 2) := by decide +kernel
theorem dX3_stepBack_192 : decode cX3_stepBack 192 = .ok (.ireturn, 1) := by decide +kernel
theorem dX3_weighRest_0 : decode cX3_weighRest 0 = .ok (.aload_n 0, 1) := by decide +kernel
theorem dX3_weighRest_1 : decode cX3_weighRest 1 = .ok (.iconst 0, 1) := by decide +kernel
theorem dX3_weighRest_2 : decode cX3_weighRest 2 = .ok (.putfield 75, 3) := by decide +kernel
theorem dX3_weighRest_5 : decode cX3_weighRest 5 = .ok (.iconst 0, 1) := by decide +kernel
theorem dX3_weighRest_6 : decode cX3_weighRest 6 = .ok (.istore_n 1, 1) := by decide +kernel
theorem dX3_weighRest_7 : decode cX3_weighRest 7 = .ok (.iload_n 1, 1) := by decide +kernel
theorem dX3_weighRest_8 : decode cX3_weighRest 8 = .ok (.aload_n 0, 1) := by decide +kernel
theorem dX3_weighRest_9 : decode cX3_weighRest 9 = .ok (.getfield 52, 3) := by decide +kernel
theorem dX3_weighRest_12 : decode cX3_weighRest 12 = .ok (.if_icmp .ge 23, 3) := by decide +kernel
theorem dX3_weighRest_15 : decode cX3_weighRest 15 = .ok (.aload_n 0, 1) := by decide +kernel
theorem dX3_weighRest_16 : decode cX3_weighRest 16 = .ok (.getfield 18, 3) := by decide +kernel
theorem dX3_weighRest_19 : decode cX3_weighRest 19 = .ok (.aload_n 0, 1) := by decide +kernel
theorem dX3_weighRest_20 : decode cX3_weighRest 20 = .ok (.getfield 52, 3) := by decide +kernel
theorem dX3_weighRest_23 : decode cX3_weighRest 23 = .ok (.iload_n 1, 1) := by decide +kernel
theorem dX3_weighRest_24 : decode cX3_weighRest 24 = .ok (.invokestatic 78, 3) := by decide +kernel
theorem dX3_weighRest_27 : decode cX3_weighRest 27 = .ok (.iconst 0, 1) := by decide +kernel
theorem dX3_weighRest_28 : decode cX3_weighRest 28 = .ok (.iastore, 1) := by decide +kernel
theorem dX3_weighRest_29 : decode cX3_weighRest 29 = .ok (.iinc 1 1, 3) := by decide +kernel
theorem dX3_weighRest_32 : decode cX3_weighRest 32 = .ok (.goto (-25), 3) := by decide +kernel
theorem dX3_weighRest_35 : decode cX3_weighRest 35 = .ok (.aload_n 0, 1) := by decide +kernel
theorem dX3_weighRest_36 : decode cX3_weighRest 36 = .ok (.getfield 52, 3) := by decide +kernel
theorem dX3_weighRest_39 : decode cX3_weighRest 39 = .ok (.iconst 1, 1) := by decide +kernel
theorem dX3_weighRest_40 : decode cX3_weighRest 40 = .ok (.isub, 1) := by decide +kernel
theorem dX3_weighRest_41 : decode cX3_weighRest 41 = .ok (.istore_n 1, 1) := by decide +kernel
theorem dX3_weighRest_42 : decode cX3_weighRest 42 = .ok (.iload_n 1, 1) := by decide +kernel
theorem dX3_weighRest_43 : decode cX3_weighRest 43 = .ok (.ifCond .le 29, 3) := by decide +kernel
theorem dX3_weighRest_46 : decode cX3_weighRest 46 = .ok (.aload_n 0, 1) := by decide +kernel
theorem dX3_weighRest_47 : decode cX3_weighRest 47 = .ok (.getfield 75, 3) := by decide +kernel
theorem dX3_weighRest_50 : decode cX3_weighRest 50 = .ok (.ifCond .ne 22, 3) := by decide +kernel
theorem dX3_weighRest_53 : decode cX3_weighRest 53 = .ok (.aload_n 0, 1) := by decide +kernel
theorem dX3_weighRest_54 : decode cX3_weighRest 54 = .ok (.iload_n 1, 1) := by decide +kernel
theorem dX3_weighRest_55 : decode cX3_weighRest 55 = .ok (.invokevirtual 81, 3) := by decide +kernel
theorem dX3_weighRest_58 : decode cX3_weighRest 58 = .ok (.ifCond .ne 8, 3) := by decide +kernel
theorem dX3_weighRest_61 : decode cX3_weighRest 61 = .ok (.aload_n 0, 1) := by decide +kernel
theorem dX3_weighRest_62 : decode cX3_weighRest 62 = .ok (.iload_n 1, 1) := by decide +kernel
theorem dX3_weighRest_63 : decode cX3_weighRest 63 = .ok (.putfield 75, 3) := by decide +kernel
theorem dX3_weighRest_66 : decode cX3_weighRest 66 = .ok (.iinc 1 (-1), 3) := by decide +kernel
theorem dX3_weighRest_69 : decode cX3_weighRest 69 = .ok (.goto (-27), 3) := by decide +kernel
theorem dX3_weighRest_72 : decode cX3_weighRest 72 = .ok (.aload_n 0, 1) := by decide +kernel
theorem dX3_weighRest_73 : decode cX3_weighRest 73 = .ok (.getfield 52, 3) := by decide +kernel
theorem dX3_weighRest_76 : decode cX3_weighRest 76 = .ok (.ifCond .ne 7, 3) := by decide +kernel
theorem dX3_weighRest_79 : decode cX3_weighRest 79 = .ok (.iconst 0, 1) := by decide +kernel
theorem dX3_weighRest_80 : decode cX3_weighRest 80 = .ok (.goto 9, 3) := by decide +kernel
theorem dX3_weighRest_83 : decode cX3_weighRest 83 = .ok (.aload_n 0, 1) := by decide +kernel
theorem dX3_weighRest_84 : decode cX3_weighRest 84 = .ok (.iconst 1, 1) := by decide +kernel
theorem dX3_weighRest_85 : decode cX3_weighRest 85 = .ok (.iconst 0, 1) := by decide +kernel
theorem dX3_weighRest_86 : decode cX3_weighRest 86 = .ok (.invokevirtual 85, 3) := by decide +kernel
theorem dX3_weighRest_89 : decode cX3_weighRest 89 = .ok (.ireturn, 1) := by decide +kernel
theorem dX3_swapsFor_0 : decode cX3_swapsFor 0 = .ok (.aload_n 0, 1) := by decide +kernel
theorem dX3_swapsFor_1 : decode cX3_swapsFor 1 = .ok (.getfield 15, 3) := by decide +kernel
theorem dX3_swapsFor_4 : decode cX3_swapsFor 4 = .ok (.iload_n 2, 1) := by decide +kernel
theorem dX3_swapsFor_5 : decode cX3_swapsFor 5 = .ok (.iaload, 1) := by decide +kernel
theorem dX3_swapsFor_6 : decode cX3_swapsFor 6 = .ok (.istore 4, 2) := by decide +kernel
theorem dX3_swapsFor_8 : decode cX3_swapsFor 8 = .ok (.aload_n 0, 1) := by decide +kernel
theorem dX3_swapsFor_9 : decode cX3_swapsFor 9 = .ok (.getfield 15, 3) := by decide +kernel
theorem dX3_swapsFor_12 : decode cX3_swapsFor 12 = .ok (.iload_n 2, 1) := by decide +kernel
theorem dX3_swapsFor_13 : decode cX3_swapsFor 13 = .ok (.iconst 1, 1) := by decide +kernel
theorem dX3_swapsFor_14 : decode cX3_swapsFor 14 = .ok (.isub, 1) := by decide +kernel
theorem dX3_swapsFor_15 : decode cX3_swapsFor 15 = .ok (.iaload, 1) := by decide +kernel
theorem dX3_swapsFor_16 : decode cX3_swapsFor 16 = .ok (.istore 5, 2) := by decide +kernel
theorem dX3_swapsFor_18 : decode cX3_swapsFor 18 = .ok (.aload_n 0, 1) := by decide +kernel
theorem dX3_swapsFor_19 : decode cX3_swapsFor 19 = .ok (.iload_n 3, 1) := by decide +kernel
theorem dX3_swapsFor_20 : decode cX3_swapsFor 20 = .ok (.invokevirtual 100, 3) := by decide +kernel
theorem dX3_swapsFor_23 : decode cX3_swapsFor 23 = .ok (.istore 6, 2) := by decide +kernel
theorem dX3_swapsFor_25 : decode cX3_swapsFor 25 = .ok (.aload_n 0, 1) := by decide +kernel
theorem dX3_swapsFor_26 : decode cX3_swapsFor 26 = .ok (.iload_n 2, 1) := by decide +kernel
theorem dX3_swapsFor_27 : decode cX3_swapsFor 27 = .ok (.iload_n 3, 1) := by decide +kernel
theorem dX3_swapsFor_28 : decode cX3_swapsFor 28 = .ok (.invokevirtual 85, 3) := by decide +kernel
theorem dX3_swapsFor_31 : decode cX3_swapsFor 31 = .ok (.istore 7, 2) := by decide +kernel
theorem dX3_swapsFor_33 : decode cX3_swapsFor 33 = .ok (.iload_n 1, 1) := by decide +kernel
theorem dX3_swapsFor_34 : decode cX3_swapsFor 34 = .ok (.ifCond .ne 33, 3) := by decide +kernel
theorem dX3_swapsFor_37 : decode cX3_swapsFor 37 = .ok (.aload_n 0, 1) := by decide +kernel
theorem dX3_swapsFor_38 : decode cX3_swapsFor 38 = .ok (.iload 5, 2) := by decide +kernel
theorem dX3_swapsFor_40 : decode cX3_swapsFor 40 = .ok (.iload 6, 2) := by decide +kernel
theorem dX3_swapsFor_42 : decode cX3_swapsFor 42 = .ok (.iload 4, 2) := by decide +kernel
theorem dX3_swapsFor_44 : decode cX3_swapsFor 44 = .ok (.invokevirtual 109, 3) := by decide +kernel
theorem dX3_swapsFor_47 : decode cX3_swapsFor 47 = .ok (.aload_n 0, 1) := by decide +kernel
theorem dX3_swapsFor_48 : decode cX3_swapsFor 48 = .ok (.iload_n 2, 1) := by decide +kernel
theorem dX3_swapsFor_49 : decode cX3_swapsFor 49 = .ok (.iconst 1, 1) := by decide +kernel
theorem dX3_swapsFor_50 : decode cX3_swapsFor 50 = .ok (.iadd, 1) := by decide +kernel
theorem dX3_swapsFor_51 : decode cX3_swapsFor 51 = .ok (.iload_n 3, 1) := by decide +kernel
theorem dX3_swapsFor_52 : decode cX3_swapsFor 52 = .ok (.invokevirtual 85, 3) := by decide +kernel
theorem dX3_swapsFor_55 : decode cX3_swapsFor 55 = .ok (.iadd, 1) := by decide +kernel
theorem dX3_swapsFor_56 : decode cX3_swapsFor 56 = .ok (.iload 7, 2) := by decide +kernel
theorem dX3_swapsFor_58 : decode cX3_swapsFor 58 = .ok (.if_icmp .eq 7, 3) := by decide +kernel
theorem dX3_swapsFor_61 : decode cX3_swapsFor 61 = .ok (.iconst 1, 1) := by decide +kernel
theorem dX3_swapsFor_62 : decode cX3_swapsFor 62 = .ok (.goto 4, 3) := by decide +kernel
theorem dX3_swapsFor_65 : decode cX3_swapsFor 65 = .ok (.iconst 0, 1) := by decide +kernel
theorem dX3_swapsFor_66 : decode cX3_swapsFor 66 = .ok (.ireturn, 1) := by decide +kernel
theorem dX3_swapsFor_67 : decode cX3_swapsFor 67 = .ok (.aload_n 0, 1) := by decide +kernel
theorem dX3_swapsFor_68 : decode cX3_swapsFor 68 = .ok (.iload 6, 2) := by decide +kernel
theorem dX3_swapsFor_70 : decode cX3_swapsFor 70 = .ok (.iload 5, 2) := by decide +kernel
theorem dX3_swapsFor_72 : decode cX3_swapsFor 72 = .ok (.iload 4, 2) := by decide +kernel
theorem dX3_swapsFor_74 : decode cX3_swapsFor 74 = .ok (.invokevirtual 109, 3) := by decide +kernel
theorem dX3_swapsFor_77 : decode cX3_swapsFor 77 = .ok (.aload_n 0, 1) := by decide +kernel
theorem dX3_swapsFor_78 : decode cX3_swapsFor 78 = .ok (.iload_n 2, 1) := by decide +kernel
theorem dX3_swapsFor_79 : decode cX3_swapsFor 79 = .ok (.iconst 1, 1) := by decide +kernel
theorem dX3_swapsFor_80 : decode cX3_swapsFor 80 = .ok (.iadd, 1) := by decide +kernel
theorem dX3_swapsFor_81 : decode cX3_swapsFor 81 = .ok (.iload_n 2, 1) := by decide +kernel
theorem dX3_swapsFor_82 : decode cX3_swapsFor 82 = .ok (.invokevirtual 85, 3) := by decide +kernel
theorem dX3_swapsFor_85 : decode cX3_swapsFor 85 = .ok (.iadd, 1) := by decide +kernel
theorem dX3_swapsFor_86 : decode cX3_swapsFor 86 = .ok (.iload 7, 2) := by decide +kernel
theorem dX3_swapsFor_88 : decode cX3_swapsFor 88 = .ok (.if_icmp .ne 7, 3) := by decide +kernel
theorem dX3_swapsFor_91 : decode cX3_swapsFor 91 = .ok (.iconst 1, 1) := by decide +kernel
theorem dX3_swapsFor_92 : decode cX3_swapsFor 92 = .ok (.goto 4, 3) := by decide +kernel
theorem dX3_swapsFor_95 : decode cX3_swapsFor 95 = .ok (.iconst 0, 1) := by decide +kernel
theorem dX3_swapsFor_96 : decode cX3_swapsFor 96 = .ok (.ireturn, 1) := by decide +kernel
theorem dX3_keepHands_0 : decode cX3_keepHands 0 = .ok (.iconst 0, 1) := by decide +kernel
theorem dX3_keepHands_1 : decode cX3_keepHands 1 = .ok (.istore_n 1, 1) := by decide +kernel
theorem dX3_keepHands_2 : decode cX3_keepHands 2 = .ok (.iload_n 1, 1) := by decide +kernel
theorem dX3_keepHands_3 : decode cX3_keepHands 3 = .ok (.sipush 160, 3) := by decide +kernel
theorem dX3_keepHands_6 : decode cX3_keepHands 6 = .ok (.if_icmp .ge 16, 3) := by decide +kernel
theorem dX3_keepHands_9 : decode cX3_keepHands 9 = .ok (.aload_n 0, 1) := by decide +kernel
theorem dX3_keepHands_10 : decode cX3_keepHands 10 = .ok (.getfield 9, 3) := by decide +kernel
theorem dX3_keepHands_13 : decode cX3_keepHands 13 = .ok (.iload_n 1, 1) := by decide +kernel
theorem dX3_keepHands_14 : decode cX3_keepHands 14 = .ok (.iconst (-1), 1) := by decide +kernel
theorem dX3_keepHands_15 : decode cX3_keepHands 15 = .ok (.iastore, 1) := by decide +kernel
theorem dX3_keepHands_16 : decode cX3_keepHands 16 = .ok (.iinc 1 1, 3) := by decide +kernel
theorem dX3_keepHands_19 : decode cX3_keepHands 19 = .ok (.goto (-17), 3) := by decide +kernel
theorem dX3_keepHands_22 : decode cX3_keepHands 22 = .ok (.aload_n 0, 1) := by decide +kernel
theorem dX3_keepHands_23 : decode cX3_keepHands 23 = .ok (.iconst 1, 1) := by decide +kernel
theorem dX3_keepHands_24 : decode cX3_keepHands 24 = .ok (.putfield 32, 3) := by decide +kernel
theorem dX3_keepHands_27 : decode cX3_keepHands 27 = .ok (.iconst 0, 1) := by decide +kernel
theorem dX3_keepHands_28 : decode cX3_keepHands 28 = .ok (.istore_n 1, 1) := by decide +kernel
theorem dX3_keepHands_29 : decode cX3_keepHands 29 = .ok (.iconst 0, 1) := by decide +kernel
theorem dX3_keepHands_30 : decode cX3_keepHands 30 = .ok (.istore_n 2, 1) := by decide +kernel
theorem dX3_keepHands_31 : decode cX3_keepHands 31 = .ok (.iconst 0, 1) := by decide +kernel
theorem dX3_keepHands_32 : decode cX3_keepHands 32 = .ok (.istore_n 3, 1) := by decide +kernel
theorem dX3_keepHands_33 : decode cX3_keepHands 33 = .ok (.iload_n 3, 1) := by decide +kernel
theorem dX3_keepHands_34 : decode cX3_keepHands 34 = .ok (.aload_n 0, 1) := by decide +kernel
theorem dX3_keepHands_35 : decode cX3_keepHands 35 = .ok (.getfield 52, 3) := by decide +kernel
theorem dX3_keepHands_38 : decode cX3_keepHands 38 = .ok (.if_icmp .ge 41, 3) := by decide +kernel
theorem dX3_keepHands_41 : decode cX3_keepHands 41 = .ok (.iload_n 3, 1) := by decide +kernel
theorem dX3_keepHands_42 : decode cX3_keepHands 42 = .ok (.ifCond .le 19, 3) := by decide +kernel
theorem dX3_keepHands_45 : decode cX3_keepHands 45 = .ok (.aload_n 0, 1) := by decide +kernel
theorem dX3_keepHands_46 : decode cX3_keepHands 46 = .ok (.iload_n 1, 1) := by decide +kernel
theorem dX3_keepHands_47 : decode cX3_keepHands 47 = .ok (.iload_n 3, 1) := by decide +kernel
theorem dX3_keepHands_48 : decode cX3_keepHands 48 = .ok (.iload_n 2, 1) := by decide +kernel
theorem dX3_keepHands_49 : decode cX3_keepHands 49 = .ok (.invokevirtual 137, 3) := by decide +kernel
theorem dX3_keepHands_52 : decode cX3_keepHands 52 = .ok (.ifCond .eq 9, 3) := by decide +kernel
theorem dX3_keepHands_55 : decode cX3_keepHands 55 = .ok (.iconst 1, 1) := by decide +kernel
theorem dX3_keepHands_56 : decode cX3_keepHands 56 = .ok (.iload_n 1, 1) := by decide +kernel
theorem dX3_keepHands_57 : decode cX3_keepHands 57 = .ok (.isub, 1) := by decide +kernel
theorem dX3_keepHands_58 : decode cX3_keepHands 58 = .ok (.istore_n 1, 1) := by decide +kernel
theorem dX3_keepHands_59 : decode cX3_keepHands 59 = .ok (.iload_n 3, 1) := by decide +kernel
theorem dX3_keepHands_60 : decode cX3_keepHands 60 = .ok (.istore_n 2, 1) := by decide +kernel
theorem dX3_keepHands_61 : decode cX3_keepHands 61 = .ok (.aload_n 0, 1) := by decide +kernel
theorem dX3_keepHands_62 : decode cX3_keepHands 62 = .ok (.getfield 9, 3) := by decide +kernel
theorem dX3_keepHands_65 : decode cX3_keepHands 65 = .ok (.aload_n 0, 1) := by decide +kernel
theorem dX3_keepHands_66 : decode cX3_keepHands 66 = .ok (.getfield 15, 3) := by decide +kernel
theorem dX3_keepHands_69 : decode cX3_keepHands 69 = .ok (.iload_n 3, 1) := by decide +kernel
theorem dX3_keepHands_70 : decode cX3_keepHands 70 = .ok (.iaload, 1) := by decide +kernel
theorem dX3_keepHands_71 : decode cX3_keepHands 71 = .ok (.iload_n 1, 1) := by decide +kernel
theorem dX3_keepHands_72 : decode cX3_keepHands 72 = .ok (.iastore, 1) := by decide +kernel
theorem dX3_keepHands_73 : decode cX3_keepHands 73 = .ok (.iinc 3 1, 3) := by decide +kernel
theorem dX3_keepHands_76 : decode cX3_keepHands 76 = .ok (.goto (-43), 3) := by decide +kernel
theorem dX3_keepHands_79 : decode cX3_keepHands 79 = .ok (.return_, 1) := by decide +kernel
abbrev mX3_step : MI := (yX3_step, cX3_step, 4, some .int, 2, 47, [])
abbrev mX3_gather : MI := (yX3_gather, cX3_gather, 4, none, 2, 44, [])
abbrev mX3_stepBack : MI := (yX3_stepBack, cX3_stepBack, 14, some .boolean, 2, 47, [])
abbrev mX3_weighRest : MI := (yX3_weighRest, cX3_weighRest, 2, some .int, 3, 80, [])
abbrev mX3_swapsFor : MI := (yX3_swapsFor, cX3_swapsFor, 8, some .boolean, 3, 70, [])
abbrev mX3_keepHands : MI := (yX3_keepHands, cX3_keepHands, 4, none, 4, 97, [])
theorem fk_X3_9 : Fk RX3 9 3 2 := ⟨RX3, TX3, 9, tyX3, rfl, inX3, by decide, lw_in (i := 183) (by decide +kernel) (by decide +kernel), tyX3_ok, nmX3⟩
theorem fk_X3_52 : Fk RX3 52 3 5 := ⟨RX3, TX3, 9, tyX3, rfl, inX3, by decide, lw_in (i := 188) (by decide +kernel) (by decide +kernel), tyX3_ok, nmX3⟩
theorem fk_X3_64 : Fk RX3 64 9 4 := ⟨RX9, TX9, 5, tyX9, rfl, inX9, by decide, lw_in (i := 112) (by decide +kernel) (by decide +kernel), tyX9_ok, nmX9⟩
theorem fp_X3_5 : Fp 3 5 .int := ⟨RX3, TX3, 9, rfl, rfl, by decide +kernel⟩
theorem fp_X3_7 : Fp 3 7 .int := ⟨RX3, TX3, 9, rfl, rfl, by decide +kernel⟩
theorem mv_X3_did : MkV mX3_did := ⟨lw_in (i := 759) (by decide +kernel) (by decide +kernel), lw_se (i := 18) (by decide +kernel) (by decide +kernel)⟩
theorem mv_X3_holds : MkV mX3_holds := ⟨lw_in (i := 755) (by decide +kernel) (by decide +kernel), lw_se (i := 17) (by decide +kernel) (by decide +kernel)⟩
theorem mv_X3_move : MkV mX3_move := ⟨lw_in (i := 750) (by decide +kernel) (by decide +kernel), lw_se (i := 16) (by decide +kernel) (by decide +kernel)⟩
theorem mv_X3_restOf : MkV mX3_restOf := ⟨lw_in (i := 764) (by decide +kernel) (by decide +kernel), lw_se (i := 19) (by decide +kernel) (by decide +kernel)⟩
theorem mv_X3_step : MkV mX3_step := ⟨lw_in (i := 776) (by decide +kernel) (by decide +kernel), lw_se (i := 22) (by decide +kernel) (by decide +kernel)⟩
theorem mv_X3_stepBack : MkV mX3_stepBack := ⟨lw_in (i := 746) (by decide +kernel) (by decide +kernel), lw_se (i := 15) (by decide +kernel) (by decide +kernel)⟩
theorem mv_X3_swapsFor : MkV mX3_swapsFor := ⟨lw_in (i := 772) (by decide +kernel) (by decide +kernel), lw_se (i := 21) (by decide +kernel) (by decide +kernel)⟩
theorem mv_X9_isOn : MkV mX9_isOn := ⟨lw_in (i := 734) (by decide +kernel) (by decide +kernel), lw_in (i := 735) (by decide +kernel) (by decide +kernel)⟩
theorem mk_X3_67 : Mk RX3 67 mX9_isOn 2 := ⟨lw_in (i := 733) (by decide +kernel) (by decide +kernel), lw_in (i := 4) (by decide +kernel) (by decide +kernel), lw_in (i := 736) (by decide +kernel) (by decide +kernel), by decide +kernel⟩
theorem mk_X3_81 : Mk RX3 81 mX3_stepBack 1 := ⟨lw_in (i := 744) (by decide +kernel) (by decide +kernel), lw_in (i := 7) (by decide +kernel) (by decide +kernel), lw_in (i := 747) (by decide +kernel) (by decide +kernel), by decide +kernel⟩
theorem mk_X3_85 : Mk RX3 85 mX3_restOf 2 := ⟨lw_in (i := 762) (by decide +kernel) (by decide +kernel), lw_in (i := 7) (by decide +kernel) (by decide +kernel), lw_in (i := 765) (by decide +kernel) (by decide +kernel), by decide +kernel⟩
theorem mk_X3_93 : Mk RX3 93 mX3_move 2 := ⟨lw_in (i := 748) (by decide +kernel) (by decide +kernel), lw_in (i := 7) (by decide +kernel) (by decide +kernel), lw_in (i := 751) (by decide +kernel) (by decide +kernel), by decide +kernel⟩
theorem mk_X3_96 : Mk RX3 96 mX3_holds 2 := ⟨lw_in (i := 753) (by decide +kernel) (by decide +kernel), lw_in (i := 7) (by decide +kernel) (by decide +kernel), lw_in (i := 756) (by decide +kernel) (by decide +kernel), by decide +kernel⟩
theorem mk_X3_100 : Mk RX3 100 mX3_did 1 := ⟨lw_in (i := 757) (by decide +kernel) (by decide +kernel), lw_in (i := 7) (by decide +kernel) (by decide +kernel), lw_in (i := 760) (by decide +kernel) (by decide +kernel), by decide +kernel⟩
theorem mk_X3_103 : Cond.methodLink RX3 103 Lib.Math.min.name ∈ lw_w := lw_in (i := 761) (by decide +kernel) (by decide +kernel)
theorem mk_X3_109 : Mk RX3 109 mX3_step 3 := ⟨lw_in (i := 774) (by decide +kernel) (by decide +kernel), lw_in (i := 7) (by decide +kernel) (by decide +kernel), lw_in (i := 777) (by decide +kernel) (by decide +kernel), by decide +kernel⟩
theorem mk_X3_137 : Mk RX3 137 mX3_swapsFor 3 := ⟨lw_in (i := 770) (by decide +kernel) (by decide +kernel), lw_in (i := 7) (by decide +kernel) (by decide +kernel), lw_in (i := 773) (by decide +kernel) (by decide +kernel), by decide +kernel⟩
theorem rm_X3_gather_X9_isOn : Rm mX3_gather mX9_isOn := ⟨by decide, by decide⟩
theorem rm_X3_keepHands_X3_swapsFor : Rm mX3_keepHands mX3_swapsFor := ⟨by decide, by decide⟩
theorem rm_X3_step_X3_holds : Rm mX3_step mX3_holds := ⟨by decide, by decide⟩
theorem rm_X3_step_X3_move : Rm mX3_step mX3_move := ⟨by decide, by decide⟩
theorem rm_X3_stepBack_X3_did : Rm mX3_stepBack mX3_did := ⟨by decide, by decide⟩
theorem rm_X3_stepBack_X3_holds : Rm mX3_stepBack mX3_holds := ⟨by decide, by decide⟩
theorem rm_X3_stepBack_X3_move : Rm mX3_stepBack mX3_move := ⟨by decide, by decide⟩
theorem rm_X3_stepBack_X3_place : Rm mX3_stepBack mX3_place := ⟨by decide, by decide⟩
theorem rm_X3_swapsFor_X3_did : Rm mX3_swapsFor mX3_did := ⟨by decide, by decide⟩
theorem rm_X3_swapsFor_X3_restOf : Rm mX3_swapsFor mX3_restOf := ⟨by decide, by decide⟩
theorem rm_X3_swapsFor_X3_step : Rm mX3_swapsFor mX3_step := ⟨by decide, by decide⟩
theorem rm_X3_weighRest_X3_place : Rm mX3_weighRest mX3_place := ⟨by decide, by decide⟩
theorem rm_X3_weighRest_X3_restOf : Rm mX3_weighRest mX3_restOf := ⟨by decide, by decide⟩
theorem rm_X3_weighRest_X3_stepBack : Rm mX3_weighRest mX3_stepBack := ⟨by decide, by decide⟩
section W_hands
variable {l : Launch} {D : va_G} {ad : Nat → Nat} {kA : Nat → ClassId} {M : Mem} {Q : Outcome → Mem → Prop}
def v_X3_step (M : Mem) (x1 : Int32) (x2 : Int32) (x3 : Int32) : Int32 := if (v_X3_holds M x2 x3) = 0 then v_X3_move M x1 x3 else 16777216
def g_X3_step (M : Mem) (x1 : Int32) (x2 : Int32) (x3 : Int32) : Prop := (g_X3_holds M x2 x3) ∧ (((v_X3_holds M x2 x3) = 0) → g_X3_move M x1 x3)
theorem ct_X3_step {x1 : Int32} {x2 : Int32} {x3 : Int32}  (g : g_X3_step M x1 x2 x3) (h : Q (.returned (some (.int (v_X3_step M x1 x2 x3)))) M) : Cal l D ad kA mX3_step [.ref (ad 17), .int x1, .int x2, .int x3] M Q := by
  refine Cal.of (lo := [some (.ref (ad 17)), some (.int x1), some (.int x2), some (.int x3)]) (by decide) rfl rfl (Nat.le_of_ble_eq_true rfl) ?_
  obtain ⟨g1, g2⟩ := g
  refine r_aload_n dX3_step_0 rfl ?_
  refine r_iload_n dX3_step_1 rfl ?_
  refine r_iload_n dX3_step_2 rfl ?_
  refine r_callV (x := 17) (As := [.int x2, .int x3]) (rest := []) dX3_step_3 mk_X3_96 mv_X3_holds rm_X3_step_X3_holds rfl rfl (by decide +kernel) (Nat.le_of_ble_eq_true rfl) (ct_X3_holds g1 (⟨_, rfl, ?_⟩))
  suffices hJ1 : Fw l D ad kA mX3_step 20 [none, none, none, none] [.int (if (v_X3_holds M x2 x3) = 0 then v_X3_move M x1 x3 else 16777216)] M Q by
    refine r_if_eq (tgt := 14) dX3_step_6 (by decide) (fun c1 => ?_) (fun c1 => ?_)
    · skip
      refine r_aload_n dX3_step_14 rfl ?_
      refine r_iload_n dX3_step_15 rfl ?_
      refine r_iload_n dX3_step_16 rfl ?_
      refine r_callV (x := 17) (As := [.int x1, .int x3]) (rest := []) dX3_step_17 mk_X3_93 mv_X3_move rm_X3_step_X3_move rfl rfl (by decide +kernel) (Nat.le_of_ble_eq_true rfl) (ct_X3_move (g2 c1) (⟨_, rfl, ?_⟩))
      exact q_weak (lo' := [none, none, none, none]) trivial (by have h9 := hJ1; simp only [if_pos c1] at h9; first | exact h9 | (simp only [if_pos c1]; exact h9))
    · skip
      refine r_ldc (v := 16777216) dX3_step_9 co_X3_48 ?_
      refine r_goto (tgt := 20) dX3_step_11 (by decide) ?_
      exact q_weak (lo' := [none, none, none, none]) trivial (by have h9 := hJ1; simp only [if_neg c1] at h9; first | exact h9 | (simp only [if_neg c1]; exact h9))
  exact r_iret dX3_step_20 rfl h
theorem t_X3_gather_0 {z1 : Int64} 
    (K1 : Fw l D ad kA mX3_gather 7 [some (.ref (ad 17)), some (.long z1), none, some (.int 0)] [] (sI M 17 5 0) Q) : Fw l D ad kA mX3_gather 0 [some (.ref (ad 17)), some (.long z1), none, none] [] M Q := by
  refine r_aload_n dX3_gather_0 rfl ?_
  refine r_iconst (v := 0) dX3_gather_1 kI_0 ?_
  refine r_putI dX3_gather_2 fs_17_5 fk_X3_52 fp_X3_5 ?_
  refine r_iconst (v := 0) dX3_gather_5 kI_0 ?_
  refine q_istore_n (lo' := [some (.ref (ad 17)), some (.long z1), none, some (.int 0)]) dX3_gather_6 (by decide) rfl ?_
  exact K1
theorem t_X3_gather_7 {z1 : Int64} {x3 : Int32} 
    (g1 : (¬ ((gI M 9 4) ≤ x3)) → g_X9_isOn M z1 x3)
    (g2 : (¬ ((gI M 9 4) ≤ x3)) → (¬ ((v_X9_isOn M z1 x3) = 0)) → vp_in (gI M 17 5) 160)
    (K1 : ((gI M 9 4) ≤ x3) → Q (.returned none) M)
    (K2 : (¬ ((gI M 9 4) ≤ x3)) → ((v_X9_isOn M z1 x3) = 0) → Fw l D ad kA mX3_gather 7 [some (.ref (ad 17)), some (.long z1), none, some (.int (x3 + 1))] [] M Q)
    (K3 : (¬ ((gI M 9 4) ≤ x3)) → (¬ ((v_X9_isOn M z1 x3) = 0)) → Fw l D ad kA mX3_gather 7 [some (.ref (ad 17)), some (.long z1), none, some (.int (x3 + 1))] [] (sI (sI M 19 (gI M 17 5).toNatClampNeg x3) 17 5 ((gI (sI M 19 (gI M 17 5).toNatClampNeg x3) 17 5) + 1)) Q) : Fw l D ad kA mX3_gather 7 [some (.ref (ad 17)), some (.long z1), none, some (.int x3)] [] M Q := by
  refine r_iload_n dX3_gather_7 rfl ?_
  refine r_aload_n dX3_gather_8 rfl ?_
  refine r_getR dX3_gather_9 fs_17_0 fk_X3_24 ?_
  refine r_getI dX3_gather_12 fs_9_4 fk_X3_64 ?_
  refine r_icmp_ge (tgt := 56) dX3_gather_15 (by decide) (fun c1 => ?_) (fun c1 => ?_)
  · skip
    exact r_vret dX3_gather_56 rfl (K1 c1)
  · skip
    refine r_aload_n dX3_gather_18 rfl ?_
    refine r_getR dX3_gather_19 fs_17_0 fk_X3_24 ?_
    refine r_lload_n dX3_gather_22 rfl ?_
    refine r_iload_n dX3_gather_23 rfl ?_
    refine r_callV (x := 9) (As := [.long z1, .int x3]) (rest := []) dX3_gather_24 mk_X3_67 mv_X9_isOn rm_X3_gather_X9_isOn rfl rfl (by decide +kernel) (Nat.le_of_ble_eq_true rfl) (ct_X9_isOn (g1 c1) (⟨_, rfl, ?_⟩))
    refine r_if_eq (tgt := 50) dX3_gather_27 (by decide) (fun c2 => ?_) (fun c2 => ?_)
    · skip
      refine q_iinc (v := x3 + 1) (lo' := [some (.ref (ad 17)), some (.long z1), none, some (.int (x3 + 1))]) dX3_gather_50 rfl (congrArg (fun q => x3 + q) kI_1) (by decide) rfl ?_
      refine r_goto (tgt := 7) dX3_gather_53 (by decide) ?_
      exact (K2 c1 c2)
    · skip
      refine r_aload_n dX3_gather_30 rfl ?_
      refine r_getR dX3_gather_31 fs_17_4 fk_X3_15 ?_
      refine r_aload_n dX3_gather_34 rfl ?_
      refine r_getI dX3_gather_35 fs_17_5 fk_X3_52 ?_
      refine r_iload_n dX3_gather_38 rfl ?_
      refine r_iast dX3_gather_39 as_19 (g2 c1 c2) ?_
      refine r_aload_n dX3_gather_40 rfl ?_
      refine r_dup dX3_gather_41 rfl ?_
      refine r_getI dX3_gather_42 fs_17_5 fk_X3_52 ?_
      refine r_iconst (v := 1) dX3_gather_45 kI_1 ?_
      refine r_iadd dX3_gather_46 ?_
      refine r_putI dX3_gather_47 fs_17_5 fk_X3_52 fp_X3_5 ?_
      refine q_iinc (v := x3 + 1) (lo' := [some (.ref (ad 17)), some (.long z1), none, some (.int (x3 + 1))]) dX3_gather_50 rfl (congrArg (fun q => x3 + q) kI_1) (by decide) rfl ?_
      refine r_goto (tgt := 7) dX3_gather_53 (by decide) ?_
      exact (K3 c1 c2)
theorem en_X3_gather {z1 : Int64} (K : Fw l D ad kA mX3_gather 0 [some (.ref (ad 17)), some (.long z1), none, none] [] M Q) : Cal l D ad kA mX3_gather [.ref (ad 17), .long z1] M Q := Cal.of (by decide) rfl rfl (Nat.le_of_ble_eq_true rfl) K
theorem t_X3_stepBack_0 {x1 : Int32} 
    (g1 : vp_in x1 160)
    (g2 : vp_in (x1 - 1) 160)
    (g3 : g_X3_move M (gI M 19 (x1 - 1).toNatClampNeg) (gI M 19 x1.toNatClampNeg))
    (g4 : g_X3_holds M (gI M 19 (x1 - 1).toNatClampNeg) (gI M 19 x1.toNatClampNeg))
    (g5 : ((v_X3_holds M (gI M 19 (x1 - 1).toNatClampNeg) (gI M 19 x1.toNatClampNeg)) = 0) → vp_in ((v_X3_place (x1 + 1) 0) + x1) 12880)
    (K1 : Fw l D ad kA mX3_stepBack 71 [some (.ref (ad 17)), some (.int x1), some (.int (gI M 19 x1.toNatClampNeg)), none, some (.int (v_X3_place x1 0)), some (.int (v_X3_place (x1 + 1) 0)), some (.int (v_X3_move M (gI M 19 (x1 - 1).toNatClampNeg) (gI M 19 x1.toNatClampNeg))), some (.int (if (v_X3_holds M (gI M 19 (x1 - 1).toNatClampNeg) (gI M 19 x1.toNatClampNeg)) = 0 then gI M 20 ((v_X3_place (x1 + 1) 0) + x1).toNatClampNeg else 16777216)), some (.int 0), some (.int 0), none, none, none, none] [] M Q) : Fw l D ad kA mX3_stepBack 0 [some (.ref (ad 17)), some (.int x1), none, none, none, none, none, none, none, none, none, none, none, none] [] M Q := by
  refine r_aload_n dX3_stepBack_0 rfl ?_
  refine r_getR dX3_stepBack_1 fs_17_4 fk_X3_15 ?_
  refine r_iload_n dX3_stepBack_4 rfl ?_
  refine r_iald dX3_stepBack_5 as_19 g1 ?_
  refine q_istore_n (lo' := [some (.ref (ad 17)), some (.int x1), some (.int (gI M 19 x1.toNatClampNeg)), none, none, none, none, none, none, none, none, none, none, none]) dX3_stepBack_6 (by decide) rfl ?_
  refine r_aload_n dX3_stepBack_7 rfl ?_
  refine r_getR dX3_stepBack_8 fs_17_4 fk_X3_15 ?_
  refine r_iload_n dX3_stepBack_11 rfl ?_
  refine r_iconst (v := 1) dX3_stepBack_12 kI_1 ?_
  refine r_isub dX3_stepBack_13 ?_
  refine r_iald dX3_stepBack_14 as_19 g2 ?_
  refine q_istore_n (lo' := [some (.ref (ad 17)), some (.int x1), some (.int (gI M 19 x1.toNatClampNeg)), some (.int (gI M 19 (x1 - 1).toNatClampNeg)), none, none, none, none, none, none, none, none, none, none]) dX3_stepBack_15 (by decide) rfl ?_
  refine r_iload_n dX3_stepBack_16 rfl ?_
  refine r_iconst (v := 0) dX3_stepBack_17 kI_0 ?_
  refine r_callS (As := [.int x1, .int 0]) (rest := []) dX3_stepBack_18 mk_X3_78 ms_X3_place rm_X3_stepBack_X3_place rfl rfl (Nat.le_of_ble_eq_true rfl) (ct_X3_place (⟨_, rfl, ?_⟩))
  refine q_istore (lo' := [some (.ref (ad 17)), some (.int x1), some (.int (gI M 19 x1.toNatClampNeg)), some (.int (gI M 19 (x1 - 1).toNatClampNeg)), some (.int (v_X3_place x1 0)), none, none, none, none, none, none, none, none, none]) dX3_stepBack_21 (by decide) rfl ?_
  refine r_iload_n dX3_stepBack_23 rfl ?_
  refine r_iconst (v := 1) dX3_stepBack_24 kI_1 ?_
  refine r_iadd dX3_stepBack_25 ?_
  refine r_iconst (v := 0) dX3_stepBack_26 kI_0 ?_
  refine r_callS (As := [.int (x1 + 1), .int 0]) (rest := []) dX3_stepBack_27 mk_X3_78 ms_X3_place rm_X3_stepBack_X3_place rfl rfl (Nat.le_of_ble_eq_true rfl) (ct_X3_place (⟨_, rfl, ?_⟩))
  refine q_istore (lo' := [some (.ref (ad 17)), some (.int x1), some (.int (gI M 19 x1.toNatClampNeg)), some (.int (gI M 19 (x1 - 1).toNatClampNeg)), some (.int (v_X3_place x1 0)), some (.int (v_X3_place (x1 + 1) 0)), none, none, none, none, none, none, none, none]) dX3_stepBack_30 (by decide) rfl ?_
  refine r_aload_n dX3_stepBack_32 rfl ?_
  refine r_iload_n dX3_stepBack_33 rfl ?_
  refine r_iload_n dX3_stepBack_34 rfl ?_
  refine r_callV (x := 17) (As := [.int (gI M 19 (x1 - 1).toNatClampNeg), .int (gI M 19 x1.toNatClampNeg)]) (rest := []) dX3_stepBack_35 mk_X3_93 mv_X3_move rm_X3_stepBack_X3_move rfl rfl (by decide +kernel) (Nat.le_of_ble_eq_true rfl) (ct_X3_move g3 (⟨_, rfl, ?_⟩))
  refine q_istore (lo' := [some (.ref (ad 17)), some (.int x1), some (.int (gI M 19 x1.toNatClampNeg)), some (.int (gI M 19 (x1 - 1).toNatClampNeg)), some (.int (v_X3_place x1 0)), some (.int (v_X3_place (x1 + 1) 0)), some (.int (v_X3_move M (gI M 19 (x1 - 1).toNatClampNeg) (gI M 19 x1.toNatClampNeg))), none, none, none, none, none, none, none]) dX3_stepBack_38 (by decide) rfl ?_
  refine r_aload_n dX3_stepBack_40 rfl ?_
  refine r_iload_n dX3_stepBack_41 rfl ?_
  refine r_iload_n dX3_stepBack_42 rfl ?_
  refine r_callV (x := 17) (As := [.int (gI M 19 (x1 - 1).toNatClampNeg), .int (gI M 19 x1.toNatClampNeg)]) (rest := []) dX3_stepBack_43 mk_X3_96 mv_X3_holds rm_X3_stepBack_X3_holds rfl rfl (by decide +kernel) (Nat.le_of_ble_eq_true rfl) (ct_X3_holds g4 (⟨_, rfl, ?_⟩))
  suffices hJ1 : Fw l D ad kA mX3_stepBack 63 [some (.ref (ad 17)), some (.int x1), some (.int (gI M 19 x1.toNatClampNeg)), none, some (.int (v_X3_place x1 0)), some (.int (v_X3_place (x1 + 1) 0)), some (.int (v_X3_move M (gI M 19 (x1 - 1).toNatClampNeg) (gI M 19 x1.toNatClampNeg))), none, none, none, none, none, none, none] [.int (if (v_X3_holds M (gI M 19 (x1 - 1).toNatClampNeg) (gI M 19 x1.toNatClampNeg)) = 0 then gI M 20 ((v_X3_place (x1 + 1) 0) + x1).toNatClampNeg else 16777216)] M Q by
    refine r_if_eq (tgt := 54) dX3_stepBack_46 (by decide) (fun c1 => ?_) (fun c1 => ?_)
    · skip
      refine r_aload_n dX3_stepBack_54 rfl ?_
      refine r_getR dX3_stepBack_55 fs_17_6 fk_X3_18 ?_
      refine r_iload dX3_stepBack_58 rfl ?_
      refine r_iload_n dX3_stepBack_60 rfl ?_
      refine r_iadd dX3_stepBack_61 ?_
      refine r_iald dX3_stepBack_62 as_20 (g5 c1) ?_
      exact q_weak (lo' := [some (.ref (ad 17)), some (.int x1), some (.int (gI M 19 x1.toNatClampNeg)), none, some (.int (v_X3_place x1 0)), some (.int (v_X3_place (x1 + 1) 0)), some (.int (v_X3_move M (gI M 19 (x1 - 1).toNatClampNeg) (gI M 19 x1.toNatClampNeg))), none, none, none, none, none, none, none]) ⟨rfl, rfl, rfl, rfl, rfl, rfl, trivial⟩ (by have h9 := hJ1; simp only [if_pos c1] at h9; first | exact h9 | (simp only [if_pos c1]; exact h9))
    · skip
      refine r_ldc (v := 16777216) dX3_stepBack_49 co_X3_48 ?_
      refine r_goto (tgt := 63) dX3_stepBack_51 (by decide) ?_
      exact q_weak (lo' := [some (.ref (ad 17)), some (.int x1), some (.int (gI M 19 x1.toNatClampNeg)), none, some (.int (v_X3_place x1 0)), some (.int (v_X3_place (x1 + 1) 0)), some (.int (v_X3_move M (gI M 19 (x1 - 1).toNatClampNeg) (gI M 19 x1.toNatClampNeg))), none, none, none, none, none, none, none]) ⟨rfl, rfl, rfl, rfl, rfl, rfl, trivial⟩ (by have h9 := hJ1; simp only [if_neg c1] at h9; first | exact h9 | (simp only [if_neg c1]; exact h9))
  refine q_istore (lo' := [some (.ref (ad 17)), some (.int x1), some (.int (gI M 19 x1.toNatClampNeg)), none, some (.int (v_X3_place x1 0)), some (.int (v_X3_place (x1 + 1) 0)), some (.int (v_X3_move M (gI M 19 (x1 - 1).toNatClampNeg) (gI M 19 x1.toNatClampNeg))), some (.int (if (v_X3_holds M (gI M 19 (x1 - 1).toNatClampNeg) (gI M 19 x1.toNatClampNeg)) = 0 then gI M 20 ((v_X3_place (x1 + 1) 0) + x1).toNatClampNeg else 16777216)), none, none, none, none, none, none]) dX3_stepBack_63 (by decide) rfl ?_
  refine r_iconst (v := 0) dX3_stepBack_65 kI_0 ?_
  refine q_istore (lo' := [some (.ref (ad 17)), some (.int x1), some (.int (gI M 19 x1.toNatClampNeg)), none, some (.int (v_X3_place x1 0)), some (.int (v_X3_place (x1 + 1) 0)), some (.int (v_X3_move M (gI M 19 (x1 - 1).toNatClampNeg) (gI M 19 x1.toNatClampNeg))), some (.int (if (v_X3_holds M (gI M 19 (x1 - 1).toNatClampNeg) (gI M 19 x1.toNatClampNeg)) = 0 then gI M 20 ((v_X3_place (x1 + 1) 0) + x1).toNatClampNeg else 16777216)), some (.int 0), none, none, none, none, none]) dX3_stepBack_66 (by decide) rfl ?_
  refine r_iconst (v := 0) dX3_stepBack_68 kI_0 ?_
  refine q_istore (lo' := [some (.ref (ad 17)), some (.int x1), some (.int (gI M 19 x1.toNatClampNeg)), none, some (.int (v_X3_place x1 0)), some (.int (v_X3_place (x1 + 1) 0)), some (.int (v_X3_move M (gI M 19 (x1 - 1).toNatClampNeg) (gI M 19 x1.toNatClampNeg))), some (.int (if (v_X3_holds M (gI M 19 (x1 - 1).toNatClampNeg) (gI M 19 x1.toNatClampNeg)) = 0 then gI M 20 ((v_X3_place (x1 + 1) 0) + x1).toNatClampNeg else 16777216)), some (.int 0), some (.int 0), none, none, none, none]) dX3_stepBack_69 (by decide) rfl ?_
  exact K1
theorem t_X3_stepBack_71 {x1 : Int32} {x2 : Int32} {x4 : Int32} {x5 : Int32} {x6 : Int32} {x7 : Int32} {x8 : Int32} {x9 : Int32} 
    (g1 : (x1 ≤ x9) → x8 = 0 ∨ x8 = 1)
    (g2 : (¬ (x1 ≤ x9)) → g_X3_did M x9)
    (g3 : (¬ (x1 ≤ x9)) → g_X3_holds M (v_X3_did M x9) x2)
    (g4 : (¬ (x1 ≤ x9)) → ((v_X3_holds M (v_X3_did M x9) x2) = 0) → vp_in (x5 + x9) 12880)
    (g5 : (¬ (x1 ≤ x9)) → (x7 < 16777216) → g_X3_move M (v_X3_did M x9) x2)
    (g6 : (¬ (x1 ≤ x9)) → vp_in (x4 + x9) 12880)
    (K1 : (x1 ≤ x9) → Q (.returned (some (.int x8))) M)
    (K2 : (¬ (x1 ≤ x9)) → Fw l D ad kA mX3_stepBack 71 [some (.ref (ad 17)), some (.int x1), some (.int x2), none, some (.int x4), some (.int x5), some (.int x6), some (.int x7), some (.int (if x8 = 0 then if 16777216 ≤ (imin 16777216 (imin (if (v_X3_holds M (v_X3_did M x9) x2) = 0 then x6 + (gI M 20 (x5 + x9).toNatClampNeg) else 16777216) (if x7 < 16777216 then x7 + (v_X3_move M (v_X3_did M x9) x2) else 16777216))) then 0 else 1 else 1)), some (.int (x9 + 1)), none, none, none, none] [] (sI M 20 (x4 + x9).toNatClampNeg (imin 16777216 (imin (if (v_X3_holds M (v_X3_did M x9) x2) = 0 then x6 + (gI M 20 (x5 + x9).toNatClampNeg) else 16777216) (if x7 < 16777216 then x7 + (v_X3_move M (v_X3_did M x9) x2) else 16777216)))) Q) : Fw l D ad kA mX3_stepBack 71 [some (.ref (ad 17)), some (.int x1), some (.int x2), none, some (.int x4), some (.int x5), some (.int x6), some (.int x7), some (.int x8), some (.int x9), none, none, none, none] [] M Q := by
  refine r_iload dX3_stepBack_71 rfl ?_
  refine r_iload_n dX3_stepBack_73 rfl ?_
  refine r_icmp_ge (tgt := 190) dX3_stepBack_74 (by decide) (fun c1 => ?_) (fun c1 => ?_)
  · skip
    refine r_iload dX3_stepBack_190 rfl ?_
    exact r_zret dX3_stepBack_192 rfl (nar_z (g1 c1)).1 (K1 c1)
  · skip
    refine r_aload_n dX3_stepBack_77 rfl ?_
    refine r_iload dX3_stepBack_78 rfl ?_
    refine r_callV (x := 17) (As := [.int x9]) (rest := []) dX3_stepBack_80 mk_X3_100 mv_X3_did rm_X3_stepBack_X3_did rfl rfl (by decide +kernel) (Nat.le_of_ble_eq_true rfl) (ct_X3_did (g2 c1) (⟨_, rfl, ?_⟩))
    refine q_istore (lo' := [some (.ref (ad 17)), some (.int x1), some (.int x2), none, some (.int x4), some (.int x5), some (.int x6), some (.int x7), some (.int x8), some (.int x9), some (.int (v_X3_did M x9)), none, none, none]) dX3_stepBack_83 (by decide) rfl ?_
    refine r_aload_n dX3_stepBack_85 rfl ?_
    refine r_iload dX3_stepBack_86 rfl ?_
    refine r_iload_n dX3_stepBack_88 rfl ?_
    refine r_callV (x := 17) (As := [.int (v_X3_did M x9), .int x2]) (rest := []) dX3_stepBack_89 mk_X3_96 mv_X3_holds rm_X3_stepBack_X3_holds rfl rfl (by decide +kernel) (Nat.le_of_ble_eq_true rfl) (ct_X3_holds (g3 c1) (⟨_, rfl, ?_⟩))
    suffices hJ1 : Fw l D ad kA mX3_stepBack 113 [some (.ref (ad 17)), some (.int x1), some (.int x2), none, some (.int x4), some (.int x5), some (.int x6), some (.int x7), some (.int x8), some (.int x9), some (.int (v_X3_did M x9)), none, none, none] [.int (if (v_X3_holds M (v_X3_did M x9) x2) = 0 then x6 + (gI M 20 (x5 + x9).toNatClampNeg) else 16777216)] M Q by
      refine r_if_eq (tgt := 100) dX3_stepBack_92 (by decide) (fun c2 => ?_) (fun c2 => ?_)
      · skip
        refine r_iload dX3_stepBack_100 rfl ?_
        refine r_aload_n dX3_stepBack_102 rfl ?_
        refine r_getR dX3_stepBack_103 fs_17_6 fk_X3_18 ?_
        refine r_iload dX3_stepBack_106 rfl ?_
        refine r_iload dX3_stepBack_108 rfl ?_
        refine r_iadd dX3_stepBack_110 ?_
        refine r_iald dX3_stepBack_111 as_20 (g4 c1 c2) ?_
        refine r_iadd dX3_stepBack_112 ?_
        exact q_weak (lo' := [some (.ref (ad 17)), some (.int x1), some (.int x2), none, some (.int x4), some (.int x5), some (.int x6), some (.int x7), some (.int x8), some (.int x9), some (.int (v_X3_did M x9)), none, none, none]) ⟨rfl, rfl, rfl, rfl, rfl, rfl, rfl, rfl, rfl, rfl, trivial⟩ (by have h9 := hJ1; simp only [if_pos c2] at h9; first | exact h9 | (simp only [if_pos c2]; exact h9))
      · skip
        refine r_ldc (v := 16777216) dX3_stepBack_95 co_X3_48 ?_
        refine r_goto (tgt := 113) dX3_stepBack_97 (by decide) ?_
        exact q_weak (lo' := [some (.ref (ad 17)), some (.int x1), some (.int x2), none, some (.int x4), some (.int x5), some (.int x6), some (.int x7), some (.int x8), some (.int x9), some (.int (v_X3_did M x9)), none, none, none]) ⟨rfl, rfl, rfl, rfl, rfl, rfl, rfl, rfl, rfl, rfl, trivial⟩ (by have h9 := hJ1; simp only [if_neg c2] at h9; first | exact h9 | (simp only [if_neg c2]; exact h9))
    refine q_istore (lo' := [some (.ref (ad 17)), some (.int x1), some (.int x2), none, some (.int x4), some (.int x5), some (.int x6), some (.int x7), some (.int x8), some (.int x9), some (.int (v_X3_did M x9)), some (.int (if (v_X3_holds M (v_X3_did M x9) x2) = 0 then x6 + (gI M 20 (x5 + x9).toNatClampNeg) else 16777216)), none, none]) dX3_stepBack_113 (by decide) rfl ?_
    refine r_iload dX3_stepBack_115 rfl ?_
    refine r_ldc (v := 16777216) dX3_stepBack_117 co_X3_48 ?_
    suffices hJ2 : Fw l D ad kA mX3_stepBack 137 [some (.ref (ad 17)), some (.int x1), some (.int x2), none, some (.int x4), some (.int x5), some (.int x6), some (.int x7), some (.int x8), some (.int x9), none, some (.int (if (v_X3_holds M (v_X3_did M x9) x2) = 0 then x6 + (gI M 20 (x5 + x9).toNatClampNeg) else 16777216)), none, none] [.int (if x7 < 16777216 then x7 + (v_X3_move M (v_X3_did M x9) x2) else 16777216)] M Q by
      refine r_icmp_lt (tgt := 127) dX3_stepBack_119 (by decide) (fun c3 => ?_) (fun c3 => ?_)
      · skip
        refine r_iload dX3_stepBack_127 rfl ?_
        refine r_aload_n dX3_stepBack_129 rfl ?_
        refine r_iload dX3_stepBack_130 rfl ?_
        refine r_iload_n dX3_stepBack_132 rfl ?_
        refine r_callV (x := 17) (As := [.int (v_X3_did M x9), .int x2]) (rest := [.int x7]) dX3_stepBack_133 mk_X3_93 mv_X3_move rm_X3_stepBack_X3_move rfl rfl (by decide +kernel) (Nat.le_of_ble_eq_true rfl) (ct_X3_move (g5 c1 c3) (⟨_, rfl, ?_⟩))
        refine r_iadd dX3_stepBack_136 ?_
        exact q_weak (lo' := [some (.ref (ad 17)), some (.int x1), some (.int x2), none, some (.int x4), some (.int x5), some (.int x6), some (.int x7), some (.int x8), some (.int x9), none, some (.int (if (v_X3_holds M (v_X3_did M x9) x2) = 0 then x6 + (gI M 20 (x5 + x9).toNatClampNeg) else 16777216)), none, none]) ⟨rfl, rfl, rfl, rfl, rfl, rfl, rfl, rfl, rfl, rfl, trivial⟩ (by have h9 := hJ2; simp only [if_pos c3] at h9; first | exact h9 | (simp only [if_pos c3]; exact h9))
      · skip
        refine r_ldc (v := 16777216) dX3_stepBack_122 co_X3_48 ?_
        refine r_goto (tgt := 137) dX3_stepBack_124 (by decide) ?_
        exact q_weak (lo' := [some (.ref (ad 17)), some (.int x1), some (.int x2), none, some (.int x4), some (.int x5), some (.int x6), some (.int x7), some (.int x8), some (.int x9), none, some (.int (if (v_X3_holds M (v_X3_did M x9) x2) = 0 then x6 + (gI M 20 (x5 + x9).toNatClampNeg) else 16777216)), none, none]) ⟨rfl, rfl, rfl, rfl, rfl, rfl, rfl, rfl, rfl, rfl, trivial⟩ (by have h9 := hJ2; simp only [if_neg c3] at h9; first | exact h9 | (simp only [if_neg c3]; exact h9))
    refine q_istore (lo' := [some (.ref (ad 17)), some (.int x1), some (.int x2), none, some (.int x4), some (.int x5), some (.int x6), some (.int x7), some (.int x8), some (.int x9), none, some (.int (if (v_X3_holds M (v_X3_did M x9) x2) = 0 then x6 + (gI M 20 (x5 + x9).toNatClampNeg) else 16777216)), some (.int (if x7 < 16777216 then x7 + (v_X3_move M (v_X3_did M x9) x2) else 16777216)), none]) dX3_stepBack_137 (by decide) rfl ?_
    refine r_ldc (v := 16777216) dX3_stepBack_139 co_X3_48 ?_
    refine r_iload dX3_stepBack_141 rfl ?_
    refine r_iload dX3_stepBack_143 rfl ?_
    refine q_mmin dX3_stepBack_145 mk_X3_103 (by decide) (Nat.le_of_ble_eq_true rfl) ?_
    refine q_mmin dX3_stepBack_148 mk_X3_103 (by decide) (Nat.le_of_ble_eq_true rfl) ?_
    refine q_istore (lo' := [some (.ref (ad 17)), some (.int x1), some (.int x2), none, some (.int x4), some (.int x5), some (.int x6), some (.int x7), some (.int x8), some (.int x9), none, some (.int (if (v_X3_holds M (v_X3_did M x9) x2) = 0 then x6 + (gI M 20 (x5 + x9).toNatClampNeg) else 16777216)), some (.int (if x7 < 16777216 then x7 + (v_X3_move M (v_X3_did M x9) x2) else 16777216)), some (.int (imin 16777216 (imin (if (v_X3_holds M (v_X3_did M x9) x2) = 0 then x6 + (gI M 20 (x5 + x9).toNatClampNeg) else 16777216) (if x7 < 16777216 then x7 + (v_X3_move M (v_X3_did M x9) x2) else 16777216))))]) dX3_stepBack_151 (by decide) rfl ?_
    refine r_aload_n dX3_stepBack_153 rfl ?_
    refine r_getR dX3_stepBack_154 fs_17_6 fk_X3_18 ?_
    refine r_iload dX3_stepBack_157 rfl ?_
    refine r_iload dX3_stepBack_159 rfl ?_
    refine r_iadd dX3_stepBack_161 ?_
    refine r_iload dX3_stepBack_162 rfl ?_
    refine r_iast dX3_stepBack_164 as_20 (g6 c1) ?_
    refine r_iload dX3_stepBack_165 rfl ?_
    suffices hJ3 : Fw l D ad kA mX3_stepBack 182 [some (.ref (ad 17)), some (.int x1), some (.int x2), none, some (.int x4), some (.int x5), some (.int x6), some (.int x7), none, some (.int x9), none, none, none, none] [.int (if x8 = 0 then if 16777216 ≤ (imin 16777216 (imin (if (v_X3_holds M (v_X3_did M x9) x2) = 0 then x6 + (gI M 20 (x5 + x9).toNatClampNeg) else 16777216) (if x7 < 16777216 then x7 + (v_X3_move M (v_X3_did M x9) x2) else 16777216))) then 0 else 1 else 1)] (sI M 20 (x4 + x9).toNatClampNeg (imin 16777216 (imin (if (v_X3_holds M (v_X3_did M x9) x2) = 0 then x6 + (gI M 20 (x5 + x9).toNatClampNeg) else 16777216) (if x7 < 16777216 then x7 + (v_X3_move M (v_X3_did M x9) x2) else 16777216)))) Q by
      refine r_if_ne (tgt := 177) dX3_stepBack_167 (by decide) (fun c4 => ?_) (fun c4 => ?_)
      · skip
        refine r_iconst (v := 1) dX3_stepBack_177 kI_1 ?_
        refine r_goto (tgt := 182) dX3_stepBack_178 (by decide) ?_
        exact q_weak (lo' := [some (.ref (ad 17)), some (.int x1), some (.int x2), none, some (.int x4), some (.int x5), some (.int x6), some (.int x7), none, some (.int x9), none, none, none, none]) ⟨rfl, rfl, rfl, rfl, rfl, rfl, rfl, rfl, trivial⟩ (by have h9 := hJ3; simp only [if_neg c4] at h9; first | exact h9 | (simp only [if_neg c4]; exact h9))
      · skip
        refine r_iload dX3_stepBack_170 rfl ?_
        refine r_ldc (v := 16777216) dX3_stepBack_172 co_X3_48 ?_
        refine r_icmp_ge (tgt := 181) dX3_stepBack_174 (by decide) (fun c5 => ?_) (fun c5 => ?_)
        · skip
          refine r_iconst (v := 0) dX3_stepBack_181 kI_0 ?_
          exact q_weak (lo' := [some (.ref (ad 17)), some (.int x1), some (.int x2), none, some (.int x4), some (.int x5), some (.int x6), some (.int x7), none, some (.int x9), none, none, none, none]) ⟨rfl, rfl, rfl, rfl, rfl, rfl, rfl, rfl, trivial⟩ (by have h9 := hJ3; simp only [if_pos c4, if_pos c5] at h9; first | exact h9 | (simp only [if_pos c4, if_pos c5]; exact h9))
        · skip
          refine r_iconst (v := 1) dX3_stepBack_177 kI_1 ?_
          refine r_goto (tgt := 182) dX3_stepBack_178 (by decide) ?_
          exact q_weak (lo' := [some (.ref (ad 17)), some (.int x1), some (.int x2), none, some (.int x4), some (.int x5), some (.int x6), some (.int x7), none, some (.int x9), none, none, none, none]) ⟨rfl, rfl, rfl, rfl, rfl, rfl, rfl, rfl, trivial⟩ (by have h9 := hJ3; simp only [if_pos c4, if_neg c5] at h9; first | exact h9 | (simp only [if_pos c4, if_neg c5]; exact h9))
    refine q_istore (lo' := [some (.ref (ad 17)), some (.int x1), some (.int x2), none, some (.int x4), some (.int x5), some (.int x6), some (.int x7), some (.int (if x8 = 0 then if 16777216 ≤ (imin 16777216 (imin (if (v_X3_holds M (v_X3_did M x9) x2) = 0 then x6 + (gI M 20 (x5 + x9).toNatClampNeg) else 16777216) (if x7 < 16777216 then x7 + (v_X3_move M (v_X3_did M x9) x2) else 16777216))) then 0 else 1 else 1)), some (.int x9), none, none, none, none]) dX3_stepBack_182 (by decide) rfl ?_
    refine q_iinc (v := x9 + 1) (lo' := [some (.ref (ad 17)), some (.int x1), some (.int x2), none, some (.int x4), some (.int x5), some (.int x6), some (.int x7), some (.int (if x8 = 0 then if 16777216 ≤ (imin 16777216 (imin (if (v_X3_holds M (v_X3_did M x9) x2) = 0 then x6 + (gI M 20 (x5 + x9).toNatClampNeg) else 16777216) (if x7 < 16777216 then x7 + (v_X3_move M (v_X3_did M x9) x2) else 16777216))) then 0 else 1 else 1)), some (.int (x9 + 1)), none, none, none, none]) dX3_stepBack_184 rfl (congrArg (fun q => x9 + q) kI_1) (by decide) rfl ?_
    refine r_goto (tgt := 71) dX3_stepBack_187 (by decide) ?_
    exact (K2 c1)
theorem en_X3_stepBack {x1 : Int32} (K : Fw l D ad kA mX3_stepBack 0 [some (.ref (ad 17)), some (.int x1), none, none, none, none, none, none, none, none, none, none, none, none] [] M Q) : Cal l D ad kA mX3_stepBack [.ref (ad 17), .int x1] M Q := Cal.of (by decide) rfl rfl (Nat.le_of_ble_eq_true rfl) K
theorem t_X3_weighRest_0  
    (K1 : Fw l D ad kA mX3_weighRest 7 [some (.ref (ad 17)), some (.int 0)] [] (sI M 17 7 0) Q) : Fw l D ad kA mX3_weighRest 0 [some (.ref (ad 17)), none] [] M Q := by
  refine r_aload_n dX3_weighRest_0 rfl ?_
  refine r_iconst (v := 0) dX3_weighRest_1 kI_0 ?_
  refine r_putI dX3_weighRest_2 fs_17_7 fk_X3_75 fp_X3_7 ?_
  refine r_iconst (v := 0) dX3_weighRest_5 kI_0 ?_
  refine q_istore_n (lo' := [some (.ref (ad 17)), some (.int 0)]) dX3_weighRest_6 (by decide) rfl ?_
  exact K1
theorem t_X3_weighRest_7 {x1 : Int32} 
    (g1 : (¬ ((gI M 17 5) ≤ x1)) → vp_in (v_X3_place (gI M 17 5) x1) 12880)
    (K1 : ((gI M 17 5) ≤ x1) → Fw l D ad kA mX3_weighRest 42 [some (.ref (ad 17)), some (.int ((gI M 17 5) - 1))] [] M Q)
    (K2 : (¬ ((gI M 17 5) ≤ x1)) → Fw l D ad kA mX3_weighRest 7 [some (.ref (ad 17)), some (.int (x1 + 1))] [] (sI M 20 (v_X3_place (gI M 17 5) x1).toNatClampNeg 0) Q) : Fw l D ad kA mX3_weighRest 7 [some (.ref (ad 17)), some (.int x1)] [] M Q := by
  refine r_iload_n dX3_weighRest_7 rfl ?_
  refine r_aload_n dX3_weighRest_8 rfl ?_
  refine r_getI dX3_weighRest_9 fs_17_5 fk_X3_52 ?_
  refine r_icmp_ge (tgt := 35) dX3_weighRest_12 (by decide) (fun c1 => ?_) (fun c1 => ?_)
  · skip
    refine r_aload_n dX3_weighRest_35 rfl ?_
    refine r_getI dX3_weighRest_36 fs_17_5 fk_X3_52 ?_
    refine r_iconst (v := 1) dX3_weighRest_39 kI_1 ?_
    refine r_isub dX3_weighRest_40 ?_
    refine q_istore_n (lo' := [some (.ref (ad 17)), some (.int ((gI M 17 5) - 1))]) dX3_weighRest_41 (by decide) rfl ?_
    exact (K1 c1)
  · skip
    refine r_aload_n dX3_weighRest_15 rfl ?_
    refine r_getR dX3_weighRest_16 fs_17_6 fk_X3_18 ?_
    refine r_aload_n dX3_weighRest_19 rfl ?_
    refine r_getI dX3_weighRest_20 fs_17_5 fk_X3_52 ?_
    refine r_iload_n dX3_weighRest_23 rfl ?_
    refine r_callS (As := [.int (gI M 17 5), .int x1]) (rest := [.ref (ad 20)]) dX3_weighRest_24 mk_X3_78 ms_X3_place rm_X3_weighRest_X3_place rfl rfl (Nat.le_of_ble_eq_true rfl) (ct_X3_place (⟨_, rfl, ?_⟩))
    refine r_iconst (v := 0) dX3_weighRest_27 kI_0 ?_
    refine r_iast dX3_weighRest_28 as_20 (g1 c1) ?_
    refine q_iinc (v := x1 + 1) (lo' := [some (.ref (ad 17)), some (.int (x1 + 1))]) dX3_weighRest_29 rfl (congrArg (fun q => x1 + q) kI_1) (by decide) rfl ?_
    refine r_goto (tgt := 7) dX3_weighRest_32 (by decide) ?_
    exact (K2 c1)
theorem t_X3_weighRest_42 {x1 : Int32} 
    (g1 : (x1 ≤ 0) → (¬ ((gI M 17 5) = 0)) → g_X3_restOf M 1 0)
    (g2 : (¬ (x1 ≤ 0)) → (¬ ((gI M 17 7) = 0)) → (¬ ((gI M 17 5) = 0)) → g_X3_restOf M 1 0)
    (K1 : (x1 ≤ 0) → Q (.returned (some (.int (if (gI M 17 5) = 0 then 0 else v_X3_restOf M 1 0)))) M)
    (K2 : (¬ (x1 ≤ 0)) → (¬ ((gI M 17 7) = 0)) → Q (.returned (some (.int (if (gI M 17 5) = 0 then 0 else v_X3_restOf M 1 0)))) M)
    (K3 : (¬ (x1 ≤ 0)) → ((gI M 17 7) = 0) → Cal l D ad kA mX3_stepBack [.ref (ad 17), .int x1] M (fun oc M2 => ∃ r : Int32, oc = .returned (some (.int r)) ∧ Fw l D ad kA mX3_weighRest 58 [some (.ref (ad 17)), some (.int x1)] [.int r] M2 Q)) : Fw l D ad kA mX3_weighRest 42 [some (.ref (ad 17)), some (.int x1)] [] M Q := by
  refine r_iload_n dX3_weighRest_42 rfl ?_
  refine r_if_le (tgt := 72) dX3_weighRest_43 (by decide) (fun c1 => ?_) (fun c1 => ?_)
  · skip
    refine r_aload_n dX3_weighRest_72 rfl ?_
    refine r_getI dX3_weighRest_73 fs_17_5 fk_X3_52 ?_
    suffices hJ1 : Fw l D ad kA mX3_weighRest 89 [none, none] [.int (if (gI M 17 5) = 0 then 0 else v_X3_restOf M 1 0)] M Q by
      refine r_if_ne (tgt := 83) dX3_weighRest_76 (by decide) (fun c2 => ?_) (fun c2 => ?_)
      · skip
        refine r_aload_n dX3_weighRest_83 rfl ?_
        refine r_iconst (v := 1) dX3_weighRest_84 kI_1 ?_
        refine r_iconst (v := 0) dX3_weighRest_85 kI_0 ?_
        refine r_callV (x := 17) (As := [.int 1, .int 0]) (rest := []) dX3_weighRest_86 mk_X3_85 mv_X3_restOf rm_X3_weighRest_X3_restOf rfl rfl (by decide +kernel) (Nat.le_of_ble_eq_true rfl) (ct_X3_restOf (g1 c1 c2) (⟨_, rfl, ?_⟩))
        exact q_weak (lo' := [none, none]) trivial (by have h9 := hJ1; simp only [if_neg c2] at h9; first | exact h9 | (simp only [if_neg c2]; exact h9))
      · skip
        refine r_iconst (v := 0) dX3_weighRest_79 kI_0 ?_
        refine r_goto (tgt := 89) dX3_weighRest_80 (by decide) ?_
        exact q_weak (lo' := [none, none]) trivial (by have h9 := hJ1; simp only [if_pos c2] at h9; first | exact h9 | (simp only [if_pos c2]; exact h9))
    exact r_iret dX3_weighRest_89 rfl (K1 c1)
  · skip
    refine r_aload_n dX3_weighRest_46 rfl ?_
    refine r_getI dX3_weighRest_47 fs_17_7 fk_X3_75 ?_
    refine r_if_ne (tgt := 72) dX3_weighRest_50 (by decide) (fun c3 => ?_) (fun c3 => ?_)
    · skip
      refine r_aload_n dX3_weighRest_72 rfl ?_
      refine r_getI dX3_weighRest_73 fs_17_5 fk_X3_52 ?_
      suffices hJ2 : Fw l D ad kA mX3_weighRest 89 [none, none] [.int (if (gI M 17 5) = 0 then 0 else v_X3_restOf M 1 0)] M Q by
        refine r_if_ne (tgt := 83) dX3_weighRest_76 (by decide) (fun c4 => ?_) (fun c4 => ?_)
        · skip
          refine r_aload_n dX3_weighRest_83 rfl ?_
          refine r_iconst (v := 1) dX3_weighRest_84 kI_1 ?_
          refine r_iconst (v := 0) dX3_weighRest_85 kI_0 ?_
          refine r_callV (x := 17) (As := [.int 1, .int 0]) (rest := []) dX3_weighRest_86 mk_X3_85 mv_X3_restOf rm_X3_weighRest_X3_restOf rfl rfl (by decide +kernel) (Nat.le_of_ble_eq_true rfl) (ct_X3_restOf (g2 c1 c3 c4) (⟨_, rfl, ?_⟩))
          exact q_weak (lo' := [none, none]) trivial (by have h9 := hJ2; simp only [if_neg c4] at h9; first | exact h9 | (simp only [if_neg c4]; exact h9))
        · skip
          refine r_iconst (v := 0) dX3_weighRest_79 kI_0 ?_
          refine r_goto (tgt := 89) dX3_weighRest_80 (by decide) ?_
          exact q_weak (lo' := [none, none]) trivial (by have h9 := hJ2; simp only [if_pos c4] at h9; first | exact h9 | (simp only [if_pos c4]; exact h9))
      exact r_iret dX3_weighRest_89 rfl (K2 c1 c3)
    · skip
      refine r_aload_n dX3_weighRest_53 rfl ?_
      refine r_iload_n dX3_weighRest_54 rfl ?_
      exact r_callV (x := 17) (As := [.int x1]) (rest := []) dX3_weighRest_55 mk_X3_81 mv_X3_stepBack rm_X3_weighRest_X3_stepBack rfl rfl (by decide +kernel) (Nat.le_of_ble_eq_true rfl) (cal_i (lo' := [some (.ref (ad 17)), some (.int x1)]) ⟨rfl, rfl, trivial⟩ (K3 c1 c3))
theorem t_X3_weighRest_58 {x1 : Int32} {s1 : Int32} 
    (K1 : (¬ (s1 = 0)) → Fw l D ad kA mX3_weighRest 42 [some (.ref (ad 17)), some (.int (x1 + (-1)))] [] M Q)
    (K2 : (s1 = 0) → Fw l D ad kA mX3_weighRest 42 [some (.ref (ad 17)), some (.int (x1 + (-1)))] [] (sI M 17 7 x1) Q) : Fw l D ad kA mX3_weighRest 58 [some (.ref (ad 17)), some (.int x1)] [.int s1] M Q := by
  refine r_if_ne (tgt := 66) dX3_weighRest_58 (by decide) (fun c1 => ?_) (fun c1 => ?_)
  · skip
    refine q_iinc (v := x1 + (-1)) (lo' := [some (.ref (ad 17)), some (.int (x1 + (-1)))]) dX3_weighRest_66 rfl (congrArg (fun q => x1 + q) kI_m1) (by decide) rfl ?_
    refine r_goto (tgt := 42) dX3_weighRest_69 (by decide) ?_
    exact (K1 c1)
  · skip
    refine r_aload_n dX3_weighRest_61 rfl ?_
    refine r_iload_n dX3_weighRest_62 rfl ?_
    refine r_putI dX3_weighRest_63 fs_17_7 fk_X3_75 fp_X3_7 ?_
    refine q_iinc (v := x1 + (-1)) (lo' := [some (.ref (ad 17)), some (.int (x1 + (-1)))]) dX3_weighRest_66 rfl (congrArg (fun q => x1 + q) kI_m1) (by decide) rfl ?_
    refine r_goto (tgt := 42) dX3_weighRest_69 (by decide) ?_
    exact (K2 c1)
theorem en_X3_weighRest  (K : Fw l D ad kA mX3_weighRest 0 [some (.ref (ad 17)), none] [] M Q) : Cal l D ad kA mX3_weighRest [.ref (ad 17)] M Q := Cal.of (by decide) rfl rfl (Nat.le_of_ble_eq_true rfl) K
def v_X3_swapsFor (M : Mem) (x1 : Int32) (x2 : Int32) (x3 : Int32) : Int32 := if x1 = 0 then if ((v_X3_step M (gI M 19 (x2 - 1).toNatClampNeg) (v_X3_did M x3) (gI M 19 x2.toNatClampNeg)) + (v_X3_restOf M (x2 + 1) x3)) = (v_X3_restOf M x2 x3) then 0 else 1 else if ((v_X3_step M (v_X3_did M x3) (gI M 19 (x2 - 1).toNatClampNeg) (gI M 19 x2.toNatClampNeg)) + (v_X3_restOf M (x2 + 1) x2)) = (v_X3_restOf M x2 x3) then 1 else 0
def g_X3_swapsFor (M : Mem) (x1 : Int32) (x2 : Int32) (x3 : Int32) : Prop := (vp_in x2 160) ∧ (vp_in (x2 - 1) 160) ∧ (g_X3_did M x3) ∧ (g_X3_restOf M x2 x3) ∧ ((¬ (x1 = 0)) → g_X3_step M (v_X3_did M x3) (gI M 19 (x2 - 1).toNatClampNeg) (gI M 19 x2.toNatClampNeg)) ∧ ((¬ (x1 = 0)) → g_X3_restOf M (x2 + 1) x2) ∧ ((x1 = 0) → g_X3_step M (gI M 19 (x2 - 1).toNatClampNeg) (v_X3_did M x3) (gI M 19 x2.toNatClampNeg)) ∧ ((x1 = 0) → g_X3_restOf M (x2 + 1) x3)
theorem ct_X3_swapsFor {x1 : Int32} {x2 : Int32} {x3 : Int32}  (g : g_X3_swapsFor M x1 x2 x3) (h : Q (.returned (some (.int (v_X3_swapsFor M x1 x2 x3)))) M) : Cal l D ad kA mX3_swapsFor [.ref (ad 17), .int x1, .int x2, .int x3] M Q := by
  refine Cal.of (lo := [some (.ref (ad 17)), some (.int x1), some (.int x2), some (.int x3), none, none, none, none]) (by decide) rfl rfl (Nat.le_of_ble_eq_true rfl) ?_
  obtain ⟨g1, g2, g3, g4, g5, g6, g7, g8⟩ := g
  refine r_aload_n dX3_swapsFor_0 rfl ?_
  refine r_getR dX3_swapsFor_1 fs_17_4 fk_X3_15 ?_
  refine r_iload_n dX3_swapsFor_4 rfl ?_
  refine r_iald dX3_swapsFor_5 as_19 g1 ?_
  refine q_istore (lo' := [some (.ref (ad 17)), some (.int x1), some (.int x2), some (.int x3), some (.int (gI M 19 x2.toNatClampNeg)), none, none, none]) dX3_swapsFor_6 (by decide) rfl ?_
  refine r_aload_n dX3_swapsFor_8 rfl ?_
  refine r_getR dX3_swapsFor_9 fs_17_4 fk_X3_15 ?_
  refine r_iload_n dX3_swapsFor_12 rfl ?_
  refine r_iconst (v := 1) dX3_swapsFor_13 kI_1 ?_
  refine r_isub dX3_swapsFor_14 ?_
  refine r_iald dX3_swapsFor_15 as_19 g2 ?_
  refine q_istore (lo' := [some (.ref (ad 17)), some (.int x1), some (.int x2), some (.int x3), some (.int (gI M 19 x2.toNatClampNeg)), some (.int (gI M 19 (x2 - 1).toNatClampNeg)), none, none]) dX3_swapsFor_16 (by decide) rfl ?_
  refine r_aload_n dX3_swapsFor_18 rfl ?_
  refine r_iload_n dX3_swapsFor_19 rfl ?_
  refine r_callV (x := 17) (As := [.int x3]) (rest := []) dX3_swapsFor_20 mk_X3_100 mv_X3_did rm_X3_swapsFor_X3_did rfl rfl (by decide +kernel) (Nat.le_of_ble_eq_true rfl) (ct_X3_did g3 (⟨_, rfl, ?_⟩))
  refine q_istore (lo' := [some (.ref (ad 17)), some (.int x1), some (.int x2), some (.int x3), some (.int (gI M 19 x2.toNatClampNeg)), some (.int (gI M 19 (x2 - 1).toNatClampNeg)), some (.int (v_X3_did M x3)), none]) dX3_swapsFor_23 (by decide) rfl ?_
  refine r_aload_n dX3_swapsFor_25 rfl ?_
  refine r_iload_n dX3_swapsFor_26 rfl ?_
  refine r_iload_n dX3_swapsFor_27 rfl ?_
  refine r_callV (x := 17) (As := [.int x2, .int x3]) (rest := []) dX3_swapsFor_28 mk_X3_85 mv_X3_restOf rm_X3_swapsFor_X3_restOf rfl rfl (by decide +kernel) (Nat.le_of_ble_eq_true rfl) (ct_X3_restOf g4 (⟨_, rfl, ?_⟩))
  refine q_istore (lo' := [some (.ref (ad 17)), some (.int x1), some (.int x2), some (.int x3), some (.int (gI M 19 x2.toNatClampNeg)), some (.int (gI M 19 (x2 - 1).toNatClampNeg)), some (.int (v_X3_did M x3)), some (.int (v_X3_restOf M x2 x3))]) dX3_swapsFor_31 (by decide) rfl ?_
  refine r_iload_n dX3_swapsFor_33 rfl ?_
  refine r_if_ne (tgt := 67) dX3_swapsFor_34 (by decide) (fun c1 => ?_) (fun c1 => ?_)
  · skip
    refine r_aload_n dX3_swapsFor_67 rfl ?_
    refine r_iload dX3_swapsFor_68 rfl ?_
    refine r_iload dX3_swapsFor_70 rfl ?_
    refine r_iload dX3_swapsFor_72 rfl ?_
    refine r_callV (x := 17) (As := [.int (v_X3_did M x3), .int (gI M 19 (x2 - 1).toNatClampNeg), .int (gI M 19 x2.toNatClampNeg)]) (rest := []) dX3_swapsFor_74 mk_X3_109 mv_X3_step rm_X3_swapsFor_X3_step rfl rfl (by decide +kernel) (Nat.le_of_ble_eq_true rfl) (ct_X3_step (g5 c1) (⟨_, rfl, ?_⟩))
    refine r_aload_n dX3_swapsFor_77 rfl ?_
    refine r_iload_n dX3_swapsFor_78 rfl ?_
    refine r_iconst (v := 1) dX3_swapsFor_79 kI_1 ?_
    refine r_iadd dX3_swapsFor_80 ?_
    refine r_iload_n dX3_swapsFor_81 rfl ?_
    refine r_callV (x := 17) (As := [.int (x2 + 1), .int x2]) (rest := [.int (v_X3_step M (v_X3_did M x3) (gI M 19 (x2 - 1).toNatClampNeg) (gI M 19 x2.toNatClampNeg))]) dX3_swapsFor_82 mk_X3_85 mv_X3_restOf rm_X3_swapsFor_X3_restOf rfl rfl (by decide +kernel) (Nat.le_of_ble_eq_true rfl) (ct_X3_restOf (g6 c1) (⟨_, rfl, ?_⟩))
    refine r_iadd dX3_swapsFor_85 ?_
    refine r_iload dX3_swapsFor_86 rfl ?_
    suffices hJ1 : Fw l D ad kA mX3_swapsFor 96 [none, none, none, none, none, none, none, none] [.int (if ((v_X3_step M (v_X3_did M x3) (gI M 19 (x2 - 1).toNatClampNeg) (gI M 19 x2.toNatClampNeg)) + (v_X3_restOf M (x2 + 1) x2)) = (v_X3_restOf M x2 x3) then 1 else 0)] M Q by
      refine r_icmp_ne (tgt := 95) dX3_swapsFor_88 (by decide) (fun c2 => ?_) (fun c2 => ?_)
      · skip
        refine r_iconst (v := 0) dX3_swapsFor_95 kI_0 ?_
        exact q_weak (lo' := [none, none, none, none, none, none, none, none]) trivial (by have h9 := hJ1; simp only [if_neg c2] at h9; first | exact h9 | (simp only [if_neg c2]; exact h9))
      · skip
        refine r_iconst (v := 1) dX3_swapsFor_91 kI_1 ?_
        refine r_goto (tgt := 96) dX3_swapsFor_92 (by decide) ?_
        exact q_weak (lo' := [none, none, none, none, none, none, none, none]) trivial (by have h9 := hJ1; simp only [if_pos c2] at h9; first | exact h9 | (simp only [if_pos c2]; exact h9))
    exact r_zret dX3_swapsFor_96 rfl (nar_z (ite01 (Or.inr rfl) (Or.inl rfl))).1 (by have h9 := h; simp only [v_X3_swapsFor, if_neg c1] at h9; first | exact h9 | (simp only [if_neg c1]; exact h9))
  · skip
    refine r_aload_n dX3_swapsFor_37 rfl ?_
    refine r_iload dX3_swapsFor_38 rfl ?_
    refine r_iload dX3_swapsFor_40 rfl ?_
    refine r_iload dX3_swapsFor_42 rfl ?_
    refine r_callV (x := 17) (As := [.int (gI M 19 (x2 - 1).toNatClampNeg), .int (v_X3_did M x3), .int (gI M 19 x2.toNatClampNeg)]) (rest := []) dX3_swapsFor_44 mk_X3_109 mv_X3_step rm_X3_swapsFor_X3_step rfl rfl (by decide +kernel) (Nat.le_of_ble_eq_true rfl) (ct_X3_step (g7 c1) (⟨_, rfl, ?_⟩))
    refine r_aload_n dX3_swapsFor_47 rfl ?_
    refine r_iload_n dX3_swapsFor_48 rfl ?_
    refine r_iconst (v := 1) dX3_swapsFor_49 kI_1 ?_
    refine r_iadd dX3_swapsFor_50 ?_
    refine r_iload_n dX3_swapsFor_51 rfl ?_
    refine r_callV (x := 17) (As := [.int (x2 + 1), .int x3]) (rest := [.int (v_X3_step M (gI M 19 (x2 - 1).toNatClampNeg) (v_X3_did M x3) (gI M 19 x2.toNatClampNeg))]) dX3_swapsFor_52 mk_X3_85 mv_X3_restOf rm_X3_swapsFor_X3_restOf rfl rfl (by decide +kernel) (Nat.le_of_ble_eq_true rfl) (ct_X3_restOf (g8 c1) (⟨_, rfl, ?_⟩))
    refine r_iadd dX3_swapsFor_55 ?_
    refine r_iload dX3_swapsFor_56 rfl ?_
    suffices hJ2 : Fw l D ad kA mX3_swapsFor 66 [none, none, none, none, none, none, none, none] [.int (if ((v_X3_step M (gI M 19 (x2 - 1).toNatClampNeg) (v_X3_did M x3) (gI M 19 x2.toNatClampNeg)) + (v_X3_restOf M (x2 + 1) x3)) = (v_X3_restOf M x2 x3) then 0 else 1)] M Q by
      refine r_icmp_eq (tgt := 65) dX3_swapsFor_58 (by decide) (fun c3 => ?_) (fun c3 => ?_)
      · skip
        refine r_iconst (v := 0) dX3_swapsFor_65 kI_0 ?_
        exact q_weak (lo' := [none, none, none, none, none, none, none, none]) trivial (by have h9 := hJ2; simp only [if_pos c3] at h9; first | exact h9 | (simp only [if_pos c3]; exact h9))
      · skip
        refine r_iconst (v := 1) dX3_swapsFor_61 kI_1 ?_
        refine r_goto (tgt := 66) dX3_swapsFor_62 (by decide) ?_
        exact q_weak (lo' := [none, none, none, none, none, none, none, none]) trivial (by have h9 := hJ2; simp only [if_neg c3] at h9; first | exact h9 | (simp only [if_neg c3]; exact h9))
    exact r_zret dX3_swapsFor_66 rfl (nar_z (ite01 (Or.inl rfl) (Or.inr rfl))).1 (by have h9 := h; simp only [v_X3_swapsFor, if_pos c1] at h9; first | exact h9 | (simp only [if_pos c1]; exact h9))
theorem z_X3_swapsFor {M : Mem} {x1 : Int32} {x2 : Int32} {x3 : Int32} : v_X3_swapsFor M x1 x2 x3 = 0 ∨ v_X3_swapsFor M x1 x2 x3 = 1 := (ite01 (ite01 (Or.inl rfl) (Or.inr rfl)) (ite01 (Or.inr rfl) (Or.inl rfl)))
theorem t_X3_keepHands_0  
    (K1 : Fw l D ad kA mX3_keepHands 2 [some (.ref (ad 17)), some (.int 0), none, none] [] M Q) : Fw l D ad kA mX3_keepHands 0 [some (.ref (ad 17)), none, none, none] [] M Q := by
  refine r_iconst (v := 0) dX3_keepHands_0 kI_0 ?_
  refine q_istore_n (lo' := [some (.ref (ad 17)), some (.int 0), none, none]) dX3_keepHands_1 (by decide) rfl ?_
  exact K1
theorem t_X3_keepHands_2 {x1 : Int32} 
    (g1 : (¬ (160 ≤ x1)) → vp_in x1 160)
    (K1 : (160 ≤ x1) → Fw l D ad kA mX3_keepHands 33 [some (.ref (ad 17)), some (.int 0), some (.int 0), some (.int 0)] [] (sI M 17 3 1) Q)
    (K2 : (¬ (160 ≤ x1)) → Fw l D ad kA mX3_keepHands 2 [some (.ref (ad 17)), some (.int (x1 + 1)), none, none] [] (sI M 18 x1.toNatClampNeg (-1)) Q) : Fw l D ad kA mX3_keepHands 2 [some (.ref (ad 17)), some (.int x1), none, none] [] M Q := by
  refine r_iload_n dX3_keepHands_2 rfl ?_
  refine r_sipush (v := 160) dX3_keepHands_3 kS_160 ?_
  refine r_icmp_ge (tgt := 22) dX3_keepHands_6 (by decide) (fun c1 => ?_) (fun c1 => ?_)
  · skip
    refine r_aload_n dX3_keepHands_22 rfl ?_
    refine r_iconst (v := 1) dX3_keepHands_23 kI_1 ?_
    refine r_putZ dX3_keepHands_24 fs_17_3 fk_X3_32 fp_X3_3 (Or.inr rfl) ?_
    refine r_iconst (v := 0) dX3_keepHands_27 kI_0 ?_
    refine q_istore_n (lo' := [some (.ref (ad 17)), some (.int 0), none, none]) dX3_keepHands_28 (by decide) rfl ?_
    refine r_iconst (v := 0) dX3_keepHands_29 kI_0 ?_
    refine q_istore_n (lo' := [some (.ref (ad 17)), some (.int 0), some (.int 0), none]) dX3_keepHands_30 (by decide) rfl ?_
    refine r_iconst (v := 0) dX3_keepHands_31 kI_0 ?_
    refine q_istore_n (lo' := [some (.ref (ad 17)), some (.int 0), some (.int 0), some (.int 0)]) dX3_keepHands_32 (by decide) rfl ?_
    exact (K1 c1)
  · skip
    refine r_aload_n dX3_keepHands_9 rfl ?_
    refine r_getR dX3_keepHands_10 fs_17_2 fk_X3_9 ?_
    refine r_iload_n dX3_keepHands_13 rfl ?_
    refine r_iconst (v := (-1)) dX3_keepHands_14 kI_m1 ?_
    refine r_iast dX3_keepHands_15 as_18 (g1 c1) ?_
    refine q_iinc (v := x1 + 1) (lo' := [some (.ref (ad 17)), some (.int (x1 + 1)), none, none]) dX3_keepHands_16 rfl (congrArg (fun q => x1 + q) kI_1) (by decide) rfl ?_
    refine r_goto (tgt := 2) dX3_keepHands_19 (by decide) ?_
    exact (K2 c1)
theorem t_X3_keepHands_33 {x1 : Int32} {x2 : Int32} {x3 : Int32} 
    (g1 : (¬ ((gI M 17 5) ≤ x3)) → (¬ (x3 ≤ 0)) → g_X3_swapsFor M x1 x3 x2)
    (g2 : (¬ ((gI M 17 5) ≤ x3)) → vp_in x3 160)
    (g3 : (¬ ((gI M 17 5) ≤ x3)) → vp_in (gI M 19 x3.toNatClampNeg) 160)
    (K1 : ((gI M 17 5) ≤ x3) → Q (.returned none) M)
    (K2 : (¬ ((gI M 17 5) ≤ x3)) → Fw l D ad kA mX3_keepHands 33 [some (.ref (ad 17)), some (.int (if x3 ≤ 0 then x1 else if (v_X3_swapsFor M x1 x3 x2) = 0 then x1 else 1 - x1)), some (.int (if x3 ≤ 0 then x2 else if (v_X3_swapsFor M x1 x3 x2) = 0 then x2 else x3)), some (.int (x3 + 1))] [] (sI M 18 (gI M 19 x3.toNatClampNeg).toNatClampNeg (if x3 ≤ 0 then x1 else if (v_X3_swapsFor M x1 x3 x2) = 0 then x1 else 1 - x1)) Q) : Fw l D ad kA mX3_keepHands 33 [some (.ref (ad 17)), some (.int x1), some (.int x2), some (.int x3)] [] M Q := by
  refine r_iload_n dX3_keepHands_33 rfl ?_
  refine r_aload_n dX3_keepHands_34 rfl ?_
  refine r_getI dX3_keepHands_35 fs_17_5 fk_X3_52 ?_
  refine r_icmp_ge (tgt := 79) dX3_keepHands_38 (by decide) (fun c1 => ?_) (fun c1 => ?_)
  · skip
    exact r_vret dX3_keepHands_79 rfl (K1 c1)
  · skip
    refine r_iload_n dX3_keepHands_41 rfl ?_
    suffices hJ1 : Fw l D ad kA mX3_keepHands 61 [some (.ref (ad 17)), some (.int (if x3 ≤ 0 then x1 else if (v_X3_swapsFor M x1 x3 x2) = 0 then x1 else 1 - x1)), some (.int (if x3 ≤ 0 then x2 else if (v_X3_swapsFor M x1 x3 x2) = 0 then x2 else x3)), some (.int x3)] [] M Q by
      refine r_if_le (tgt := 61) dX3_keepHands_42 (by decide) (fun c2 => ?_) (fun c2 => ?_)
      · skip
        exact q_weak (lo' := [some (.ref (ad 17)), some (.int x1), some (.int x2), some (.int x3)]) ⟨rfl, rfl, rfl, rfl, trivial⟩ (by have h9 := hJ1; simp only [if_pos c2] at h9; first | exact h9 | (simp only [if_pos c2]; exact h9))
      · skip
        refine r_aload_n dX3_keepHands_45 rfl ?_
        refine r_iload_n dX3_keepHands_46 rfl ?_
        refine r_iload_n dX3_keepHands_47 rfl ?_
        refine r_iload_n dX3_keepHands_48 rfl ?_
        refine r_callV (x := 17) (As := [.int x1, .int x3, .int x2]) (rest := []) dX3_keepHands_49 mk_X3_137 mv_X3_swapsFor rm_X3_keepHands_X3_swapsFor rfl rfl (by decide +kernel) (Nat.le_of_ble_eq_true rfl) (ct_X3_swapsFor (g1 c1 c2) (⟨_, rfl, ?_⟩))
        refine r_if_eq (tgt := 61) dX3_keepHands_52 (by decide) (fun c3 => ?_) (fun c3 => ?_)
        · skip
          exact q_weak (lo' := [some (.ref (ad 17)), some (.int x1), some (.int x2), some (.int x3)]) ⟨rfl, rfl, rfl, rfl, trivial⟩ (by have h9 := hJ1; simp only [if_neg c2, if_pos c3] at h9; first | exact h9 | (simp only [if_neg c2, if_pos c3]; exact h9))
        · skip
          refine r_iconst (v := 1) dX3_keepHands_55 kI_1 ?_
          refine r_iload_n dX3_keepHands_56 rfl ?_
          refine r_isub dX3_keepHands_57 ?_
          refine q_istore_n (lo' := [some (.ref (ad 17)), some (.int (1 - x1)), some (.int x2), some (.int x3)]) dX3_keepHands_58 (by decide) rfl ?_
          refine r_iload_n dX3_keepHands_59 rfl ?_
          refine q_istore_n (lo' := [some (.ref (ad 17)), some (.int (1 - x1)), some (.int x3), some (.int x3)]) dX3_keepHands_60 (by decide) rfl ?_
          exact q_weak (lo' := [some (.ref (ad 17)), some (.int (1 - x1)), some (.int x3), some (.int x3)]) ⟨rfl, rfl, rfl, rfl, trivial⟩ (by have h9 := hJ1; simp only [if_neg c2, if_neg c3] at h9; first | exact h9 | (simp only [if_neg c2, if_neg c3]; exact h9))
    refine r_aload_n dX3_keepHands_61 rfl ?_
    refine r_getR dX3_keepHands_62 fs_17_2 fk_X3_9 ?_
    refine r_aload_n dX3_keepHands_65 rfl ?_
    refine r_getR dX3_keepHands_66 fs_17_4 fk_X3_15 ?_
    refine r_iload_n dX3_keepHands_69 rfl ?_
    refine r_iald dX3_keepHands_70 as_19 (g2 c1) ?_
    refine r_iload_n dX3_keepHands_71 rfl ?_
    refine r_iast dX3_keepHands_72 as_18 (g3 c1) ?_
    refine q_iinc (v := x3 + 1) (lo' := [some (.ref (ad 17)), some (.int (if x3 ≤ 0 then x1 else if (v_X3_swapsFor M x1 x3 x2) = 0 then x1 else 1 - x1)), some (.int (if x3 ≤ 0 then x2 else if (v_X3_swapsFor M x1 x3 x2) = 0 then x2 else x3)), some (.int (x3 + 1))]) dX3_keepHands_73 rfl (congrArg (fun q => x3 + q) kI_1) (by decide) rfl ?_
    refine r_goto (tgt := 33) dX3_keepHands_76 (by decide) ?_
    exact (K2 c1)
theorem en_X3_keepHands  (K : Fw l D ad kA mX3_keepHands 0 [some (.ref (ad 17)), none, none, none] [] M Q) : Cal l D ad kA mX3_keepHands [.ref (ad 17)] M Q := Cal.of (by decide) rfl rfl (Nat.le_of_ble_eq_true rfl) K
end W_hands
end
section
/-! Hands: decode rows, links, walks from cut to cut (printed by wip/gen) -/
theorem dX3_stepForth_0 : decode cX3_stepForth 0 = .ok (.aload_n 0, 1) := by decide +kernel
theorem dX3_stepForth_1 : decode cX3_stepForth 1 = .ok (.getfield 15, 3) := by decide +kernel
theorem dX3_stepForth_4 : decode cX3_stepForth 4 = .ok (.iload_n 1, 1) := by decide +kernel
theorem dX3_stepForth_5 : decode cX3_stepForth 5 = .ok (.iaload, 1) := by decide +kernel
theorem dX3_stepForth_6 : decode cX3_stepForth 6 = .ok (.istore_n 2, 1) := by decide +kernel
theorem dX3_stepForth_7 : decode cX3_stepForth 7 = .ok (.aload_n 0, 1) := by decide +kernel
theorem dX3_stepForth_8 : decode cX3_stepForth 8 = .ok (.iload_n 1, 1) := by decide +kernel
theorem dX3_stepForth_9 : decode cX3_stepForth 9 = .ok (.invokevirtual 100, 3) := by decide +kernel
theorem dX3_stepForth_12 : decode cX3_stepForth 12 = .ok (.istore_n 3, 1) := by decide +kernel
theorem dX3_stepForth_13 : decode cX3_stepForth 13 = .ok (.ldc 48, 2) := by decide +kernel
theorem dX3_stepForth_15 : decode cX3_stepForth 15 = .ok (.istore 4, 2) := by decide +kernel
theorem dX3_stepForth_17 : decode cX3_stepForth 17 = .ok (.iconst 0, 1) := by decide +kernel
theorem dX3_stepForth_18 : decode cX3_stepForth 18 = .ok (.istore 5, 2) := by decide +kernel
theorem dX3_stepForth_20 : decode cX3_stepForth 20 = .ok (.iload 5, 2) := by decide +kernel
theorem dX3_stepForth_22 : decode cX3_stepForth 22 = .ok (.iload_n 1, 1) := by decide +kernel
theorem dX3_stepForth_23 : decode cX3_stepForth 23 = .ok (.invokestatic 106, 3) := by decide +kernel
theorem dX3_stepForth_26 : decode cX3_stepForth 26 = .ok (.if_icmp .ge 68, 3) := by decide +kernel
theorem dX3_stepForth_29 : decode cX3_stepForth 29 = .ok (.aload_n 0, 1) := by decide +kernel
theorem dX3_stepForth_30 : decode cX3_stepForth 30 = .ok (.iload 5, 2) := by decide +kernel
theorem dX3_stepForth_32 : decode cX3_stepForth 32 = .ok (.invokevirtual 100, 3) := by decide +kernel
theorem dX3_stepForth_35 : decode cX3_stepForth 35 = .ok (.istore 6, 2) := by decide +kernel
theorem dX3_stepForth_37 : decode cX3_stepForth 37 = .ok (.iload 4, 2) := by decide +kernel
theorem dX3_stepForth_39 : decode cX3_stepForth 39 = .ok (.aload_n 0, 1) := by decide +kernel
theorem dX3_stepForth_40 : decode cX3_stepForth 40 = .ok (.getfield 21, 3) := by decide +kernel
theorem dX3_stepForth_43 : decode cX3_stepForth 43 = .ok (.iload 5, 2) := by decide +kernel
theorem dX3_stepForth_45 : decode cX3_stepForth 45 = .ok (.iaload, 1) := by decide +kernel
theorem dX3_stepForth_46 : decode cX3_stepForth 46 = .ok (.aload_n 0, 1) := by decide +kernel
theorem dX3_stepForth_47 : decode cX3_stepForth 47 = .ok (.iload 6, 2) := by decide +kernel
theorem dX3_stepForth_49 : decode cX3_stepForth 49 = .ok (.iload_n 3, 1) := by decide +kernel
theorem dX3_stepForth_50 : decode cX3_stepForth 50 = .ok (.iload_n 2, 1) := by decide +kernel
theorem dX3_stepForth_51 : decode cX3_stepForth 51 = .ok (.invokevirtual 109, 3) := by decide +kernel
theorem dX3_stepForth_54 : decode cX3_stepForth 54 = .ok (.iadd, 1) := by decide +kernel
theorem dX3_stepForth_55 : decode cX3_stepForth 55 = .ok (.invokestatic 103, 3) := by decide +kernel
theorem dX3_stepForth_58 : decode cX3_stepForth 58 = .ok (.istore 4, 2) := by decide +kernel
theorem dX3_stepForth_60 : decode cX3_stepForth 60 = .ok (.aload_n 0, 1) := by decide +kernel
theorem dX3_stepForth_61 : decode cX3_stepForth 61 = .ok (.getfield 21, 3) := by decide +kernel
theorem dX3_stepForth_64 : decode cX3_stepForth 64 = .ok (.iload 5, 2) := by decide +kernel
theorem dX3_stepForth_66 : decode cX3_stepForth 66 = .ok (.ldc 48, 2) := by decide +kernel
theorem dX3_stepForth_68 : decode cX3_stepForth 68 = .ok (.aload_n 0, 1) := by decide +kernel
theorem dX3_stepForth_69 : decode cX3_stepForth 69 = .ok (.getfield 21, 3) := by decide +kernel
theorem dX3_stepForth_72 : decode cX3_stepForth 72 = .ok (.iload 5, 2) := by decide +kernel
theorem dX3_stepForth_74 : decode cX3_stepForth 74 = .ok (.iaload, 1) := by decide +kernel
theorem dX3_stepForth_75 : decode cX3_stepForth 75 = .ok (.aload_n 0, 1) := by decide +kernel
theorem dX3_stepForth_76 : decode cX3_stepForth 76 = .ok (.iload_n 3, 1) := by decide +kernel
theorem dX3_stepForth_77 : decode cX3_stepForth 77 = .ok (.iload 6, 2) := by decide +kernel
theorem dX3_stepForth_79 : decode cX3_stepForth 79 = .ok (.iload_n 2, 1) := by decide +kernel
theorem dX3_stepForth_80 : decode cX3_stepForth 80 = .ok (.invokevirtual 109, 3) := by decide +kernel
theorem dX3_stepForth_83 : decode cX3_stepForth 83 = .ok (.iadd, 1) := by decide +kernel
theorem dX3_stepForth_84 : decode cX3_stepForth 84 = .ok (.invokestatic 103, 3) := by decide +kernel
theorem dX3_stepForth_87 : decode cX3_stepForth 87 = .ok (.iastore, 1) := by decide +kernel
theorem dX3_stepForth_88 : decode cX3_stepForth 88 = .ok (.iinc 5 1, 3) := by decide +kernel
theorem dX3_stepForth_91 : decode cX3_stepForth 91 = .ok (.goto (-71), 3) := by decide +kernel
theorem dX3_stepForth_94 : decode cX3_stepForth 94 = .ok (.iload_n 1, 1) := by decide +kernel
theorem dX3_stepForth_95 : decode cX3_stepForth 95 = .ok (.ifCond .le 11, 3) := by decide +kernel
theorem dX3_stepForth_98 : decode cX3_stepForth 98 = .ok (.aload_n 0, 1) := by decide +kernel
theorem dX3_stepForth_99 : decode cX3_stepForth 99 = .ok (.getfield 21, 3) := by decide +kernel
theorem dX3_stepForth_102 : decode cX3_stepForth 102 = .ok (.iload_n 1, 1) := by decide +kernel
theorem dX3_stepForth_103 : decode cX3_stepForth 103 = .ok (.iload 4, 2) := by decide +kernel
theorem dX3_stepForth_105 : decode cX3_stepForth 105 = .ok (.iastore, 1) := by decide +kernel
theorem dX3_stepForth_106 : decode cX3_stepForth 106 = .ok (.return_, 1) := by decide +kernel
theorem dX3_takesSkipping_0 : decode cX3_takesSkipping 0 = .ok (.aload_n 0, 1) := by decide +kernel
theorem dX3_takesSkipping_1 : decode cX3_takesSkipping 1 = .ok (.iload_n 1, 1) := by decide +kernel
theorem dX3_takesSkipping_2 : decode cX3_takesSkipping 2 = .ok (.invokevirtual 100, 3) := by decide +kernel
theorem dX3_takesSkipping_5 : decode cX3_takesSkipping 5 = .ok (.istore_n 2, 1) := by decide +kernel
theorem dX3_takesSkipping_6 : decode cX3_takesSkipping 6 = .ok (.ldc 48, 2) := by decide +kernel
theorem dX3_takesSkipping_8 : decode cX3_takesSkipping 8 = .ok (.istore_n 3, 1) := by decide +kernel
theorem dX3_takesSkipping_9 : decode cX3_takesSkipping 9 = .ok (.iconst 0, 1) := by decide +kernel
theorem dX3_takesSkipping_10 : decode cX3_takesSkipping 10 = .ok (.istore 4, 2) := by decide +kernel
theorem dX3_takesSkipping_12 : decode cX3_takesSkipping 12 = .ok (.iload 4, 2) := by decide +kernel
theorem dX3_takesSkipping_14 : decode cX3_takesSkipping 14 = .ok (.iload_n 1, 1) := by decide +kernel
theorem dX3_takesSkipping_15 : decode cX3_takesSkipping 15 = .ok (.invokestatic 106, 3) := by decide +kernel
theorem dX3_takesSkipping_18 : decode cX3_takesSkipping 18 = .ok (.if_icmp .ge 105, 3) := by decide +kernel
theorem dX3_takesSkipping_21 : decode cX3_takesSkipping 21 = .ok (.aload_n 0, 1) := by decide +kernel
theorem dX3_takesSkipping_22 : decode cX3_takesSkipping 22 = .ok (.iload 4, 2) := by decide +kernel
theorem dX3_takesSkipping_24 : decode cX3_takesSkipping 24 = .ok (.invokevirtual 100, 3) := by decide +kernel
theorem dX3_takesSkipping_27 : decode cX3_takesSkipping 27 = .ok (.istore 5, 2) := by decide +kernel
theorem dX3_takesSkipping_29 : decode cX3_takesSkipping 29 = .ok (.iconst 0, 1) := by decide +kernel
theorem dX3_takesSkipping_30 : decode cX3_takesSkipping 30 = .ok (.istore 6, 2) := by decide +kernel
theorem dX3_takesSkipping_32 : decode cX3_takesSkipping 32 = .ok (.iload_n 1, 1) := by decide +kernel
theorem dX3_takesSkipping_33 : decode cX3_takesSkipping 33 = .ok (.iconst 1, 1) := by decide +kernel
theorem dX3_takesSkipping_34 : decode cX3_takesSkipping 34 = .ok (.iadd, 1) := by decide +kernel
theorem dX3_takesSkipping_35 : decode cX3_takesSkipping 35 = .ok (.aload_n 0, 1) := by decide +kernel
theorem dX3_takesSkipping_36 : decode cX3_takesSkipping 36 = .ok (.getfield 52, 3) := by decide +kernel
theorem dX3_takesSkipping_39 : decode cX3_takesSkipping 39 = .ok (.if_icmp .ge 63, 3) := by decide +kernel
theorem dX3_takesSkipping_42 : decode cX3_takesSkipping 42 = .ok (.aload_n 0, 1) := by decide +kernel
theorem dX3_takesSkipping_43 : decode cX3_takesSkipping 43 = .ok (.getfield 15, 3) := by decide +kernel
theorem dX3_takesSkipping_46 : decode cX3_takesSkipping 46 = .ok (.iload_n 1, 1) := by decide +kernel
theorem dX3_takesSkipping_47 : decode cX3_takesSkipping 47 = .ok (.iconst 1, 1) := by decide +kernel
theorem dX3_takesSkipping_48 : decode cX3_takesSkipping 48 = .ok (.iadd, 1) := by decide +kernel
theorem dX3_takesSkipping_49 : decode cX3_takesSkipping 49 = .ok (.iaload, 1) := by decide +kernel
theorem dX3_takesSkipping_50 : decode cX3_takesSkipping 50 = .ok (.istore 7, 2) := by decide +kernel
theorem dX3_takesSkipping_52 : decode cX3_takesSkipping 52 = .ok (.aload_n 0, 1) := by decide +kernel
theorem dX3_takesSkipping_53 : decode cX3_takesSkipping 53 = .ok (.iload_n 2, 1) := by decide +kernel
theorem dX3_takesSkipping_54 : decode cX3_takesSkipping 54 = .ok (.iload 5, 2) := by decide +kernel
theorem dX3_takesSkipping_56 : decode cX3_takesSkipping 56 = .ok (.iload 7, 2) := by decide +kernel
theorem dX3_takesSkipping_58 : decode cX3_takesSkipping 58 = .ok (.invokevirtual 109, 3) := by decide +kernel
theorem dX3_takesSkipping_61 : decode cX3_takesSkipping 61 = .ok (.aload_n 0, 1) := by decide +kernel
theorem dX3_takesSkipping_62 : decode cX3_takesSkipping 62 = .ok (.iload_n 1, 1) := by decide +kernel
theorem dX3_takesSkipping_63 : decode cX3_takesSkipping 63 = .ok (.iconst 2, 1) := by decide +kernel
theorem dX3_takesSkipping_64 : decode cX3_takesSkipping 64 = .ok (.iadd, 1) := by decide +kernel
theorem dX3_takesSkipping_65 : decode cX3_takesSkipping 65 = .ok (.iload 4, 2) := by decide +kernel
theorem dX3_takesSkipping_67 : decode cX3_takesSkipping 67 = .ok (.invokevirtual 85, 3) := by decide +kernel
theorem dX3_takesSkipping_70 : decode cX3_takesSkipping 70 = .ok (.iadd, 1) := by decide +kernel
theorem dX3_takesSkipping_71 : decode cX3_takesSkipping 71 = .ok (.istore 8, 2) := by decide +kernel
theorem dX3_takesSkipping_73 : decode cX3_takesSkipping 73 = .ok (.aload_n 0, 1) := by decide +kernel
theorem dX3_takesSkipping_74 : decode cX3_takesSkipping 74 = .ok (.iload 5, 2) := by decide +kernel
theorem dX3_takesSkipping_76 : decode cX3_takesSkipping 76 = .ok (.iload_n 2, 1) := by decide +kernel
theorem dX3_takesSkipping_77 : decode cX3_takesSkipping 77 = .ok (.iload 7, 2) := by decide +kernel
theorem dX3_takesSkipping_79 : decode cX3_takesSkipping 79 = .ok (.invokevirtual 109, 3) := by decide +kernel
theorem dX3_takesSkipping_82 : decode cX3_takesSkipping 82 = .ok (.aload_n 0, 1) := by decide +kernel
theorem dX3_takesSkipping_83 : decode cX3_takesSkipping 83 = .ok (.iload_n 1, 1) := by decide +kernel
theorem dX3_takesSkipping_84 : decode cX3_takesSkipping 84 = .ok (.iconst 2, 1) := by decide +kernel
theorem dX3_takesSkipping_85 : decode cX3_takesSkipping 85 = .ok (.iadd, 1) := by decide +kernel
theorem dX3_takesSkipping_86 : decode cX3_takesSkipping 86 = .ok (.iload_n 1, 1) := by decide +kernel
theorem dX3_takesSkipping_87 : decode cX3_takesSkipping 87 = .ok (.invokevirtual 85, 3) := by decide +kernel
theorem dX3_takesSkipping_90 : decode cX3_takesSkipping 90 = .ok (.iadd, 1) := by decide +kernel
theorem dX3_takesSkipping_91 : decode cX3_takesSkipping 91 = .ok (.istore 9, 2) := by decide +kernel
theorem dX3_takesSkipping_93 : decode cX3_takesSkipping 93 = .ok (.iload 8, 2) := by decide +kernel
theorem dX3_takesSkipping_95 : decode cX3_takesSkipping 95 = .ok (.iload 9, 2) := by decide +kernel
theorem dX3_takesSkipping_97 : decode cX3_takesSkipping 97 = .ok (.invokestatic 103, 3) := by decide +kernel
theorem dX3_takesSkipping_100 : decode cX3_takesSkipping 100 = .ok (.istore 6, 2) := by decide +kernel
theorem dX3_takesSkipping_102 : decode cX3_takesSkipping 102 = .ok (.iload_n 3, 1) := by decide +kernel
theorem dX3_takesSkipping_103 : decode cX3_takesSkipping 103 = .ok (.aload_n 0, 1) := by decide +kernel
theorem dX3_takesSkipping_104 : decode cX3_takesSkipping 104 = .ok (.getfield 21, 3) := by decide +kernel
theorem dX3_takesSkipping_107 : decode cX3_takesSkipping 107 = .ok (.iload 4, 2) := by decide +kernel
theorem dX3_takesSkipping_109 : decode cX3_takesSkipping 109 = .ok (.iaload, 1) := by decide +kernel
theorem dX3_takesSkipping_110 : decode cX3_takesSkipping 110 = .ok (.iload 6, 2) := by decide +kernel
theorem dX3_takesSkipping_112 : decode cX3_takesSkipping 112 = .ok (.iadd, 1) := by decide +kernel
theorem dX3_takesSkipping_113 : decode cX3_takesSkipping 113 = .ok (.invokestatic 103, 3) := by decide +kernel
theorem dX3_takesSkipping_116 : decode cX3_takesSkipping 116 = .ok (.istore_n 3, 1) := by decide +kernel
theorem dX3_takesSkipping_117 : decode cX3_takesSkipping 117 = .ok (.iinc 4 1, 3) := by decide +kernel
theorem dX3_takesSkipping_120 : decode cX3_takesSkipping 120 = .ok (.goto (-108), 3) := by decide +kernel
theorem dX3_takesSkipping_123 : decode cX3_takesSkipping 123 = .ok (.iload_n 3, 1) := by decide +kernel
theorem dX3_takesSkipping_124 : decode cX3_takesSkipping 124 = .ok (.ireturn, 1) := by decide +kernel
theorem dX3_restBeside_0 : decode cX3_restBeside 0 = .ok (.iconst 0, 1) := by decide +kernel
theorem dX3_restBeside_1 : decode cX3_restBeside 1 = .ok (.istore_n 3, 1) := by decide +kernel
theorem dX3_restBeside_2 : decode cX3_restBeside 2 = .ok (.aload_n 0, 1) := by decide +kernel
theorem dX3_restBeside_3 : decode cX3_restBeside 3 = .ok (.getfield 52, 3) := by decide +kernel
theorem dX3_restBeside_6 : decode cX3_restBeside 6 = .ok (.iconst 1, 1) := by decide +kernel
theorem dX3_restBeside_7 : decode cX3_restBeside 7 = .ok (.isub, 1) := by decide +kernel
theorem dX3_restBeside_8 : decode cX3_restBeside 8 = .ok (.istore 4, 2) := by decide +kernel
theorem dX3_restBeside_10 : decode cX3_restBeside 10 = .ok (.iload 4, 2) := by decide +kernel
theorem dX3_restBeside_12 : decode cX3_restBeside 12 = .ok (.iload_n 2, 1) := by decide +kernel
theorem dX3_restBeside_13 : decode cX3_restBeside 13 = .ok (.if_icmp .lt 81, 3) := by decide +kernel
theorem dX3_restBeside_16 : decode cX3_restBeside 16 = .ok (.aload_n 0, 1) := by decide +kernel
theorem dX3_restBeside_17 : decode cX3_restBeside 17 = .ok (.aload_n 0, 1) := by decide +kernel
theorem dX3_restBeside_18 : decode cX3_restBeside 18 = .ok (.getfield 15, 3) := by decide +kernel
theorem dX3_restBeside_21 : decode cX3_restBeside 21 = .ok (.iload 4, 2) := by decide +kernel
theorem dX3_restBeside_23 : decode cX3_restBeside 23 = .ok (.iconst 1, 1) := by decide +kernel
theorem dX3_restBeside_24 : decode cX3_restBeside 24 = .ok (.isub, 1) := by decide +kernel
theorem dX3_restBeside_25 : decode cX3_restBeside 25 = .ok (.iaload, 1) := by decide +kernel
theorem dX3_restBeside_26 : decode cX3_restBeside 26 = .ok (.iload_n 1, 1) := by decide +kernel
theorem dX3_restBeside_27 : decode cX3_restBeside 27 = .ok (.aload_n 0, 1) := by decide +kernel
theorem dX3_restBeside_28 : decode cX3_restBeside 28 = .ok (.getfield 15, 3) := by decide +kernel
theorem dX3_restBeside_31 : decode cX3_restBeside 31 = .ok (.iload 4, 2) := by decide +kernel
theorem dX3_restBeside_33 : decode cX3_restBeside 33 = .ok (.iaload, 1) := by decide +kernel
theorem dX3_restBeside_34 : decode cX3_restBeside 34 = .ok (.invokevirtual 109, 3) := by decide +kernel
theorem dX3_restBeside_37 : decode cX3_restBeside 37 = .ok (.iload_n 3, 1) := by decide +kernel
theorem dX3_restBeside_38 : decode cX3_restBeside 38 = .ok (.iadd, 1) := by decide +kernel
theorem dX3_restBeside_39 : decode cX3_restBeside 39 = .ok (.istore 5, 2) := by decide +kernel
theorem dX3_restBeside_41 : decode cX3_restBeside 41 = .ok (.aload_n 0, 1) := by decide +kernel
theorem dX3_restBeside_42 : decode cX3_restBeside 42 = .ok (.iload_n 1, 1) := by decide +kernel
theorem dX3_restBeside_43 : decode cX3_restBeside 43 = .ok (.aload_n 0, 1) := by decide +kernel
theorem dX3_restBeside_44 : decode cX3_restBeside 44 = .ok (.getfield 15, 3) := by decide +kernel
theorem dX3_restBeside_47 : decode cX3_restBeside 47 = .ok (.iload 4, 2) := by decide +kernel
theorem dX3_restBeside_49 : decode cX3_restBeside 49 = .ok (.iconst 1, 1) := by decide +kernel
theorem dX3_restBeside_50 : decode cX3_restBeside 50 = .ok (.isub, 1) := by decide +kernel
theorem dX3_restBeside_51 : decode cX3_restBeside 51 = .ok (.iaload, 1) := by decide +kernel
theorem dX3_restBeside_52 : decode cX3_restBeside 52 = .ok (.aload_n 0, 1) := by decide +kernel
theorem dX3_restBeside_53 : decode cX3_restBeside 53 = .ok (.getfield 15, 3) := by decide +kernel
theorem dX3_restBeside_56 : decode cX3_restBeside 56 = .ok (.iload 4, 2) := by decide +kernel
theorem dX3_restBeside_58 : decode cX3_restBeside 58 = .ok (.iaload, 1) := by decide +kernel
theorem dX3_restBeside_59 : decode cX3_restBeside 59 = .ok (.invokevirtual 109, 3) := by decide +kernel
theorem dX3_restBeside_62 : decode cX3_restBeside 62 = .ok (.aload_n 0, 1) := by decide +kernel
theorem dX3_restBeside_63 : decode cX3_restBeside 63 = .ok (.iload 4, 2) := by decide +kernel
theorem dX3_restBeside_65 : decode cX3_restBeside 65 = .ok (.iconst 1, 1) := by decide +kernel
theorem dX3_restBeside_66 : decode cX3_restBeside 66 = .ok (.iadd, 1) := by decide +kernel
theorem dX3_restBeside_67 : decode cX3_restBeside 67 = .ok (.iload 4, 2) := by decide +kernel
theorem dX3_restBeside_69 : decode cX3_restBeside 69 = .ok (.invokevirtual 85, 3) := by decide +kernel
theorem dX3_restBeside_72 : decode cX3_restBeside 72 = .ok (.iadd, 1) := by decide +kernel
theorem dX3_restBeside_73 : decode cX3_restBeside 73 = .ok (.istore 6, 2) := by decide +kernel
theorem dX3_restBeside_75 : decode cX3_restBeside 75 = .ok (.ldc 48, 2) := by decide +kernel
theorem dX3_restBeside_77 : decode cX3_restBeside 77 = .ok (.iload 5, 2) := by decide +kernel
theorem dX3_restBeside_79 : decode cX3_restBeside 79 = .ok (.iload 6, 2) := by decide +kernel
theorem dX3_restBeside_81 : decode cX3_restBeside 81 = .ok (.invokestatic 103, 3) := by decide +kernel
theorem dX3_restBeside_84 : decode cX3_restBeside 84 = .ok (.invokestatic 103, 3) := by decide +kernel
theorem dX3_restBeside_87 : decode cX3_restBeside 87 = .ok (.istore_n 3, 1) := by decide +kernel
theorem dX3_restBeside_88 : decode cX3_restBeside 88 = .ok (.iinc 4 (-1), 3) := by decide +kernel
theorem dX3_restBeside_91 : decode cX3_restBeside 91 = .ok (.goto (-81), 3) := by decide +kernel
theorem dX3_restBeside_94 : decode cX3_restBeside 94 = .ok (.iload_n 3, 1) := by decide +kernel
theorem dX3_restBeside_95 : decode cX3_restBeside 95 = .ok (.ireturn, 1) := by decide +kernel
abbrev mX3_stepForth : MI := (yX3_stepForth, cX3_stepForth, 7, none, 3, 70, [])
abbrev mX3_takesSkipping : MI := (yX3_takesSkipping, cX3_takesSkipping, 10, some .int, 3, 70, [])
abbrev mX3_restBeside : MI := (yX3_restBeside, cX3_restBeside, 7, some .int, 3, 70, [])
theorem fk_X3_21 : Fk RX3 21 3 8 := ⟨RX3, TX3, 9, tyX3, rfl, inX3, by decide, lw_in (i := 191) (by decide +kernel) (by decide +kernel), tyX3_ok, nmX3⟩
theorem ms_X3_others : Cond.static mX3_others.y ∈ lw_w := lw_in (i := 880) (by decide +kernel) (by decide +kernel)
theorem mk_X3_106 : Mk RX3 106 mX3_others 1 := ⟨lw_in (i := 879) (by decide +kernel) (by decide +kernel), lw_in (i := 7) (by decide +kernel) (by decide +kernel), lw_in (i := 881) (by decide +kernel) (by decide +kernel), by decide +kernel⟩
theorem rm_X3_restBeside_X3_restOf : Rm mX3_restBeside mX3_restOf := ⟨by decide, by decide⟩
theorem rm_X3_restBeside_X3_step : Rm mX3_restBeside mX3_step := ⟨by decide, by decide⟩
theorem rm_X3_stepForth_X3_did : Rm mX3_stepForth mX3_did := ⟨by decide, by decide⟩
theorem rm_X3_stepForth_X3_others : Rm mX3_stepForth mX3_others := ⟨by decide, by decide⟩
theorem rm_X3_stepForth_X3_step : Rm mX3_stepForth mX3_step := ⟨by decide, by decide⟩
theorem rm_X3_takesSkipping_X3_did : Rm mX3_takesSkipping mX3_did := ⟨by decide, by decide⟩
theorem rm_X3_takesSkipping_X3_others : Rm mX3_takesSkipping mX3_others := ⟨by decide, by decide⟩
theorem rm_X3_takesSkipping_X3_restOf : Rm mX3_takesSkipping mX3_restOf := ⟨by decide, by decide⟩
theorem rm_X3_takesSkipping_X3_step : Rm mX3_takesSkipping mX3_step := ⟨by decide, by decide⟩
section W_hands
variable {l : Launch} {D : va_G} {ad : Nat → Nat} {kA : Nat → ClassId} {M : Mem} {Q : Outcome → Mem → Prop}
theorem t_X3_stepForth_0 {x1 : Int32} 
    (g1 : vp_in x1 160)
    (g2 : g_X3_did M x1)
    (K1 : Fw l D ad kA mX3_stepForth 20 [some (.ref (ad 17)), some (.int x1), some (.int (gI M 19 x1.toNatClampNeg)), some (.int (v_X3_did M x1)), some (.int 16777216), some (.int 0), none] [] M Q) : Fw l D ad kA mX3_stepForth 0 [some (.ref (ad 17)), some (.int x1), none, none, none, none, none] [] M Q := by
  refine r_aload_n dX3_stepForth_0 rfl ?_
  refine r_getR dX3_stepForth_1 fs_17_4 fk_X3_15 ?_
  refine r_iload_n dX3_stepForth_4 rfl ?_
  refine r_iald dX3_stepForth_5 as_19 g1 ?_
  refine q_istore_n (lo' := [some (.ref (ad 17)), some (.int x1), some (.int (gI M 19 x1.toNatClampNeg)), none, none, none, none]) dX3_stepForth_6 (by decide) rfl ?_
  refine r_aload_n dX3_stepForth_7 rfl ?_
  refine r_iload_n dX3_stepForth_8 rfl ?_
  refine r_callV (x := 17) (As := [.int x1]) (rest := []) dX3_stepForth_9 mk_X3_100 mv_X3_did rm_X3_stepForth_X3_did rfl rfl (by decide +kernel) (Nat.le_of_ble_eq_true rfl) (ct_X3_did g2 (⟨_, rfl, ?_⟩))
  refine q_istore_n (lo' := [some (.ref (ad 17)), some (.int x1), some (.int (gI M 19 x1.toNatClampNeg)), some (.int (v_X3_did M x1)), none, none, none]) dX3_stepForth_12 (by decide) rfl ?_
  refine r_ldc (v := 16777216) dX3_stepForth_13 co_X3_48 ?_
  refine q_istore (lo' := [some (.ref (ad 17)), some (.int x1), some (.int (gI M 19 x1.toNatClampNeg)), some (.int (v_X3_did M x1)), some (.int 16777216), none, none]) dX3_stepForth_15 (by decide) rfl ?_
  refine r_iconst (v := 0) dX3_stepForth_17 kI_0 ?_
  refine q_istore (lo' := [some (.ref (ad 17)), some (.int x1), some (.int (gI M 19 x1.toNatClampNeg)), some (.int (v_X3_did M x1)), some (.int 16777216), some (.int 0), none]) dX3_stepForth_18 (by decide) rfl ?_
  exact K1
theorem t_X3_stepForth_20 {x1 : Int32} {x2 : Int32} {x3 : Int32} {x4 : Int32} {x5 : Int32} 
    (g1 : ((v_X3_others x1) ≤ x5) → (¬ (x1 ≤ 0)) → vp_in x1 160)
    (g2 : (¬ ((v_X3_others x1) ≤ x5)) → g_X3_did M x5)
    (g3 : (¬ ((v_X3_others x1) ≤ x5)) → vp_in x5 160)
    (g4 : (¬ ((v_X3_others x1) ≤ x5)) → g_X3_step M (v_X3_did M x5) x3 x2)
    (g5 : (¬ ((v_X3_others x1) ≤ x5)) → g_X3_step M x3 (v_X3_did M x5) x2)
    (K1 : ((v_X3_others x1) ≤ x5) → (x1 ≤ 0) → Q (.returned none) M)
    (K2 : ((v_X3_others x1) ≤ x5) → (¬ (x1 ≤ 0)) → Q (.returned none) (sI M 21 x1.toNatClampNeg x4))
    (K3 : (¬ ((v_X3_others x1) ≤ x5)) → Fw l D ad kA mX3_stepForth 20 [some (.ref (ad 17)), some (.int x1), some (.int x2), some (.int x3), some (.int (imin x4 ((gI M 21 x5.toNatClampNeg) + (v_X3_step M (v_X3_did M x5) x3 x2)))), some (.int (x5 + 1)), none] [] (sI M 21 x5.toNatClampNeg (imin 16777216 ((gI M 21 x5.toNatClampNeg) + (v_X3_step M x3 (v_X3_did M x5) x2)))) Q) : Fw l D ad kA mX3_stepForth 20 [some (.ref (ad 17)), some (.int x1), some (.int x2), some (.int x3), some (.int x4), some (.int x5), none] [] M Q := by
  refine r_iload dX3_stepForth_20 rfl ?_
  refine r_iload_n dX3_stepForth_22 rfl ?_
  refine r_callS (As := [.int x1]) (rest := [.int x5]) dX3_stepForth_23 mk_X3_106 ms_X3_others rm_X3_stepForth_X3_others rfl rfl (Nat.le_of_ble_eq_true rfl) (ct_X3_others (⟨_, rfl, ?_⟩))
  refine r_icmp_ge (tgt := 94) dX3_stepForth_26 (by decide) (fun c1 => ?_) (fun c1 => ?_)
  · skip
    refine r_iload_n dX3_stepForth_94 rfl ?_
    refine r_if_le (tgt := 106) dX3_stepForth_95 (by decide) (fun c2 => ?_) (fun c2 => ?_)
    · skip
      exact r_vret dX3_stepForth_106 rfl (K1 c1 c2)
    · skip
      refine r_aload_n dX3_stepForth_98 rfl ?_
      refine r_getR dX3_stepForth_99 fs_17_8 fk_X3_21 ?_
      refine r_iload_n dX3_stepForth_102 rfl ?_
      refine r_iload dX3_stepForth_103 rfl ?_
      refine r_iast dX3_stepForth_105 as_21 (g1 c1 c2) ?_
      exact r_vret dX3_stepForth_106 rfl (K2 c1 c2)
  · skip
    refine r_aload_n dX3_stepForth_29 rfl ?_
    refine r_iload dX3_stepForth_30 rfl ?_
    refine r_callV (x := 17) (As := [.int x5]) (rest := []) dX3_stepForth_32 mk_X3_100 mv_X3_did rm_X3_stepForth_X3_did rfl rfl (by decide +kernel) (Nat.le_of_ble_eq_true rfl) (ct_X3_did (g2 c1) (⟨_, rfl, ?_⟩))
    refine q_istore (lo' := [some (.ref (ad 17)), some (.int x1), some (.int x2), some (.int x3), some (.int x4), some (.int x5), some (.int (v_X3_did M x5))]) dX3_stepForth_35 (by decide) rfl ?_
    refine r_iload dX3_stepForth_37 rfl ?_
    refine r_aload_n dX3_stepForth_39 rfl ?_
    refine r_getR dX3_stepForth_40 fs_17_8 fk_X3_21 ?_
    refine r_iload dX3_stepForth_43 rfl ?_
    refine r_iald dX3_stepForth_45 as_21 (g3 c1) ?_
    refine r_aload_n dX3_stepForth_46 rfl ?_
    refine r_iload dX3_stepForth_47 rfl ?_
    refine r_iload_n dX3_stepForth_49 rfl ?_
    refine r_iload_n dX3_stepForth_50 rfl ?_
    refine r_callV (x := 17) (As := [.int (v_X3_did M x5), .int x3, .int x2]) (rest := [.int (gI M 21 x5.toNatClampNeg), .int x4]) dX3_stepForth_51 mk_X3_109 mv_X3_step rm_X3_stepForth_X3_step rfl rfl (by decide +kernel) (Nat.le_of_ble_eq_true rfl) (ct_X3_step (g4 c1) (⟨_, rfl, ?_⟩))
    refine r_iadd dX3_stepForth_54 ?_
    refine q_mmin dX3_stepForth_55 mk_X3_103 (by decide) (Nat.le_of_ble_eq_true rfl) ?_
    refine q_istore (lo' := [some (.ref (ad 17)), some (.int x1), some (.int x2), some (.int x3), some (.int (imin x4 ((gI M 21 x5.toNatClampNeg) + (v_X3_step M (v_X3_did M x5) x3 x2)))), some (.int x5), some (.int (v_X3_did M x5))]) dX3_stepForth_58 (by decide) rfl ?_
    refine r_aload_n dX3_stepForth_60 rfl ?_
    refine r_getR dX3_stepForth_61 fs_17_8 fk_X3_21 ?_
    refine r_iload dX3_stepForth_64 rfl ?_
    refine r_ldc (v := 16777216) dX3_stepForth_66 co_X3_48 ?_
    refine r_aload_n dX3_stepForth_68 rfl ?_
    refine r_getR dX3_stepForth_69 fs_17_8 fk_X3_21 ?_
    refine r_iload dX3_stepForth_72 rfl ?_
    refine r_iald dX3_stepForth_74 as_21 (g3 c1) ?_
    refine r_aload_n dX3_stepForth_75 rfl ?_
    refine r_iload_n dX3_stepForth_76 rfl ?_
    refine r_iload dX3_stepForth_77 rfl ?_
    refine r_iload_n dX3_stepForth_79 rfl ?_
    refine r_callV (x := 17) (As := [.int x3, .int (v_X3_did M x5), .int x2]) (rest := [.int (gI M 21 x5.toNatClampNeg), .int 16777216, .int x5, .ref (ad 21)]) dX3_stepForth_80 mk_X3_109 mv_X3_step rm_X3_stepForth_X3_step rfl rfl (by decide +kernel) (Nat.le_of_ble_eq_true rfl) (ct_X3_step (g5 c1) (⟨_, rfl, ?_⟩))
    refine r_iadd dX3_stepForth_83 ?_
    refine q_mmin dX3_stepForth_84 mk_X3_103 (by decide) (Nat.le_of_ble_eq_true rfl) ?_
    refine r_iast dX3_stepForth_87 as_21 (g3 c1) ?_
    refine q_iinc (v := x5 + 1) (lo' := [some (.ref (ad 17)), some (.int x1), some (.int x2), some (.int x3), some (.int (imin x4 ((gI M 21 x5.toNatClampNeg) + (v_X3_step M (v_X3_did M x5) x3 x2)))), some (.int (x5 + 1)), some (.int (v_X3_did M x5))]) dX3_stepForth_88 rfl (congrArg (fun q => x5 + q) kI_1) (by decide) rfl ?_
    refine r_goto (tgt := 20) dX3_stepForth_91 (by decide) ?_
    exact q_weak (lo' := [some (.ref (ad 17)), some (.int x1), some (.int x2), some (.int x3), some (.int (imin x4 ((gI M 21 x5.toNatClampNeg) + (v_X3_step M (v_X3_did M x5) x3 x2)))), some (.int (x5 + 1)), none]) ⟨rfl, rfl, rfl, rfl, rfl, rfl, trivial⟩ (K3 c1)
theorem en_X3_stepForth {x1 : Int32} (K : Fw l D ad kA mX3_stepForth 0 [some (.ref (ad 17)), some (.int x1), none, none, none, none, none] [] M Q) : Cal l D ad kA mX3_stepForth [.ref (ad 17), .int x1] M Q := Cal.of (by decide) rfl rfl (Nat.le_of_ble_eq_true rfl) K
theorem t_X3_takesSkipping_0 {x1 : Int32} 
    (g1 : g_X3_did M x1)
    (K1 : Fw l D ad kA mX3_takesSkipping 12 [some (.ref (ad 17)), some (.int x1), some (.int (v_X3_did M x1)), some (.int 16777216), some (.int 0), none, none, none, none, none] [] M Q) : Fw l D ad kA mX3_takesSkipping 0 [some (.ref (ad 17)), some (.int x1), none, none, none, none, none, none, none, none] [] M Q := by
  refine r_aload_n dX3_takesSkipping_0 rfl ?_
  refine r_iload_n dX3_takesSkipping_1 rfl ?_
  refine r_callV (x := 17) (As := [.int x1]) (rest := []) dX3_takesSkipping_2 mk_X3_100 mv_X3_did rm_X3_takesSkipping_X3_did rfl rfl (by decide +kernel) (Nat.le_of_ble_eq_true rfl) (ct_X3_did g1 (⟨_, rfl, ?_⟩))
  refine q_istore_n (lo' := [some (.ref (ad 17)), some (.int x1), some (.int (v_X3_did M x1)), none, none, none, none, none, none, none]) dX3_takesSkipping_5 (by decide) rfl ?_
  refine r_ldc (v := 16777216) dX3_takesSkipping_6 co_X3_48 ?_
  refine q_istore_n (lo' := [some (.ref (ad 17)), some (.int x1), some (.int (v_X3_did M x1)), some (.int 16777216), none, none, none, none, none, none]) dX3_takesSkipping_8 (by decide) rfl ?_
  refine r_iconst (v := 0) dX3_takesSkipping_9 kI_0 ?_
  refine q_istore (lo' := [some (.ref (ad 17)), some (.int x1), some (.int (v_X3_did M x1)), some (.int 16777216), some (.int 0), none, none, none, none, none]) dX3_takesSkipping_10 (by decide) rfl ?_
  exact K1
theorem t_X3_takesSkipping_12 {x1 : Int32} {x2 : Int32} {x3 : Int32} {x4 : Int32} 
    (g1 : (¬ ((v_X3_others x1) ≤ x4)) → g_X3_did M x4)
    (g2 : (¬ ((v_X3_others x1) ≤ x4)) → (¬ ((gI M 17 5) ≤ (x1 + 1))) → vp_in (x1 + 1) 160)
    (g3 : (¬ ((v_X3_others x1) ≤ x4)) → (¬ ((gI M 17 5) ≤ (x1 + 1))) → g_X3_step M x2 (v_X3_did M x4) (gI M 19 (x1 + 1).toNatClampNeg))
    (g4 : (¬ ((v_X3_others x1) ≤ x4)) → (¬ ((gI M 17 5) ≤ (x1 + 1))) → g_X3_restOf M (x1 + 2) x4)
    (g5 : (¬ ((v_X3_others x1) ≤ x4)) → (¬ ((gI M 17 5) ≤ (x1 + 1))) → g_X3_step M (v_X3_did M x4) x2 (gI M 19 (x1 + 1).toNatClampNeg))
    (g6 : (¬ ((v_X3_others x1) ≤ x4)) → (¬ ((gI M 17 5) ≤ (x1 + 1))) → g_X3_restOf M (x1 + 2) x1)
    (g7 : (¬ ((v_X3_others x1) ≤ x4)) → vp_in x4 160)
    (K1 : ((v_X3_others x1) ≤ x4) → Q (.returned (some (.int x3))) M)
    (K2 : (¬ ((v_X3_others x1) ≤ x4)) → Fw l D ad kA mX3_takesSkipping 12 [some (.ref (ad 17)), some (.int x1), some (.int x2), some (.int (imin x3 ((gI M 21 x4.toNatClampNeg) + (if (gI M 17 5) ≤ (x1 + 1) then 0 else imin ((v_X3_step M x2 (v_X3_did M x4) (gI M 19 (x1 + 1).toNatClampNeg)) + (v_X3_restOf M (x1 + 2) x4)) ((v_X3_step M (v_X3_did M x4) x2 (gI M 19 (x1 + 1).toNatClampNeg)) + (v_X3_restOf M (x1 + 2) x1)))))), some (.int (x4 + 1)), none, none, none, none, none] [] M Q) : Fw l D ad kA mX3_takesSkipping 12 [some (.ref (ad 17)), some (.int x1), some (.int x2), some (.int x3), some (.int x4), none, none, none, none, none] [] M Q := by
  refine r_iload dX3_takesSkipping_12 rfl ?_
  refine r_iload_n dX3_takesSkipping_14 rfl ?_
  refine r_callS (As := [.int x1]) (rest := [.int x4]) dX3_takesSkipping_15 mk_X3_106 ms_X3_others rm_X3_takesSkipping_X3_others rfl rfl (Nat.le_of_ble_eq_true rfl) (ct_X3_others (⟨_, rfl, ?_⟩))
  refine r_icmp_ge (tgt := 123) dX3_takesSkipping_18 (by decide) (fun c1 => ?_) (fun c1 => ?_)
  · skip
    refine r_iload_n dX3_takesSkipping_123 rfl ?_
    exact r_iret dX3_takesSkipping_124 rfl (K1 c1)
  · skip
    refine r_aload_n dX3_takesSkipping_21 rfl ?_
    refine r_iload dX3_takesSkipping_22 rfl ?_
    refine r_callV (x := 17) (As := [.int x4]) (rest := []) dX3_takesSkipping_24 mk_X3_100 mv_X3_did rm_X3_takesSkipping_X3_did rfl rfl (by decide +kernel) (Nat.le_of_ble_eq_true rfl) (ct_X3_did (g1 c1) (⟨_, rfl, ?_⟩))
    refine q_istore (lo' := [some (.ref (ad 17)), some (.int x1), some (.int x2), some (.int x3), some (.int x4), some (.int (v_X3_did M x4)), none, none, none, none]) dX3_takesSkipping_27 (by decide) rfl ?_
    refine r_iconst (v := 0) dX3_takesSkipping_29 kI_0 ?_
    refine q_istore (lo' := [some (.ref (ad 17)), some (.int x1), some (.int x2), some (.int x3), some (.int x4), some (.int (v_X3_did M x4)), some (.int 0), none, none, none]) dX3_takesSkipping_30 (by decide) rfl ?_
    refine r_iload_n dX3_takesSkipping_32 rfl ?_
    refine r_iconst (v := 1) dX3_takesSkipping_33 kI_1 ?_
    refine r_iadd dX3_takesSkipping_34 ?_
    refine r_aload_n dX3_takesSkipping_35 rfl ?_
    refine r_getI dX3_takesSkipping_36 fs_17_5 fk_X3_52 ?_
    suffices hJ1 : Fw l D ad kA mX3_takesSkipping 102 [some (.ref (ad 17)), some (.int x1), some (.int x2), some (.int x3), some (.int x4), none, some (.int (if (gI M 17 5) ≤ (x1 + 1) then 0 else imin ((v_X3_step M x2 (v_X3_did M x4) (gI M 19 (x1 + 1).toNatClampNeg)) + (v_X3_restOf M (x1 + 2) x4)) ((v_X3_step M (v_X3_did M x4) x2 (gI M 19 (x1 + 1).toNatClampNeg)) + (v_X3_restOf M (x1 + 2) x1)))), none, none, none] [] M Q by
      refine r_icmp_ge (tgt := 102) dX3_takesSkipping_39 (by decide) (fun c2 => ?_) (fun c2 => ?_)
      · skip
        exact q_weak (lo' := [some (.ref (ad 17)), some (.int x1), some (.int x2), some (.int x3), some (.int x4), none, some (.int 0), none, none, none]) ⟨rfl, rfl, rfl, rfl, rfl, rfl, trivial⟩ (by have h9 := hJ1; simp only [if_pos c2] at h9; first | exact h9 | (simp only [if_pos c2]; exact h9))
      · skip
        refine r_aload_n dX3_takesSkipping_42 rfl ?_
        refine r_getR dX3_takesSkipping_43 fs_17_4 fk_X3_15 ?_
        refine r_iload_n dX3_takesSkipping_46 rfl ?_
        refine r_iconst (v := 1) dX3_takesSkipping_47 kI_1 ?_
        refine r_iadd dX3_takesSkipping_48 ?_
        refine r_iald dX3_takesSkipping_49 as_19 (g2 c1 c2) ?_
        refine q_istore (lo' := [some (.ref (ad 17)), some (.int x1), some (.int x2), some (.int x3), some (.int x4), some (.int (v_X3_did M x4)), some (.int 0), some (.int (gI M 19 (x1 + 1).toNatClampNeg)), none, none]) dX3_takesSkipping_50 (by decide) rfl ?_
        refine r_aload_n dX3_takesSkipping_52 rfl ?_
        refine r_iload_n dX3_takesSkipping_53 rfl ?_
        refine r_iload dX3_takesSkipping_54 rfl ?_
        refine r_iload dX3_takesSkipping_56 rfl ?_
        refine r_callV (x := 17) (As := [.int x2, .int (v_X3_did M x4), .int (gI M 19 (x1 + 1).toNatClampNeg)]) (rest := []) dX3_takesSkipping_58 mk_X3_109 mv_X3_step rm_X3_takesSkipping_X3_step rfl rfl (by decide +kernel) (Nat.le_of_ble_eq_true rfl) (ct_X3_step (g3 c1 c2) (⟨_, rfl, ?_⟩))
        refine r_aload_n dX3_takesSkipping_61 rfl ?_
        refine r_iload_n dX3_takesSkipping_62 rfl ?_
        refine r_iconst (v := 2) dX3_takesSkipping_63 kI_2 ?_
        refine r_iadd dX3_takesSkipping_64 ?_
        refine r_iload dX3_takesSkipping_65 rfl ?_
        refine r_callV (x := 17) (As := [.int (x1 + 2), .int x4]) (rest := [.int (v_X3_step M x2 (v_X3_did M x4) (gI M 19 (x1 + 1).toNatClampNeg))]) dX3_takesSkipping_67 mk_X3_85 mv_X3_restOf rm_X3_takesSkipping_X3_restOf rfl rfl (by decide +kernel) (Nat.le_of_ble_eq_true rfl) (ct_X3_restOf (g4 c1 c2) (⟨_, rfl, ?_⟩))
        refine r_iadd dX3_takesSkipping_70 ?_
        refine q_istore (lo' := [some (.ref (ad 17)), some (.int x1), some (.int x2), some (.int x3), some (.int x4), some (.int (v_X3_did M x4)), some (.int 0), some (.int (gI M 19 (x1 + 1).toNatClampNeg)), some (.int ((v_X3_step M x2 (v_X3_did M x4) (gI M 19 (x1 + 1).toNatClampNeg)) + (v_X3_restOf M (x1 + 2) x4))), none]) dX3_takesSkipping_71 (by decide) rfl ?_
        refine r_aload_n dX3_takesSkipping_73 rfl ?_
        refine r_iload dX3_takesSkipping_74 rfl ?_
        refine r_iload_n dX3_takesSkipping_76 rfl ?_
        refine r_iload dX3_takesSkipping_77 rfl ?_
        refine r_callV (x := 17) (As := [.int (v_X3_did M x4), .int x2, .int (gI M 19 (x1 + 1).toNatClampNeg)]) (rest := []) dX3_takesSkipping_79 mk_X3_109 mv_X3_step rm_X3_takesSkipping_X3_step rfl rfl (by decide +kernel) (Nat.le_of_ble_eq_true rfl) (ct_X3_step (g5 c1 c2) (⟨_, rfl, ?_⟩))
        refine r_aload_n dX3_takesSkipping_82 rfl ?_
        refine r_iload_n dX3_takesSkipping_83 rfl ?_
        refine r_iconst (v := 2) dX3_takesSkipping_84 kI_2 ?_
        refine r_iadd dX3_takesSkipping_85 ?_
        refine r_iload_n dX3_takesSkipping_86 rfl ?_
        refine r_callV (x := 17) (As := [.int (x1 + 2), .int x1]) (rest := [.int (v_X3_step M (v_X3_did M x4) x2 (gI M 19 (x1 + 1).toNatClampNeg))]) dX3_takesSkipping_87 mk_X3_85 mv_X3_restOf rm_X3_takesSkipping_X3_restOf rfl rfl (by decide +kernel) (Nat.le_of_ble_eq_true rfl) (ct_X3_restOf (g6 c1 c2) (⟨_, rfl, ?_⟩))
        refine r_iadd dX3_takesSkipping_90 ?_
        refine q_istore (lo' := [some (.ref (ad 17)), some (.int x1), some (.int x2), some (.int x3), some (.int x4), some (.int (v_X3_did M x4)), some (.int 0), some (.int (gI M 19 (x1 + 1).toNatClampNeg)), some (.int ((v_X3_step M x2 (v_X3_did M x4) (gI M 19 (x1 + 1).toNatClampNeg)) + (v_X3_restOf M (x1 + 2) x4))), some (.int ((v_X3_step M (v_X3_did M x4) x2 (gI M 19 (x1 + 1).toNatClampNeg)) + (v_X3_restOf M (x1 + 2) x1)))]) dX3_takesSkipping_91 (by decide) rfl ?_
        refine r_iload dX3_takesSkipping_93 rfl ?_
        refine r_iload dX3_takesSkipping_95 rfl ?_
        refine q_mmin dX3_takesSkipping_97 mk_X3_103 (by decide) (Nat.le_of_ble_eq_true rfl) ?_
        refine q_istore (lo' := [some (.ref (ad 17)), some (.int x1), some (.int x2), some (.int x3), some (.int x4), some (.int (v_X3_did M x4)), some (.int (imin ((v_X3_step M x2 (v_X3_did M x4) (gI M 19 (x1 + 1).toNatClampNeg)) + (v_X3_restOf M (x1 + 2) x4)) ((v_X3_step M (v_X3_did M x4) x2 (gI M 19 (x1 + 1).toNatClampNeg)) + (v_X3_restOf M (x1 + 2) x1)))), some (.int (gI M 19 (x1 + 1).toNatClampNeg)), some (.int ((v_X3_step M x2 (v_X3_did M x4) (gI M 19 (x1 + 1).toNatClampNeg)) + (v_X3_restOf M (x1 + 2) x4))), some (.int ((v_X3_step M (v_X3_did M x4) x2 (gI M 19 (x1 + 1).toNatClampNeg)) + (v_X3_restOf M (x1 + 2) x1)))]) dX3_takesSkipping_100 (by decide) rfl ?_
        exact q_weak (lo' := [some (.ref (ad 17)), some (.int x1), some (.int x2), some (.int x3), some (.int x4), none, some (.int (imin ((v_X3_step M x2 (v_X3_did M x4) (gI M 19 (x1 + 1).toNatClampNeg)) + (v_X3_restOf M (x1 + 2) x4)) ((v_X3_step M (v_X3_did M x4) x2 (gI M 19 (x1 + 1).toNatClampNeg)) + (v_X3_restOf M (x1 + 2) x1)))), none, none, none]) ⟨rfl, rfl, rfl, rfl, rfl, rfl, trivial⟩ (by have h9 := hJ1; simp only [if_neg c2] at h9; first | exact h9 | (simp only [if_neg c2]; exact h9))
    refine r_iload_n dX3_takesSkipping_102 rfl ?_
    refine r_aload_n dX3_takesSkipping_103 rfl ?_
    refine r_getR dX3_takesSkipping_104 fs_17_8 fk_X3_21 ?_
    refine r_iload dX3_takesSkipping_107 rfl ?_
    refine r_iald dX3_takesSkipping_109 as_21 (g7 c1) ?_
    refine r_iload dX3_takesSkipping_110 rfl ?_
    refine r_iadd dX3_takesSkipping_112 ?_
    refine q_mmin dX3_takesSkipping_113 mk_X3_103 (by decide) (Nat.le_of_ble_eq_true rfl) ?_
    refine q_istore_n (lo' := [some (.ref (ad 17)), some (.int x1), some (.int x2), some (.int (imin x3 ((gI M 21 x4.toNatClampNeg) + (if (gI M 17 5) ≤ (x1 + 1) then 0 else imin ((v_X3_step M x2 (v_X3_did M x4) (gI M 19 (x1 + 1).toNatClampNeg)) + (v_X3_restOf M (x1 + 2) x4)) ((v_X3_step M (v_X3_did M x4) x2 (gI M 19 (x1 + 1).toNatClampNeg)) + (v_X3_restOf M (x1 + 2) x1)))))), some (.int x4), none, some (.int (if (gI M 17 5) ≤ (x1 + 1) then 0 else imin ((v_X3_step M x2 (v_X3_did M x4) (gI M 19 (x1 + 1).toNatClampNeg)) + (v_X3_restOf M (x1 + 2) x4)) ((v_X3_step M (v_X3_did M x4) x2 (gI M 19 (x1 + 1).toNatClampNeg)) + (v_X3_restOf M (x1 + 2) x1)))), none, none, none]) dX3_takesSkipping_116 (by decide) rfl ?_
    refine q_iinc (v := x4 + 1) (lo' := [some (.ref (ad 17)), some (.int x1), some (.int x2), some (.int (imin x3 ((gI M 21 x4.toNatClampNeg) + (if (gI M 17 5) ≤ (x1 + 1) then 0 else imin ((v_X3_step M x2 (v_X3_did M x4) (gI M 19 (x1 + 1).toNatClampNeg)) + (v_X3_restOf M (x1 + 2) x4)) ((v_X3_step M (v_X3_did M x4) x2 (gI M 19 (x1 + 1).toNatClampNeg)) + (v_X3_restOf M (x1 + 2) x1)))))), some (.int (x4 + 1)), none, some (.int (if (gI M 17 5) ≤ (x1 + 1) then 0 else imin ((v_X3_step M x2 (v_X3_did M x4) (gI M 19 (x1 + 1).toNatClampNeg)) + (v_X3_restOf M (x1 + 2) x4)) ((v_X3_step M (v_X3_did M x4) x2 (gI M 19 (x1 + 1).toNatClampNeg)) + (v_X3_restOf M (x1 + 2) x1)))), none, none, none]) dX3_takesSkipping_117 rfl (congrArg (fun q => x4 + q) kI_1) (by decide) rfl ?_
    refine r_goto (tgt := 12) dX3_takesSkipping_120 (by decide) ?_
    exact q_weak (lo' := [some (.ref (ad 17)), some (.int x1), some (.int x2), some (.int (imin x3 ((gI M 21 x4.toNatClampNeg) + (if (gI M 17 5) ≤ (x1 + 1) then 0 else imin ((v_X3_step M x2 (v_X3_did M x4) (gI M 19 (x1 + 1).toNatClampNeg)) + (v_X3_restOf M (x1 + 2) x4)) ((v_X3_step M (v_X3_did M x4) x2 (gI M 19 (x1 + 1).toNatClampNeg)) + (v_X3_restOf M (x1 + 2) x1)))))), some (.int (x4 + 1)), none, none, none, none, none]) ⟨rfl, rfl, rfl, rfl, rfl, trivial⟩ (K2 c1)
theorem en_X3_takesSkipping {x1 : Int32} (K : Fw l D ad kA mX3_takesSkipping 0 [some (.ref (ad 17)), some (.int x1), none, none, none, none, none, none, none, none] [] M Q) : Cal l D ad kA mX3_takesSkipping [.ref (ad 17), .int x1] M Q := Cal.of (by decide) rfl rfl (Nat.le_of_ble_eq_true rfl) K
theorem t_X3_restBeside_0 {x1 : Int32} {x2 : Int32} 
    (K1 : Fw l D ad kA mX3_restBeside 10 [some (.ref (ad 17)), some (.int x1), some (.int x2), some (.int 0), some (.int ((gI M 17 5) - 1)), none, none] [] M Q) : Fw l D ad kA mX3_restBeside 0 [some (.ref (ad 17)), some (.int x1), some (.int x2), none, none, none, none] [] M Q := by
  refine r_iconst (v := 0) dX3_restBeside_0 kI_0 ?_
  refine q_istore_n (lo' := [some (.ref (ad 17)), some (.int x1), some (.int x2), some (.int 0), none, none, none]) dX3_restBeside_1 (by decide) rfl ?_
  refine r_aload_n dX3_restBeside_2 rfl ?_
  refine r_getI dX3_restBeside_3 fs_17_5 fk_X3_52 ?_
  refine r_iconst (v := 1) dX3_restBeside_6 kI_1 ?_
  refine r_isub dX3_restBeside_7 ?_
  refine q_istore (lo' := [some (.ref (ad 17)), some (.int x1), some (.int x2), some (.int 0), some (.int ((gI M 17 5) - 1)), none, none]) dX3_restBeside_8 (by decide) rfl ?_
  exact K1
theorem t_X3_restBeside_10 {x1 : Int32} {x2 : Int32} {x3 : Int32} {x4 : Int32} 
    (g1 : (¬ (x4 < x2)) → vp_in (x4 - 1) 160)
    (g2 : (¬ (x4 < x2)) → vp_in x4 160)
    (g3 : (¬ (x4 < x2)) → g_X3_step M (gI M 19 (x4 - 1).toNatClampNeg) x1 (gI M 19 x4.toNatClampNeg))
    (g4 : (¬ (x4 < x2)) → g_X3_step M x1 (gI M 19 (x4 - 1).toNatClampNeg) (gI M 19 x4.toNatClampNeg))
    (g5 : (¬ (x4 < x2)) → g_X3_restOf M (x4 + 1) x4)
    (K1 : (x4 < x2) → Q (.returned (some (.int x3))) M)
    (K2 : (¬ (x4 < x2)) → Fw l D ad kA mX3_restBeside 10 [some (.ref (ad 17)), some (.int x1), some (.int x2), some (.int (imin 16777216 (imin ((v_X3_step M (gI M 19 (x4 - 1).toNatClampNeg) x1 (gI M 19 x4.toNatClampNeg)) + x3) ((v_X3_step M x1 (gI M 19 (x4 - 1).toNatClampNeg) (gI M 19 x4.toNatClampNeg)) + (v_X3_restOf M (x4 + 1) x4))))), some (.int (x4 + (-1))), none, none] [] M Q) : Fw l D ad kA mX3_restBeside 10 [some (.ref (ad 17)), some (.int x1), some (.int x2), some (.int x3), some (.int x4), none, none] [] M Q := by
  refine r_iload dX3_restBeside_10 rfl ?_
  refine r_iload_n dX3_restBeside_12 rfl ?_
  refine r_icmp_lt (tgt := 94) dX3_restBeside_13 (by decide) (fun c1 => ?_) (fun c1 => ?_)
  · skip
    refine r_iload_n dX3_restBeside_94 rfl ?_
    exact r_iret dX3_restBeside_95 rfl (K1 c1)
  · skip
    refine r_aload_n dX3_restBeside_16 rfl ?_
    refine r_aload_n dX3_restBeside_17 rfl ?_
    refine r_getR dX3_restBeside_18 fs_17_4 fk_X3_15 ?_
    refine r_iload dX3_restBeside_21 rfl ?_
    refine r_iconst (v := 1) dX3_restBeside_23 kI_1 ?_
    refine r_isub dX3_restBeside_24 ?_
    refine r_iald dX3_restBeside_25 as_19 (g1 c1) ?_
    refine r_iload_n dX3_restBeside_26 rfl ?_
    refine r_aload_n dX3_restBeside_27 rfl ?_
    refine r_getR dX3_restBeside_28 fs_17_4 fk_X3_15 ?_
    refine r_iload dX3_restBeside_31 rfl ?_
    refine r_iald dX3_restBeside_33 as_19 (g2 c1) ?_
    refine r_callV (x := 17) (As := [.int (gI M 19 (x4 - 1).toNatClampNeg), .int x1, .int (gI M 19 x4.toNatClampNeg)]) (rest := []) dX3_restBeside_34 mk_X3_109 mv_X3_step rm_X3_restBeside_X3_step rfl rfl (by decide +kernel) (Nat.le_of_ble_eq_true rfl) (ct_X3_step (g3 c1) (⟨_, rfl, ?_⟩))
    refine r_iload_n dX3_restBeside_37 rfl ?_
    refine r_iadd dX3_restBeside_38 ?_
    refine q_istore (lo' := [some (.ref (ad 17)), some (.int x1), some (.int x2), some (.int x3), some (.int x4), some (.int ((v_X3_step M (gI M 19 (x4 - 1).toNatClampNeg) x1 (gI M 19 x4.toNatClampNeg)) + x3)), none]) dX3_restBeside_39 (by decide) rfl ?_
    refine r_aload_n dX3_restBeside_41 rfl ?_
    refine r_iload_n dX3_restBeside_42 rfl ?_
    refine r_aload_n dX3_restBeside_43 rfl ?_
    refine r_getR dX3_restBeside_44 fs_17_4 fk_X3_15 ?_
    refine r_iload dX3_restBeside_47 rfl ?_
    refine r_iconst (v := 1) dX3_restBeside_49 kI_1 ?_
    refine r_isub dX3_restBeside_50 ?_
    refine r_iald dX3_restBeside_51 as_19 (g1 c1) ?_
    refine r_aload_n dX3_restBeside_52 rfl ?_
    refine r_getR dX3_restBeside_53 fs_17_4 fk_X3_15 ?_
    refine r_iload dX3_restBeside_56 rfl ?_
    refine r_iald dX3_restBeside_58 as_19 (g2 c1) ?_
    refine r_callV (x := 17) (As := [.int x1, .int (gI M 19 (x4 - 1).toNatClampNeg), .int (gI M 19 x4.toNatClampNeg)]) (rest := []) dX3_restBeside_59 mk_X3_109 mv_X3_step rm_X3_restBeside_X3_step rfl rfl (by decide +kernel) (Nat.le_of_ble_eq_true rfl) (ct_X3_step (g4 c1) (⟨_, rfl, ?_⟩))
    refine r_aload_n dX3_restBeside_62 rfl ?_
    refine r_iload dX3_restBeside_63 rfl ?_
    refine r_iconst (v := 1) dX3_restBeside_65 kI_1 ?_
    refine r_iadd dX3_restBeside_66 ?_
    refine r_iload dX3_restBeside_67 rfl ?_
    refine r_callV (x := 17) (As := [.int (x4 + 1), .int x4]) (rest := [.int (v_X3_step M x1 (gI M 19 (x4 - 1).toNatClampNeg) (gI M 19 x4.toNatClampNeg))]) dX3_restBeside_69 mk_X3_85 mv_X3_restOf rm_X3_restBeside_X3_restOf rfl rfl (by decide +kernel) (Nat.le_of_ble_eq_true rfl) (ct_X3_restOf (g5 c1) (⟨_, rfl, ?_⟩))
    refine r_iadd dX3_restBeside_72 ?_
    refine q_istore (lo' := [some (.ref (ad 17)), some (.int x1), some (.int x2), some (.int x3), some (.int x4), some (.int ((v_X3_step M (gI M 19 (x4 - 1).toNatClampNeg) x1 (gI M 19 x4.toNatClampNeg)) + x3)), some (.int ((v_X3_step M x1 (gI M 19 (x4 - 1).toNatClampNeg) (gI M 19 x4.toNatClampNeg)) + (v_X3_restOf M (x4 + 1) x4)))]) dX3_restBeside_73 (by decide) rfl ?_
    refine r_ldc (v := 16777216) dX3_restBeside_75 co_X3_48 ?_
    refine r_iload dX3_restBeside_77 rfl ?_
    refine r_iload dX3_restBeside_79 rfl ?_
    refine q_mmin dX3_restBeside_81 mk_X3_103 (by decide) (Nat.le_of_ble_eq_true rfl) ?_
    refine q_mmin dX3_restBeside_84 mk_X3_103 (by decide) (Nat.le_of_ble_eq_true rfl) ?_
    refine q_istore_n (lo' := [some (.ref (ad 17)), some (.int x1), some (.int x2), some (.int (imin 16777216 (imin ((v_X3_step M (gI M 19 (x4 - 1).toNatClampNeg) x1 (gI M 19 x4.toNatClampNeg)) + x3) ((v_X3_step M x1 (gI M 19 (x4 - 1).toNatClampNeg) (gI M 19 x4.toNatClampNeg)) + (v_X3_restOf M (x4 + 1) x4))))), some (.int x4), some (.int ((v_X3_step M (gI M 19 (x4 - 1).toNatClampNeg) x1 (gI M 19 x4.toNatClampNeg)) + x3)), some (.int ((v_X3_step M x1 (gI M 19 (x4 - 1).toNatClampNeg) (gI M 19 x4.toNatClampNeg)) + (v_X3_restOf M (x4 + 1) x4)))]) dX3_restBeside_87 (by decide) rfl ?_
    refine q_iinc (v := x4 + (-1)) (lo' := [some (.ref (ad 17)), some (.int x1), some (.int x2), some (.int (imin 16777216 (imin ((v_X3_step M (gI M 19 (x4 - 1).toNatClampNeg) x1 (gI M 19 x4.toNatClampNeg)) + x3) ((v_X3_step M x1 (gI M 19 (x4 - 1).toNatClampNeg) (gI M 19 x4.toNatClampNeg)) + (v_X3_restOf M (x4 + 1) x4))))), some (.int (x4 + (-1))), some (.int ((v_X3_step M (gI M 19 (x4 - 1).toNatClampNeg) x1 (gI M 19 x4.toNatClampNeg)) + x3)), some (.int ((v_X3_step M x1 (gI M 19 (x4 - 1).toNatClampNeg) (gI M 19 x4.toNatClampNeg)) + (v_X3_restOf M (x4 + 1) x4)))]) dX3_restBeside_88 rfl (congrArg (fun q => x4 + q) kI_m1) (by decide) rfl ?_
    refine r_goto (tgt := 10) dX3_restBeside_91 (by decide) ?_
    exact q_weak (lo' := [some (.ref (ad 17)), some (.int x1), some (.int x2), some (.int (imin 16777216 (imin ((v_X3_step M (gI M 19 (x4 - 1).toNatClampNeg) x1 (gI M 19 x4.toNatClampNeg)) + x3) ((v_X3_step M x1 (gI M 19 (x4 - 1).toNatClampNeg) (gI M 19 x4.toNatClampNeg)) + (v_X3_restOf M (x4 + 1) x4))))), some (.int (x4 + (-1))), none, none]) ⟨rfl, rfl, rfl, rfl, rfl, trivial⟩ (K2 c1)
theorem en_X3_restBeside {x1 : Int32} {x2 : Int32} (K : Fw l D ad kA mX3_restBeside 0 [some (.ref (ad 17)), some (.int x1), some (.int x2), none, none, none, none] [] M Q) : Cal l D ad kA mX3_restBeside [.ref (ad 17), .int x1, .int x2] M Q := Cal.of (by decide) rfl rfl (Nat.le_of_ble_eq_true rfl) K
end W_hands
end
section
/-! Hands: decode rows, links, walks from cut to cut (printed by wip/gen) -/
theorem dX3_restBehind_0 : decode cX3_restBehind 0 = .ok (.iload_n 3, 1) := by decide +kernel
theorem dX3_restBehind_1 : decode cX3_restBehind 1 = .ok (.aload_n 0, 1) := by decide +kernel
theorem dX3_restBehind_2 : decode cX3_restBehind 2 = .ok (.getfield 52, 3) := by decide +kernel
theorem dX3_restBehind_5 : decode cX3_restBehind 5 = .ok (.if_icmp .lt 5, 3) := by decide +kernel
theorem dX3_restBehind_8 : decode cX3_restBehind 8 = .ok (.iconst 0, 1) := by decide +kernel
theorem dX3_restBehind_9 : decode cX3_restBehind 9 = .ok (.ireturn, 1) := by decide +kernel
theorem dX3_restBehind_10 : decode cX3_restBehind 10 = .ok (.aload_n 0, 1) := by decide +kernel
theorem dX3_restBehind_11 : decode cX3_restBehind 11 = .ok (.getfield 15, 3) := by decide +kernel
theorem dX3_restBehind_14 : decode cX3_restBehind 14 = .ok (.iload_n 3, 1) := by decide +kernel
theorem dX3_restBehind_15 : decode cX3_restBehind 15 = .ok (.iaload, 1) := by decide +kernel
theorem dX3_restBehind_16 : decode cX3_restBehind 16 = .ok (.istore 5, 2) := by decide +kernel
theorem dX3_restBehind_18 : decode cX3_restBehind 18 = .ok (.aload_n 0, 1) := by decide +kernel
theorem dX3_restBehind_19 : decode cX3_restBehind 19 = .ok (.iload_n 2, 1) := by decide +kernel
theorem dX3_restBehind_20 : decode cX3_restBehind 20 = .ok (.invokevirtual 100, 3) := by decide +kernel
theorem dX3_restBehind_23 : decode cX3_restBehind 23 = .ok (.istore 6, 2) := by decide +kernel
theorem dX3_restBehind_25 : decode cX3_restBehind 25 = .ok (.aload_n 0, 1) := by decide +kernel
theorem dX3_restBehind_26 : decode cX3_restBehind 26 = .ok (.iload_n 1, 1) := by decide +kernel
theorem dX3_restBehind_27 : decode cX3_restBehind 27 = .ok (.iload 6, 2) := by decide +kernel
theorem dX3_restBehind_29 : decode cX3_restBehind 29 = .ok (.iload 5, 2) := by decide +kernel
theorem dX3_restBehind_31 : decode cX3_restBehind 31 = .ok (.invokevirtual 109, 3) := by decide +kernel
theorem dX3_restBehind_34 : decode cX3_restBehind 34 = .ok (.aload_n 0, 1) := by decide +kernel
theorem dX3_restBehind_35 : decode cX3_restBehind 35 = .ok (.iload_n 3, 1) := by decide +kernel
theorem dX3_restBehind_36 : decode cX3_restBehind 36 = .ok (.iconst 1, 1) := by decide +kernel
theorem dX3_restBehind_37 : decode cX3_restBehind 37 = .ok (.iadd, 1) := by decide +kernel
theorem dX3_restBehind_38 : decode cX3_restBehind 38 = .ok (.iload_n 2, 1) := by decide +kernel
theorem dX3_restBehind_39 : decode cX3_restBehind 39 = .ok (.invokevirtual 85, 3) := by decide +kernel
theorem dX3_restBehind_42 : decode cX3_restBehind 42 = .ok (.iadd, 1) := by decide +kernel
theorem dX3_restBehind_43 : decode cX3_restBehind 43 = .ok (.istore 7, 2) := by decide +kernel
theorem dX3_restBehind_45 : decode cX3_restBehind 45 = .ok (.iload 7, 2) := by decide +kernel
theorem dX3_restBehind_47 : decode cX3_restBehind 47 = .ok (.aload_n 0, 1) := by decide +kernel
theorem dX3_restBehind_48 : decode cX3_restBehind 48 = .ok (.iload 6, 2) := by decide +kernel
theorem dX3_restBehind_50 : decode cX3_restBehind 50 = .ok (.iload_n 1, 1) := by decide +kernel
theorem dX3_restBehind_51 : decode cX3_restBehind 51 = .ok (.iload 5, 2) := by decide +kernel
theorem dX3_restBehind_53 : decode cX3_restBehind 53 = .ok (.invokevirtual 109, 3) := by decide +kernel
theorem dX3_restBehind_56 : decode cX3_restBehind 56 = .ok (.iload 4, 2) := by decide +kernel
theorem dX3_restBehind_58 : decode cX3_restBehind 58 = .ok (.iadd, 1) := by decide +kernel
theorem dX3_restBehind_59 : decode cX3_restBehind 59 = .ok (.invokestatic 103, 3) := by decide +kernel
theorem dX3_restBehind_62 : decode cX3_restBehind 62 = .ok (.ireturn, 1) := by decide +kernel
theorem dX3_takesInserting_0 : decode cX3_takesInserting 0 = .ok (.aload_n 0, 1) := by decide +kernel
theorem dX3_takesInserting_1 : decode cX3_takesInserting 1 = .ok (.iload_n 2, 1) := by decide +kernel
theorem dX3_takesInserting_2 : decode cX3_takesInserting 2 = .ok (.invokevirtual 100, 3) := by decide +kernel
theorem dX3_takesInserting_5 : decode cX3_takesInserting 5 = .ok (.istore_n 3, 1) := by decide +kernel
theorem dX3_takesInserting_6 : decode cX3_takesInserting 6 = .ok (.aload_n 0, 1) := by decide +kernel
theorem dX3_takesInserting_7 : decode cX3_takesInserting 7 = .ok (.iload_n 1, 1) := by decide +kernel
theorem dX3_takesInserting_8 : decode cX3_takesInserting 8 = .ok (.iload_n 2, 1) := by decide +kernel
theorem dX3_takesInserting_9 : decode cX3_takesInserting 9 = .ok (.iconst 1, 1) := by decide +kernel
theorem dX3_takesInserting_10 : decode cX3_takesInserting 10 = .ok (.iadd, 1) := by decide +kernel
theorem dX3_takesInserting_11 : decode cX3_takesInserting 11 = .ok (.invokevirtual 113, 3) := by decide +kernel
theorem dX3_takesInserting_14 : decode cX3_takesInserting 14 = .ok (.istore 4, 2) := by decide +kernel
theorem dX3_takesInserting_16 : decode cX3_takesInserting 16 = .ok (.ldc 48, 2) := by decide +kernel
theorem dX3_takesInserting_18 : decode cX3_takesInserting 18 = .ok (.istore 5, 2) := by decide +kernel
theorem dX3_takesInserting_20 : decode cX3_takesInserting 20 = .ok (.ldc 48, 2) := by decide +kernel
theorem dX3_takesInserting_22 : decode cX3_takesInserting 22 = .ok (.istore 6, 2) := by decide +kernel
theorem dX3_takesInserting_24 : decode cX3_takesInserting 24 = .ok (.iconst 0, 1) := by decide +kernel
theorem dX3_takesInserting_25 : decode cX3_takesInserting 25 = .ok (.istore 7, 2) := by decide +kernel
theorem dX3_takesInserting_27 : decode cX3_takesInserting 27 = .ok (.iload 7, 2) := by decide +kernel
theorem dX3_takesInserting_29 : decode cX3_takesInserting 29 = .ok (.iload_n 2, 1) := by decide +kernel
theorem dX3_takesInserting_30 : decode cX3_takesInserting 30 = .ok (.invokestatic 106, 3) := by decide +kernel
theorem dX3_takesInserting_33 : decode cX3_takesInserting 33 = .ok (.if_icmp .ge 78, 3) := by decide +kernel
theorem dX3_takesInserting_36 : decode cX3_takesInserting 36 = .ok (.aload_n 0, 1) := by decide +kernel
theorem dX3_takesInserting_37 : decode cX3_takesInserting 37 = .ok (.iload 7, 2) := by decide +kernel
theorem dX3_takesInserting_39 : decode cX3_takesInserting 39 = .ok (.invokevirtual 100, 3) := by decide +kernel
theorem dX3_takesInserting_42 : decode cX3_takesInserting 42 = .ok (.istore 8, 2) := by decide +kernel
theorem dX3_takesInserting_44 : decode cX3_takesInserting 44 = .ok (.aload_n 0, 1) := by decide +kernel
theorem dX3_takesInserting_45 : decode cX3_takesInserting 45 = .ok (.getfield 21, 3) := by decide +kernel
theorem dX3_takesInserting_48 : decode cX3_takesInserting 48 = .ok (.iload 7, 2) := by decide +kernel
theorem dX3_takesInserting_50 : decode cX3_takesInserting 50 = .ok (.iaload, 1) := by decide +kernel
theorem dX3_takesInserting_51 : decode cX3_takesInserting 51 = .ok (.aload_n 0, 1) := by decide +kernel
theorem dX3_takesInserting_52 : decode cX3_takesInserting 52 = .ok (.iload_n 3, 1) := by decide +kernel
theorem dX3_takesInserting_53 : decode cX3_takesInserting 53 = .ok (.iload 8, 2) := by decide +kernel
theorem dX3_takesInserting_55 : decode cX3_takesInserting 55 = .ok (.iload_n 1, 1) := by decide +kernel
theorem dX3_takesInserting_56 : decode cX3_takesInserting 56 = .ok (.invokevirtual 109, 3) := by decide +kernel
theorem dX3_takesInserting_59 : decode cX3_takesInserting 59 = .ok (.iadd, 1) := by decide +kernel
theorem dX3_takesInserting_60 : decode cX3_takesInserting 60 = .ok (.istore 9, 2) := by decide +kernel
theorem dX3_takesInserting_62 : decode cX3_takesInserting 62 = .ok (.iload 5, 2) := by decide +kernel
theorem dX3_takesInserting_64 : decode cX3_takesInserting 64 = .ok (.iload 9, 2) := by decide +kernel
theorem dX3_takesInserting_66 : decode cX3_takesInserting 66 = .ok (.aload_n 0, 1) := by decide +kernel
theorem dX3_takesInserting_67 : decode cX3_takesInserting 67 = .ok (.iload_n 1, 1) := by decide +kernel
theorem dX3_takesInserting_68 : decode cX3_takesInserting 68 = .ok (.iload 7, 2) := by decide +kernel
theorem dX3_takesInserting_70 : decode cX3_takesInserting 70 = .ok (.iload_n 2, 1) := by decide +kernel
theorem dX3_takesInserting_71 : decode cX3_takesInserting 71 = .ok (.iload 4, 2) := by decide +kernel
theorem dX3_takesInserting_73 : decode cX3_takesInserting 73 = .ok (.invokevirtual 116, 3) := by decide +kernel
theorem dX3_takesInserting_76 : decode cX3_takesInserting 76 = .ok (.iadd, 1) := by decide +kernel
theorem dX3_takesInserting_77 : decode cX3_takesInserting 77 = .ok (.invokestatic 103, 3) := by decide +kernel
theorem dX3_takesInserting_80 : decode cX3_takesInserting 80 = .ok (.istore 5, 2) := by decide +kernel
theorem dX3_takesInserting_82 : decode cX3_takesInserting 82 = .ok (.iload 6, 2) := by decide +kernel
theorem dX3_takesInserting_84 : decode cX3_takesInserting 84 = .ok (.aload_n 0, 1) := by decide +kernel
theorem dX3_takesInserting_85 : decode cX3_takesInserting 85 = .ok (.getfield 21, 3) := by decide +kernel
theorem dX3_takesInserting_88 : decode cX3_takesInserting 88 = .ok (.iload 7, 2) := by decide +kernel
theorem dX3_takesInserting_90 : decode cX3_takesInserting 90 = .ok (.iaload, 1) := by decide +kernel
theorem dX3_takesInserting_91 : decode cX3_takesInserting 91 = .ok (.aload_n 0, 1) := by decide +kernel
theorem dX3_takesInserting_92 : decode cX3_takesInserting 92 = .ok (.iload 8, 2) := by decide +kernel
theorem dX3_takesInserting_94 : decode cX3_takesInserting 94 = .ok (.iload_n 3, 1) := by decide +kernel
theorem dX3_takesInserting_95 : decode cX3_takesInserting 95 = .ok (.iload_n 1, 1) := by decide +kernel
theorem dX3_takesInserting_96 : decode cX3_takesInserting 96 = .ok (.invokevirtual 109, 3) := by decide +kernel
theorem dX3_takesInserting_99 : decode cX3_takesInserting 99 = .ok (.iadd, 1) := by decide +kernel
theorem dX3_takesInserting_100 : decode cX3_takesInserting 100 = .ok (.invokestatic 103, 3) := by decide +kernel
theorem dX3_takesInserting_103 : decode cX3_takesInserting 103 = .ok (.istore 6, 2) := by decide +kernel
theorem dX3_takesInserting_105 : decode cX3_takesInserting 105 = .ok (.iinc 7 1, 3) := by decide +kernel
theorem dX3_takesInserting_108 : decode cX3_takesInserting 108 = .ok (.goto (-81), 3) := by decide +kernel
theorem dX3_takesInserting_111 : decode cX3_takesInserting 111 = .ok (.iload 5, 2) := by decide +kernel
theorem dX3_takesInserting_113 : decode cX3_takesInserting 113 = .ok (.iload 6, 2) := by decide +kernel
theorem dX3_takesInserting_115 : decode cX3_takesInserting 115 = .ok (.aload_n 0, 1) := by decide +kernel
theorem dX3_takesInserting_116 : decode cX3_takesInserting 116 = .ok (.iload_n 1, 1) := by decide +kernel
theorem dX3_takesInserting_117 : decode cX3_takesInserting 117 = .ok (.iload_n 2, 1) := by decide +kernel
theorem dX3_takesInserting_118 : decode cX3_takesInserting 118 = .ok (.iload_n 2, 1) := by decide +kernel
theorem dX3_takesInserting_119 : decode cX3_takesInserting 119 = .ok (.iload 4, 2) := by decide +kernel
theorem dX3_takesInserting_121 : decode cX3_takesInserting 121 = .ok (.invokevirtual 116, 3) := by decide +kernel
theorem dX3_takesInserting_124 : decode cX3_takesInserting 124 = .ok (.iadd, 1) := by decide +kernel
theorem dX3_takesInserting_125 : decode cX3_takesInserting 125 = .ok (.invokestatic 103, 3) := by decide +kernel
theorem dX3_takesInserting_128 : decode cX3_takesInserting 128 = .ok (.ireturn, 1) := by decide +kernel
theorem dX3_takesOf_0 : decode cX3_takesOf 0 = .ok (.aload_n 0, 1) := by decide +kernel
theorem dX3_takesOf_1 : decode cX3_takesOf 1 = .ok (.lload_n 1, 1) := by decide +kernel
theorem dX3_takesOf_2 : decode cX3_takesOf 2 = .ok (.invokevirtual 36, 3) := by decide +kernel
theorem dX3_takesOf_5 : decode cX3_takesOf 5 = .ok (.aload_n 0, 1) := by decide +kernel
theorem dX3_takesOf_6 : decode cX3_takesOf 6 = .ok (.invokevirtual 40, 3) := by decide +kernel
theorem dX3_takesOf_9 : decode cX3_takesOf 9 = .ok (.ireturn, 1) := by decide +kernel
theorem dX3_choose_0 : decode cX3_choose 0 = .ok (.aload_n 0, 1) := by decide +kernel
theorem dX3_choose_1 : decode cX3_choose 1 = .ok (.lload_n 1, 1) := by decide +kernel
theorem dX3_choose_2 : decode cX3_choose 2 = .ok (.invokevirtual 44, 3) := by decide +kernel
theorem dX3_choose_5 : decode cX3_choose 5 = .ok (.istore_n 3, 1) := by decide +kernel
theorem dX3_choose_6 : decode cX3_choose 6 = .ok (.iload_n 3, 1) := by decide +kernel
theorem dX3_choose_7 : decode cX3_choose 7 = .ok (.ldc 48, 2) := by decide +kernel
theorem dX3_choose_9 : decode cX3_choose 9 = .ok (.if_icmp .ge 7, 3) := by decide +kernel
theorem dX3_choose_12 : decode cX3_choose 12 = .ok (.aload_n 0, 1) := by decide +kernel
theorem dX3_choose_13 : decode cX3_choose 13 = .ok (.invokevirtual 49, 3) := by decide +kernel
theorem dX3_choose_16 : decode cX3_choose 16 = .ok (.iload_n 3, 1) := by decide +kernel
theorem dX3_choose_17 : decode cX3_choose 17 = .ok (.ireturn, 1) := by decide +kernel
theorem dX3_weighWithout_0 : decode cX3_weighWithout 0 = .ok (.aload_n 0, 1) := by decide +kernel
theorem dX3_weighWithout_1 : decode cX3_weighWithout 1 = .ok (.lload_n 1, 1) := by decide +kernel
theorem dX3_weighWithout_2 : decode cX3_weighWithout 2 = .ok (.invokevirtual 44, 3) := by decide +kernel
theorem dX3_weighWithout_5 : decode cX3_weighWithout 5 = .ok (.pop, 1) := by decide +kernel
theorem dX3_weighWithout_6 : decode cX3_weighWithout 6 = .ok (.aload_n 0, 1) := by decide +kernel
theorem dX3_weighWithout_7 : decode cX3_weighWithout 7 = .ok (.getfield 21, 3) := by decide +kernel
theorem dX3_weighWithout_10 : decode cX3_weighWithout 10 = .ok (.iconst 0, 1) := by decide +kernel
theorem dX3_weighWithout_11 : decode cX3_weighWithout 11 = .ok (.iconst 0, 1) := by decide +kernel
theorem dX3_weighWithout_12 : decode cX3_weighWithout 12 = .ok (.iastore, 1) := by decide +kernel
theorem dX3_weighWithout_13 : decode cX3_weighWithout 13 = .ok (.iconst 0, 1) := by decide +kernel
theorem dX3_weighWithout_14 : decode cX3_weighWithout 14 = .ok (.istore 4, 2) := by decide +kernel
theorem dX3_weighWithout_16 : decode cX3_weighWithout 16 = .ok (.iload 4, 2) := by decide +kernel
theorem dX3_weighWithout_18 : decode cX3_weighWithout 18 = .ok (.aload_n 0, 1) := by decide +kernel
theorem dX3_weighWithout_19 : decode cX3_weighWithout 19 = .ok (.getfield 52, 3) := by decide +kernel
theorem dX3_weighWithout_22 : decode cX3_weighWithout 22 = .ok (.if_icmp .ge 30, 3) := by decide +kernel
theorem dX3_weighWithout_25 : decode cX3_weighWithout 25 = .ok (.aload_n 3, 1) := by decide +kernel
theorem dX3_weighWithout_26 : decode cX3_weighWithout 26 = .ok (.aload_n 0, 1) := by decide +kernel
theorem dX3_weighWithout_27 : decode cX3_weighWithout 27 = .ok (.getfield 15, 3) := by decide +kernel
theorem dX3_weighWithout_30 : decode cX3_weighWithout 30 = .ok (.iload 4, 2) := by decide +kernel
theorem dX3_weighWithout_32 : decode cX3_weighWithout 32 = .ok (.iaload, 1) := by decide +kernel
theorem dX3_weighWithout_33 : decode cX3_weighWithout 33 = .ok (.aload_n 0, 1) := by decide +kernel
theorem dX3_weighWithout_34 : decode cX3_weighWithout 34 = .ok (.iload 4, 2) := by decide +kernel
theorem dX3_weighWithout_36 : decode cX3_weighWithout 36 = .ok (.invokevirtual 56, 3) := by decide +kernel
theorem dX3_weighWithout_39 : decode cX3_weighWithout 39 = .ok (.iastore, 1) := by decide +kernel
theorem dX3_weighWithout_40 : decode cX3_weighWithout 40 = .ok (.aload_n 0, 1) := by decide +kernel
theorem dX3_weighWithout_41 : decode cX3_weighWithout 41 = .ok (.iload 4, 2) := by decide +kernel
theorem dX3_weighWithout_43 : decode cX3_weighWithout 43 = .ok (.invokevirtual 60, 3) := by decide +kernel
theorem dX3_weighWithout_46 : decode cX3_weighWithout 46 = .ok (.iinc 4 1, 3) := by decide +kernel
theorem dX3_weighWithout_49 : decode cX3_weighWithout 49 = .ok (.goto (-33), 3) := by decide +kernel
theorem dX3_weighWithout_52 : decode cX3_weighWithout 52 = .ok (.return_, 1) := by decide +kernel
theorem dX3_weighWith_0 : decode cX3_weighWith 0 = .ok (.aload_n 0, 1) := by decide +kernel
theorem dX3_weighWith_1 : decode cX3_weighWith 1 = .ok (.lload_n 1, 1) := by decide +kernel
theorem dX3_weighWith_2 : decode cX3_weighWith 2 = .ok (.invokevirtual 44, 3) := by decide +kernel
theorem dX3_weighWith_5 : decode cX3_weighWith 5 = .ok (.pop, 1) := by decide +kernel
theorem dX3_weighWith_6 : decode cX3_weighWith 6 = .ok (.aload_n 0, 1) := by decide +kernel
theorem dX3_weighWith_7 : decode cX3_weighWith 7 = .ok (.getfield 21, 3) := by decide +kernel
theorem dX3_weighWith_10 : decode cX3_weighWith 10 = .ok (.iconst 0, 1) := by decide +kernel
theorem dX3_weighWith_11 : decode cX3_weighWith 11 = .ok (.iconst 0, 1) := by decide +kernel
theorem dX3_weighWith_12 : decode cX3_weighWith 12 = .ok (.iastore, 1) := by decide +kernel
theorem dX3_weighWith_13 : decode cX3_weighWith 13 = .ok (.iconst 0, 1) := by decide +kernel
theorem dX3_weighWith_14 : decode cX3_weighWith 14 = .ok (.istore 6, 2) := by decide +kernel
theorem dX3_weighWith_16 : decode cX3_weighWith 16 = .ok (.iconst 0, 1) := by decide +kernel
theorem dX3_weighWith_17 : decode cX3_weighWith 17 = .ok (.istore 7, 2) := by decide +kernel
theorem dX3_weighWith_19 : decode cX3_weighWith 19 = .ok (.iload 7, 2) := by decide +kernel
theorem dX3_weighWith_21 : decode cX3_weighWith 21 = .ok (.aload_n 0, 1) := by decide +kernel
theorem dX3_weighWith_22 : decode cX3_weighWith 22 = .ok (.getfield 24, 3) := by decide +kernel
theorem dX3_weighWith_25 : decode cX3_weighWith 25 = .ok (.getfield 64, 3) := by decide +kernel
theorem dX3_weighWith_28 : decode cX3_weighWith 28 = .ok (.if_icmp .ge 68, 3) := by decide +kernel
theorem dX3_weighWith_31 : decode cX3_weighWith 31 = .ok (.iload 6, 2) := by decide +kernel
theorem dX3_weighWith_33 : decode cX3_weighWith 33 = .ok (.aload_n 0, 1) := by decide +kernel
theorem dX3_weighWith_34 : decode cX3_weighWith 34 = .ok (.getfield 52, 3) := by decide +kernel
theorem dX3_weighWith_37 : decode cX3_weighWith 37 = .ok (.if_icmp .ge 27, 3) := by decide +kernel
theorem dX3_weighWith_40 : decode cX3_weighWith 40 = .ok (.aload_n 0, 1) := by decide +kernel
theorem dX3_weighWith_41 : decode cX3_weighWith 41 = .ok (.getfield 15, 3) := by decide +kernel
theorem dX3_weighWith_44 : decode cX3_weighWith 44 = .ok (.iload 6, 2) := by decide +kernel
theorem dX3_weighWith_46 : decode cX3_weighWith 46 = .ok (.iaload, 1) := by decide +kernel
theorem dX3_weighWith_47 : decode cX3_weighWith 47 = .ok (.iload 7, 2) := by decide +kernel
theorem dX3_weighWith_49 : decode cX3_weighWith 49 = .ok (.if_icmp .ne 15, 3) := by decide +kernel
theorem dX3_weighWith_52 : decode cX3_weighWith 52 = .ok (.aload_n 0, 1) := by decide +kernel
theorem dX3_weighWith_53 : decode cX3_weighWith 53 = .ok (.iload 6, 2) := by decide +kernel
theorem dX3_weighWith_55 : decode cX3_weighWith 55 = .ok (.invokevirtual 60, 3) := by decide +kernel
theorem dX3_weighWith_58 : decode cX3_weighWith 58 = .ok (.iinc 6 1, 3) := by decide +kernel
theorem dX3_weighWith_61 : decode cX3_weighWith 61 = .ok (.goto 29, 3) := by decide +kernel
theorem dX3_weighWith_64 : decode cX3_weighWith 64 = .ok (.aload_n 0, 1) := by decide +kernel
theorem dX3_weighWith_65 : decode cX3_weighWith 65 = .ok (.getfield 24, 3) := by decide +kernel
theorem dX3_weighWith_68 : decode cX3_weighWith 68 = .ok (.lload_n 3, 1) := by decide +kernel
theorem dX3_weighWith_69 : decode cX3_weighWith 69 = .ok (.iload 7, 2) := by decide +kernel
theorem dX3_weighWith_71 : decode cX3_weighWith 71 = .ok (.invokevirtual 67, 3) := by decide +kernel
theorem dX3_weighWith_74 : decode cX3_weighWith 74 = .ok (.ifCond .eq 16, 3) := by decide +kernel
theorem dX3_weighWith_77 : decode cX3_weighWith 77 = .ok (.aload 5, 2) := by decide +kernel
theorem dX3_weighWith_79 : decode cX3_weighWith 79 = .ok (.iload 7, 2) := by decide +kernel
theorem dX3_weighWith_81 : decode cX3_weighWith 81 = .ok (.aload_n 0, 1) := by decide +kernel
theorem dX3_weighWith_82 : decode cX3_weighWith 82 = .ok (.iload 7, 2) := by decide +kernel
theorem dX3_weighWith_84 : decode cX3_weighWith 84 = .ok (.iload 6, 2) := by decide +kernel
theorem dX3_weighWith_86 : decode cX3_weighWith 86 = .ok (.invokevirtual 71, 3) := by decide +kernel
theorem dX3_weighWith_89 : decode cX3_weighWith 89 = .ok (.iastore, 1) := by decide +kernel
theorem dX3_weighWith_90 : decode cX3_weighWith 90 = .ok (.iinc 7 1, 3) := by decide +kernel
theorem dX3_weighWith_93 : decode cX3_weighWith 93 = .ok (.goto (-74), 3) := by decide +kernel
theorem dX3_weighWith_96 : decode cX3_weighWith 96 = .ok (.return_, 1) := by decide +kernel
abbrev mX3_restBehind : MI := (yX3_restBehind, cX3_restBehind, 8, some .int, 3, 70, [])
abbrev mX3_takesInserting : MI := (yX3_takesInserting, cX3_takesInserting, 10, some .int, 4, 97, [])
abbrev mX3_takesOf : MI := (yX3_takesOf, cX3_takesOf, 3, some .int, 4, 101, [])
abbrev mX3_choose : MI := (yX3_choose, cX3_choose, 4, some .int, 5, 123, [])
abbrev mX3_weighWithout : MI := (yX3_weighWithout, cX3_weighWithout, 5, none, 5, 123, [])
abbrev mX3_weighWith : MI := (yX3_weighWith, cX3_weighWith, 8, none, 5, 126, [])
theorem mv_X3_gather : MkV mX3_gather := ⟨lw_in (i := 731) (by decide +kernel) (by decide +kernel), lw_se (i := 13) (by decide +kernel) (by decide +kernel)⟩
theorem mv_X3_keepHands : MkV mX3_keepHands := ⟨lw_in (i := 768) (by decide +kernel) (by decide +kernel), lw_se (i := 20) (by decide +kernel) (by decide +kernel)⟩
theorem mv_X3_restBehind : MkV mX3_restBehind := ⟨lw_in (i := 903) (by decide +kernel) (by decide +kernel), lw_se (i := 35) (by decide +kernel) (by decide +kernel)⟩
theorem mv_X3_restBeside : MkV mX3_restBeside := ⟨lw_in (i := 899) (by decide +kernel) (by decide +kernel), lw_se (i := 34) (by decide +kernel) (by decide +kernel)⟩
theorem mv_X3_stepForth : MkV mX3_stepForth := ⟨lw_in (i := 887) (by decide +kernel) (by decide +kernel), lw_se (i := 32) (by decide +kernel) (by decide +kernel)⟩
theorem mv_X3_takesInserting : MkV mX3_takesInserting := ⟨lw_in (i := 895) (by decide +kernel) (by decide +kernel), lw_se (i := 33) (by decide +kernel) (by decide +kernel)⟩
theorem mv_X3_takesOf : MkV mX3_takesOf := ⟨lw_in (i := 726) (by decide +kernel) (by decide +kernel), lw_in (i := 727) (by decide +kernel) (by decide +kernel)⟩
theorem mv_X3_takesSkipping : MkV mX3_takesSkipping := ⟨lw_in (i := 877) (by decide +kernel) (by decide +kernel), lw_se (i := 31) (by decide +kernel) (by decide +kernel)⟩
theorem mv_X3_weighRest : MkV mX3_weighRest := ⟨lw_in (i := 739) (by decide +kernel) (by decide +kernel), lw_se (i := 14) (by decide +kernel) (by decide +kernel)⟩
theorem mk_X3_36 : Mk RX3 36 mX3_gather 1 := ⟨lw_in (i := 729) (by decide +kernel) (by decide +kernel), lw_in (i := 7) (by decide +kernel) (by decide +kernel), lw_in (i := 732) (by decide +kernel) (by decide +kernel), by decide +kernel⟩
theorem mk_X3_40 : Mk RX3 40 mX3_weighRest 0 := ⟨lw_in (i := 737) (by decide +kernel) (by decide +kernel), lw_in (i := 7) (by decide +kernel) (by decide +kernel), lw_in (i := 740) (by decide +kernel) (by decide +kernel), by decide +kernel⟩
theorem mk_X3_44 : Mk RX3 44 mX3_takesOf 1 := ⟨lw_in (i := 725) (by decide +kernel) (by decide +kernel), lw_in (i := 7) (by decide +kernel) (by decide +kernel), lw_in (i := 728) (by decide +kernel) (by decide +kernel), by decide +kernel⟩
theorem mk_X3_49 : Mk RX3 49 mX3_keepHands 0 := ⟨lw_in (i := 766) (by decide +kernel) (by decide +kernel), lw_in (i := 7) (by decide +kernel) (by decide +kernel), lw_in (i := 769) (by decide +kernel) (by decide +kernel), by decide +kernel⟩
theorem mk_X3_56 : Mk RX3 56 mX3_takesSkipping 1 := ⟨lw_in (i := 875) (by decide +kernel) (by decide +kernel), lw_in (i := 7) (by decide +kernel) (by decide +kernel), lw_in (i := 878) (by decide +kernel) (by decide +kernel), by decide +kernel⟩
theorem mk_X3_60 : Mk RX3 60 mX3_stepForth 1 := ⟨lw_in (i := 885) (by decide +kernel) (by decide +kernel), lw_in (i := 7) (by decide +kernel) (by decide +kernel), lw_in (i := 888) (by decide +kernel) (by decide +kernel), by decide +kernel⟩
theorem mk_X3_71 : Mk RX3 71 mX3_takesInserting 2 := ⟨lw_in (i := 893) (by decide +kernel) (by decide +kernel), lw_in (i := 7) (by decide +kernel) (by decide +kernel), lw_in (i := 896) (by decide +kernel) (by decide +kernel), by decide +kernel⟩
theorem mk_X3_113 : Mk RX3 113 mX3_restBeside 2 := ⟨lw_in (i := 897) (by decide +kernel) (by decide +kernel), lw_in (i := 7) (by decide +kernel) (by decide +kernel), lw_in (i := 900) (by decide +kernel) (by decide +kernel), by decide +kernel⟩
theorem mk_X3_116 : Mk RX3 116 mX3_restBehind 4 := ⟨lw_in (i := 901) (by decide +kernel) (by decide +kernel), lw_in (i := 7) (by decide +kernel) (by decide +kernel), lw_in (i := 904) (by decide +kernel) (by decide +kernel), by decide +kernel⟩
theorem rm_X3_choose_X3_keepHands : Rm mX3_choose mX3_keepHands := ⟨by decide, by decide⟩
theorem rm_X3_choose_X3_takesOf : Rm mX3_choose mX3_takesOf := ⟨by decide, by decide⟩
theorem rm_X3_restBehind_X3_did : Rm mX3_restBehind mX3_did := ⟨by decide, by decide⟩
theorem rm_X3_restBehind_X3_restOf : Rm mX3_restBehind mX3_restOf := ⟨by decide, by decide⟩
theorem rm_X3_restBehind_X3_step : Rm mX3_restBehind mX3_step := ⟨by decide, by decide⟩
theorem rm_X3_takesInserting_X3_did : Rm mX3_takesInserting mX3_did := ⟨by decide, by decide⟩
theorem rm_X3_takesInserting_X3_others : Rm mX3_takesInserting mX3_others := ⟨by decide, by decide⟩
theorem rm_X3_takesInserting_X3_restBehind : Rm mX3_takesInserting mX3_restBehind := ⟨by decide, by decide⟩
theorem rm_X3_takesInserting_X3_restBeside : Rm mX3_takesInserting mX3_restBeside := ⟨by decide, by decide⟩
theorem rm_X3_takesInserting_X3_step : Rm mX3_takesInserting mX3_step := ⟨by decide, by decide⟩
theorem rm_X3_takesOf_X3_gather : Rm mX3_takesOf mX3_gather := ⟨by decide, by decide⟩
theorem rm_X3_takesOf_X3_weighRest : Rm mX3_takesOf mX3_weighRest := ⟨by decide, by decide⟩
theorem rm_X3_weighWith_X3_stepForth : Rm mX3_weighWith mX3_stepForth := ⟨by decide, by decide⟩
theorem rm_X3_weighWith_X3_takesInserting : Rm mX3_weighWith mX3_takesInserting := ⟨by decide, by decide⟩
theorem rm_X3_weighWith_X3_takesOf : Rm mX3_weighWith mX3_takesOf := ⟨by decide, by decide⟩
theorem rm_X3_weighWith_X9_isOn : Rm mX3_weighWith mX9_isOn := ⟨by decide, by decide⟩
theorem rm_X3_weighWithout_X3_stepForth : Rm mX3_weighWithout mX3_stepForth := ⟨by decide, by decide⟩
theorem rm_X3_weighWithout_X3_takesOf : Rm mX3_weighWithout mX3_takesOf := ⟨by decide, by decide⟩
theorem rm_X3_weighWithout_X3_takesSkipping : Rm mX3_weighWithout mX3_takesSkipping := ⟨by decide, by decide⟩
section W_hands
variable {l : Launch} {D : va_G} {ad : Nat → Nat} {kA : Nat → ClassId} {M : Mem} {Q : Outcome → Mem → Prop}
def v_X3_restBehind (M : Mem) (x1 : Int32) (x2 : Int32) (x3 : Int32) (x4 : Int32) : Int32 := if x3 < (gI M 17 5) then imin ((v_X3_step M x1 (v_X3_did M x2) (gI M 19 x3.toNatClampNeg)) + (v_X3_restOf M (x3 + 1) x2)) ((v_X3_step M (v_X3_did M x2) x1 (gI M 19 x3.toNatClampNeg)) + x4) else 0
def g_X3_restBehind (M : Mem) (x1 : Int32) (x2 : Int32) (x3 : Int32) (x4 : Int32) : Prop := ((x3 < (gI M 17 5)) → vp_in x3 160) ∧ ((x3 < (gI M 17 5)) → g_X3_did M x2) ∧ ((x3 < (gI M 17 5)) → g_X3_step M x1 (v_X3_did M x2) (gI M 19 x3.toNatClampNeg)) ∧ ((x3 < (gI M 17 5)) → g_X3_restOf M (x3 + 1) x2) ∧ ((x3 < (gI M 17 5)) → g_X3_step M (v_X3_did M x2) x1 (gI M 19 x3.toNatClampNeg))
theorem ct_X3_restBehind {x1 : Int32} {x2 : Int32} {x3 : Int32} {x4 : Int32}  (g : g_X3_restBehind M x1 x2 x3 x4) (h : Q (.returned (some (.int (v_X3_restBehind M x1 x2 x3 x4)))) M) : Cal l D ad kA mX3_restBehind [.ref (ad 17), .int x1, .int x2, .int x3, .int x4] M Q := by
  refine Cal.of (lo := [some (.ref (ad 17)), some (.int x1), some (.int x2), some (.int x3), some (.int x4), none, none, none]) (by decide) rfl rfl (Nat.le_of_ble_eq_true rfl) ?_
  obtain ⟨g1, g2, g3, g4, g5⟩ := g
  refine r_iload_n dX3_restBehind_0 rfl ?_
  refine r_aload_n dX3_restBehind_1 rfl ?_
  refine r_getI dX3_restBehind_2 fs_17_5 fk_X3_52 ?_
  refine r_icmp_lt (tgt := 10) dX3_restBehind_5 (by decide) (fun c1 => ?_) (fun c1 => ?_)
  · skip
    refine r_aload_n dX3_restBehind_10 rfl ?_
    refine r_getR dX3_restBehind_11 fs_17_4 fk_X3_15 ?_
    refine r_iload_n dX3_restBehind_14 rfl ?_
    refine r_iald dX3_restBehind_15 as_19 (g1 c1) ?_
    refine q_istore (lo' := [some (.ref (ad 17)), some (.int x1), some (.int x2), some (.int x3), some (.int x4), some (.int (gI M 19 x3.toNatClampNeg)), none, none]) dX3_restBehind_16 (by decide) rfl ?_
    refine r_aload_n dX3_restBehind_18 rfl ?_
    refine r_iload_n dX3_restBehind_19 rfl ?_
    refine r_callV (x := 17) (As := [.int x2]) (rest := []) dX3_restBehind_20 mk_X3_100 mv_X3_did rm_X3_restBehind_X3_did rfl rfl (by decide +kernel) (Nat.le_of_ble_eq_true rfl) (ct_X3_did (g2 c1) (⟨_, rfl, ?_⟩))
    refine q_istore (lo' := [some (.ref (ad 17)), some (.int x1), some (.int x2), some (.int x3), some (.int x4), some (.int (gI M 19 x3.toNatClampNeg)), some (.int (v_X3_did M x2)), none]) dX3_restBehind_23 (by decide) rfl ?_
    refine r_aload_n dX3_restBehind_25 rfl ?_
    refine r_iload_n dX3_restBehind_26 rfl ?_
    refine r_iload dX3_restBehind_27 rfl ?_
    refine r_iload dX3_restBehind_29 rfl ?_
    refine r_callV (x := 17) (As := [.int x1, .int (v_X3_did M x2), .int (gI M 19 x3.toNatClampNeg)]) (rest := []) dX3_restBehind_31 mk_X3_109 mv_X3_step rm_X3_restBehind_X3_step rfl rfl (by decide +kernel) (Nat.le_of_ble_eq_true rfl) (ct_X3_step (g3 c1) (⟨_, rfl, ?_⟩))
    refine r_aload_n dX3_restBehind_34 rfl ?_
    refine r_iload_n dX3_restBehind_35 rfl ?_
    refine r_iconst (v := 1) dX3_restBehind_36 kI_1 ?_
    refine r_iadd dX3_restBehind_37 ?_
    refine r_iload_n dX3_restBehind_38 rfl ?_
    refine r_callV (x := 17) (As := [.int (x3 + 1), .int x2]) (rest := [.int (v_X3_step M x1 (v_X3_did M x2) (gI M 19 x3.toNatClampNeg))]) dX3_restBehind_39 mk_X3_85 mv_X3_restOf rm_X3_restBehind_X3_restOf rfl rfl (by decide +kernel) (Nat.le_of_ble_eq_true rfl) (ct_X3_restOf (g4 c1) (⟨_, rfl, ?_⟩))
    refine r_iadd dX3_restBehind_42 ?_
    refine q_istore (lo' := [some (.ref (ad 17)), some (.int x1), some (.int x2), some (.int x3), some (.int x4), some (.int (gI M 19 x3.toNatClampNeg)), some (.int (v_X3_did M x2)), some (.int ((v_X3_step M x1 (v_X3_did M x2) (gI M 19 x3.toNatClampNeg)) + (v_X3_restOf M (x3 + 1) x2)))]) dX3_restBehind_43 (by decide) rfl ?_
    refine r_iload dX3_restBehind_45 rfl ?_
    refine r_aload_n dX3_restBehind_47 rfl ?_
    refine r_iload dX3_restBehind_48 rfl ?_
    refine r_iload_n dX3_restBehind_50 rfl ?_
    refine r_iload dX3_restBehind_51 rfl ?_
    refine r_callV (x := 17) (As := [.int (v_X3_did M x2), .int x1, .int (gI M 19 x3.toNatClampNeg)]) (rest := [.int ((v_X3_step M x1 (v_X3_did M x2) (gI M 19 x3.toNatClampNeg)) + (v_X3_restOf M (x3 + 1) x2))]) dX3_restBehind_53 mk_X3_109 mv_X3_step rm_X3_restBehind_X3_step rfl rfl (by decide +kernel) (Nat.le_of_ble_eq_true rfl) (ct_X3_step (g5 c1) (⟨_, rfl, ?_⟩))
    refine r_iload dX3_restBehind_56 rfl ?_
    refine r_iadd dX3_restBehind_58 ?_
    refine q_mmin dX3_restBehind_59 mk_X3_103 (by decide) (Nat.le_of_ble_eq_true rfl) ?_
    exact r_iret dX3_restBehind_62 rfl (by have h9 := h; simp only [v_X3_restBehind, if_pos c1] at h9; first | exact h9 | (simp only [if_pos c1]; exact h9))
  · skip
    refine r_iconst (v := 0) dX3_restBehind_8 kI_0 ?_
    exact r_iret dX3_restBehind_9 rfl (by have h9 := h; simp only [v_X3_restBehind, if_neg c1] at h9; first | exact h9 | (simp only [if_neg c1]; exact h9))
theorem t_X3_takesInserting_0 {x1 : Int32} {x2 : Int32} 
    (g1 : g_X3_did M x2)
    (K1 : Cal l D ad kA mX3_restBeside [.ref (ad 17), .int x1, .int (x2 + 1)] M (fun oc M2 => ∃ r : Int32, oc = .returned (some (.int r)) ∧ Fw l D ad kA mX3_takesInserting 14 [some (.ref (ad 17)), some (.int x1), some (.int x2), some (.int (v_X3_did M x2)), none, none, none, none, none, none] [.int r] M2 Q)) : Fw l D ad kA mX3_takesInserting 0 [some (.ref (ad 17)), some (.int x1), some (.int x2), none, none, none, none, none, none, none] [] M Q := by
  refine r_aload_n dX3_takesInserting_0 rfl ?_
  refine r_iload_n dX3_takesInserting_1 rfl ?_
  refine r_callV (x := 17) (As := [.int x2]) (rest := []) dX3_takesInserting_2 mk_X3_100 mv_X3_did rm_X3_takesInserting_X3_did rfl rfl (by decide +kernel) (Nat.le_of_ble_eq_true rfl) (ct_X3_did g1 (⟨_, rfl, ?_⟩))
  refine q_istore_n (lo' := [some (.ref (ad 17)), some (.int x1), some (.int x2), some (.int (v_X3_did M x2)), none, none, none, none, none, none]) dX3_takesInserting_5 (by decide) rfl ?_
  refine r_aload_n dX3_takesInserting_6 rfl ?_
  refine r_iload_n dX3_takesInserting_7 rfl ?_
  refine r_iload_n dX3_takesInserting_8 rfl ?_
  refine r_iconst (v := 1) dX3_takesInserting_9 kI_1 ?_
  refine r_iadd dX3_takesInserting_10 ?_
  exact r_callV (x := 17) (As := [.int x1, .int (x2 + 1)]) (rest := []) dX3_takesInserting_11 mk_X3_113 mv_X3_restBeside rm_X3_takesInserting_X3_restBeside rfl rfl (by decide +kernel) (Nat.le_of_ble_eq_true rfl) (cal_i (lo' := [some (.ref (ad 17)), some (.int x1), some (.int x2), some (.int (v_X3_did M x2)), none, none, none, none, none, none]) ⟨rfl, rfl, rfl, rfl, trivial⟩ K1)
theorem t_X3_takesInserting_14 {x1 : Int32} {x2 : Int32} {x3 : Int32} {s1 : Int32} 
    (K1 : Fw l D ad kA mX3_takesInserting 27 [some (.ref (ad 17)), some (.int x1), some (.int x2), some (.int x3), some (.int s1), some (.int 16777216), some (.int 16777216), some (.int 0), none, none] [] M Q) : Fw l D ad kA mX3_takesInserting 14 [some (.ref (ad 17)), some (.int x1), some (.int x2), some (.int x3), none, none, none, none, none, none] [.int s1] M Q := by
  refine q_istore (lo' := [some (.ref (ad 17)), some (.int x1), some (.int x2), some (.int x3), some (.int s1), none, none, none, none, none]) dX3_takesInserting_14 (by decide) rfl ?_
  refine r_ldc (v := 16777216) dX3_takesInserting_16 co_X3_48 ?_
  refine q_istore (lo' := [some (.ref (ad 17)), some (.int x1), some (.int x2), some (.int x3), some (.int s1), some (.int 16777216), none, none, none, none]) dX3_takesInserting_18 (by decide) rfl ?_
  refine r_ldc (v := 16777216) dX3_takesInserting_20 co_X3_48 ?_
  refine q_istore (lo' := [some (.ref (ad 17)), some (.int x1), some (.int x2), some (.int x3), some (.int s1), some (.int 16777216), some (.int 16777216), none, none, none]) dX3_takesInserting_22 (by decide) rfl ?_
  refine r_iconst (v := 0) dX3_takesInserting_24 kI_0 ?_
  refine q_istore (lo' := [some (.ref (ad 17)), some (.int x1), some (.int x2), some (.int x3), some (.int s1), some (.int 16777216), some (.int 16777216), some (.int 0), none, none]) dX3_takesInserting_25 (by decide) rfl ?_
  exact K1
theorem t_X3_takesInserting_27 {x1 : Int32} {x2 : Int32} {x3 : Int32} {x4 : Int32} {x5 : Int32} {x6 : Int32} {x7 : Int32} 
    (g1 : ((v_X3_others x2) ≤ x7) → g_X3_restBehind M x1 x2 x2 x4)
    (g2 : (¬ ((v_X3_others x2) ≤ x7)) → g_X3_did M x7)
    (g3 : (¬ ((v_X3_others x2) ≤ x7)) → vp_in x7 160)
    (g4 : (¬ ((v_X3_others x2) ≤ x7)) → g_X3_step M x3 (v_X3_did M x7) x1)
    (g5 : (¬ ((v_X3_others x2) ≤ x7)) → g_X3_restBehind M x1 x7 x2 x4)
    (g6 : (¬ ((v_X3_others x2) ≤ x7)) → g_X3_step M (v_X3_did M x7) x3 x1)
    (K1 : ((v_X3_others x2) ≤ x7) → Q (.returned (some (.int (imin x5 (x6 + (v_X3_restBehind M x1 x2 x2 x4)))))) M)
    (K2 : (¬ ((v_X3_others x2) ≤ x7)) → Fw l D ad kA mX3_takesInserting 27 [some (.ref (ad 17)), some (.int x1), some (.int x2), some (.int x3), some (.int x4), some (.int (imin x5 (((gI M 21 x7.toNatClampNeg) + (v_X3_step M x3 (v_X3_did M x7) x1)) + (v_X3_restBehind M x1 x7 x2 x4)))), some (.int (imin x6 ((gI M 21 x7.toNatClampNeg) + (v_X3_step M (v_X3_did M x7) x3 x1)))), some (.int (x7 + 1)), none, none] [] M Q) : Fw l D ad kA mX3_takesInserting 27 [some (.ref (ad 17)), some (.int x1), some (.int x2), some (.int x3), some (.int x4), some (.int x5), some (.int x6), some (.int x7), none, none] [] M Q := by
  refine r_iload dX3_takesInserting_27 rfl ?_
  refine r_iload_n dX3_takesInserting_29 rfl ?_
  refine r_callS (As := [.int x2]) (rest := [.int x7]) dX3_takesInserting_30 mk_X3_106 ms_X3_others rm_X3_takesInserting_X3_others rfl rfl (Nat.le_of_ble_eq_true rfl) (ct_X3_others (⟨_, rfl, ?_⟩))
  refine r_icmp_ge (tgt := 111) dX3_takesInserting_33 (by decide) (fun c1 => ?_) (fun c1 => ?_)
  · skip
    refine r_iload dX3_takesInserting_111 rfl ?_
    refine r_iload dX3_takesInserting_113 rfl ?_
    refine r_aload_n dX3_takesInserting_115 rfl ?_
    refine r_iload_n dX3_takesInserting_116 rfl ?_
    refine r_iload_n dX3_takesInserting_117 rfl ?_
    refine r_iload_n dX3_takesInserting_118 rfl ?_
    refine r_iload dX3_takesInserting_119 rfl ?_
    refine r_callV (x := 17) (As := [.int x1, .int x2, .int x2, .int x4]) (rest := [.int x6, .int x5]) dX3_takesInserting_121 mk_X3_116 mv_X3_restBehind rm_X3_takesInserting_X3_restBehind rfl rfl (by decide +kernel) (Nat.le_of_ble_eq_true rfl) (ct_X3_restBehind (g1 c1) (⟨_, rfl, ?_⟩))
    refine r_iadd dX3_takesInserting_124 ?_
    refine q_mmin dX3_takesInserting_125 mk_X3_103 (by decide) (Nat.le_of_ble_eq_true rfl) ?_
    exact r_iret dX3_takesInserting_128 rfl (K1 c1)
  · skip
    refine r_aload_n dX3_takesInserting_36 rfl ?_
    refine r_iload dX3_takesInserting_37 rfl ?_
    refine r_callV (x := 17) (As := [.int x7]) (rest := []) dX3_takesInserting_39 mk_X3_100 mv_X3_did rm_X3_takesInserting_X3_did rfl rfl (by decide +kernel) (Nat.le_of_ble_eq_true rfl) (ct_X3_did (g2 c1) (⟨_, rfl, ?_⟩))
    refine q_istore (lo' := [some (.ref (ad 17)), some (.int x1), some (.int x2), some (.int x3), some (.int x4), some (.int x5), some (.int x6), some (.int x7), some (.int (v_X3_did M x7)), none]) dX3_takesInserting_42 (by decide) rfl ?_
    refine r_aload_n dX3_takesInserting_44 rfl ?_
    refine r_getR dX3_takesInserting_45 fs_17_8 fk_X3_21 ?_
    refine r_iload dX3_takesInserting_48 rfl ?_
    refine r_iald dX3_takesInserting_50 as_21 (g3 c1) ?_
    refine r_aload_n dX3_takesInserting_51 rfl ?_
    refine r_iload_n dX3_takesInserting_52 rfl ?_
    refine r_iload dX3_takesInserting_53 rfl ?_
    refine r_iload_n dX3_takesInserting_55 rfl ?_
    refine r_callV (x := 17) (As := [.int x3, .int (v_X3_did M x7), .int x1]) (rest := [.int (gI M 21 x7.toNatClampNeg)]) dX3_takesInserting_56 mk_X3_109 mv_X3_step rm_X3_takesInserting_X3_step rfl rfl (by decide +kernel) (Nat.le_of_ble_eq_true rfl) (ct_X3_step (g4 c1) (⟨_, rfl, ?_⟩))
    refine r_iadd dX3_takesInserting_59 ?_
    refine q_istore (lo' := [some (.ref (ad 17)), some (.int x1), some (.int x2), some (.int x3), some (.int x4), some (.int x5), some (.int x6), some (.int x7), some (.int (v_X3_did M x7)), some (.int ((gI M 21 x7.toNatClampNeg) + (v_X3_step M x3 (v_X3_did M x7) x1)))]) dX3_takesInserting_60 (by decide) rfl ?_
    refine r_iload dX3_takesInserting_62 rfl ?_
    refine r_iload dX3_takesInserting_64 rfl ?_
    refine r_aload_n dX3_takesInserting_66 rfl ?_
    refine r_iload_n dX3_takesInserting_67 rfl ?_
    refine r_iload dX3_takesInserting_68 rfl ?_
    refine r_iload_n dX3_takesInserting_70 rfl ?_
    refine r_iload dX3_takesInserting_71 rfl ?_
    refine r_callV (x := 17) (As := [.int x1, .int x7, .int x2, .int x4]) (rest := [.int ((gI M 21 x7.toNatClampNeg) + (v_X3_step M x3 (v_X3_did M x7) x1)), .int x5]) dX3_takesInserting_73 mk_X3_116 mv_X3_restBehind rm_X3_takesInserting_X3_restBehind rfl rfl (by decide +kernel) (Nat.le_of_ble_eq_true rfl) (ct_X3_restBehind (g5 c1) (⟨_, rfl, ?_⟩))
    refine r_iadd dX3_takesInserting_76 ?_
    refine q_mmin dX3_takesInserting_77 mk_X3_103 (by decide) (Nat.le_of_ble_eq_true rfl) ?_
    refine q_istore (lo' := [some (.ref (ad 17)), some (.int x1), some (.int x2), some (.int x3), some (.int x4), some (.int (imin x5 (((gI M 21 x7.toNatClampNeg) + (v_X3_step M x3 (v_X3_did M x7) x1)) + (v_X3_restBehind M x1 x7 x2 x4)))), some (.int x6), some (.int x7), some (.int (v_X3_did M x7)), some (.int ((gI M 21 x7.toNatClampNeg) + (v_X3_step M x3 (v_X3_did M x7) x1)))]) dX3_takesInserting_80 (by decide) rfl ?_
    refine r_iload dX3_takesInserting_82 rfl ?_
    refine r_aload_n dX3_takesInserting_84 rfl ?_
    refine r_getR dX3_takesInserting_85 fs_17_8 fk_X3_21 ?_
    refine r_iload dX3_takesInserting_88 rfl ?_
    refine r_iald dX3_takesInserting_90 as_21 (g3 c1) ?_
    refine r_aload_n dX3_takesInserting_91 rfl ?_
    refine r_iload dX3_takesInserting_92 rfl ?_
    refine r_iload_n dX3_takesInserting_94 rfl ?_
    refine r_iload_n dX3_takesInserting_95 rfl ?_
    refine r_callV (x := 17) (As := [.int (v_X3_did M x7), .int x3, .int x1]) (rest := [.int (gI M 21 x7.toNatClampNeg), .int x6]) dX3_takesInserting_96 mk_X3_109 mv_X3_step rm_X3_takesInserting_X3_step rfl rfl (by decide +kernel) (Nat.le_of_ble_eq_true rfl) (ct_X3_step (g6 c1) (⟨_, rfl, ?_⟩))
    refine r_iadd dX3_takesInserting_99 ?_
    refine q_mmin dX3_takesInserting_100 mk_X3_103 (by decide) (Nat.le_of_ble_eq_true rfl) ?_
    refine q_istore (lo' := [some (.ref (ad 17)), some (.int x1), some (.int x2), some (.int x3), some (.int x4), some (.int (imin x5 (((gI M 21 x7.toNatClampNeg) + (v_X3_step M x3 (v_X3_did M x7) x1)) + (v_X3_restBehind M x1 x7 x2 x4)))), some (.int (imin x6 ((gI M 21 x7.toNatClampNeg) + (v_X3_step M (v_X3_did M x7) x3 x1)))), some (.int x7), some (.int (v_X3_did M x7)), some (.int ((gI M 21 x7.toNatClampNeg) + (v_X3_step M x3 (v_X3_did M x7) x1)))]) dX3_takesInserting_103 (by decide) rfl ?_
    refine q_iinc (v := x7 + 1) (lo' := [some (.ref (ad 17)), some (.int x1), some (.int x2), some (.int x3), some (.int x4), some (.int (imin x5 (((gI M 21 x7.toNatClampNeg) + (v_X3_step M x3 (v_X3_did M x7) x1)) + (v_X3_restBehind M x1 x7 x2 x4)))), some (.int (imin x6 ((gI M 21 x7.toNatClampNeg) + (v_X3_step M (v_X3_did M x7) x3 x1)))), some (.int (x7 + 1)), some (.int (v_X3_did M x7)), some (.int ((gI M 21 x7.toNatClampNeg) + (v_X3_step M x3 (v_X3_did M x7) x1)))]) dX3_takesInserting_105 rfl (congrArg (fun q => x7 + q) kI_1) (by decide) rfl ?_
    refine r_goto (tgt := 27) dX3_takesInserting_108 (by decide) ?_
    exact q_weak (lo' := [some (.ref (ad 17)), some (.int x1), some (.int x2), some (.int x3), some (.int x4), some (.int (imin x5 (((gI M 21 x7.toNatClampNeg) + (v_X3_step M x3 (v_X3_did M x7) x1)) + (v_X3_restBehind M x1 x7 x2 x4)))), some (.int (imin x6 ((gI M 21 x7.toNatClampNeg) + (v_X3_step M (v_X3_did M x7) x3 x1)))), some (.int (x7 + 1)), none, none]) ⟨rfl, rfl, rfl, rfl, rfl, rfl, rfl, rfl, trivial⟩ (K2 c1)
theorem en_X3_takesInserting {x1 : Int32} {x2 : Int32} (K : Fw l D ad kA mX3_takesInserting 0 [some (.ref (ad 17)), some (.int x1), some (.int x2), none, none, none, none, none, none, none] [] M Q) : Cal l D ad kA mX3_takesInserting [.ref (ad 17), .int x1, .int x2] M Q := Cal.of (by decide) rfl rfl (Nat.le_of_ble_eq_true rfl) K
theorem t_X3_takesOf_0 {z1 : Int64} 
    (K1 : Cal l D ad kA mX3_gather [.ref (ad 17), .long z1] M (fun oc M2 => oc = .returned none ∧ Fw l D ad kA mX3_takesOf 5 [some (.ref (ad 17)), none, none] [] M2 Q)) : Fw l D ad kA mX3_takesOf 0 [some (.ref (ad 17)), some (.long z1), none] [] M Q := by
  refine r_aload_n dX3_takesOf_0 rfl ?_
  refine r_lload_n dX3_takesOf_1 rfl ?_
  exact r_callV (x := 17) (As := [.long z1]) (rest := []) dX3_takesOf_2 mk_X3_36 mv_X3_gather rm_X3_takesOf_X3_gather rfl rfl (by decide +kernel) (Nat.le_of_ble_eq_true rfl) (cal_v (lo' := [some (.ref (ad 17)), none, none]) ⟨rfl, trivial⟩ K1)
theorem t_X3_takesOf_5  
    (K1 : Cal l D ad kA mX3_weighRest [.ref (ad 17)] M (fun oc M2 => ∃ r : Int32, oc = .returned (some (.int r)) ∧ Fw l D ad kA mX3_takesOf 9 [none, none, none] [.int r] M2 Q)) : Fw l D ad kA mX3_takesOf 5 [some (.ref (ad 17)), none, none] [] M Q := by
  refine r_aload_n dX3_takesOf_5 rfl ?_
  exact r_callV (x := 17) (As := []) (rest := []) dX3_takesOf_6 mk_X3_40 mv_X3_weighRest rm_X3_takesOf_X3_weighRest rfl rfl (by decide +kernel) (Nat.le_of_ble_eq_true rfl) (cal_i (lo' := [none, none, none]) trivial K1)
theorem t_X3_takesOf_9 {s1 : Int32} 
    (K1 : Q (.returned (some (.int s1))) M) : Fw l D ad kA mX3_takesOf 9 [none, none, none] [.int s1] M Q := by
  exact r_iret dX3_takesOf_9 rfl K1
theorem en_X3_takesOf {z1 : Int64} (K : Fw l D ad kA mX3_takesOf 0 [some (.ref (ad 17)), some (.long z1), none] [] M Q) : Cal l D ad kA mX3_takesOf [.ref (ad 17), .long z1] M Q := Cal.of (by decide) rfl rfl (Nat.le_of_ble_eq_true rfl) K
theorem t_X3_choose_0 {z1 : Int64} 
    (K1 : Cal l D ad kA mX3_takesOf [.ref (ad 17), .long z1] M (fun oc M2 => ∃ r : Int32, oc = .returned (some (.int r)) ∧ Fw l D ad kA mX3_choose 5 [some (.ref (ad 17)), none, none, none] [.int r] M2 Q)) : Fw l D ad kA mX3_choose 0 [some (.ref (ad 17)), some (.long z1), none, none] [] M Q := by
  refine r_aload_n dX3_choose_0 rfl ?_
  refine r_lload_n dX3_choose_1 rfl ?_
  exact r_callV (x := 17) (As := [.long z1]) (rest := []) dX3_choose_2 mk_X3_44 mv_X3_takesOf rm_X3_choose_X3_takesOf rfl rfl (by decide +kernel) (Nat.le_of_ble_eq_true rfl) (cal_i (lo' := [some (.ref (ad 17)), none, none, none]) ⟨rfl, trivial⟩ K1)
theorem t_X3_choose_5 {s1 : Int32} 
    (K1 : (16777216 ≤ s1) → Q (.returned (some (.int s1))) M)
    (K2 : (¬ (16777216 ≤ s1)) → Cal l D ad kA mX3_keepHands [.ref (ad 17)] M (fun oc M2 => oc = .returned none ∧ Fw l D ad kA mX3_choose 16 [none, none, none, some (.int s1)] [] M2 Q)) : Fw l D ad kA mX3_choose 5 [some (.ref (ad 17)), none, none, none] [.int s1] M Q := by
  refine q_istore_n (lo' := [some (.ref (ad 17)), none, none, some (.int s1)]) dX3_choose_5 (by decide) rfl ?_
  refine r_iload_n dX3_choose_6 rfl ?_
  refine r_ldc (v := 16777216) dX3_choose_7 co_X3_48 ?_
  refine r_icmp_ge (tgt := 16) dX3_choose_9 (by decide) (fun c1 => ?_) (fun c1 => ?_)
  · skip
    refine r_iload_n dX3_choose_16 rfl ?_
    exact r_iret dX3_choose_17 rfl (K1 c1)
  · skip
    refine r_aload_n dX3_choose_12 rfl ?_
    exact r_callV (x := 17) (As := []) (rest := []) dX3_choose_13 mk_X3_49 mv_X3_keepHands rm_X3_choose_X3_keepHands rfl rfl (by decide +kernel) (Nat.le_of_ble_eq_true rfl) (cal_v (lo' := [none, none, none, some (.int s1)]) ⟨rfl, trivial⟩ (K2 c1))
theorem t_X3_choose_16 {x3 : Int32} 
    (K1 : Q (.returned (some (.int x3))) M) : Fw l D ad kA mX3_choose 16 [none, none, none, some (.int x3)] [] M Q := by
  refine r_iload_n dX3_choose_16 rfl ?_
  exact r_iret dX3_choose_17 rfl K1
theorem en_X3_choose {z1 : Int64} (K : Fw l D ad kA mX3_choose 0 [some (.ref (ad 17)), some (.long z1), none, none] [] M Q) : Cal l D ad kA mX3_choose [.ref (ad 17), .long z1] M Q := Cal.of (by decide) rfl rfl (Nat.le_of_ble_eq_true rfl) K
theorem t_X3_weighWithout_0 {z1 : Int64} 
    (K1 : Cal l D ad kA mX3_takesOf [.ref (ad 17), .long z1] M (fun oc M2 => ∃ r : Int32, oc = .returned (some (.int r)) ∧ Fw l D ad kA mX3_weighWithout 5 [some (.ref (ad 17)), none, none, some (.ref (ad 29)), none] [.int r] M2 Q)) : Fw l D ad kA mX3_weighWithout 0 [some (.ref (ad 17)), some (.long z1), none, some (.ref (ad 29)), none] [] M Q := by
  refine r_aload_n dX3_weighWithout_0 rfl ?_
  refine r_lload_n dX3_weighWithout_1 rfl ?_
  exact r_callV (x := 17) (As := [.long z1]) (rest := []) dX3_weighWithout_2 mk_X3_44 mv_X3_takesOf rm_X3_weighWithout_X3_takesOf rfl rfl (by decide +kernel) (Nat.le_of_ble_eq_true rfl) (cal_i (lo' := [some (.ref (ad 17)), none, none, some (.ref (ad 29)), none]) ⟨rfl, rfl, trivial⟩ K1)
theorem t_X3_weighWithout_5 {s1 : Int32} 
    (K1 : Fw l D ad kA mX3_weighWithout 16 [some (.ref (ad 17)), none, none, some (.ref (ad 29)), some (.int 0)] [] (sI M 21 (0 : Int32).toNatClampNeg 0) Q) : Fw l D ad kA mX3_weighWithout 5 [some (.ref (ad 17)), none, none, some (.ref (ad 29)), none] [.int s1] M Q := by
  refine r_pop dX3_weighWithout_5 rfl ?_
  refine r_aload_n dX3_weighWithout_6 rfl ?_
  refine r_getR dX3_weighWithout_7 fs_17_8 fk_X3_21 ?_
  refine r_iconst (v := 0) dX3_weighWithout_10 kI_0 ?_
  refine r_iconst (v := 0) dX3_weighWithout_11 kI_0 ?_
  refine r_iast dX3_weighWithout_12 as_21 (by unfold vp_in; decide) ?_
  refine r_iconst (v := 0) dX3_weighWithout_13 kI_0 ?_
  refine q_istore (lo' := [some (.ref (ad 17)), none, none, some (.ref (ad 29)), some (.int 0)]) dX3_weighWithout_14 (by decide) rfl ?_
  exact K1
theorem t_X3_weighWithout_16 {x4 : Int32} 
    (g1 : (¬ ((gI M 17 5) ≤ x4)) → vp_in x4 160)
    (K1 : ((gI M 17 5) ≤ x4) → Q (.returned none) M)
    (K2 : (¬ ((gI M 17 5) ≤ x4)) → Cal l D ad kA mX3_takesSkipping [.ref (ad 17), .int x4] M (fun oc M2 => ∃ r : Int32, oc = .returned (some (.int r)) ∧ Fw l D ad kA mX3_weighWithout 39 [some (.ref (ad 17)), none, none, some (.ref (ad 29)), some (.int x4)] [.int r, .int (gI M 19 x4.toNatClampNeg), .ref (ad 29)] M2 Q)) : Fw l D ad kA mX3_weighWithout 16 [some (.ref (ad 17)), none, none, some (.ref (ad 29)), some (.int x4)] [] M Q := by
  refine r_iload dX3_weighWithout_16 rfl ?_
  refine r_aload_n dX3_weighWithout_18 rfl ?_
  refine r_getI dX3_weighWithout_19 fs_17_5 fk_X3_52 ?_
  refine r_icmp_ge (tgt := 52) dX3_weighWithout_22 (by decide) (fun c1 => ?_) (fun c1 => ?_)
  · skip
    exact r_vret dX3_weighWithout_52 rfl (K1 c1)
  · skip
    refine r_aload_n dX3_weighWithout_25 rfl ?_
    refine r_aload_n dX3_weighWithout_26 rfl ?_
    refine r_getR dX3_weighWithout_27 fs_17_4 fk_X3_15 ?_
    refine r_iload dX3_weighWithout_30 rfl ?_
    refine r_iald dX3_weighWithout_32 as_19 (g1 c1) ?_
    refine r_aload_n dX3_weighWithout_33 rfl ?_
    refine r_iload dX3_weighWithout_34 rfl ?_
    exact r_callV (x := 17) (As := [.int x4]) (rest := [.int (gI M 19 x4.toNatClampNeg), .ref (ad 29)]) dX3_weighWithout_36 mk_X3_56 mv_X3_takesSkipping rm_X3_weighWithout_X3_takesSkipping rfl rfl (by decide +kernel) (Nat.le_of_ble_eq_true rfl) (cal_i (lo' := [some (.ref (ad 17)), none, none, some (.ref (ad 29)), some (.int x4)]) ⟨rfl, rfl, rfl, trivial⟩ (K2 c1))
theorem t_X3_weighWithout_39 {x4 : Int32} {s3 : Int32} {s2 : Int32} 
    (g1 : vp_in s2 160)
    (K1 : Cal l D ad kA mX3_stepForth [.ref (ad 17), .int x4] (sI M 29 s2.toNatClampNeg s3) (fun oc M2 => oc = .returned none ∧ Fw l D ad kA mX3_weighWithout 46 [some (.ref (ad 17)), none, none, some (.ref (ad 29)), some (.int x4)] [] M2 Q)) : Fw l D ad kA mX3_weighWithout 39 [some (.ref (ad 17)), none, none, some (.ref (ad 29)), some (.int x4)] [.int s3, .int s2, .ref (ad 29)] M Q := by
  refine r_iast dX3_weighWithout_39 as_29 g1 ?_
  refine r_aload_n dX3_weighWithout_40 rfl ?_
  refine r_iload dX3_weighWithout_41 rfl ?_
  exact r_callV (x := 17) (As := [.int x4]) (rest := []) dX3_weighWithout_43 mk_X3_60 mv_X3_stepForth rm_X3_weighWithout_X3_stepForth rfl rfl (by decide +kernel) (Nat.le_of_ble_eq_true rfl) (cal_v (lo' := [some (.ref (ad 17)), none, none, some (.ref (ad 29)), some (.int x4)]) ⟨rfl, rfl, rfl, trivial⟩ K1)
theorem t_X3_weighWithout_46 {x4 : Int32} 
    (K1 : Fw l D ad kA mX3_weighWithout 16 [some (.ref (ad 17)), none, none, some (.ref (ad 29)), some (.int (x4 + 1))] [] M Q) : Fw l D ad kA mX3_weighWithout 46 [some (.ref (ad 17)), none, none, some (.ref (ad 29)), some (.int x4)] [] M Q := by
  refine q_iinc (v := x4 + 1) (lo' := [some (.ref (ad 17)), none, none, some (.ref (ad 29)), some (.int (x4 + 1))]) dX3_weighWithout_46 rfl (congrArg (fun q => x4 + q) kI_1) (by decide) rfl ?_
  refine r_goto (tgt := 16) dX3_weighWithout_49 (by decide) ?_
  exact K1
theorem en_X3_weighWithout {z1 : Int64} (K : Fw l D ad kA mX3_weighWithout 0 [some (.ref (ad 17)), some (.long z1), none, some (.ref (ad 29)), none] [] M Q) : Cal l D ad kA mX3_weighWithout [.ref (ad 17), .long z1, .ref (ad 29)] M Q := Cal.of (by decide) rfl rfl (Nat.le_of_ble_eq_true rfl) K
theorem t_X3_weighWith_0 {z1 : Int64} {z3 : Int64} {t : Nat} (ht : shL[t]? = some (.inl (0, 160)))
    (K1 : Cal l D ad kA mX3_takesOf [.ref (ad 17), .long z1] M (fun oc M2 => ∃ r : Int32, oc = .returned (some (.int r)) ∧ Fw l D ad kA mX3_weighWith 5 [some (.ref (ad 17)), none, none, some (.long z3), none, some (.ref (ad t)), none, none] [.int r] M2 Q)) : Fw l D ad kA mX3_weighWith 0 [some (.ref (ad 17)), some (.long z1), none, some (.long z3), none, some (.ref (ad t)), none, none] [] M Q := by
  refine r_aload_n dX3_weighWith_0 rfl ?_
  refine r_lload_n dX3_weighWith_1 rfl ?_
  exact r_callV (x := 17) (As := [.long z1]) (rest := []) dX3_weighWith_2 mk_X3_44 mv_X3_takesOf rm_X3_weighWith_X3_takesOf rfl rfl (by decide +kernel) (Nat.le_of_ble_eq_true rfl) (cal_i (lo' := [some (.ref (ad 17)), none, none, some (.long z3), none, some (.ref (ad t)), none, none]) ⟨rfl, rfl, rfl, trivial⟩ K1)
theorem t_X3_weighWith_5 {z3 : Int64} {t : Nat} {s1 : Int32} (ht : shL[t]? = some (.inl (0, 160)))
    (K1 : Fw l D ad kA mX3_weighWith 19 [some (.ref (ad 17)), none, none, some (.long z3), none, some (.ref (ad t)), some (.int 0), some (.int 0)] [] (sI M 21 (0 : Int32).toNatClampNeg 0) Q) : Fw l D ad kA mX3_weighWith 5 [some (.ref (ad 17)), none, none, some (.long z3), none, some (.ref (ad t)), none, none] [.int s1] M Q := by
  refine r_pop dX3_weighWith_5 rfl ?_
  refine r_aload_n dX3_weighWith_6 rfl ?_
  refine r_getR dX3_weighWith_7 fs_17_8 fk_X3_21 ?_
  refine r_iconst (v := 0) dX3_weighWith_10 kI_0 ?_
  refine r_iconst (v := 0) dX3_weighWith_11 kI_0 ?_
  refine r_iast dX3_weighWith_12 as_21 (by unfold vp_in; decide) ?_
  refine r_iconst (v := 0) dX3_weighWith_13 kI_0 ?_
  refine q_istore (lo' := [some (.ref (ad 17)), none, none, some (.long z3), none, some (.ref (ad t)), some (.int 0), none]) dX3_weighWith_14 (by decide) rfl ?_
  refine r_iconst (v := 0) dX3_weighWith_16 kI_0 ?_
  refine q_istore (lo' := [some (.ref (ad 17)), none, none, some (.long z3), none, some (.ref (ad t)), some (.int 0), some (.int 0)]) dX3_weighWith_17 (by decide) rfl ?_
  exact K1
theorem t_X3_weighWith_19 {z3 : Int64} {t : Nat} {x6 : Int32} {x7 : Int32} (ht : shL[t]? = some (.inl (0, 160)))
    (g1 : (¬ ((gI M 9 4) ≤ x7)) → ((gI M 17 5) ≤ x6) → g_X9_isOn M z3 x7)
    (g2 : (¬ ((gI M 9 4) ≤ x7)) → (¬ ((gI M 17 5) ≤ x6)) → vp_in x6 160)
    (g3 : (¬ ((gI M 9 4) ≤ x7)) → (¬ ((gI M 17 5) ≤ x6)) → (¬ ((gI M 19 x6.toNatClampNeg) = x7)) → g_X9_isOn M z3 x7)
    (K1 : ((gI M 9 4) ≤ x7) → Q (.returned none) M)
    (K2 : (¬ ((gI M 9 4) ≤ x7)) → ((gI M 17 5) ≤ x6) → ((v_X9_isOn M z3 x7) = 0) → Fw l D ad kA mX3_weighWith 19 [some (.ref (ad 17)), none, none, some (.long z3), none, some (.ref (ad t)), some (.int x6), some (.int (x7 + 1))] [] M Q)
    (K3 : (¬ ((gI M 9 4) ≤ x7)) → ((gI M 17 5) ≤ x6) → (¬ ((v_X9_isOn M z3 x7) = 0)) → Cal l D ad kA mX3_takesInserting [.ref (ad 17), .int x7, .int x6] M (fun oc M2 => ∃ r : Int32, oc = .returned (some (.int r)) ∧ Fw l D ad kA mX3_weighWith 89 [some (.ref (ad 17)), none, none, some (.long z3), none, some (.ref (ad t)), some (.int x6), some (.int x7)] [.int r, .int x7, .ref (ad t)] M2 Q))
    (K4 : (¬ ((gI M 9 4) ≤ x7)) → (¬ ((gI M 17 5) ≤ x6)) → (¬ ((gI M 19 x6.toNatClampNeg) = x7)) → ((v_X9_isOn M z3 x7) = 0) → Fw l D ad kA mX3_weighWith 19 [some (.ref (ad 17)), none, none, some (.long z3), none, some (.ref (ad t)), some (.int x6), some (.int (x7 + 1))] [] M Q)
    (K5 : (¬ ((gI M 9 4) ≤ x7)) → (¬ ((gI M 17 5) ≤ x6)) → (¬ ((gI M 19 x6.toNatClampNeg) = x7)) → (¬ ((v_X9_isOn M z3 x7) = 0)) → Cal l D ad kA mX3_takesInserting [.ref (ad 17), .int x7, .int x6] M (fun oc M2 => ∃ r : Int32, oc = .returned (some (.int r)) ∧ Fw l D ad kA mX3_weighWith 89 [some (.ref (ad 17)), none, none, some (.long z3), none, some (.ref (ad t)), some (.int x6), some (.int x7)] [.int r, .int x7, .ref (ad t)] M2 Q))
    (K6 : (¬ ((gI M 9 4) ≤ x7)) → (¬ ((gI M 17 5) ≤ x6)) → ((gI M 19 x6.toNatClampNeg) = x7) → Cal l D ad kA mX3_stepForth [.ref (ad 17), .int x6] M (fun oc M2 => oc = .returned none ∧ Fw l D ad kA mX3_weighWith 58 [some (.ref (ad 17)), none, none, some (.long z3), none, some (.ref (ad t)), some (.int x6), some (.int x7)] [] M2 Q)) : Fw l D ad kA mX3_weighWith 19 [some (.ref (ad 17)), none, none, some (.long z3), none, some (.ref (ad t)), some (.int x6), some (.int x7)] [] M Q := by
  refine r_iload dX3_weighWith_19 rfl ?_
  refine r_aload_n dX3_weighWith_21 rfl ?_
  refine r_getR dX3_weighWith_22 fs_17_0 fk_X3_24 ?_
  refine r_getI dX3_weighWith_25 fs_9_4 fk_X3_64 ?_
  refine r_icmp_ge (tgt := 96) dX3_weighWith_28 (by decide) (fun c1 => ?_) (fun c1 => ?_)
  · skip
    exact r_vret dX3_weighWith_96 rfl (K1 c1)
  · skip
    refine r_iload dX3_weighWith_31 rfl ?_
    refine r_aload_n dX3_weighWith_33 rfl ?_
    refine r_getI dX3_weighWith_34 fs_17_5 fk_X3_52 ?_
    refine r_icmp_ge (tgt := 64) dX3_weighWith_37 (by decide) (fun c2 => ?_) (fun c2 => ?_)
    · skip
      refine r_aload_n dX3_weighWith_64 rfl ?_
      refine r_getR dX3_weighWith_65 fs_17_0 fk_X3_24 ?_
      refine r_lload_n dX3_weighWith_68 rfl ?_
      refine r_iload dX3_weighWith_69 rfl ?_
      refine r_callV (x := 9) (As := [.long z3, .int x7]) (rest := []) dX3_weighWith_71 mk_X3_67 mv_X9_isOn rm_X3_weighWith_X9_isOn rfl rfl (by decide +kernel) (Nat.le_of_ble_eq_true rfl) (ct_X9_isOn (g1 c1 c2) (⟨_, rfl, ?_⟩))
      refine r_if_eq (tgt := 90) dX3_weighWith_74 (by decide) (fun c3 => ?_) (fun c3 => ?_)
      · skip
        refine q_iinc (v := x7 + 1) (lo' := [some (.ref (ad 17)), none, none, some (.long z3), none, some (.ref (ad t)), some (.int x6), some (.int (x7 + 1))]) dX3_weighWith_90 rfl (congrArg (fun q => x7 + q) kI_1) (by decide) rfl ?_
        refine r_goto (tgt := 19) dX3_weighWith_93 (by decide) ?_
        exact (K2 c1 c2 c3)
      · skip
        refine r_aload dX3_weighWith_77 rfl ?_
        refine r_iload dX3_weighWith_79 rfl ?_
        refine r_aload_n dX3_weighWith_81 rfl ?_
        refine r_iload dX3_weighWith_82 rfl ?_
        refine r_iload dX3_weighWith_84 rfl ?_
        exact r_callV (x := 17) (As := [.int x7, .int x6]) (rest := [.int x7, .ref (ad t)]) dX3_weighWith_86 mk_X3_71 mv_X3_takesInserting rm_X3_weighWith_X3_takesInserting rfl rfl (by decide +kernel) (Nat.le_of_ble_eq_true rfl) (cal_i (lo' := [some (.ref (ad 17)), none, none, some (.long z3), none, some (.ref (ad t)), some (.int x6), some (.int x7)]) ⟨rfl, rfl, rfl, rfl, rfl, trivial⟩ (K3 c1 c2 c3))
    · skip
      refine r_aload_n dX3_weighWith_40 rfl ?_
      refine r_getR dX3_weighWith_41 fs_17_4 fk_X3_15 ?_
      refine r_iload dX3_weighWith_44 rfl ?_
      refine r_iald dX3_weighWith_46 as_19 (g2 c1 c2) ?_
      refine r_iload dX3_weighWith_47 rfl ?_
      refine r_icmp_ne (tgt := 64) dX3_weighWith_49 (by decide) (fun c4 => ?_) (fun c4 => ?_)
      · skip
        refine r_aload_n dX3_weighWith_64 rfl ?_
        refine r_getR dX3_weighWith_65 fs_17_0 fk_X3_24 ?_
        refine r_lload_n dX3_weighWith_68 rfl ?_
        refine r_iload dX3_weighWith_69 rfl ?_
        refine r_callV (x := 9) (As := [.long z3, .int x7]) (rest := []) dX3_weighWith_71 mk_X3_67 mv_X9_isOn rm_X3_weighWith_X9_isOn rfl rfl (by decide +kernel) (Nat.le_of_ble_eq_true rfl) (ct_X9_isOn (g3 c1 c2 c4) (⟨_, rfl, ?_⟩))
        refine r_if_eq (tgt := 90) dX3_weighWith_74 (by decide) (fun c5 => ?_) (fun c5 => ?_)
        · skip
          refine q_iinc (v := x7 + 1) (lo' := [some (.ref (ad 17)), none, none, some (.long z3), none, some (.ref (ad t)), some (.int x6), some (.int (x7 + 1))]) dX3_weighWith_90 rfl (congrArg (fun q => x7 + q) kI_1) (by decide) rfl ?_
          refine r_goto (tgt := 19) dX3_weighWith_93 (by decide) ?_
          exact (K4 c1 c2 c4 c5)
        · skip
          refine r_aload dX3_weighWith_77 rfl ?_
          refine r_iload dX3_weighWith_79 rfl ?_
          refine r_aload_n dX3_weighWith_81 rfl ?_
          refine r_iload dX3_weighWith_82 rfl ?_
          refine r_iload dX3_weighWith_84 rfl ?_
          exact r_callV (x := 17) (As := [.int x7, .int x6]) (rest := [.int x7, .ref (ad t)]) dX3_weighWith_86 mk_X3_71 mv_X3_takesInserting rm_X3_weighWith_X3_takesInserting rfl rfl (by decide +kernel) (Nat.le_of_ble_eq_true rfl) (cal_i (lo' := [some (.ref (ad 17)), none, none, some (.long z3), none, some (.ref (ad t)), some (.int x6), some (.int x7)]) ⟨rfl, rfl, rfl, rfl, rfl, trivial⟩ (K5 c1 c2 c4 c5))
      · skip
        refine r_aload_n dX3_weighWith_52 rfl ?_
        refine r_iload dX3_weighWith_53 rfl ?_
        exact r_callV (x := 17) (As := [.int x6]) (rest := []) dX3_weighWith_55 mk_X3_60 mv_X3_stepForth rm_X3_weighWith_X3_stepForth rfl rfl (by decide +kernel) (Nat.le_of_ble_eq_true rfl) (cal_v (lo' := [some (.ref (ad 17)), none, none, some (.long z3), none, some (.ref (ad t)), some (.int x6), some (.int x7)]) ⟨rfl, rfl, rfl, rfl, rfl, trivial⟩ (K6 c1 c2 c4))
theorem t_X3_weighWith_89 {z3 : Int64} {t : Nat} {x6 : Int32} {x7 : Int32} {s3 : Int32} {s2 : Int32} (ht : shL[t]? = some (.inl (0, 160)))
    (g1 : vp_in s2 160)
    (K1 : Fw l D ad kA mX3_weighWith 19 [some (.ref (ad 17)), none, none, some (.long z3), none, some (.ref (ad t)), some (.int x6), some (.int (x7 + 1))] [] (sI M t s2.toNatClampNeg s3) Q) : Fw l D ad kA mX3_weighWith 89 [some (.ref (ad 17)), none, none, some (.long z3), none, some (.ref (ad t)), some (.int x6), some (.int x7)] [.int s3, .int s2, .ref (ad t)] M Q := by
  refine r_iast dX3_weighWith_89 ht g1 ?_
  refine q_iinc (v := x7 + 1) (lo' := [some (.ref (ad 17)), none, none, some (.long z3), none, some (.ref (ad t)), some (.int x6), some (.int (x7 + 1))]) dX3_weighWith_90 rfl (congrArg (fun q => x7 + q) kI_1) (by decide) rfl ?_
  refine r_goto (tgt := 19) dX3_weighWith_93 (by decide) ?_
  exact K1
theorem t_X3_weighWith_58 {z3 : Int64} {t : Nat} {x6 : Int32} {x7 : Int32} (ht : shL[t]? = some (.inl (0, 160)))
    (K1 : Fw l D ad kA mX3_weighWith 19 [some (.ref (ad 17)), none, none, some (.long z3), none, some (.ref (ad t)), some (.int (x6 + 1)), some (.int (x7 + 1))] [] M Q) : Fw l D ad kA mX3_weighWith 58 [some (.ref (ad 17)), none, none, some (.long z3), none, some (.ref (ad t)), some (.int x6), some (.int x7)] [] M Q := by
  refine q_iinc (v := x6 + 1) (lo' := [some (.ref (ad 17)), none, none, some (.long z3), none, some (.ref (ad t)), some (.int (x6 + 1)), some (.int x7)]) dX3_weighWith_58 rfl (congrArg (fun q => x6 + q) kI_1) (by decide) rfl ?_
  refine r_goto (tgt := 90) dX3_weighWith_61 (by decide) ?_
  refine q_iinc (v := x7 + 1) (lo' := [some (.ref (ad 17)), none, none, some (.long z3), none, some (.ref (ad t)), some (.int (x6 + 1)), some (.int (x7 + 1))]) dX3_weighWith_90 rfl (congrArg (fun q => x7 + q) kI_1) (by decide) rfl ?_
  refine r_goto (tgt := 19) dX3_weighWith_93 (by decide) ?_
  exact K1
theorem en_X3_weighWith {z1 : Int64} {z3 : Int64} {t : Nat} (K : Fw l D ad kA mX3_weighWith 0 [some (.ref (ad 17)), some (.long z1), none, some (.long z3), none, some (.ref (ad t)), none, none] [] M Q) : Cal l D ad kA mX3_weighWith [.ref (ad 17), .long z1, .long z3, .ref (ad t)] M Q := Cal.of (by decide) rfl rfl (Nat.le_of_ble_eq_true rfl) K
end W_hands
end
