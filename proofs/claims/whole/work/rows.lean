section
-- ===== PART A: goes FIRST, ahead of the names: the tables' words, and 'selects' of the private methods out of them =====
/-- a private method of a class that the tables say can be made, by its rows of tables_1 -/
def lw_okq (q : MethodName × Nat) : Prop := (q.1.cls ≠ "java/lang/invoke/MethodHandle" ∧ q.1.cls ≠ "java/lang/invoke/VarHandle") ∧ Cond.instantiable q.1.cls q.2 ∈ tables_1 ∧ Cond.privateMethod q.1 ∈ tables_1 ∧ Cond.instanceMethod q.1 ∈ tables_1
theorem lw_p0 : lw_okq (⟨"BellTable$Tape", "byteAt", "(I)I"⟩, 8) := ⟨⟨by decide +kernel, by decide +kernel⟩, List.mem_of_getElem? (i := 32) (by decide +kernel), List.mem_of_getElem? (i := 493) (by decide +kernel), List.mem_of_getElem? (i := 494) (by decide +kernel)⟩
theorem lw_p1 : lw_okq (⟨"BellTable$Tape", "readWord", "()V"⟩, 8) := ⟨⟨by decide +kernel, by decide +kernel⟩, List.mem_of_getElem? (i := 32) (by decide +kernel), List.mem_of_getElem? (i := 503) (by decide +kernel), List.mem_of_getElem? (i := 504) (by decide +kernel)⟩
theorem lw_p2 : lw_okq (⟨"BellTable$Tape", "readNumber", "()V"⟩, 8) := ⟨⟨by decide +kernel, by decide +kernel⟩, List.mem_of_getElem? (i := 32) (by decide +kernel), List.mem_of_getElem? (i := 510) (by decide +kernel), List.mem_of_getElem? (i := 511) (by decide +kernel)⟩
theorem lw_p3 : lw_okq (⟨"BellTable$BeatText", "take", "(Z)V"⟩, 5) := ⟨⟨by decide +kernel, by decide +kernel⟩, List.mem_of_getElem? (i := 73) (by decide +kernel), List.mem_of_getElem? (i := 514) (by decide +kernel), List.mem_of_getElem? (i := 515) (by decide +kernel)⟩
theorem lw_p4 : lw_okq (⟨"BellTable$BeatText", "goOnIf", "(ZI)V"⟩, 5) := ⟨⟨by decide +kernel, by decide +kernel⟩, List.mem_of_getElem? (i := 73) (by decide +kernel), List.mem_of_getElem? (i := 571) (by decide +kernel), List.mem_of_getElem? (i := 572) (by decide +kernel)⟩
theorem lw_p5 : lw_okq (⟨"BellTable$BeatText", "takeBeat", "()V"⟩, 5) := ⟨⟨by decide +kernel, by decide +kernel⟩, List.mem_of_getElem? (i := 73) (by decide +kernel), List.mem_of_getElem? (i := 579) (by decide +kernel), List.mem_of_getElem? (i := 580) (by decide +kernel)⟩
theorem lw_p6 : lw_okq (⟨"BellTable$BeatText", "takeLength", "()V"⟩, 5) := ⟨⟨by decide +kernel, by decide +kernel⟩, List.mem_of_getElem? (i := 73) (by decide +kernel), List.mem_of_getElem? (i := 583) (by decide +kernel), List.mem_of_getElem? (i := 584) (by decide +kernel)⟩
theorem lw_p7 : lw_okq (⟨"BellTable$BeatText", "takeBell", "(Z)V"⟩, 5) := ⟨⟨by decide +kernel, by decide +kernel⟩, List.mem_of_getElem? (i := 73) (by decide +kernel), List.mem_of_getElem? (i := 587) (by decide +kernel), List.mem_of_getElem? (i := 588) (by decide +kernel)⟩
theorem lw_p8 : lw_okq (⟨"BellTable$BeatText", "takeWord", "()V"⟩, 5) := ⟨⟨by decide +kernel, by decide +kernel⟩, List.mem_of_getElem? (i := 73) (by decide +kernel), List.mem_of_getElem? (i := 602) (by decide +kernel), List.mem_of_getElem? (i := 603) (by decide +kernel)⟩
theorem lw_p9 : lw_okq (⟨"BellTable$Manners", "take", "(LBellTable$Tape;)V"⟩, 5) := ⟨⟨by decide +kernel, by decide +kernel⟩, List.mem_of_getElem? (i := 146) (by decide +kernel), List.mem_of_getElem? (i := 657) (by decide +kernel), List.mem_of_getElem? (i := 658) (by decide +kernel)⟩
theorem lw_p10 : lw_okq (⟨"BellTable$Manners", "takeWord", "(LBellTable$Tape;)V"⟩, 5) := ⟨⟨by decide +kernel, by decide +kernel⟩, List.mem_of_getElem? (i := 146) (by decide +kernel), List.mem_of_getElem? (i := 661) (by decide +kernel), List.mem_of_getElem? (i := 662) (by decide +kernel)⟩
theorem lw_p11 : lw_okq (⟨"BellTable$Manners", "takeNumber", "(LBellTable$Tape;)V"⟩, 5) := ⟨⟨by decide +kernel, by decide +kernel⟩, List.mem_of_getElem? (i := 146) (by decide +kernel), List.mem_of_getElem? (i := 674) (by decide +kernel), List.mem_of_getElem? (i := 675) (by decide +kernel)⟩
theorem lw_p12 : lw_okq (⟨"BellTable", "isRinger", "(I)Z"⟩, 12) := ⟨⟨by decide +kernel, by decide +kernel⟩, List.mem_of_getElem? (i := 24) (by decide +kernel), List.mem_of_getElem? (i := 714) (by decide +kernel), List.mem_of_getElem? (i := 715) (by decide +kernel)⟩
theorem lw_p13 : lw_okq (⟨"BellTable$Hands", "gather", "(J)V"⟩, 9) := ⟨⟨by decide +kernel, by decide +kernel⟩, List.mem_of_getElem? (i := 176) (by decide +kernel), List.mem_of_getElem? (i := 730) (by decide +kernel), List.mem_of_getElem? (i := 731) (by decide +kernel)⟩
theorem lw_p14 : lw_okq (⟨"BellTable$Hands", "weighRest", "()I"⟩, 9) := ⟨⟨by decide +kernel, by decide +kernel⟩, List.mem_of_getElem? (i := 176) (by decide +kernel), List.mem_of_getElem? (i := 738) (by decide +kernel), List.mem_of_getElem? (i := 739) (by decide +kernel)⟩
theorem lw_p15 : lw_okq (⟨"BellTable$Hands", "stepBack", "(I)Z"⟩, 9) := ⟨⟨by decide +kernel, by decide +kernel⟩, List.mem_of_getElem? (i := 176) (by decide +kernel), List.mem_of_getElem? (i := 745) (by decide +kernel), List.mem_of_getElem? (i := 746) (by decide +kernel)⟩
def lw_privs_1 : List (MethodName × Nat) := [(⟨"BellTable$Tape", "byteAt", "(I)I"⟩, 8), (⟨"BellTable$Tape", "readWord", "()V"⟩, 8), (⟨"BellTable$Tape", "readNumber", "()V"⟩, 8), (⟨"BellTable$BeatText", "take", "(Z)V"⟩, 5), (⟨"BellTable$BeatText", "goOnIf", "(ZI)V"⟩, 5), (⟨"BellTable$BeatText", "takeBeat", "()V"⟩, 5), (⟨"BellTable$BeatText", "takeLength", "()V"⟩, 5), (⟨"BellTable$BeatText", "takeBell", "(Z)V"⟩, 5), (⟨"BellTable$BeatText", "takeWord", "()V"⟩, 5), (⟨"BellTable$Manners", "take", "(LBellTable$Tape;)V"⟩, 5), (⟨"BellTable$Manners", "takeWord", "(LBellTable$Tape;)V"⟩, 5), (⟨"BellTable$Manners", "takeNumber", "(LBellTable$Tape;)V"⟩, 5), (⟨"BellTable", "isRinger", "(I)Z"⟩, 12), (⟨"BellTable$Hands", "gather", "(J)V"⟩, 9), (⟨"BellTable$Hands", "weighRest", "()I"⟩, 9), (⟨"BellTable$Hands", "stepBack", "(I)Z"⟩, 9)]
theorem lw_r1 : ∀ q ∈ lw_privs_1, lw_okq q := List.forall_mem_cons.mpr ⟨lw_p0, List.forall_mem_cons.mpr ⟨lw_p1, List.forall_mem_cons.mpr ⟨lw_p2, List.forall_mem_cons.mpr ⟨lw_p3, List.forall_mem_cons.mpr ⟨lw_p4, List.forall_mem_cons.mpr ⟨lw_p5, List.forall_mem_cons.mpr ⟨lw_p6, List.forall_mem_cons.mpr ⟨lw_p7, List.forall_mem_cons.mpr ⟨lw_p8, List.forall_mem_cons.mpr ⟨lw_p9, List.forall_mem_cons.mpr ⟨lw_p10, List.forall_mem_cons.mpr ⟨lw_p11, List.forall_mem_cons.mpr ⟨lw_p12, List.forall_mem_cons.mpr ⟨lw_p13, List.forall_mem_cons.mpr ⟨lw_p14, List.forall_mem_cons.mpr ⟨lw_p15, fun _ h => absurd h List.not_mem_nil⟩⟩⟩⟩⟩⟩⟩⟩⟩⟩⟩⟩⟩⟩⟩⟩
theorem lw_p16 : lw_okq (⟨"BellTable$Hands", "move", "(II)I"⟩, 9) := ⟨⟨by decide +kernel, by decide +kernel⟩, List.mem_of_getElem? (i := 176) (by decide +kernel), List.mem_of_getElem? (i := 749) (by decide +kernel), List.mem_of_getElem? (i := 750) (by decide +kernel)⟩
theorem lw_p17 : lw_okq (⟨"BellTable$Hands", "holds", "(II)Z"⟩, 9) := ⟨⟨by decide +kernel, by decide +kernel⟩, List.mem_of_getElem? (i := 176) (by decide +kernel), List.mem_of_getElem? (i := 754) (by decide +kernel), List.mem_of_getElem? (i := 755) (by decide +kernel)⟩
theorem lw_p18 : lw_okq (⟨"BellTable$Hands", "did", "(I)I"⟩, 9) := ⟨⟨by decide +kernel, by decide +kernel⟩, List.mem_of_getElem? (i := 176) (by decide +kernel), List.mem_of_getElem? (i := 758) (by decide +kernel), List.mem_of_getElem? (i := 759) (by decide +kernel)⟩
theorem lw_p19 : lw_okq (⟨"BellTable$Hands", "restOf", "(II)I"⟩, 9) := ⟨⟨by decide +kernel, by decide +kernel⟩, List.mem_of_getElem? (i := 176) (by decide +kernel), List.mem_of_getElem? (i := 763) (by decide +kernel), List.mem_of_getElem? (i := 764) (by decide +kernel)⟩
theorem lw_p20 : lw_okq (⟨"BellTable$Hands", "keepHands", "()V"⟩, 9) := ⟨⟨by decide +kernel, by decide +kernel⟩, List.mem_of_getElem? (i := 176) (by decide +kernel), List.mem_of_getElem? (i := 767) (by decide +kernel), List.mem_of_getElem? (i := 768) (by decide +kernel)⟩
theorem lw_p21 : lw_okq (⟨"BellTable$Hands", "swapsFor", "(III)Z"⟩, 9) := ⟨⟨by decide +kernel, by decide +kernel⟩, List.mem_of_getElem? (i := 176) (by decide +kernel), List.mem_of_getElem? (i := 771) (by decide +kernel), List.mem_of_getElem? (i := 772) (by decide +kernel)⟩
theorem lw_p22 : lw_okq (⟨"BellTable$Hands", "step", "(III)I"⟩, 9) := ⟨⟨by decide +kernel, by decide +kernel⟩, List.mem_of_getElem? (i := 176) (by decide +kernel), List.mem_of_getElem? (i := 775) (by decide +kernel), List.mem_of_getElem? (i := 776) (by decide +kernel)⟩
theorem lw_p23 : lw_okq (⟨"BellTable", "standAllBut", "(I)V"⟩, 12) := ⟨⟨by decide +kernel, by decide +kernel⟩, List.mem_of_getElem? (i := 24) (by decide +kernel), List.mem_of_getElem? (i := 791) (by decide +kernel), List.mem_of_getElem? (i := 792) (by decide +kernel)⟩
theorem lw_p24 : lw_okq (⟨"BellTable$Ranges", "weighPieces", "()V"⟩, 13) := ⟨⟨by decide +kernel, by decide +kernel⟩, List.mem_of_getElem? (i := 212) (by decide +kernel), List.mem_of_getElem? (i := 803) (by decide +kernel), List.mem_of_getElem? (i := 804) (by decide +kernel)⟩
theorem lw_p25 : lw_okq (⟨"BellTable$Ranges", "longestFrom", "(I)I"⟩, 13) := ⟨⟨by decide +kernel, by decide +kernel⟩, List.mem_of_getElem? (i := 212) (by decide +kernel), List.mem_of_getElem? (i := 807) (by decide +kernel), List.mem_of_getElem? (i := 808) (by decide +kernel)⟩
theorem lw_p26 : lw_okq (⟨"BellTable$Ranges", "leastFrom", "(IIZ)I"⟩, 13) := ⟨⟨by decide +kernel, by decide +kernel⟩, List.mem_of_getElem? (i := 212) (by decide +kernel), List.mem_of_getElem? (i := 814) (by decide +kernel), List.mem_of_getElem? (i := 815) (by decide +kernel)⟩
theorem lw_p27 : lw_okq (⟨"BellTable$Ranges", "priceWith", "(IIIZ)I"⟩, 13) := ⟨⟨by decide +kernel, by decide +kernel⟩, List.mem_of_getElem? (i := 212) (by decide +kernel), List.mem_of_getElem? (i := 818) (by decide +kernel), List.mem_of_getElem? (i := 819) (by decide +kernel)⟩
theorem lw_p28 : lw_okq (⟨"BellTable$Ranges", "countChanges", "(III)I"⟩, 13) := ⟨⟨by decide +kernel, by decide +kernel⟩, List.mem_of_getElem? (i := 212) (by decide +kernel), List.mem_of_getElem? (i := 822) (by decide +kernel), List.mem_of_getElem? (i := 823) (by decide +kernel)⟩
theorem lw_p29 : lw_okq (⟨"BellTable$Ranges", "handOut", "(Z)V"⟩, 13) := ⟨⟨by decide +kernel, by decide +kernel⟩, List.mem_of_getElem? (i := 212) (by decide +kernel), List.mem_of_getElem? (i := 827) (by decide +kernel), List.mem_of_getElem? (i := 828) (by decide +kernel)⟩
theorem lw_p30 : lw_okq (⟨"BellTable", "canHelp", "(I)Z"⟩, 12) := ⟨⟨by decide +kernel, by decide +kernel⟩, List.mem_of_getElem? (i := 24) (by decide +kernel), List.mem_of_getElem? (i := 863) (by decide +kernel), List.mem_of_getElem? (i := 864) (by decide +kernel)⟩
theorem lw_p31 : lw_okq (⟨"BellTable$Hands", "takesSkipping", "(I)I"⟩, 9) := ⟨⟨by decide +kernel, by decide +kernel⟩, List.mem_of_getElem? (i := 176) (by decide +kernel), List.mem_of_getElem? (i := 876) (by decide +kernel), List.mem_of_getElem? (i := 877) (by decide +kernel)⟩
def lw_privs_2 : List (MethodName × Nat) := [(⟨"BellTable$Hands", "move", "(II)I"⟩, 9), (⟨"BellTable$Hands", "holds", "(II)Z"⟩, 9), (⟨"BellTable$Hands", "did", "(I)I"⟩, 9), (⟨"BellTable$Hands", "restOf", "(II)I"⟩, 9), (⟨"BellTable$Hands", "keepHands", "()V"⟩, 9), (⟨"BellTable$Hands", "swapsFor", "(III)Z"⟩, 9), (⟨"BellTable$Hands", "step", "(III)I"⟩, 9), (⟨"BellTable", "standAllBut", "(I)V"⟩, 12), (⟨"BellTable$Ranges", "weighPieces", "()V"⟩, 13), (⟨"BellTable$Ranges", "longestFrom", "(I)I"⟩, 13), (⟨"BellTable$Ranges", "leastFrom", "(IIZ)I"⟩, 13), (⟨"BellTable$Ranges", "priceWith", "(IIIZ)I"⟩, 13), (⟨"BellTable$Ranges", "countChanges", "(III)I"⟩, 13), (⟨"BellTable$Ranges", "handOut", "(Z)V"⟩, 13), (⟨"BellTable", "canHelp", "(I)Z"⟩, 12), (⟨"BellTable$Hands", "takesSkipping", "(I)I"⟩, 9)]
theorem lw_r2 : ∀ q ∈ lw_privs_2, lw_okq q := List.forall_mem_cons.mpr ⟨lw_p16, List.forall_mem_cons.mpr ⟨lw_p17, List.forall_mem_cons.mpr ⟨lw_p18, List.forall_mem_cons.mpr ⟨lw_p19, List.forall_mem_cons.mpr ⟨lw_p20, List.forall_mem_cons.mpr ⟨lw_p21, List.forall_mem_cons.mpr ⟨lw_p22, List.forall_mem_cons.mpr ⟨lw_p23, List.forall_mem_cons.mpr ⟨lw_p24, List.forall_mem_cons.mpr ⟨lw_p25, List.forall_mem_cons.mpr ⟨lw_p26, List.forall_mem_cons.mpr ⟨lw_p27, List.forall_mem_cons.mpr ⟨lw_p28, List.forall_mem_cons.mpr ⟨lw_p29, List.forall_mem_cons.mpr ⟨lw_p30, List.forall_mem_cons.mpr ⟨lw_p31, fun _ h => absurd h List.not_mem_nil⟩⟩⟩⟩⟩⟩⟩⟩⟩⟩⟩⟩⟩⟩⟩⟩
theorem lw_p32 : lw_okq (⟨"BellTable$Hands", "stepForth", "(I)V"⟩, 9) := ⟨⟨by decide +kernel, by decide +kernel⟩, List.mem_of_getElem? (i := 176) (by decide +kernel), List.mem_of_getElem? (i := 886) (by decide +kernel), List.mem_of_getElem? (i := 887) (by decide +kernel)⟩
theorem lw_p33 : lw_okq (⟨"BellTable$Hands", "takesInserting", "(II)I"⟩, 9) := ⟨⟨by decide +kernel, by decide +kernel⟩, List.mem_of_getElem? (i := 176) (by decide +kernel), List.mem_of_getElem? (i := 894) (by decide +kernel), List.mem_of_getElem? (i := 895) (by decide +kernel)⟩
theorem lw_p34 : lw_okq (⟨"BellTable$Hands", "restBeside", "(II)I"⟩, 9) := ⟨⟨by decide +kernel, by decide +kernel⟩, List.mem_of_getElem? (i := 176) (by decide +kernel), List.mem_of_getElem? (i := 898) (by decide +kernel), List.mem_of_getElem? (i := 899) (by decide +kernel)⟩
theorem lw_p35 : lw_okq (⟨"BellTable$Hands", "restBehind", "(IIII)I"⟩, 9) := ⟨⟨by decide +kernel, by decide +kernel⟩, List.mem_of_getElem? (i := 176) (by decide +kernel), List.mem_of_getElem? (i := 902) (by decide +kernel), List.mem_of_getElem? (i := 903) (by decide +kernel)⟩
theorem lw_p36 : lw_okq (⟨"BellTable$Helping", "keepIfLess", "(III)V"⟩, 9) := ⟨⟨by decide +kernel, by decide +kernel⟩, List.mem_of_getElem? (i := 262) (by decide +kernel), List.mem_of_getElem? (i := 908) (by decide +kernel), List.mem_of_getElem? (i := 909) (by decide +kernel)⟩
theorem lw_p37 : lw_okq (⟨"BellTable$Sound", "areNext", "(II)Z"⟩, 5) := ⟨⟨by decide +kernel, by decide +kernel⟩, List.mem_of_getElem? (i := 298) (by decide +kernel), List.mem_of_getElem? (i := 924) (by decide +kernel), List.mem_of_getElem? (i := 925) (by decide +kernel)⟩
theorem lw_p38 : lw_okq (⟨"BellTable$Sound", "lengthDamped", "(I)I"⟩, 5) := ⟨⟨by decide +kernel, by decide +kernel⟩, List.mem_of_getElem? (i := 298) (by decide +kernel), List.mem_of_getElem? (i := 948) (by decide +kernel), List.mem_of_getElem? (i := 949) (by decide +kernel)⟩
theorem lw_p39 : lw_okq (⟨"BellTable$Listening", "weigh", "(LBellTable$Strokes;)V"⟩, 9) := ⟨⟨by decide +kernel, by decide +kernel⟩, List.mem_of_getElem? (i := 323) (by decide +kernel), List.mem_of_getElem? (i := 961) (by decide +kernel), List.mem_of_getElem? (i := 962) (by decide +kernel)⟩
theorem lw_p40 : lw_okq (⟨"BellTable$Listening", "pairPoints", "(ILBellTable$Strokes;I)I"⟩, 9) := ⟨⟨by decide +kernel, by decide +kernel⟩, List.mem_of_getElem? (i := 323) (by decide +kernel), List.mem_of_getElem? (i := 966) (by decide +kernel), List.mem_of_getElem? (i := 967) (by decide +kernel)⟩
theorem lw_p41 : lw_okq (⟨"BellTable$Listening", "walk", "(LBellTable$Strokes;)V"⟩, 9) := ⟨⟨by decide +kernel, by decide +kernel⟩, List.mem_of_getElem? (i := 323) (by decide +kernel), List.mem_of_getElem? (i := 977) (by decide +kernel), List.mem_of_getElem? (i := 978) (by decide +kernel)⟩
theorem lw_p42 : lw_okq (⟨"BellTable$Listening", "pointsOf", "(I)I"⟩, 9) := ⟨⟨by decide +kernel, by decide +kernel⟩, List.mem_of_getElem? (i := 323) (by decide +kernel), List.mem_of_getElem? (i := 1002) (by decide +kernel), List.mem_of_getElem? (i := 1003) (by decide +kernel)⟩
theorem lw_p43 : lw_okq (⟨"BellTable$Days", "isBackBy", "(III)Z"⟩, 14) := ⟨⟨by decide +kernel, by decide +kernel⟩, List.mem_of_getElem? (i := 372) (by decide +kernel), List.mem_of_getElem? (i := 1038) (by decide +kernel), List.mem_of_getElem? (i := 1039) (by decide +kernel)⟩
theorem lw_p44 : lw_okq (⟨"BellTable$Days", "tryMove", "(II)I"⟩, 14) := ⟨⟨by decide +kernel, by decide +kernel⟩, List.mem_of_getElem? (i := 372) (by decide +kernel), List.mem_of_getElem? (i := 1052) (by decide +kernel), List.mem_of_getElem? (i := 1053) (by decide +kernel)⟩
theorem lw_p45 : lw_okq (⟨"BellTable$Days", "isLying", "(I)Z"⟩, 14) := ⟨⟨by decide +kernel, by decide +kernel⟩, List.mem_of_getElem? (i := 372) (by decide +kernel), List.mem_of_getElem? (i := 1056) (by decide +kernel), List.mem_of_getElem? (i := 1057) (by decide +kernel)⟩
theorem lw_p46 : lw_okq (⟨"BellTable", "countMissing", "()I"⟩, 12) := ⟨⟨by decide +kernel, by decide +kernel⟩, List.mem_of_getElem? (i := 24) (by decide +kernel), List.mem_of_getElem? (i := 1069) (by decide +kernel), List.mem_of_getElem? (i := 1070) (by decide +kernel)⟩
theorem lw_p47 : lw_okq (⟨"BellTable", "countWithBell", "()I"⟩, 12) := ⟨⟨by decide +kernel, by decide +kernel⟩, List.mem_of_getElem? (i := 24) (by decide +kernel), List.mem_of_getElem? (i := 1073) (by decide +kernel), List.mem_of_getElem? (i := 1074) (by decide +kernel)⟩
def lw_privs_3 : List (MethodName × Nat) := [(⟨"BellTable$Hands", "stepForth", "(I)V"⟩, 9), (⟨"BellTable$Hands", "takesInserting", "(II)I"⟩, 9), (⟨"BellTable$Hands", "restBeside", "(II)I"⟩, 9), (⟨"BellTable$Hands", "restBehind", "(IIII)I"⟩, 9), (⟨"BellTable$Helping", "keepIfLess", "(III)V"⟩, 9), (⟨"BellTable$Sound", "areNext", "(II)Z"⟩, 5), (⟨"BellTable$Sound", "lengthDamped", "(I)I"⟩, 5), (⟨"BellTable$Listening", "weigh", "(LBellTable$Strokes;)V"⟩, 9), (⟨"BellTable$Listening", "pairPoints", "(ILBellTable$Strokes;I)I"⟩, 9), (⟨"BellTable$Listening", "walk", "(LBellTable$Strokes;)V"⟩, 9), (⟨"BellTable$Listening", "pointsOf", "(I)I"⟩, 9), (⟨"BellTable$Days", "isBackBy", "(III)Z"⟩, 14), (⟨"BellTable$Days", "tryMove", "(II)I"⟩, 14), (⟨"BellTable$Days", "isLying", "(I)Z"⟩, 14), (⟨"BellTable", "countMissing", "()I"⟩, 12), (⟨"BellTable", "countWithBell", "()I"⟩, 12)]
theorem lw_r3 : ∀ q ∈ lw_privs_3, lw_okq q := List.forall_mem_cons.mpr ⟨lw_p32, List.forall_mem_cons.mpr ⟨lw_p33, List.forall_mem_cons.mpr ⟨lw_p34, List.forall_mem_cons.mpr ⟨lw_p35, List.forall_mem_cons.mpr ⟨lw_p36, List.forall_mem_cons.mpr ⟨lw_p37, List.forall_mem_cons.mpr ⟨lw_p38, List.forall_mem_cons.mpr ⟨lw_p39, List.forall_mem_cons.mpr ⟨lw_p40, List.forall_mem_cons.mpr ⟨lw_p41, List.forall_mem_cons.mpr ⟨lw_p42, List.forall_mem_cons.mpr ⟨lw_p43, List.forall_mem_cons.mpr ⟨lw_p44, List.forall_mem_cons.mpr ⟨lw_p45, List.forall_mem_cons.mpr ⟨lw_p46, List.forall_mem_cons.mpr ⟨lw_p47, fun _ h => absurd h List.not_mem_nil⟩⟩⟩⟩⟩⟩⟩⟩⟩⟩⟩⟩⟩⟩⟩⟩
theorem lw_p48 : lw_okq (⟨"BellTableModel", "lay", "(I)V"⟩, 66) := ⟨⟨by decide +kernel, by decide +kernel⟩, List.mem_of_getElem? (i := 1083) (by decide +kernel), List.mem_of_getElem? (i := 1081) (by decide +kernel), List.mem_of_getElem? (i := 1082) (by decide +kernel)⟩
theorem lw_p49 : lw_okq (⟨"java/lang/Throwable", "fillInStackTrace", "(I)Ljava/lang/Throwable;"⟩, 6) := ⟨⟨by decide +kernel, by decide +kernel⟩, List.mem_of_getElem? (i := 1132) (by decide +kernel), List.mem_of_getElem? (i := 1130) (by decide +kernel), List.mem_of_getElem? (i := 1131) (by decide +kernel)⟩
theorem lw_p50 : lw_okq (⟨"BellTableModel", "begin", "()V"⟩, 66) := ⟨⟨by decide +kernel, by decide +kernel⟩, List.mem_of_getElem? (i := 1083) (by decide +kernel), List.mem_of_getElem? (i := 1361) (by decide +kernel), List.mem_of_getElem? (i := 1362) (by decide +kernel)⟩
theorem lw_p51 : lw_okq (⟨"BellTableModel", "scan", "()V"⟩, 66) := ⟨⟨by decide +kernel, by decide +kernel⟩, List.mem_of_getElem? (i := 1083) (by decide +kernel), List.mem_of_getElem? (i := 1365) (by decide +kernel), List.mem_of_getElem? (i := 1366) (by decide +kernel)⟩
theorem lw_p52 : lw_okq (⟨"BellTableModel", "byteAt", "(I)I"⟩, 66) := ⟨⟨by decide +kernel, by decide +kernel⟩, List.mem_of_getElem? (i := 1083) (by decide +kernel), List.mem_of_getElem? (i := 1369) (by decide +kernel), List.mem_of_getElem? (i := 1370) (by decide +kernel)⟩
theorem lw_p53 : lw_okq (⟨"BellTableModel", "readBeats", "(Z)V"⟩, 66) := ⟨⟨by decide +kernel, by decide +kernel⟩, List.mem_of_getElem? (i := 1083) (by decide +kernel), List.mem_of_getElem? (i := 1379) (by decide +kernel), List.mem_of_getElem? (i := 1380) (by decide +kernel)⟩
theorem lw_p54 : lw_okq (⟨"BellTableModel", "is", "(Ljava/lang/String;)Z"⟩, 66) := ⟨⟨by decide +kernel, by decide +kernel⟩, List.mem_of_getElem? (i := 1083) (by decide +kernel), List.mem_of_getElem? (i := 1384) (by decide +kernel), List.mem_of_getElem? (i := 1385) (by decide +kernel)⟩
theorem lw_p55 : lw_okq (⟨"BellTableModel", "need", "(ZI)V"⟩, 66) := ⟨⟨by decide +kernel, by decide +kernel⟩, List.mem_of_getElem? (i := 1083) (by decide +kernel), List.mem_of_getElem? (i := 1390) (by decide +kernel), List.mem_of_getElem? (i := 1391) (by decide +kernel)⟩
theorem lw_p56 : lw_okq (⟨"BellTableModel", "wrong", "(I)LBellTableModel$Stop;"⟩, 66) := ⟨⟨by decide +kernel, by decide +kernel⟩, List.mem_of_getElem? (i := 1083) (by decide +kernel), List.mem_of_getElem? (i := 1394) (by decide +kernel), List.mem_of_getElem? (i := 1395) (by decide +kernel)⟩
theorem lw_p57 : lw_okq (⟨"BellTableModel", "number", "(II)I"⟩, 66) := ⟨⟨by decide +kernel, by decide +kernel⟩, List.mem_of_getElem? (i := 1083) (by decide +kernel), List.mem_of_getElem? (i := 1398) (by decide +kernel), List.mem_of_getElem? (i := 1399) (by decide +kernel)⟩
theorem lw_p58 : lw_okq (⟨"BellTableModel", "look", "(II)I"⟩, 66) := ⟨⟨by decide +kernel, by decide +kernel⟩, List.mem_of_getElem? (i := 1083) (by decide +kernel), List.mem_of_getElem? (i := 1402) (by decide +kernel), List.mem_of_getElem? (i := 1403) (by decide +kernel)⟩
theorem lw_p59 : lw_okq (⟨"BellTableModel", "readStroke", "(IZ)V"⟩, 66) := ⟨⟨by decide +kernel, by decide +kernel⟩, List.mem_of_getElem? (i := 1083) (by decide +kernel), List.mem_of_getElem? (i := 1406) (by decide +kernel), List.mem_of_getElem? (i := 1407) (by decide +kernel)⟩
theorem lw_p60 : lw_okq (⟨"BellTableModel", "readManners", "()I"⟩, 66) := ⟨⟨by decide +kernel, by decide +kernel⟩, List.mem_of_getElem? (i := 1083) (by decide +kernel), List.mem_of_getElem? (i := 1417) (by decide +kernel), List.mem_of_getElem? (i := 1418) (by decide +kernel)⟩
theorem lw_p61 : lw_okq (⟨"BellTableModel", "ruleAtHand", "()I"⟩, 66) := ⟨⟨by decide +kernel, by decide +kernel⟩, List.mem_of_getElem? (i := 1083) (by decide +kernel), List.mem_of_getElem? (i := 1421) (by decide +kernel), List.mem_of_getElem? (i := 1422) (by decide +kernel)⟩
theorem lw_p62 : lw_okq (⟨"BellTableModel", "isStroke", "(I)Z"⟩, 66) := ⟨⟨by decide +kernel, by decide +kernel⟩, List.mem_of_getElem? (i := 1083) (by decide +kernel), List.mem_of_getElem? (i := 1441) (by decide +kernel), List.mem_of_getElem? (i := 1442) (by decide +kernel)⟩
theorem lw_p63 : lw_okq (⟨"BellTableModel", "endOf", "(I)I"⟩, 66) := ⟨⟨by decide +kernel, by decide +kernel⟩, List.mem_of_getElem? (i := 1083) (by decide +kernel), List.mem_of_getElem? (i := 1445) (by decide +kernel), List.mem_of_getElem? (i := 1446) (by decide +kernel)⟩
def lw_privs_4 : List (MethodName × Nat) := [(⟨"BellTableModel", "lay", "(I)V"⟩, 66), (⟨"java/lang/Throwable", "fillInStackTrace", "(I)Ljava/lang/Throwable;"⟩, 6), (⟨"BellTableModel", "begin", "()V"⟩, 66), (⟨"BellTableModel", "scan", "()V"⟩, 66), (⟨"BellTableModel", "byteAt", "(I)I"⟩, 66), (⟨"BellTableModel", "readBeats", "(Z)V"⟩, 66), (⟨"BellTableModel", "is", "(Ljava/lang/String;)Z"⟩, 66), (⟨"BellTableModel", "need", "(ZI)V"⟩, 66), (⟨"BellTableModel", "wrong", "(I)LBellTableModel$Stop;"⟩, 66), (⟨"BellTableModel", "number", "(II)I"⟩, 66), (⟨"BellTableModel", "look", "(II)I"⟩, 66), (⟨"BellTableModel", "readStroke", "(IZ)V"⟩, 66), (⟨"BellTableModel", "readManners", "()I"⟩, 66), (⟨"BellTableModel", "ruleAtHand", "()I"⟩, 66), (⟨"BellTableModel", "isStroke", "(I)Z"⟩, 66), (⟨"BellTableModel", "endOf", "(I)I"⟩, 66)]
theorem lw_r4 : ∀ q ∈ lw_privs_4, lw_okq q := List.forall_mem_cons.mpr ⟨lw_p48, List.forall_mem_cons.mpr ⟨lw_p49, List.forall_mem_cons.mpr ⟨lw_p50, List.forall_mem_cons.mpr ⟨lw_p51, List.forall_mem_cons.mpr ⟨lw_p52, List.forall_mem_cons.mpr ⟨lw_p53, List.forall_mem_cons.mpr ⟨lw_p54, List.forall_mem_cons.mpr ⟨lw_p55, List.forall_mem_cons.mpr ⟨lw_p56, List.forall_mem_cons.mpr ⟨lw_p57, List.forall_mem_cons.mpr ⟨lw_p58, List.forall_mem_cons.mpr ⟨lw_p59, List.forall_mem_cons.mpr ⟨lw_p60, List.forall_mem_cons.mpr ⟨lw_p61, List.forall_mem_cons.mpr ⟨lw_p62, List.forall_mem_cons.mpr ⟨lw_p63, fun _ h => absurd h List.not_mem_nil⟩⟩⟩⟩⟩⟩⟩⟩⟩⟩⟩⟩⟩⟩⟩⟩
theorem lw_p64 : lw_okq (⟨"BellTableModel", "isRinger", "(I)Z"⟩, 66) := ⟨⟨by decide +kernel, by decide +kernel⟩, List.mem_of_getElem? (i := 1083) (by decide +kernel), List.mem_of_getElem? (i := 1459) (by decide +kernel), List.mem_of_getElem? (i := 1460) (by decide +kernel)⟩
theorem lw_p65 : lw_okq (⟨"BellTableModel", "takesOf", "(J)I"⟩, 66) := ⟨⟨by decide +kernel, by decide +kernel⟩, List.mem_of_getElem? (i := 1083) (by decide +kernel), List.mem_of_getElem? (i := 1467) (by decide +kernel), List.mem_of_getElem? (i := 1468) (by decide +kernel)⟩
theorem lw_p66 : lw_okq (⟨"BellTableModel", "takeBells", "(J)V"⟩, 66) := ⟨⟨by decide +kernel, by decide +kernel⟩, List.mem_of_getElem? (i := 1083) (by decide +kernel), List.mem_of_getElem? (i := 1471) (by decide +kernel), List.mem_of_getElem? (i := 1472) (by decide +kernel)⟩
theorem lw_p67 : lw_okq (⟨"BellTableModel", "findHands", "()I"⟩, 66) := ⟨⟨by decide +kernel, by decide +kernel⟩, List.mem_of_getElem? (i := 1083) (by decide +kernel), List.mem_of_getElem? (i := 1475) (by decide +kernel), List.mem_of_getElem? (i := 1476) (by decide +kernel)⟩
theorem lw_p68 : lw_okq (⟨"BellTableModel", "takesFrom", "(IIII)I"⟩, 66) := ⟨⟨by decide +kernel, by decide +kernel⟩, List.mem_of_getElem? (i := 1083) (by decide +kernel), List.mem_of_getElem? (i := 1482) (by decide +kernel), List.mem_of_getElem? (i := 1483) (by decide +kernel)⟩
theorem lw_p69 : lw_okq (⟨"BellTableModel", "takesBy", "(IIII)I"⟩, 66) := ⟨⟨by decide +kernel, by decide +kernel⟩, List.mem_of_getElem? (i := 1083) (by decide +kernel), List.mem_of_getElem? (i := 1487) (by decide +kernel), List.mem_of_getElem? (i := 1488) (by decide +kernel)⟩
theorem lw_p70 : lw_okq (⟨"BellTableModel", "heldBell", "(I)I"⟩, 66) := ⟨⟨by decide +kernel, by decide +kernel⟩, List.mem_of_getElem? (i := 1083) (by decide +kernel), List.mem_of_getElem? (i := 1491) (by decide +kernel), List.mem_of_getElem? (i := 1492) (by decide +kernel)⟩
theorem lw_p71 : lw_okq (⟨"BellTableModel", "go", "(II)I"⟩, 66) := ⟨⟨by decide +kernel, by decide +kernel⟩, List.mem_of_getElem? (i := 1083) (by decide +kernel), List.mem_of_getElem? (i := 1495) (by decide +kernel), List.mem_of_getElem? (i := 1496) (by decide +kernel)⟩
theorem lw_p72 : lw_okq (⟨"BellTableModel", "findUsed", "()V"⟩, 66) := ⟨⟨by decide +kernel, by decide +kernel⟩, List.mem_of_getElem? (i := 1083) (by decide +kernel), List.mem_of_getElem? (i := 1507) (by decide +kernel), List.mem_of_getElem? (i := 1508) (by decide +kernel)⟩
theorem lw_p73 : lw_okq (⟨"BellTableModel", "isUsed", "(I)Z"⟩, 66) := ⟨⟨by decide +kernel, by decide +kernel⟩, List.mem_of_getElem? (i := 1083) (by decide +kernel), List.mem_of_getElem? (i := 1511) (by decide +kernel), List.mem_of_getElem? (i := 1512) (by decide +kernel)⟩
theorem lw_p74 : lw_okq (⟨"BellTableModel", "findThere", "(I)V"⟩, 66) := ⟨⟨by decide +kernel, by decide +kernel⟩, List.mem_of_getElem? (i := 1083) (by decide +kernel), List.mem_of_getElem? (i := 1515) (by decide +kernel), List.mem_of_getElem? (i := 1516) (by decide +kernel)⟩
theorem lw_p75 : lw_okq (⟨"BellTableModel", "forgetHad", "()V"⟩, 66) := ⟨⟨by decide +kernel, by decide +kernel⟩, List.mem_of_getElem? (i := 1083) (by decide +kernel), List.mem_of_getElem? (i := 1519) (by decide +kernel), List.mem_of_getElem? (i := 1520) (by decide +kernel)⟩
theorem lw_p76 : lw_okq (⟨"BellTableModel", "findRanges", "()Z"⟩, 66) := ⟨⟨by decide +kernel, by decide +kernel⟩, List.mem_of_getElem? (i := 1083) (by decide +kernel), List.mem_of_getElem? (i := 1523) (by decide +kernel), List.mem_of_getElem? (i := 1524) (by decide +kernel)⟩
theorem lw_p77 : lw_okq (⟨"BellTableModel", "findPieces", "()V"⟩, 66) := ⟨⟨by decide +kernel, by decide +kernel⟩, List.mem_of_getElem? (i := 1083) (by decide +kernel), List.mem_of_getElem? (i := 1527) (by decide +kernel), List.mem_of_getElem? (i := 1528) (by decide +kernel)⟩
theorem lw_p78 : lw_okq (⟨"BellTableModel", "mayHave", "(III)Z"⟩, 66) := ⟨⟨by decide +kernel, by decide +kernel⟩, List.mem_of_getElem? (i := 1083) (by decide +kernel), List.mem_of_getElem? (i := 1534) (by decide +kernel), List.mem_of_getElem? (i := 1535) (by decide +kernel)⟩
theorem lw_p79 : lw_okq (⟨"BellTableModel", "compare", "(IIIIII)I"⟩, 66) := ⟨⟨by decide +kernel, by decide +kernel⟩, List.mem_of_getElem? (i := 1083) (by decide +kernel), List.mem_of_getElem? (i := 1538) (by decide +kernel), List.mem_of_getElem? (i := 1539) (by decide +kernel)⟩
def lw_privs_5 : List (MethodName × Nat) := [(⟨"BellTableModel", "isRinger", "(I)Z"⟩, 66), (⟨"BellTableModel", "takesOf", "(J)I"⟩, 66), (⟨"BellTableModel", "takeBells", "(J)V"⟩, 66), (⟨"BellTableModel", "findHands", "()I"⟩, 66), (⟨"BellTableModel", "takesFrom", "(IIII)I"⟩, 66), (⟨"BellTableModel", "takesBy", "(IIII)I"⟩, 66), (⟨"BellTableModel", "heldBell", "(I)I"⟩, 66), (⟨"BellTableModel", "go", "(II)I"⟩, 66), (⟨"BellTableModel", "findUsed", "()V"⟩, 66), (⟨"BellTableModel", "isUsed", "(I)Z"⟩, 66), (⟨"BellTableModel", "findThere", "(I)V"⟩, 66), (⟨"BellTableModel", "forgetHad", "()V"⟩, 66), (⟨"BellTableModel", "findRanges", "()Z"⟩, 66), (⟨"BellTableModel", "findPieces", "()V"⟩, 66), (⟨"BellTableModel", "mayHave", "(III)Z"⟩, 66), (⟨"BellTableModel", "compare", "(IIIIII)I"⟩, 66)]
theorem lw_r5 : ∀ q ∈ lw_privs_5, lw_okq q := List.forall_mem_cons.mpr ⟨lw_p64, List.forall_mem_cons.mpr ⟨lw_p65, List.forall_mem_cons.mpr ⟨lw_p66, List.forall_mem_cons.mpr ⟨lw_p67, List.forall_mem_cons.mpr ⟨lw_p68, List.forall_mem_cons.mpr ⟨lw_p69, List.forall_mem_cons.mpr ⟨lw_p70, List.forall_mem_cons.mpr ⟨lw_p71, List.forall_mem_cons.mpr ⟨lw_p72, List.forall_mem_cons.mpr ⟨lw_p73, List.forall_mem_cons.mpr ⟨lw_p74, List.forall_mem_cons.mpr ⟨lw_p75, List.forall_mem_cons.mpr ⟨lw_p76, List.forall_mem_cons.mpr ⟨lw_p77, List.forall_mem_cons.mpr ⟨lw_p78, List.forall_mem_cons.mpr ⟨lw_p79, fun _ h => absurd h List.not_mem_nil⟩⟩⟩⟩⟩⟩⟩⟩⟩⟩⟩⟩⟩⟩⟩⟩
theorem lw_p80 : lw_okq (⟨"BellTableModel", "changedIn", "(III)I"⟩, 66) := ⟨⟨by decide +kernel, by decide +kernel⟩, List.mem_of_getElem? (i := 1083) (by decide +kernel), List.mem_of_getElem? (i := 1542) (by decide +kernel), List.mem_of_getElem? (i := 1543) (by decide +kernel)⟩
theorem lw_p81 : lw_okq (⟨"BellTableModel", "takeRanges", "()V"⟩, 66) := ⟨⟨by decide +kernel, by decide +kernel⟩, List.mem_of_getElem? (i := 1083) (by decide +kernel), List.mem_of_getElem? (i := 1546) (by decide +kernel), List.mem_of_getElem? (i := 1547) (by decide +kernel)⟩
theorem lw_p82 : lw_okq (⟨"BellTableModel", "bellsOf", "(I)J"⟩, 66) := ⟨⟨by decide +kernel, by decide +kernel⟩, List.mem_of_getElem? (i := 1083) (by decide +kernel), List.mem_of_getElem? (i := 1563) (by decide +kernel), List.mem_of_getElem? (i := 1564) (by decide +kernel)⟩
theorem lw_p83 : lw_okq (⟨"BellTableModel", "takesWith", "(III)I"⟩, 66) := ⟨⟨by decide +kernel, by decide +kernel⟩, List.mem_of_getElem? (i := 1083) (by decide +kernel), List.mem_of_getElem? (i := 1575) (by decide +kernel), List.mem_of_getElem? (i := 1576) (by decide +kernel)⟩
theorem lw_p84 : lw_okq (⟨"BellTableModel", "isClash", "(II)Z"⟩, 66) := ⟨⟨by decide +kernel, by decide +kernel⟩, List.mem_of_getElem? (i := 1083) (by decide +kernel), List.mem_of_getElem? (i := 1587) (by decide +kernel), List.mem_of_getElem? (i := 1588) (by decide +kernel)⟩
theorem lw_p85 : lw_okq (⟨"BellTableModel", "pairFrom", "(II)I"⟩, 66) := ⟨⟨by decide +kernel, by decide +kernel⟩, List.mem_of_getElem? (i := 1083) (by decide +kernel), List.mem_of_getElem? (i := 1604) (by decide +kernel), List.mem_of_getElem? (i := 1605) (by decide +kernel)⟩
theorem lw_p86 : lw_okq (⟨"BellTableModel", "pairPoints", "(II)I"⟩, 66) := ⟨⟨by decide +kernel, by decide +kernel⟩, List.mem_of_getElem? (i := 1083) (by decide +kernel), List.mem_of_getElem? (i := 1608) (by decide +kernel), List.mem_of_getElem? (i := 1609) (by decide +kernel)⟩
theorem lw_p87 : lw_okq (⟨"BellTableModel", "missedFrom", "(II)I"⟩, 66) := ⟨⟨by decide +kernel, by decide +kernel⟩, List.mem_of_getElem? (i := 1083) (by decide +kernel), List.mem_of_getElem? (i := 1615) (by decide +kernel), List.mem_of_getElem? (i := 1616) (by decide +kernel)⟩
theorem lw_p88 : lw_okq (⟨"BellTableModel", "moreFrom", "(II)I"⟩, 66) := ⟨⟨by decide +kernel, by decide +kernel⟩, List.mem_of_getElem? (i := 1083) (by decide +kernel), List.mem_of_getElem? (i := 1619) (by decide +kernel), List.mem_of_getElem? (i := 1620) (by decide +kernel)⟩
theorem lw_p89 : lw_okq (⟨"BellTableModel", "isThere", "(III)Z"⟩, 66) := ⟨⟨by decide +kernel, by decide +kernel⟩, List.mem_of_getElem? (i := 1083) (by decide +kernel), List.mem_of_getElem? (i := 1657) (by decide +kernel), List.mem_of_getElem? (i := 1658) (by decide +kernel)⟩
def lw_privs_6 : List (MethodName × Nat) := [(⟨"BellTableModel", "changedIn", "(III)I"⟩, 66), (⟨"BellTableModel", "takeRanges", "()V"⟩, 66), (⟨"BellTableModel", "bellsOf", "(I)J"⟩, 66), (⟨"BellTableModel", "takesWith", "(III)I"⟩, 66), (⟨"BellTableModel", "isClash", "(II)Z"⟩, 66), (⟨"BellTableModel", "pairFrom", "(II)I"⟩, 66), (⟨"BellTableModel", "pairPoints", "(II)I"⟩, 66), (⟨"BellTableModel", "missedFrom", "(II)I"⟩, 66), (⟨"BellTableModel", "moreFrom", "(II)I"⟩, 66), (⟨"BellTableModel", "isThere", "(III)Z"⟩, 66)]
theorem lw_r6 : ∀ q ∈ lw_privs_6, lw_okq q := List.forall_mem_cons.mpr ⟨lw_p80, List.forall_mem_cons.mpr ⟨lw_p81, List.forall_mem_cons.mpr ⟨lw_p82, List.forall_mem_cons.mpr ⟨lw_p83, List.forall_mem_cons.mpr ⟨lw_p84, List.forall_mem_cons.mpr ⟨lw_p85, List.forall_mem_cons.mpr ⟨lw_p86, List.forall_mem_cons.mpr ⟨lw_p87, List.forall_mem_cons.mpr ⟨lw_p88, List.forall_mem_cons.mpr ⟨lw_p89, fun _ h => absurd h List.not_mem_nil⟩⟩⟩⟩⟩⟩⟩⟩⟩⟩
def lw_privs : List (MethodName × Nat) := lw_privs_1 ++ (lw_privs_2 ++ (lw_privs_3 ++ (lw_privs_4 ++ (lw_privs_5 ++ (lw_privs_6)))))
def lw_tbl : List Cond := k2_sels lw_privs ++ tables_1
theorem lw_privs_ok : ∀ q ∈ lw_privs, lw_okq q := by
  show ∀ q ∈ lw_privs_1 ++ (lw_privs_2 ++ (lw_privs_3 ++ (lw_privs_4 ++ (lw_privs_5 ++ (lw_privs_6))))), lw_okq q
  exact List.forall_mem_append.mpr ⟨lw_r1, List.forall_mem_append.mpr ⟨lw_r2, List.forall_mem_append.mpr ⟨lw_r3, List.forall_mem_append.mpr ⟨lw_r4, List.forall_mem_append.mpr ⟨lw_r5, lw_r6⟩⟩⟩⟩⟩
end
section
def RX0 : String := "BellTable$BeatText"
def TX0 : u_T := fun k => match k with
  | 0 => ("BellTable$BeatText", "in", "LBellTable$Tape;", true)
  | 1 => ("BellTable$BeatText", "rows", "LBellTable$Strokes;", true)
  | 2 => ("BellTable$BeatText", "awaits", "I", false)
  | 3 => ("BellTable$BeatText", "beat", "I", false)
  | _ => ("BellTable$BeatText", "latest", "I", false)
def tyX0 : Nat → FieldType := fun k => match k with
  | 0 => .object "BellTable$Tape"
  | 1 => .object "BellTable$Strokes"
  | 2 => .int
  | 3 => .int
  | _ => .int
abbrev wsX00 : List Cond := u_ws RX0 TX0 5
theorem nmX0 : ∀ a, a < 5 → ∀ b, b < 5 → a ≠ b → (TX0 a).2.1 ≠ (TX0 b).2.1 := by decide +kernel
theorem tyX0_ok : ∀ k, k < 5 → parseFieldDescriptor (TX0 k).2.2.1 = some (tyX0 k) := by decide +kernel
abbrev cX0_init : ByteArray := prog_2_method_1_code
def yX0_init : MethodName := ⟨RX0, "<init>", "(LBellTable$Tape;)V"⟩
abbrev cX0_readAll : ByteArray := prog_2_method_2_code
def yX0_readAll : MethodName := ⟨RX0, "readAll", "(Z)Z"⟩
abbrev cX0_take : ByteArray := prog_2_method_3_code
def yX0_take : MethodName := ⟨RX0, "take", "(Z)V"⟩
abbrev cX0_goOnIf : ByteArray := prog_2_method_4_code
def yX0_goOnIf : MethodName := ⟨RX0, "goOnIf", "(ZI)V"⟩
abbrev cX0_takeBeat : ByteArray := prog_2_method_5_code
def yX0_takeBeat : MethodName := ⟨RX0, "takeBeat", "()V"⟩
abbrev cX0_takeBell : ByteArray := prog_2_method_6_code
def yX0_takeBell : MethodName := ⟨RX0, "takeBell", "(Z)V"⟩
abbrev cX0_takeLength : ByteArray := prog_2_method_7_code
def yX0_takeLength : MethodName := ⟨RX0, "takeLength", "()V"⟩
abbrev cX0_takeWord : ByteArray := prog_2_method_8_code
def yX0_takeWord : MethodName := ⟨RX0, "takeWord", "()V"⟩
def RX1 : String := "BellTable$Bits"
def TX1 : u_T := fun k => match k with
  | _ => ("BellTable$Bits", "words", "[J", true)
def tyX1 : Nat → FieldType := fun k => match k with
  | _ => .array .long
abbrev wsX10 : List Cond := u_ws RX1 TX1 1
theorem nmX1 : ∀ a, a < 1 → ∀ b, b < 1 → a ≠ b → (TX1 a).2.1 ≠ (TX1 b).2.1 := by decide +kernel
theorem tyX1_ok : ∀ k, k < 1 → parseFieldDescriptor (TX1 k).2.2.1 = some (tyX1 k) := by decide +kernel
abbrev cX1_init : ByteArray := prog_3_method_1_code
def yX1_init : MethodName := ⟨RX1, "<init>", "()V"⟩
abbrev cX1_put : ByteArray := prog_3_method_2_code
def yX1_put : MethodName := ⟨RX1, "put", "(IIZ)V"⟩
abbrev cX1_has : ByteArray := prog_3_method_3_code
def yX1_has : MethodName := ⟨RX1, "has", "(II)Z"⟩
def RX2 : String := "BellTable$Days"
def TX2 : u_T := fun k => match k with
  | 0 => ("BellTable$Days", "score", "LBellTable$Strokes;", true)
  | 1 => ("BellTable$Days", "clock", "I", false)
  | 2 => ("BellTable$Days", "size", "I", false)
  | 3 => ("BellTable$Days", "hasKey", "Z", false)
  | 4 => ("BellTable$Days", "keyMove", "I", false)
  | 5 => ("BellTable$Days", "keyLeftOut", "I", false)
  | 6 => ("BellTable$Days", "keyOctaves", "I", false)
  | 7 => ("BellTable$Days", "bellOf", "[I", true)
  | 8 => ("BellTable$Days", "fromDay", "[I", true)
  | 9 => ("BellTable$Days", "toDay", "[I", true)
  | 10 => ("BellTable$Days", "knownDay", "[I", true)
  | 11 => ("BellTable$Days", "backDay", "[I", true)
  | 12 => ("BellTable$Days", "backKnownDay", "[I", true)
  | _ => ("BellTable$Days", "lying", "[Z", true)
def tyX2 : Nat → FieldType := fun k => match k with
  | 0 => .object "BellTable$Strokes"
  | 1 => .int
  | 2 => .int
  | 3 => .boolean
  | 4 => .int
  | 5 => .int
  | 6 => .int
  | 7 => .array .int
  | 8 => .array .int
  | 9 => .array .int
  | 10 => .array .int
  | 11 => .array .int
  | 12 => .array .int
  | _ => .array .boolean
abbrev wsX20 : List Cond := u_ws RX2 TX2 14
theorem nmX2 : ∀ a, a < 14 → ∀ b, b < 14 → a ≠ b → (TX2 a).2.1 ≠ (TX2 b).2.1 := by decide +kernel
theorem tyX2_ok : ∀ k, k < 14 → parseFieldDescriptor (TX2 k).2.2.1 = some (tyX2 k) := by decide +kernel
abbrev cX2_init : ByteArray := prog_4_method_1_code
def yX2_init : MethodName := ⟨RX2, "<init>", "(LBellTable$Strokes;)V"⟩
abbrev cX2_forgetKey : ByteArray := prog_4_method_2_code
def yX2_forgetKey : MethodName := ⟨RX2, "forgetKey", "()V"⟩
abbrev cX2_add : ByteArray := prog_4_method_3_code
def yX2_add : MethodName := ⟨RX2, "add", "(III)I"⟩
abbrev cX2_addBack : ByteArray := prog_4_method_4_code
def yX2_addBack : MethodName := ⟨RX2, "addBack", "(II)Z"⟩
abbrev cX2_lies : ByteArray := prog_4_method_5_code
def yX2_lies : MethodName := ⟨RX2, "lies", "(III)Z"⟩
abbrev cX2_isBackBy : ByteArray := prog_4_method_6_code
def yX2_isBackBy : MethodName := ⟨RX2, "isBackBy", "(III)Z"⟩
abbrev cX2_seekKey : ByteArray := prog_4_method_7_code
def yX2_seekKey : MethodName := ⟨RX2, "seekKey", "(II)I"⟩
abbrev cX2_tryMove : ByteArray := prog_4_method_8_code
def yX2_tryMove : MethodName := ⟨RX2, "tryMove", "(II)I"⟩
abbrev cX2_isLying : ByteArray := prog_4_method_9_code
def yX2_isLying : MethodName := ⟨RX2, "isLying", "(I)Z"⟩
def RX3 : String := "BellTable$Hands"
def TX3 : u_T := fun k => match k with
  | 0 => ("BellTable$Hands", "score", "LBellTable$Strokes;", true)
  | 1 => ("BellTable$Hands", "rules", "LBellTable$Manners;", true)
  | 2 => ("BellTable$Hands", "handOf", "[I", true)
  | 3 => ("BellTable$Hands", "chosen", "Z", false)
  | 4 => ("BellTable$Hands", "row", "[I", true)
  | 5 => ("BellTable$Hands", "size", "I", false)
  | 6 => ("BellTable$Hands", "rest", "[I", true)
  | 7 => ("BellTable$Hands", "stuck", "I", false)
  | _ => ("BellTable$Hands", "past", "[I", true)
def tyX3 : Nat → FieldType := fun k => match k with
  | 0 => .object "BellTable$Strokes"
  | 1 => .object "BellTable$Manners"
  | 2 => .array .int
  | 3 => .boolean
  | 4 => .array .int
  | 5 => .int
  | 6 => .array .int
  | 7 => .int
  | _ => .array .int
abbrev wsX30 : List Cond := u_ws RX3 TX3 9
theorem nmX3 : ∀ a, a < 9 → ∀ b, b < 9 → a ≠ b → (TX3 a).2.1 ≠ (TX3 b).2.1 := by decide +kernel
theorem tyX3_ok : ∀ k, k < 9 → parseFieldDescriptor (TX3 k).2.2.1 = some (tyX3 k) := by decide +kernel
abbrev cX3_init : ByteArray := prog_5_method_1_code
def yX3_init : MethodName := ⟨RX3, "<init>", "(LBellTable$Strokes;LBellTable$Manners;)V"⟩
abbrev cX3_forget : ByteArray := prog_5_method_2_code
def yX3_forget : MethodName := ⟨RX3, "forget", "()V"⟩
abbrev cX3_takesOf : ByteArray := prog_5_method_3_code
def yX3_takesOf : MethodName := ⟨RX3, "takesOf", "(J)I"⟩
abbrev cX3_choose : ByteArray := prog_5_method_4_code
def yX3_choose : MethodName := ⟨RX3, "choose", "(J)I"⟩
abbrev cX3_weighWithout : ByteArray := prog_5_method_5_code
def yX3_weighWithout : MethodName := ⟨RX3, "weighWithout", "(J[I)V"⟩
abbrev cX3_weighWith : ByteArray := prog_5_method_6_code
def yX3_weighWith : MethodName := ⟨RX3, "weighWith", "(JJ[I)V"⟩
abbrev cX3_gather : ByteArray := prog_5_method_7_code
def yX3_gather : MethodName := ⟨RX3, "gather", "(J)V"⟩
abbrev cX3_weighRest : ByteArray := prog_5_method_8_code
def yX3_weighRest : MethodName := ⟨RX3, "weighRest", "()I"⟩
abbrev cX3_place : ByteArray := prog_5_method_9_code
def yX3_place : MethodName := ⟨RX3, "place", "(II)I"⟩
abbrev cX3_restOf : ByteArray := prog_5_method_10_code
def yX3_restOf : MethodName := ⟨RX3, "restOf", "(II)I"⟩
abbrev cX3_did : ByteArray := prog_5_method_11_code
def yX3_did : MethodName := ⟨RX3, "did", "(I)I"⟩
abbrev cX3_others : ByteArray := prog_5_method_12_code
def yX3_others : MethodName := ⟨RX3, "others", "(I)I"⟩
abbrev cX3_stepBack : ByteArray := prog_5_method_13_code
def yX3_stepBack : MethodName := ⟨RX3, "stepBack", "(I)Z"⟩
abbrev cX3_stepForth : ByteArray := prog_5_method_14_code
def yX3_stepForth : MethodName := ⟨RX3, "stepForth", "(I)V"⟩
abbrev cX3_takesSkipping : ByteArray := prog_5_method_15_code
def yX3_takesSkipping : MethodName := ⟨RX3, "takesSkipping", "(I)I"⟩
abbrev cX3_takesInserting : ByteArray := prog_5_method_16_code
def yX3_takesInserting : MethodName := ⟨RX3, "takesInserting", "(II)I"⟩
abbrev cX3_restBehind : ByteArray := prog_5_method_17_code
def yX3_restBehind : MethodName := ⟨RX3, "restBehind", "(IIII)I"⟩
abbrev cX3_restBeside : ByteArray := prog_5_method_18_code
def yX3_restBeside : MethodName := ⟨RX3, "restBeside", "(II)I"⟩
abbrev cX3_step : ByteArray := prog_5_method_19_code
def yX3_step : MethodName := ⟨RX3, "step", "(III)I"⟩
abbrev cX3_move : ByteArray := prog_5_method_20_code
def yX3_move : MethodName := ⟨RX3, "move", "(II)I"⟩
abbrev cX3_holds : ByteArray := prog_5_method_21_code
def yX3_holds : MethodName := ⟨RX3, "holds", "(II)Z"⟩
abbrev cX3_keepHands : ByteArray := prog_5_method_22_code
def yX3_keepHands : MethodName := ⟨RX3, "keepHands", "()V"⟩
abbrev cX3_swapsFor : ByteArray := prog_5_method_23_code
def yX3_swapsFor : MethodName := ⟨RX3, "swapsFor", "(III)Z"⟩
def RX4 : String := "BellTable$Helping"
def TX4 : u_T := fun k => match k with
  | 0 => ("BellTable$Helping", "score", "LBellTable$Strokes;", true)
  | 1 => ("BellTable$Helping", "deft", "LBellTable$Hands;", true)
  | 2 => ("BellTable$Helping", "ranges", "LBellTable$Ranges;", true)
  | 3 => ("BellTable$Helping", "stroke", "I", false)
  | 4 => ("BellTable$Helping", "ringer", "I", false)
  | 5 => ("BellTable$Helping", "without", "[I", true)
  | 6 => ("BellTable$Helping", "byBelow", "[I", true)
  | 7 => ("BellTable$Helping", "byAbove", "[I", true)
  | _ => ("BellTable$Helping", "least", "I", false)
def tyX4 : Nat → FieldType := fun k => match k with
  | 0 => .object "BellTable$Strokes"
  | 1 => .object "BellTable$Hands"
  | 2 => .object "BellTable$Ranges"
  | 3 => .int
  | 4 => .int
  | 5 => .array .int
  | 6 => .array .int
  | 7 => .array .int
  | _ => .int
abbrev wsX40 : List Cond := u_ws RX4 TX4 9
theorem nmX4 : ∀ a, a < 9 → ∀ b, b < 9 → a ≠ b → (TX4 a).2.1 ≠ (TX4 b).2.1 := by decide +kernel
theorem tyX4_ok : ∀ k, k < 9 → parseFieldDescriptor (TX4 k).2.2.1 = some (tyX4 k) := by decide +kernel
abbrev cX4_init : ByteArray := prog_6_method_1_code
def yX4_init : MethodName := ⟨RX4, "<init>", "(LBellTable$Strokes;LBellTable$Hands;LBellTable$Ranges;)V"⟩
abbrev cX4_forget : ByteArray := prog_6_method_2_code
def yX4_forget : MethodName := ⟨RX4, "forget", "()V"⟩
abbrev cX4_seek : ByteArray := prog_6_method_3_code
def yX4_seek : MethodName := ⟨RX4, "seek", "(III)I"⟩
abbrev cX4_keepIfLess : ByteArray := prog_6_method_4_code
def yX4_keepIfLess : MethodName := ⟨RX4, "keepIfLess", "(III)V"⟩
def RX5 : String := "BellTable$Listening"
def TX5 : u_T := fun k => match k with
  | 0 => ("BellTable$Listening", "score", "LBellTable$Strokes;", true)
  | 1 => ("BellTable$Listening", "lateBy", "[I", true)
  | 2 => ("BellTable$Listening", "bellOf", "[I", true)
  | 3 => ("BellTable$Listening", "moreCount", "I", false)
  | 4 => ("BellTable$Listening", "told", "Z", false)
  | 5 => ("BellTable$Listening", "moreOn", "[I", true)
  | 6 => ("BellTable$Listening", "price", "[I", true)
  | 7 => ("BellTable$Listening", "pairs", "LBellTable$Bits;", true)
  | _ => ("BellTable$Listening", "misses", "LBellTable$Bits;", true)
def tyX5 : Nat → FieldType := fun k => match k with
  | 0 => .object "BellTable$Strokes"
  | 1 => .array .int
  | 2 => .array .int
  | 3 => .int
  | 4 => .boolean
  | 5 => .array .int
  | 6 => .array .int
  | 7 => .object "BellTable$Bits"
  | _ => .object "BellTable$Bits"
abbrev wsX50 : List Cond := u_ws RX5 TX5 9
theorem nmX5 : ∀ a, a < 9 → ∀ b, b < 9 → a ≠ b → (TX5 a).2.1 ≠ (TX5 b).2.1 := by decide +kernel
theorem tyX5_ok : ∀ k, k < 9 → parseFieldDescriptor (TX5 k).2.2.1 = some (tyX5 k) := by decide +kernel
abbrev cX5_init : ByteArray := prog_7_method_1_code
def yX5_init : MethodName := ⟨RX5, "<init>", "(LBellTable$Strokes;)V"⟩
abbrev cX5_forget : ByteArray := prog_7_method_2_code
def yX5_forget : MethodName := ⟨RX5, "forget", "()V"⟩
abbrev cX5_lay : ByteArray := prog_7_method_3_code
def yX5_lay : MethodName := ⟨RX5, "lay", "(LBellTable$Strokes;)I"⟩
abbrev cX5_weigh : ByteArray := prog_7_method_4_code
def yX5_weigh : MethodName := ⟨RX5, "weigh", "(LBellTable$Strokes;)V"⟩
abbrev cX5_pairPoints : ByteArray := prog_7_method_5_code
def yX5_pairPoints : MethodName := ⟨RX5, "pairPoints", "(ILBellTable$Strokes;I)I"⟩
abbrev cX5_walk : ByteArray := prog_7_method_6_code
def yX5_walk : MethodName := ⟨RX5, "walk", "(LBellTable$Strokes;)V"⟩
abbrev cX5_pointsOn : ByteArray := prog_7_method_7_code
def yX5_pointsOn : MethodName := ⟨RX5, "pointsOn", "(J)I"⟩
abbrev cX5_pointsOf : ByteArray := prog_7_method_8_code
def yX5_pointsOf : MethodName := ⟨RX5, "pointsOf", "(I)I"⟩
def RX6 : String := "BellTable$Manners"
def TX6 : u_T := fun k => match k with
  | 0 => ("BellTable$Manners", "value", "[I", true)
  | 1 => ("BellTable$Manners", "fresh", "[I", true)
  | 2 => ("BellTable$Manners", "awaits", "I", false)
  | 3 => ("BellTable$Manners", "which", "I", false)
  | _ => ("BellTable$Manners", "clauses", "I", false)
def tyX6 : Nat → FieldType := fun k => match k with
  | 0 => .array .int
  | 1 => .array .int
  | 2 => .int
  | 3 => .int
  | _ => .int
abbrev wsX60 : List Cond := u_ws RX6 TX6 5
theorem nmX6 : ∀ a, a < 5 → ∀ b, b < 5 → a ≠ b → (TX6 a).2.1 ≠ (TX6 b).2.1 := by decide +kernel
theorem tyX6_ok : ∀ k, k < 5 → parseFieldDescriptor (TX6 k).2.2.1 = some (tyX6 k) := by decide +kernel
abbrev cX6_init : ByteArray := prog_8_method_1_code
def yX6_init : MethodName := ⟨RX6, "<init>", "()V"⟩
abbrev cX6_readAll : ByteArray := prog_8_method_2_code
def yX6_readAll : MethodName := ⟨RX6, "readAll", "(LBellTable$Tape;)I"⟩
abbrev cX6_take : ByteArray := prog_8_method_3_code
def yX6_take : MethodName := ⟨RX6, "take", "(LBellTable$Tape;)V"⟩
abbrev cX6_takeWord : ByteArray := prog_8_method_4_code
def yX6_takeWord : MethodName := ⟨RX6, "takeWord", "(LBellTable$Tape;)V"⟩
abbrev cX6_takeNumber : ByteArray := prog_8_method_5_code
def yX6_takeNumber : MethodName := ⟨RX6, "takeNumber", "(LBellTable$Tape;)V"⟩
abbrev cX6_ruleNamed : ByteArray := prog_8_method_6_code
def yX6_ruleNamed : MethodName := ⟨RX6, "ruleNamed", "(LBellTable$Tape;)I"⟩
def RX7 : String := "BellTable$Ranges"
def TX7 : u_T := fun k => match k with
  | 0 => ("BellTable$Ranges", "score", "LBellTable$Strokes;", true)
  | 1 => ("BellTable$Ranges", "rules", "LBellTable$Manners;", true)
  | 2 => ("BellTable$Ranges", "deft", "LBellTable$Hands;", true)
  | 3 => ("BellTable$Ranges", "ringerOf", "[I", true)
  | 4 => ("BellTable$Ranges", "parting", "Z", false)
  | 5 => ("BellTable$Ranges", "usedCount", "I", false)
  | 6 => ("BellTable$Ranges", "standingCount", "I", false)
  | 7 => ("BellTable$Ranges", "usedBells", "J", false)
  | 8 => ("BellTable$Ranges", "used", "[I", true)
  | 9 => ("BellTable$Ranges", "standing", "[I", true)
  | 10 => ("BellTable$Ranges", "pieceTakes", "[I", true)
  | 11 => ("BellTable$Ranges", "weighed", "Z", false)
  | _ => ("BellTable$Ranges", "restPrice", "[I", true)
def tyX7 : Nat → FieldType := fun k => match k with
  | 0 => .object "BellTable$Strokes"
  | 1 => .object "BellTable$Manners"
  | 2 => .object "BellTable$Hands"
  | 3 => .array .int
  | 4 => .boolean
  | 5 => .int
  | 6 => .int
  | 7 => .long
  | 8 => .array .int
  | 9 => .array .int
  | 10 => .array .int
  | 11 => .boolean
  | _ => .array .int
abbrev wsX70 : List Cond := u_ws RX7 TX7 13
theorem nmX7 : ∀ a, a < 13 → ∀ b, b < 13 → a ≠ b → (TX7 a).2.1 ≠ (TX7 b).2.1 := by decide +kernel
theorem tyX7_ok : ∀ k, k < 13 → parseFieldDescriptor (TX7 k).2.2.1 = some (tyX7 k) := by decide +kernel
abbrev cX7_init : ByteArray := prog_9_method_1_code
def yX7_init : MethodName := ⟨RX7, "<init>", "(LBellTable$Strokes;LBellTable$Manners;LBellTable$Hands;)V"⟩
abbrev cX7_takesIn : ByteArray := prog_9_method_2_code
def yX7_takesIn : MethodName := ⟨RX7, "takesIn", "(I)I"⟩
abbrev cX7_changesIn : ByteArray := prog_9_method_3_code
def yX7_changesIn : MethodName := ⟨RX7, "changesIn", "(I)I"⟩
abbrev cX7_takeScore : ByteArray := prog_9_method_4_code
def yX7_takeScore : MethodName := ⟨RX7, "takeScore", "()V"⟩
abbrev cX7_uses : ByteArray := prog_9_method_5_code
def yX7_uses : MethodName := ⟨RX7, "uses", "(I)Z"⟩
abbrev cX7_weighAnew : ByteArray := prog_9_method_6_code
def yX7_weighAnew : MethodName := ⟨RX7, "weighAnew", "()V"⟩
abbrev cX7_dropParting : ByteArray := prog_9_method_7_code
def yX7_dropParting : MethodName := ⟨RX7, "dropParting", "()V"⟩
abbrev cX7_stand : ByteArray := prog_9_method_8_code
def yX7_stand : MethodName := ⟨RX7, "stand", "(I)V"⟩
abbrev cX7_bellsOf : ByteArray := prog_9_method_9_code
def yX7_bellsOf : MethodName := ⟨RX7, "bellsOf", "(I)J"⟩
abbrev cX7_settle : ByteArray := prog_9_method_10_code
def yX7_settle : MethodName := ⟨RX7, "settle", "(Z)I"⟩
abbrev cX7_weighPieces : ByteArray := prog_9_method_11_code
def yX7_weighPieces : MethodName := ⟨RX7, "weighPieces", "()V"⟩
abbrev cX7_longestFrom : ByteArray := prog_9_method_12_code
def yX7_longestFrom : MethodName := ⟨RX7, "longestFrom", "(I)I"⟩
abbrev cX7_leastFrom : ByteArray := prog_9_method_13_code
def yX7_leastFrom : MethodName := ⟨RX7, "leastFrom", "(IIZ)I"⟩
abbrev cX7_priceWith : ByteArray := prog_9_method_14_code
def yX7_priceWith : MethodName := ⟨RX7, "priceWith", "(IIIZ)I"⟩
abbrev cX7_countChanges : ByteArray := prog_9_method_15_code
def yX7_countChanges : MethodName := ⟨RX7, "countChanges", "(III)I"⟩
abbrev cX7_handOut : ByteArray := prog_9_method_16_code
def yX7_handOut : MethodName := ⟨RX7, "handOut", "(Z)V"⟩
def RX8 : String := "BellTable$Sound"
def TX8 : u_T := fun k => match k with
  | 0 => ("BellTable$Sound", "score", "LBellTable$Strokes;", true)
  | 1 => ("BellTable$Sound", "ends", "[I", true)
  | 2 => ("BellTable$Sound", "first", "I", false)
  | 3 => ("BellTable$Sound", "second", "I", false)
  | _ => ("BellTable$Sound", "nextBeat", "[I", true)
def tyX8 : Nat → FieldType := fun k => match k with
  | 0 => .object "BellTable$Strokes"
  | 1 => .array .int
  | 2 => .int
  | 3 => .int
  | _ => .array .int
abbrev wsX80 : List Cond := u_ws RX8 TX8 5
theorem nmX8 : ∀ a, a < 5 → ∀ b, b < 5 → a ≠ b → (TX8 a).2.1 ≠ (TX8 b).2.1 := by decide +kernel
theorem tyX8_ok : ∀ k, k < 5 → parseFieldDescriptor (TX8 k).2.2.1 = some (tyX8 k) := by decide +kernel
abbrev cX8_init : ByteArray := prog_10_method_1_code
def yX8_init : MethodName := ⟨RX8, "<init>", "(LBellTable$Strokes;)V"⟩
abbrev cX8_measure : ByteArray := prog_10_method_2_code
def yX8_measure : MethodName := ⟨RX8, "measure", "()V"⟩
abbrev cX8_walkTo : ByteArray := prog_10_method_3_code
def yX8_walkTo : MethodName := ⟨RX8, "walkTo", "(I)I"⟩
abbrev cX8_beatsOfBoth : ByteArray := prog_10_method_4_code
def yX8_beatsOfBoth : MethodName := ⟨RX8, "beatsOfBoth", "()I"⟩
abbrev cX8_cutDown : ByteArray := prog_10_method_5_code
def yX8_cutDown : MethodName := ⟨RX8, "cutDown", "()I"⟩
abbrev cX8_lengthDamped : ByteArray := prog_10_method_6_code
def yX8_lengthDamped : MethodName := ⟨RX8, "lengthDamped", "(I)I"⟩
abbrev cX8_areNext : ByteArray := prog_10_method_7_code
def yX8_areNext : MethodName := ⟨RX8, "areNext", "(II)Z"⟩
def RX9 : String := "BellTable$Strokes"
def TX9 : u_T := fun k => match k with
  | 0 => ("BellTable$Strokes", "beat", "[I", true)
  | 1 => ("BellTable$Strokes", "bell", "[I", true)
  | 2 => ("BellTable$Strokes", "length", "[I", true)
  | 3 => ("BellTable$Strokes", "manner", "[I", true)
  | _ => ("BellTable$Strokes", "size", "I", false)
def tyX9 : Nat → FieldType := fun k => match k with
  | 0 => .array .int
  | 1 => .array .int
  | 2 => .array .int
  | 3 => .array .int
  | _ => .int
abbrev wsX90 : List Cond := u_ws RX9 TX9 5
theorem nmX9 : ∀ a, a < 5 → ∀ b, b < 5 → a ≠ b → (TX9 a).2.1 ≠ (TX9 b).2.1 := by decide +kernel
theorem tyX9_ok : ∀ k, k < 5 → parseFieldDescriptor (TX9 k).2.2.1 = some (tyX9 k) := by decide +kernel
abbrev cX9_init : ByteArray := prog_11_method_1_code
def yX9_init : MethodName := ⟨RX9, "<init>", "()V"⟩
abbrev cX9_hasNumber : ByteArray := prog_11_method_2_code
def yX9_hasNumber : MethodName := ⟨RX9, "hasNumber", "(I)Z"⟩
abbrev cX9_isOn : ByteArray := prog_11_method_3_code
def yX9_isOn : MethodName := ⟨RX9, "isOn", "(JI)Z"⟩
abbrev cX9_hasAt : ByteArray := prog_11_method_4_code
def yX9_hasAt : MethodName := ⟨RX9, "hasAt", "(II)Z"⟩
abbrev cX9_insert : ByteArray := prog_11_method_5_code
def yX9_insert : MethodName := ⟨RX9, "insert", "(II)I"⟩
abbrev cX9_copyFrom : ByteArray := prog_11_method_6_code
def yX9_copyFrom : MethodName := ⟨RX9, "copyFrom", "(LBellTable$Strokes;)V"⟩
def RX10 : String := "BellTable$Tape"
def TX10 : u_T := fun k => match k with
  | 0 => ("BellTable$Tape", "size", "I", false)
  | 1 => ("BellTable$Tape", "kind", "I", false)
  | 2 => ("BellTable$Tape", "number", "I", false)
  | 3 => ("BellTable$Tape", "faultKind", "I", false)
  | 4 => ("BellTable$Tape", "faultPlace", "I", false)
  | 5 => ("BellTable$Tape", "bytes", "[B", true)
  | 6 => ("BellTable$Tape", "place", "I", false)
  | _ => ("BellTable$Tape", "next", "I", false)
def tyX10 : Nat → FieldType := fun k => match k with
  | 0 => .int
  | 1 => .int
  | 2 => .int
  | 3 => .int
  | 4 => .int
  | 5 => .array .byte
  | 6 => .int
  | _ => .int
abbrev wsX100 : List Cond := u_ws RX10 TX10 8
theorem nmX10 : ∀ a, a < 8 → ∀ b, b < 8 → a ≠ b → (TX10 a).2.1 ≠ (TX10 b).2.1 := by decide +kernel
theorem tyX10_ok : ∀ k, k < 8 → parseFieldDescriptor (TX10 k).2.2.1 = some (tyX10 k) := by decide +kernel
abbrev cX10_init : ByteArray := prog_12_method_1_code
def yX10_init : MethodName := ⟨RX10, "<init>", "()V"⟩
abbrev cX10_addFour : ByteArray := prog_12_method_2_code
def yX10_addFour : MethodName := ⟨RX10, "addFour", "(I)V"⟩
abbrev cX10_start : ByteArray := prog_12_method_3_code
def yX10_start : MethodName := ⟨RX10, "start", "()V"⟩
abbrev cX10_refuse : ByteArray := prog_12_method_4_code
def yX10_refuse : MethodName := ⟨RX10, "refuse", "(I)V"⟩
abbrev cX10_readToken : ByteArray := prog_12_method_5_code
def yX10_readToken : MethodName := ⟨RX10, "readToken", "()V"⟩
abbrev cX10_readWord : ByteArray := prog_12_method_6_code
def yX10_readWord : MethodName := ⟨RX10, "readWord", "()V"⟩
abbrev cX10_readNumber : ByteArray := prog_12_method_7_code
def yX10_readNumber : MethodName := ⟨RX10, "readNumber", "()V"⟩
abbrev cX10_isWord : ByteArray := prog_12_method_8_code
def yX10_isWord : MethodName := ⟨RX10, "isWord", "(Ljava/lang/String;)Z"⟩
abbrev cX10_byteAt : ByteArray := prog_12_method_9_code
def yX10_byteAt : MethodName := ⟨RX10, "byteAt", "(I)I"⟩
abbrev cX10_isBlank : ByteArray := prog_12_method_10_code
def yX10_isBlank : MethodName := ⟨RX10, "isBlank", "(I)Z"⟩
abbrev cX10_isLetter : ByteArray := prog_12_method_11_code
def yX10_isLetter : MethodName := ⟨RX10, "isLetter", "(I)Z"⟩
abbrev cX10_isDigit : ByteArray := prog_12_method_12_code
def yX10_isDigit : MethodName := ⟨RX10, "isDigit", "(I)Z"⟩
def RX11 : String := "BellTable"
def TX11 : u_T := fun k => match k with
  | 0 => ("BellTable", "tape", "LBellTable$Tape;", true)
  | 1 => ("BellTable", "text", "LBellTable$BeatText;", true)
  | 2 => ("BellTable", "strokes", "LBellTable$Strokes;", true)
  | 3 => ("BellTable", "rules", "LBellTable$Manners;", true)
  | 4 => ("BellTable", "deft", "LBellTable$Hands;", true)
  | 5 => ("BellTable", "ranges", "LBellTable$Ranges;", true)
  | 6 => ("BellTable", "helping", "LBellTable$Helping;", true)
  | 7 => ("BellTable", "sound", "LBellTable$Sound;", true)
  | 8 => ("BellTable", "listening", "LBellTable$Listening;", true)
  | 9 => ("BellTable", "days", "LBellTable$Days;", true)
  | 10 => ("BellTable", "missing", "[Z", true)
  | _ => ("BellTable", "told", "I", false)
def tyX11 : Nat → FieldType := fun k => match k with
  | 0 => .object "BellTable$Tape"
  | 1 => .object "BellTable$BeatText"
  | 2 => .object "BellTable$Strokes"
  | 3 => .object "BellTable$Manners"
  | 4 => .object "BellTable$Hands"
  | 5 => .object "BellTable$Ranges"
  | 6 => .object "BellTable$Helping"
  | 7 => .object "BellTable$Sound"
  | 8 => .object "BellTable$Listening"
  | 9 => .object "BellTable$Days"
  | 10 => .array .boolean
  | _ => .int
abbrev wsX110 : List Cond := u_ws RX11 TX11 12
theorem nmX11 : ∀ a, a < 12 → ∀ b, b < 12 → a ≠ b → (TX11 a).2.1 ≠ (TX11 b).2.1 := by decide +kernel
theorem tyX11_ok : ∀ k, k < 12 → parseFieldDescriptor (TX11 k).2.2.1 = some (tyX11 k) := by decide +kernel
abbrev cX11_init : ByteArray := prog_1_method_1_code
def yX11_init : MethodName := ⟨RX11, "<init>", "()V"⟩
abbrev cX11_feed : ByteArray := prog_1_method_2_code
def yX11_feed : MethodName := ⟨RX11, "feed", "(IIIII)I"⟩
abbrev cX11_end : ByteArray := prog_1_method_3_code
def yX11_end : MethodName := ⟨RX11, "end", "(I)I"⟩
abbrev cX11_score : ByteArray := prog_1_method_4_code
def yX11_score : MethodName := ⟨RX11, "score", "()I"⟩
abbrev cX11_manners : ByteArray := prog_1_method_5_code
def yX11_manners : MethodName := ⟨RX11, "manners", "()I"⟩
abbrev cX11_fault : ByteArray := prog_1_method_6_code
def yX11_fault : MethodName := ⟨RX11, "fault", "(I)I"⟩
abbrev cX11_rule : ByteArray := prog_1_method_7_code
def yX11_rule : MethodName := ⟨RX11, "rule", "(I)I"⟩
abbrev cX11_stroke : ByteArray := prog_1_method_8_code
def yX11_stroke : MethodName := ⟨RX11, "stroke", "(II)I"⟩
abbrev cX11_ringers : ByteArray := prog_1_method_9_code
def yX11_ringers : MethodName := ⟨RX11, "ringers", "(I)I"⟩
abbrev cX11_absent : ByteArray := prog_1_method_10_code
def yX11_absent : MethodName := ⟨RX11, "absent", "(IZ)I"⟩
abbrev cX11_hands : ByteArray := prog_1_method_11_code
def yX11_hands : MethodName := ⟨RX11, "hands", "(J)I"⟩
abbrev cX11_hand : ByteArray := prog_1_method_12_code
def yX11_hand : MethodName := ⟨RX11, "hand", "(I)I"⟩
abbrev cX11_part : ByteArray := prog_1_method_13_code
def yX11_part : MethodName := ⟨RX11, "part", "()I"⟩
abbrev cX11_give : ByteArray := prog_1_method_14_code
def yX11_give : MethodName := ⟨RX11, "give", "(II)I"⟩
abbrev cX11_parted : ByteArray := prog_1_method_15_code
def yX11_parted : MethodName := ⟨RX11, "parted", "(I)I"⟩
abbrev cX11_load : ByteArray := prog_1_method_16_code
def yX11_load : MethodName := ⟨RX11, "load", "(I)I"⟩
abbrev cX11_cover : ByteArray := prog_1_method_17_code
def yX11_cover : MethodName := ⟨RX11, "cover", "(I)I"⟩
abbrev cX11_help : ByteArray := prog_1_method_18_code
def yX11_help : MethodName := ⟨RX11, "help", "(I)I"⟩
abbrev cX11_helped : ByteArray := prog_1_method_19_code
def yX11_helped : MethodName := ⟨RX11, "helped", "(I)I"⟩
abbrev cX11_clashes : ByteArray := prog_1_method_20_code
def yX11_clashes : MethodName := ⟨RX11, "clashes", "()I"⟩
abbrev cX11_clash : ByteArray := prog_1_method_21_code
def yX11_clash : MethodName := ⟨RX11, "clash", "(II)I"⟩
abbrev cX11_damp : ByteArray := prog_1_method_22_code
def yX11_damp : MethodName := ⟨RX11, "damp", "()I"⟩
abbrev cX11_heard : ByteArray := prog_1_method_23_code
def yX11_heard : MethodName := ⟨RX11, "heard", "()I"⟩
abbrev cX11_laid : ByteArray := prog_1_method_24_code
def yX11_laid : MethodName := ⟨RX11, "laid", "(II)I"⟩
abbrev cX11_more : ByteArray := prog_1_method_25_code
def yX11_more : MethodName := ⟨RX11, "more", "()I"⟩
abbrev cX11_blame : ByteArray := prog_1_method_26_code
def yX11_blame : MethodName := ⟨RX11, "blame", "(I)I"⟩
abbrev cX11_pass : ByteArray := prog_1_method_27_code
def yX11_pass : MethodName := ⟨RX11, "pass", "(I)I"⟩
abbrev cX11_away : ByteArray := prog_1_method_28_code
def yX11_away : MethodName := ⟨RX11, "away", "(III)I"⟩
abbrev cX11_back : ByteArray := prog_1_method_29_code
def yX11_back : MethodName := ⟨RX11, "back", "(II)I"⟩
abbrev cX11_there : ByteArray := prog_1_method_30_code
def yX11_there : MethodName := ⟨RX11, "there", "(III)I"⟩
abbrev cX11_key : ByteArray := prog_1_method_31_code
def yX11_key : MethodName := ⟨RX11, "key", "(II)I"⟩
abbrev cX11_keyed : ByteArray := prog_1_method_32_code
def yX11_keyed : MethodName := ⟨RX11, "keyed", "(I)I"⟩
abbrev cX11_count : ByteArray := prog_1_method_33_code
def yX11_count : MethodName := ⟨RX11, "count", "(I)I"⟩
abbrev cX11_isBell : ByteArray := prog_1_method_34_code
def yX11_isBell : MethodName := ⟨RX11, "isBell", "(I)Z"⟩
abbrev cX11_isDay : ByteArray := prog_1_method_35_code
def yX11_isDay : MethodName := ⟨RX11, "isDay", "(I)Z"⟩
abbrev cX11_orNone : ByteArray := prog_1_method_36_code
def yX11_orNone : MethodName := ⟨RX11, "orNone", "(I)I"⟩
abbrev cX11_isRinger : ByteArray := prog_1_method_37_code
def yX11_isRinger : MethodName := ⟨RX11, "isRinger", "(I)Z"⟩
abbrev cX11_canHelp : ByteArray := prog_1_method_38_code
def yX11_canHelp : MethodName := ⟨RX11, "canHelp", "(I)Z"⟩
abbrev cX11_standAllBut : ByteArray := prog_1_method_39_code
def yX11_standAllBut : MethodName := ⟨RX11, "standAllBut", "(I)V"⟩
abbrev cX11_countMissing : ByteArray := prog_1_method_40_code
def yX11_countMissing : MethodName := ⟨RX11, "countMissing", "()I"⟩
abbrev cX11_countWithBell : ByteArray := prog_1_method_41_code
def yX11_countWithBell : MethodName := ⟨RX11, "countWithBell", "()I"⟩
def RX12 : String := "BellTableModel$Stop"
def TX12 : u_T := fun k => match k with
  | 0 => ("java/lang/Throwable", "cause", "Ljava/lang/Throwable;", false)
  | 1 => ("java/lang/Throwable", "stackTrace", "[Ljava/lang/StackTraceElement;", false)
  | 2 => ("java/lang/Throwable", "suppressedExceptions", "Ljava/util/List;", false)
  | 3 => ("java/lang/Throwable", "detailMessage", "Ljava/lang/String;", false)
  | 4 => ("java/lang/Throwable", "backtrace", "Ljava/lang/Object;", false)
  | _ => ("java/lang/Throwable", "depth", "I", false)
def tyX12 : Nat → FieldType := fun k => match k with
  | 0 => .object "java/lang/Throwable"
  | 1 => .array (.object "java/lang/StackTraceElement")
  | 2 => .object "java/util/List"
  | 3 => .object "java/lang/String"
  | 4 => .object "java/lang/Object"
  | _ => .int
abbrev wsX120 : List Cond := u_ws RX12 TX12 6
theorem nmX12 : ∀ a, a < 6 → ∀ b, b < 6 → a ≠ b → (TX12 a).2.1 ≠ (TX12 b).2.1 := by decide +kernel
theorem tyX12_ok : ∀ k, k < 6 → parseFieldDescriptor (TX12 k).2.2.1 = some (tyX12 k) := by decide +kernel
abbrev cX12_init : ByteArray := prog_15_method_1_code
def yX12_init : MethodName := ⟨RX12, "<init>", "()V"⟩
def RX13 : String := "BellTableModel"
def TX13 : u_T := fun k => match k with
  | 0 => ("BellTableModel", "stop", "LBellTableModel$Stop;", true)
  | 1 => ("BellTableModel", "tape", "[B", true)
  | 2 => ("BellTableModel", "taped", "I", false)
  | 3 => ("BellTableModel", "length", "I", false)
  | 4 => ("BellTableModel", "from", "I", false)
  | 5 => ("BellTableModel", "behind", "I", false)
  | 6 => ("BellTableModel", "hand", "I", false)
  | 7 => ("BellTableModel", "value", "I", false)
  | 8 => ("BellTableModel", "fault", "I", false)
  | 9 => ("BellTableModel", "faultAt", "I", false)
  | 10 => ("BellTableModel", "strokes", "I", false)
  | 11 => ("BellTableModel", "readMany", "I", false)
  | 12 => ("BellTableModel", "beat", "[I", true)
  | 13 => ("BellTableModel", "bell", "[I", true)
  | 14 => ("BellTableModel", "lengthOf", "[I", true)
  | 15 => ("BellTableModel", "manner", "[I", true)
  | 16 => ("BellTableModel", "readBeat", "[I", true)
  | 17 => ("BellTableModel", "readBell", "[I", true)
  | 18 => ("BellTableModel", "readLength", "[I", true)
  | 19 => ("BellTableModel", "readManner", "[I", true)
  | 20 => ("BellTableModel", "readRule", "[I", true)
  | 21 => ("BellTableModel", "rule", "[I", true)
  | 22 => ("BellTableModel", "isTold", "[Z", true)
  | 23 => ("BellTableModel", "ringers", "I", false)
  | 24 => ("BellTableModel", "isAbsent", "[Z", true)
  | 25 => ("BellTableModel", "parted", "[I", true)
  | 26 => ("BellTableModel", "hasParting", "Z", false)
  | 27 => ("BellTableModel", "own", "[I", true)
  | 28 => ("BellTableModel", "fewest", "[I", true)
  | 29 => ("BellTableModel", "handOf", "[I", true)
  | 30 => ("BellTableModel", "last", "[I", true)
  | 31 => ("BellTableModel", "ownMany", "I", false)
  | 32 => ("BellTableModel", "hasHands", "Z", false)
  | 33 => ("BellTableModel", "used", "[I", true)
  | 34 => ("BellTableModel", "there", "[I", true)
  | 35 => ("BellTableModel", "pieceTakes", "[I", true)
  | 36 => ("BellTableModel", "bestChanged", "[I", true)
  | 37 => ("BellTableModel", "bestTakes", "[I", true)
  | 38 => ("BellTableModel", "bestWith", "[I", true)
  | 39 => ("BellTableModel", "had", "[I", true)
  | 40 => ("BellTableModel", "usedMany", "I", false)
  | 41 => ("BellTableModel", "thereMany", "I", false)
  | 42 => ("BellTableModel", "helpStroke", "I", false)
  | 43 => ("BellTableModel", "helpRinger", "I", false)
  | 44 => ("BellTableModel", "hasHelp", "Z", false)
  | 45 => ("BellTableModel", "heardMany", "I", false)
  | 46 => ("BellTableModel", "mores", "I", false)
  | 47 => ("BellTableModel", "heardBeat", "[I", true)
  | 48 => ("BellTableModel", "heardBell", "[I", true)
  | 49 => ("BellTableModel", "pairOf", "[I", true)
  | 50 => ("BellTableModel", "pointsFrom", "[I", true)
  | 51 => ("BellTableModel", "isMore", "[Z", true)
  | 52 => ("BellTableModel", "hasHeard", "Z", false)
  | 53 => ("BellTableModel", "clock", "I", false)
  | 54 => ("BellTableModel", "aways", "I", false)
  | 55 => ("BellTableModel", "keyMove", "I", false)
  | 56 => ("BellTableModel", "keyOut", "I", false)
  | 57 => ("BellTableModel", "keyOctave", "I", false)
  | 58 => ("BellTableModel", "awayBell", "[I", true)
  | 59 => ("BellTableModel", "awayFrom", "[I", true)
  | 60 => ("BellTableModel", "awayTo", "[I", true)
  | 61 => ("BellTableModel", "awayKnown", "[I", true)
  | 62 => ("BellTableModel", "backFrom", "[I", true)
  | 63 => ("BellTableModel", "backKnown", "[I", true)
  | 64 => ("BellTableModel", "hasBack", "[Z", true)
  | _ => ("BellTableModel", "hasKey", "Z", false)
def tyX13 : Nat → FieldType := fun k => match k with
  | 0 => .object "BellTableModel$Stop"
  | 1 => .array .byte
  | 2 => .int
  | 3 => .int
  | 4 => .int
  | 5 => .int
  | 6 => .int
  | 7 => .int
  | 8 => .int
  | 9 => .int
  | 10 => .int
  | 11 => .int
  | 12 => .array .int
  | 13 => .array .int
  | 14 => .array .int
  | 15 => .array .int
  | 16 => .array .int
  | 17 => .array .int
  | 18 => .array .int
  | 19 => .array .int
  | 20 => .array .int
  | 21 => .array .int
  | 22 => .array .boolean
  | 23 => .int
  | 24 => .array .boolean
  | 25 => .array .int
  | 26 => .boolean
  | 27 => .array .int
  | 28 => .array .int
  | 29 => .array .int
  | 30 => .array .int
  | 31 => .int
  | 32 => .boolean
  | 33 => .array .int
  | 34 => .array .int
  | 35 => .array .int
  | 36 => .array .int
  | 37 => .array .int
  | 38 => .array .int
  | 39 => .array .int
  | 40 => .int
  | 41 => .int
  | 42 => .int
  | 43 => .int
  | 44 => .boolean
  | 45 => .int
  | 46 => .int
  | 47 => .array .int
  | 48 => .array .int
  | 49 => .array .int
  | 50 => .array .int
  | 51 => .array .boolean
  | 52 => .boolean
  | 53 => .int
  | 54 => .int
  | 55 => .int
  | 56 => .int
  | 57 => .int
  | 58 => .array .int
  | 59 => .array .int
  | 60 => .array .int
  | 61 => .array .int
  | 62 => .array .int
  | 63 => .array .int
  | 64 => .array .boolean
  | _ => .boolean
abbrev wsX130 : List Cond := u_ws RX13 TX13 66
theorem nmX13 : ∀ a, a < 66 → ∀ b, b < 66 → a ≠ b → (TX13 a).2.1 ≠ (TX13 b).2.1 := by decide +kernel
theorem tyX13_ok : ∀ k, k < 66 → parseFieldDescriptor (TX13 k).2.2.1 = some (tyX13 k) := by decide +kernel
abbrev cX13_in : ByteArray := prog_14_method_1_code
def yX13_in : MethodName := ⟨RX13, "in", "(JJJ)Z"⟩
abbrev cX13_isDay : ByteArray := prog_14_method_2_code
def yX13_isDay : MethodName := ⟨RX13, "isDay", "(I)Z"⟩
abbrev cX13_wrong : ByteArray := prog_14_method_3_code
def yX13_wrong : MethodName := ⟨RX13, "wrong", "(I)LBellTableModel$Stop;"⟩
abbrev cX13_byteAt : ByteArray := prog_14_method_4_code
def yX13_byteAt : MethodName := ⟨RX13, "byteAt", "(I)I"⟩
abbrev cX13_isSmall : ByteArray := prog_14_method_5_code
def yX13_isSmall : MethodName := ⟨RX13, "isSmall", "(I)Z"⟩
abbrev cX13_isDigit : ByteArray := prog_14_method_6_code
def yX13_isDigit : MethodName := ⟨RX13, "isDigit", "(I)Z"⟩
abbrev cX13_scan : ByteArray := prog_14_method_7_code
def yX13_scan : MethodName := ⟨RX13, "scan", "()V"⟩
abbrev cX13_is : ByteArray := prog_14_method_8_code
def yX13_is : MethodName := ⟨RX13, "is", "(Ljava/lang/String;)Z"⟩
abbrev cX13_need : ByteArray := prog_14_method_9_code
def yX13_need : MethodName := ⟨RX13, "need", "(ZI)V"⟩
abbrev cX13_look : ByteArray := prog_14_method_10_code
def yX13_look : MethodName := ⟨RX13, "look", "(II)I"⟩
abbrev cX13_number : ByteArray := prog_14_method_11_code
def yX13_number : MethodName := ⟨RX13, "number", "(II)I"⟩
abbrev cX13_begin : ByteArray := prog_14_method_12_code
def yX13_begin : MethodName := ⟨RX13, "begin", "()V"⟩
abbrev cX13_readBeats : ByteArray := prog_14_method_13_code
def yX13_readBeats : MethodName := ⟨RX13, "readBeats", "(Z)V"⟩
abbrev cX13_readStroke : ByteArray := prog_14_method_14_code
def yX13_readStroke : MethodName := ⟨RX13, "readStroke", "(IZ)V"⟩
abbrev cX13_feed : ByteArray := prog_14_method_15_code
def yX13_feed : MethodName := ⟨RX13, "feed", "(IIIII)I"⟩
abbrev cX13_lay : ByteArray := prog_14_method_16_code
def yX13_lay : MethodName := ⟨RX13, "lay", "(I)V"⟩
abbrev cX13_end : ByteArray := prog_14_method_17_code
def yX13_end : MethodName := ⟨RX13, "end", "(I)I"⟩
abbrev cX13_init : ByteArray := prog_14_method_18_code
def yX13_init : MethodName := ⟨RX13, "<init>", "()V"⟩
abbrev cX13_score : ByteArray := prog_14_method_19_code
def yX13_score : MethodName := ⟨RX13, "score", "()I"⟩
abbrev cX13_ruleAtHand : ByteArray := prog_14_method_20_code
def yX13_ruleAtHand : MethodName := ⟨RX13, "ruleAtHand", "()I"⟩
abbrev cX13_readManners : ByteArray := prog_14_method_21_code
def yX13_readManners : MethodName := ⟨RX13, "readManners", "()I"⟩
abbrev cX13_manners : ByteArray := prog_14_method_22_code
def yX13_manners : MethodName := ⟨RX13, "manners", "()I"⟩
abbrev cX13_fault : ByteArray := prog_14_method_23_code
def yX13_fault : MethodName := ⟨RX13, "fault", "(I)I"⟩
abbrev cX13_rule : ByteArray := prog_14_method_24_code
def yX13_rule : MethodName := ⟨RX13, "rule", "(I)I"⟩
abbrev cX13_endOf : ByteArray := prog_14_method_25_code
def yX13_endOf : MethodName := ⟨RX13, "endOf", "(I)I"⟩
abbrev cX13_isStroke : ByteArray := prog_14_method_26_code
def yX13_isStroke : MethodName := ⟨RX13, "isStroke", "(I)Z"⟩
abbrev cX13_stroke : ByteArray := prog_14_method_27_code
def yX13_stroke : MethodName := ⟨RX13, "stroke", "(II)I"⟩
abbrev cX13_isRinger : ByteArray := prog_14_method_28_code
def yX13_isRinger : MethodName := ⟨RX13, "isRinger", "(I)Z"⟩
abbrev cX13_ringers : ByteArray := prog_14_method_29_code
def yX13_ringers : MethodName := ⟨RX13, "ringers", "(I)I"⟩
abbrev cX13_absent : ByteArray := prog_14_method_30_code
def yX13_absent : MethodName := ⟨RX13, "absent", "(IZ)I"⟩
abbrev cX13_isUsed : ByteArray := prog_14_method_31_code
def yX13_isUsed : MethodName := ⟨RX13, "isUsed", "(I)Z"⟩
abbrev cX13_cell : ByteArray := prog_14_method_32_code
def yX13_cell : MethodName := ⟨RX13, "cell", "(III)I"⟩
abbrev cX13_heldBell : ByteArray := prog_14_method_33_code
def yX13_heldBell : MethodName := ⟨RX13, "heldBell", "(I)I"⟩
abbrev cX13_go : ByteArray := prog_14_method_34_code
def yX13_go : MethodName := ⟨RX13, "go", "(II)I"⟩
abbrev cX13_takesBy : ByteArray := prog_14_method_35_code
def yX13_takesBy : MethodName := ⟨RX13, "takesBy", "(IIII)I"⟩
abbrev cX13_takesFrom : ByteArray := prog_14_method_36_code
def yX13_takesFrom : MethodName := ⟨RX13, "takesFrom", "(IIII)I"⟩
abbrev cX13_findHands : ByteArray := prog_14_method_37_code
def yX13_findHands : MethodName := ⟨RX13, "findHands", "()I"⟩
abbrev cX13_takeBells : ByteArray := prog_14_method_38_code
def yX13_takeBells : MethodName := ⟨RX13, "takeBells", "(J)V"⟩
abbrev cX13_takesOf : ByteArray := prog_14_method_39_code
def yX13_takesOf : MethodName := ⟨RX13, "takesOf", "(J)I"⟩
abbrev cX13_hands : ByteArray := prog_14_method_40_code
def yX13_hands : MethodName := ⟨RX13, "hands", "(J)I"⟩
abbrev cX13_hand : ByteArray := prog_14_method_41_code
def yX13_hand : MethodName := ⟨RX13, "hand", "(I)I"⟩
abbrev cX13_findUsed : ByteArray := prog_14_method_42_code
def yX13_findUsed : MethodName := ⟨RX13, "findUsed", "()V"⟩
abbrev cX13_findPieces : ByteArray := prog_14_method_43_code
def yX13_findPieces : MethodName := ⟨RX13, "findPieces", "()V"⟩
abbrev cX13_changedIn : ByteArray := prog_14_method_44_code
def yX13_changedIn : MethodName := ⟨RX13, "changedIn", "(III)I"⟩
abbrev cX13_spot : ByteArray := prog_14_method_45_code
def yX13_spot : MethodName := ⟨RX13, "spot", "(II)I"⟩
abbrev cX13_compare : ByteArray := prog_14_method_46_code
def yX13_compare : MethodName := ⟨RX13, "compare", "(IIIIII)I"⟩
abbrev cX13_mayHave : ByteArray := prog_14_method_47_code
def yX13_mayHave : MethodName := ⟨RX13, "mayHave", "(III)Z"⟩
abbrev cX13_findRanges : ByteArray := prog_14_method_48_code
def yX13_findRanges : MethodName := ⟨RX13, "findRanges", "()Z"⟩
abbrev cX13_takeRanges : ByteArray := prog_14_method_49_code
def yX13_takeRanges : MethodName := ⟨RX13, "takeRanges", "()V"⟩
abbrev cX13_findThere : ByteArray := prog_14_method_50_code
def yX13_findThere : MethodName := ⟨RX13, "findThere", "(I)V"⟩
abbrev cX13_forgetHad : ByteArray := prog_14_method_51_code
def yX13_forgetHad : MethodName := ⟨RX13, "forgetHad", "()V"⟩
abbrev cX13_part : ByteArray := prog_14_method_52_code
def yX13_part : MethodName := ⟨RX13, "part", "()I"⟩
abbrev cX13_give : ByteArray := prog_14_method_53_code
def yX13_give : MethodName := ⟨RX13, "give", "(II)I"⟩
abbrev cX13_parted : ByteArray := prog_14_method_54_code
def yX13_parted : MethodName := ⟨RX13, "parted", "(I)I"⟩
abbrev cX13_bellsOf : ByteArray := prog_14_method_55_code
def yX13_bellsOf : MethodName := ⟨RX13, "bellsOf", "(I)J"⟩
abbrev cX13_load : ByteArray := prog_14_method_56_code
def yX13_load : MethodName := ⟨RX13, "load", "(I)I"⟩
abbrev cX13_cover : ByteArray := prog_14_method_57_code
def yX13_cover : MethodName := ⟨RX13, "cover", "(I)I"⟩
abbrev cX13_takesWith : ByteArray := prog_14_method_58_code
def yX13_takesWith : MethodName := ⟨RX13, "takesWith", "(III)I"⟩
abbrev cX13_help : ByteArray := prog_14_method_59_code
def yX13_help : MethodName := ⟨RX13, "help", "(I)I"⟩
abbrev cX13_helped : ByteArray := prog_14_method_60_code
def yX13_helped : MethodName := ⟨RX13, "helped", "(I)I"⟩
abbrev cX13_isClash : ByteArray := prog_14_method_61_code
def yX13_isClash : MethodName := ⟨RX13, "isClash", "(II)Z"⟩
abbrev cX13_clashes : ByteArray := prog_14_method_62_code
def yX13_clashes : MethodName := ⟨RX13, "clashes", "()I"⟩
abbrev cX13_clash : ByteArray := prog_14_method_63_code
def yX13_clash : MethodName := ⟨RX13, "clash", "(II)I"⟩
abbrev cX13_damp : ByteArray := prog_14_method_64_code
def yX13_damp : MethodName := ⟨RX13, "damp", "()I"⟩
abbrev cX13_pairPoints : ByteArray := prog_14_method_65_code
def yX13_pairPoints : MethodName := ⟨RX13, "pairPoints", "(II)I"⟩
abbrev cX13_place : ByteArray := prog_14_method_66_code
def yX13_place : MethodName := ⟨RX13, "place", "(II)I"⟩
abbrev cX13_pairFrom : ByteArray := prog_14_method_67_code
def yX13_pairFrom : MethodName := ⟨RX13, "pairFrom", "(II)I"⟩
abbrev cX13_missedFrom : ByteArray := prog_14_method_68_code
def yX13_missedFrom : MethodName := ⟨RX13, "missedFrom", "(II)I"⟩
abbrev cX13_moreFrom : ByteArray := prog_14_method_69_code
def yX13_moreFrom : MethodName := ⟨RX13, "moreFrom", "(II)I"⟩
abbrev cX13_heard : ByteArray := prog_14_method_70_code
def yX13_heard : MethodName := ⟨RX13, "heard", "()I"⟩
abbrev cX13_laid : ByteArray := prog_14_method_71_code
def yX13_laid : MethodName := ⟨RX13, "laid", "(II)I"⟩
abbrev cX13_more : ByteArray := prog_14_method_72_code
def yX13_more : MethodName := ⟨RX13, "more", "()I"⟩
abbrev cX13_blame : ByteArray := prog_14_method_73_code
def yX13_blame : MethodName := ⟨RX13, "blame", "(I)I"⟩
abbrev cX13_pass : ByteArray := prog_14_method_74_code
def yX13_pass : MethodName := ⟨RX13, "pass", "(I)I"⟩
abbrev cX13_away : ByteArray := prog_14_method_75_code
def yX13_away : MethodName := ⟨RX13, "away", "(III)I"⟩
abbrev cX13_back : ByteArray := prog_14_method_76_code
def yX13_back : MethodName := ⟨RX13, "back", "(II)I"⟩
abbrev cX13_isThere : ByteArray := prog_14_method_77_code
def yX13_isThere : MethodName := ⟨RX13, "isThere", "(III)Z"⟩
abbrev cX13_there : ByteArray := prog_14_method_78_code
def yX13_there : MethodName := ⟨RX13, "there", "(III)I"⟩
abbrev cX13_key : ByteArray := prog_14_method_79_code
def yX13_key : MethodName := ⟨RX13, "key", "(II)I"⟩
abbrev cX13_keyed : ByteArray := prog_14_method_80_code
def yX13_keyed : MethodName := ⟨RX13, "keyed", "(I)I"⟩
abbrev cX13_count : ByteArray := prog_14_method_81_code
def yX13_count : MethodName := ⟨RX13, "count", "(I)I"⟩
def RJ9 : String := "java/lang/Math"
def TJ9 : u_T := fun k => match k with
  | _ => ("", "", "", false)
def tyJ9 : Nat → FieldType := fun k => match k with
  | _ => .int
abbrev wsJ90 : List Cond := u_ws RJ9 TJ9 0
theorem nmJ9 : ∀ a, a < 0 → ∀ b, b < 0 → a ≠ b → (TJ9 a).2.1 ≠ (TJ9 b).2.1 := by decide +kernel
theorem tyJ9_ok : ∀ k, k < 0 → parseFieldDescriptor (TJ9 k).2.2.1 = some (tyJ9 k) := by decide +kernel
abbrev cJ9_abs_0f7a4 : ByteArray := prog_17_method_59_code
def yJ9_abs_0f7a4 : MethodName := ⟨RJ9, "abs", "(I)I"⟩
abbrev cJ9_max_7cf53 : ByteArray := prog_17_method_65_code
def yJ9_max_7cf53 : MethodName := ⟨RJ9, "max", "(II)I"⟩
abbrev cJ9_min_7cf53 : ByteArray := prog_17_method_69_code
def yJ9_min_7cf53 : MethodName := ⟨RJ9, "min", "(II)I"⟩
def RJ0 : String := "java/lang/String"
def TJ0 : u_T := fun k => match k with
  | _ => ("", "", "", false)
def tyJ0 : Nat → FieldType := fun k => match k with
  | _ => .int
abbrev wsJ00 : List Cond := u_ws RJ0 TJ0 0
theorem nmJ0 : ∀ a, a < 0 → ∀ b, b < 0 → a ≠ b → (TJ0 a).2.1 ≠ (TJ0 b).2.1 := by decide +kernel
theorem tyJ0_ok : ∀ k, k < 0 → parseFieldDescriptor (TJ0 k).2.2.1 = some (tyJ0 k) := by decide +kernel
abbrev cJ0_length_8abf5 : ByteArray := prog_18_method_54_code
def yJ0_length_8abf5 : MethodName := ⟨RJ0, "length", "()I"⟩
abbrev cJ0_charAt_5068e : ByteArray := prog_18_method_56_code
def yJ0_charAt_5068e : MethodName := ⟨RJ0, "charAt", "(I)C"⟩
abbrev cJ0_coder_7d493 : ByteArray := prog_18_method_152_code
def yJ0_coder_7d493 : MethodName := ⟨RJ0, "coder", "()B"⟩
abbrev cJ0_isLatin1_aae02 : ByteArray := prog_18_method_154_code
def yJ0_isLatin1_aae02 : MethodName := ⟨RJ0, "isLatin1", "()Z"⟩
abbrev cJ0_checkIndex_df160 : ByteArray := prog_18_method_155_code
def yJ0_checkIndex_df160 : MethodName := ⟨RJ0, "checkIndex", "(II)V"⟩
def RJ1 : String := "java/lang/StringLatin1"
def TJ1 : u_T := fun k => match k with
  | _ => ("", "", "", false)
def tyJ1 : Nat → FieldType := fun k => match k with
  | _ => .int
abbrev wsJ10 : List Cond := u_ws RJ1 TJ1 0
theorem nmJ1 : ∀ a, a < 0 → ∀ b, b < 0 → a ≠ b → (TJ1 a).2.1 ≠ (TJ1 b).2.1 := by decide +kernel
theorem tyJ1_ok : ∀ k, k < 0 → parseFieldDescriptor (TJ1 k).2.2.1 = some (tyJ1 k) := by decide +kernel
abbrev cJ1_charAt_3b067 : ByteArray := prog_19_method_2_code
def yJ1_charAt_3b067 : MethodName := ⟨RJ1, "charAt", "([BI)C"⟩
def RJ2 : String := "java/lang/StringUTF16"
def TJ2 : u_T := fun k => match k with
  | _ => ("", "", "", false)
def tyJ2 : Nat → FieldType := fun k => match k with
  | _ => .int
abbrev wsJ20 : List Cond := u_ws RJ2 TJ2 0
theorem nmJ2 : ∀ a, a < 0 → ∀ b, b < 0 → a ≠ b → (TJ2 a).2.1 ≠ (TJ2 b).2.1 := by decide +kernel
theorem tyJ2_ok : ∀ k, k < 0 → parseFieldDescriptor (TJ2 k).2.2.1 = some (tyJ2 k) := by decide +kernel
abbrev cJ2_getChar_3b067 : ByteArray := prog_20_method_5_code
def yJ2_getChar_3b067 : MethodName := ⟨RJ2, "getChar", "([BI)C"⟩
abbrev cJ2_length_9d52b : ByteArray := prog_20_method_6_code
def yJ2_length_9d52b : MethodName := ⟨RJ2, "length", "([B)I"⟩
abbrev cJ2_charAt_3b067 : ByteArray := prog_20_method_83_code
def yJ2_charAt_3b067 : MethodName := ⟨RJ2, "charAt", "([BI)C"⟩
abbrev cJ2_checkIndex_2214a : ByteArray := prog_20_method_91_code
def yJ2_checkIndex_2214a : MethodName := ⟨RJ2, "checkIndex", "(I[B)V"⟩
def RJ10 : String := "java/lang/System"
def TJ10 : u_T := fun k => match k with
  | _ => ("", "", "", false)
def tyJ10 : Nat → FieldType := fun k => match k with
  | _ => .int
abbrev wsJ100 : List Cond := u_ws RJ10 TJ10 0
theorem nmJ10 : ∀ a, a < 0 → ∀ b, b < 0 → a ≠ b → (TJ10 a).2.1 ≠ (TJ10 b).2.1 := by decide +kernel
theorem tyJ10_ok : ∀ k, k < 0 → parseFieldDescriptor (TJ10 k).2.2.1 = some (tyJ10 k) := by decide +kernel
def RJ3 : String := "jdk/internal/util/Preconditions"
def TJ3 : u_T := fun k => match k with
  | _ => ("", "", "", false)
def tyJ3 : Nat → FieldType := fun k => match k with
  | _ => .int
abbrev wsJ30 : List Cond := u_ws RJ3 TJ3 0
theorem nmJ3 : ∀ a, a < 0 → ∀ b, b < 0 → a ≠ b → (TJ3 a).2.1 ≠ (TJ3 b).2.1 := by decide +kernel
theorem tyJ3_ok : ∀ k, k < 0 → parseFieldDescriptor (TJ3 k).2.2.1 = some (tyJ3 k) := by decide +kernel
abbrev cJ3_checkIndex_8e157 : ByteArray := prog_23_method_11_code
def yJ3_checkIndex_8e157 : MethodName := ⟨RJ3, "checkIndex", "(IILjava/util/function/BiFunction;)I"⟩
def RL : String := "BellTableLaw"
abbrev cL_law : ByteArray := code
def yL_law : MethodName := ⟨RL, "law", "([I)Z"⟩
end
section
/-! THE WORLD behind the two constructors: its cells by number, arrays (kind, length) and objects (class, fields) -/
abbrev Mem : Type := (Nat → Nat → Int32) × (Nat → Nat → Int64)
abbrev Shp : Type := (Nat × Nat) ⊕ (Nat × List (Nat × Nat))
def shL : List Shp := [
  .inr (11, [(1, 1), (1, 3), (1, 9), (1, 14), (1, 17), (1, 22), (1, 28), (1, 32), (1, 35), (1, 44), (1, 52), (0, 0)]),
  .inr (10, [(0, 0), (0, 0), (0, 0), (0, 0), (0, 0), (1, 2), (0, 0), (0, 0)]),
  .inl (1, 1200),
  .inr (0, [(1, 1), (1, 4), (0, 0), (0, 0), (0, 0)]),
  .inr (9, [(1, 5), (1, 6), (1, 7), (1, 8), (0, 0)]),
  .inl (0, 160),
  .inl (0, 160),
  .inl (0, 160),
  .inl (0, 160),
  .inr (9, [(1, 10), (1, 11), (1, 12), (1, 13), (0, 0)]),
  .inl (0, 160),
  .inl (0, 160),
  .inl (0, 160),
  .inl (0, 160),
  .inr (6, [(1, 15), (1, 16), (0, 0), (0, 0), (0, 0)]),
  .inl (0, 4),
  .inl (0, 4),
  .inr (3, [(1, 9), (1, 14), (1, 18), (0, 0), (1, 19), (0, 0), (1, 20), (0, 0), (1, 21)]),
  .inl (0, 160),
  .inl (0, 160),
  .inl (0, 12880),
  .inl (0, 160),
  .inr (7, [(1, 9), (1, 14), (1, 17), (1, 23), (0, 0), (0, 0), (0, 0), (2, 0), (1, 24), (1, 25), (1, 26), (0, 0), (1, 27)]),
  .inl (0, 48),
  .inl (0, 48),
  .inl (0, 12),
  .inl (0, 624),
  .inl (0, 637),
  .inr (4, [(1, 9), (1, 17), (1, 22), (0, 0), (0, 0), (1, 29), (1, 30), (1, 31), (0, 0)]),
  .inl (0, 160),
  .inl (0, 160),
  .inl (0, 160),
  .inr (8, [(1, 9), (1, 33), (0, 0), (0, 0), (1, 34)]),
  .inl (0, 160),
  .inl (0, 48),
  .inr (5, [(1, 9), (1, 36), (1, 37), (0, 0), (0, 0), (1, 38), (1, 39), (1, 40), (1, 42)]),
  .inl (0, 160),
  .inl (0, 160),
  .inl (0, 48),
  .inl (0, 161),
  .inr (1, [(1, 41)]),
  .inl (3, 483),
  .inr (1, [(1, 43)]),
  .inl (3, 483),
  .inr (2, [(1, 9), (0, 0), (0, 0), (0, 0), (0, 0), (0, 0), (0, 0), (1, 45), (1, 46), (1, 47), (1, 48), (1, 49), (1, 50), (1, 51)]),
  .inl (0, 60),
  .inl (0, 60),
  .inl (0, 60),
  .inl (0, 60),
  .inl (0, 60),
  .inl (0, 60),
  .inl (2, 48),
  .inl (2, 12),
  .inr (12, [(3, 0), (3, 0), (3, 0), (3, 0), (3, 0), (0, 0)]),
  .inr (13, [(1, 53), (1, 55), (0, 0), (0, 0), (0, 0), (0, 0), (0, 0), (0, 0), (0, 0), (0, 0), (0, 0), (0, 0), (1, 56), (1, 57), (1, 58), (1, 59), (1, 60), (1, 61), (1, 62), (1, 63), (1, 64), (1, 65), (1, 66), (0, 0), (1, 67), (1, 68), (0, 0), (1, 69), (1, 70), (1, 71), (1, 72), (0, 0), (0, 0), (1, 73), (1, 74), (1, 75), (1, 76), (1, 77), (1, 78), (1, 79), (0, 0), (0, 0), (0, 0), (0, 0), (0, 0), (0, 0), (0, 0), (1, 80), (1, 81), (1, 82), (1, 83), (1, 84), (0, 0), (0, 0), (0, 0), (0, 0), (0, 0), (0, 0), (1, 85), (1, 86), (1, 87), (1, 88), (1, 89), (1, 90), (1, 91), (0, 0)]),
  .inl (1, 1200),
  .inl (0, 160),
  .inl (0, 160),
  .inl (0, 160),
  .inl (0, 160),
  .inl (0, 160),
  .inl (0, 160),
  .inl (0, 160),
  .inl (0, 160),
  .inl (0, 4),
  .inl (0, 4),
  .inl (2, 4),
  .inl (2, 12),
  .inl (0, 48),
  .inl (0, 160),
  .inl (0, 51842),
  .inl (0, 160),
  .inl (0, 2),
  .inl (0, 48),
  .inl (0, 12),
  .inl (0, 2352),
  .inl (0, 637),
  .inl (0, 637),
  .inl (0, 637),
  .inl (0, 48),
  .inl (0, 160),
  .inl (0, 160),
  .inl (0, 160),
  .inl (0, 25921),
  .inl (2, 160),
  .inl (0, 60),
  .inl (0, 60),
  .inl (0, 60),
  .inl (0, 60),
  .inl (0, 60),
  .inl (0, 60),
  .inl (2, 60)]
theorem shL_len : shL.length = 92 := by decide +kernel
def nC : Nat := 92
/-- the words that stay good -/
def lw_w : List Cond := lw_tbl.filter goodWord
theorem lw_in {w : Cond} {i : Nat} (h : tables_1[i]? = some w) (g : goodWord w = true) : w ∈ lw_w := List.mem_filter.mpr ⟨List.mem_append_right _ (List.mem_of_getElem? h), g⟩
theorem lw_se {w : Cond} {i : Nat} (h : (k2_sels lw_privs)[i]? = some w) (g : goodWord w = true) : w ∈ lw_w := List.mem_filter.mpr ⟨List.mem_append_left _ (List.mem_of_getElem? h), g⟩
abbrev cls : List vw_C := [(RX0, TX0, 5), (RX1, TX1, 1), (RX2, TX2, 14), (RX3, TX3, 9), (RX4, TX4, 9), (RX5, TX5, 9), (RX6, TX6, 5), (RX7, TX7, 13), (RX8, TX8, 5), (RX9, TX9, 5), (RX10, TX10, 8), (RX11, TX11, 12), (RX12, TX12, 6), (RX13, TX13, 66)]
theorem inX0 : ∀ w ∈ u_ws RX0 TX0 5, w ∈ lw_w := by decide +kernel
theorem inX1 : ∀ w ∈ u_ws RX1 TX1 1, w ∈ lw_w := by decide +kernel
theorem inX2 : ∀ w ∈ u_ws RX2 TX2 14, w ∈ lw_w := by decide +kernel
theorem inX3 : ∀ w ∈ u_ws RX3 TX3 9, w ∈ lw_w := by decide +kernel
theorem inX4 : ∀ w ∈ u_ws RX4 TX4 9, w ∈ lw_w := by decide +kernel
theorem inX5 : ∀ w ∈ u_ws RX5 TX5 9, w ∈ lw_w := by decide +kernel
theorem inX6 : ∀ w ∈ u_ws RX6 TX6 5, w ∈ lw_w := by decide +kernel
theorem inX7 : ∀ w ∈ u_ws RX7 TX7 13, w ∈ lw_w := by decide +kernel
theorem inX8 : ∀ w ∈ u_ws RX8 TX8 5, w ∈ lw_w := by decide +kernel
theorem inX9 : ∀ w ∈ u_ws RX9 TX9 5, w ∈ lw_w := by decide +kernel
theorem inX10 : ∀ w ∈ u_ws RX10 TX10 8, w ∈ lw_w := by decide +kernel
theorem inX11 : ∀ w ∈ u_ws RX11 TX11 12, w ∈ lw_w := by decide +kernel
theorem inX12 : ∀ w ∈ u_ws RX12 TX12 6, w ∈ lw_w := by decide +kernel
theorem inX13 : ∀ w ∈ u_ws RX13 TX13 66, w ∈ lw_w := by decide +kernel
theorem as_2 : shL[2]? = some (.inl (1, 1200)) := by decide +kernel
theorem as_5 : shL[5]? = some (.inl (0, 160)) := by decide +kernel
theorem as_6 : shL[6]? = some (.inl (0, 160)) := by decide +kernel
theorem as_7 : shL[7]? = some (.inl (0, 160)) := by decide +kernel
theorem as_8 : shL[8]? = some (.inl (0, 160)) := by decide +kernel
theorem as_10 : shL[10]? = some (.inl (0, 160)) := by decide +kernel
theorem as_11 : shL[11]? = some (.inl (0, 160)) := by decide +kernel
theorem as_12 : shL[12]? = some (.inl (0, 160)) := by decide +kernel
theorem as_13 : shL[13]? = some (.inl (0, 160)) := by decide +kernel
theorem as_15 : shL[15]? = some (.inl (0, 4)) := by decide +kernel
theorem as_16 : shL[16]? = some (.inl (0, 4)) := by decide +kernel
theorem as_18 : shL[18]? = some (.inl (0, 160)) := by decide +kernel
theorem as_19 : shL[19]? = some (.inl (0, 160)) := by decide +kernel
theorem as_20 : shL[20]? = some (.inl (0, 12880)) := by decide +kernel
theorem as_21 : shL[21]? = some (.inl (0, 160)) := by decide +kernel
theorem as_23 : shL[23]? = some (.inl (0, 48)) := by decide +kernel
theorem as_24 : shL[24]? = some (.inl (0, 48)) := by decide +kernel
theorem as_25 : shL[25]? = some (.inl (0, 12)) := by decide +kernel
theorem as_26 : shL[26]? = some (.inl (0, 624)) := by decide +kernel
theorem as_27 : shL[27]? = some (.inl (0, 637)) := by decide +kernel
theorem as_29 : shL[29]? = some (.inl (0, 160)) := by decide +kernel
theorem as_30 : shL[30]? = some (.inl (0, 160)) := by decide +kernel
theorem as_31 : shL[31]? = some (.inl (0, 160)) := by decide +kernel
theorem as_33 : shL[33]? = some (.inl (0, 160)) := by decide +kernel
theorem as_34 : shL[34]? = some (.inl (0, 48)) := by decide +kernel
theorem as_36 : shL[36]? = some (.inl (0, 160)) := by decide +kernel
theorem as_37 : shL[37]? = some (.inl (0, 160)) := by decide +kernel
theorem as_38 : shL[38]? = some (.inl (0, 48)) := by decide +kernel
theorem as_39 : shL[39]? = some (.inl (0, 161)) := by decide +kernel
theorem as_41 : shL[41]? = some (.inl (3, 483)) := by decide +kernel
theorem as_43 : shL[43]? = some (.inl (3, 483)) := by decide +kernel
theorem as_45 : shL[45]? = some (.inl (0, 60)) := by decide +kernel
theorem as_46 : shL[46]? = some (.inl (0, 60)) := by decide +kernel
theorem as_47 : shL[47]? = some (.inl (0, 60)) := by decide +kernel
theorem as_48 : shL[48]? = some (.inl (0, 60)) := by decide +kernel
theorem as_49 : shL[49]? = some (.inl (0, 60)) := by decide +kernel
theorem as_50 : shL[50]? = some (.inl (0, 60)) := by decide +kernel
theorem as_51 : shL[51]? = some (.inl (2, 48)) := by decide +kernel
theorem as_52 : shL[52]? = some (.inl (2, 12)) := by decide +kernel
theorem as_55 : shL[55]? = some (.inl (1, 1200)) := by decide +kernel
theorem as_56 : shL[56]? = some (.inl (0, 160)) := by decide +kernel
theorem as_57 : shL[57]? = some (.inl (0, 160)) := by decide +kernel
theorem as_58 : shL[58]? = some (.inl (0, 160)) := by decide +kernel
theorem as_59 : shL[59]? = some (.inl (0, 160)) := by decide +kernel
theorem as_60 : shL[60]? = some (.inl (0, 160)) := by decide +kernel
theorem as_61 : shL[61]? = some (.inl (0, 160)) := by decide +kernel
theorem as_62 : shL[62]? = some (.inl (0, 160)) := by decide +kernel
theorem as_63 : shL[63]? = some (.inl (0, 160)) := by decide +kernel
theorem as_64 : shL[64]? = some (.inl (0, 4)) := by decide +kernel
theorem as_65 : shL[65]? = some (.inl (0, 4)) := by decide +kernel
theorem as_66 : shL[66]? = some (.inl (2, 4)) := by decide +kernel
theorem as_67 : shL[67]? = some (.inl (2, 12)) := by decide +kernel
theorem as_68 : shL[68]? = some (.inl (0, 48)) := by decide +kernel
theorem as_69 : shL[69]? = some (.inl (0, 160)) := by decide +kernel
theorem as_70 : shL[70]? = some (.inl (0, 51842)) := by decide +kernel
theorem as_71 : shL[71]? = some (.inl (0, 160)) := by decide +kernel
theorem as_72 : shL[72]? = some (.inl (0, 2)) := by decide +kernel
theorem as_73 : shL[73]? = some (.inl (0, 48)) := by decide +kernel
theorem as_74 : shL[74]? = some (.inl (0, 12)) := by decide +kernel
theorem as_75 : shL[75]? = some (.inl (0, 2352)) := by decide +kernel
theorem as_76 : shL[76]? = some (.inl (0, 637)) := by decide +kernel
theorem as_77 : shL[77]? = some (.inl (0, 637)) := by decide +kernel
theorem as_78 : shL[78]? = some (.inl (0, 637)) := by decide +kernel
theorem as_79 : shL[79]? = some (.inl (0, 48)) := by decide +kernel
theorem as_80 : shL[80]? = some (.inl (0, 160)) := by decide +kernel
theorem as_81 : shL[81]? = some (.inl (0, 160)) := by decide +kernel
theorem as_82 : shL[82]? = some (.inl (0, 160)) := by decide +kernel
theorem as_83 : shL[83]? = some (.inl (0, 25921)) := by decide +kernel
theorem as_84 : shL[84]? = some (.inl (2, 160)) := by decide +kernel
theorem as_85 : shL[85]? = some (.inl (0, 60)) := by decide +kernel
theorem as_86 : shL[86]? = some (.inl (0, 60)) := by decide +kernel
theorem as_87 : shL[87]? = some (.inl (0, 60)) := by decide +kernel
theorem as_88 : shL[88]? = some (.inl (0, 60)) := by decide +kernel
theorem as_89 : shL[89]? = some (.inl (0, 60)) := by decide +kernel
theorem as_90 : shL[90]? = some (.inl (0, 60)) := by decide +kernel
theorem as_91 : shL[91]? = some (.inl (2, 60)) := by decide +kernel
/-- the kind of a field: its class, its tag (0 a number of 32 bits, 1 a reference, 2 a long, 3 null), where a reference goes -/
def fsh (c k : Nat) : Option (Nat × Nat × Nat) := match shL[c]? with
  | some (.inr q) => (q.2[k]?).map (fun f => (q.1, f.1, f.2))
  | _ => none
theorem fs_0_0 : fsh 0 0 = some (11, 1, 1) := by decide +kernel
theorem fs_0_1 : fsh 0 1 = some (11, 1, 3) := by decide +kernel
theorem fs_0_2 : fsh 0 2 = some (11, 1, 9) := by decide +kernel
theorem fs_0_3 : fsh 0 3 = some (11, 1, 14) := by decide +kernel
theorem fs_0_4 : fsh 0 4 = some (11, 1, 17) := by decide +kernel
theorem fs_0_5 : fsh 0 5 = some (11, 1, 22) := by decide +kernel
theorem fs_0_6 : fsh 0 6 = some (11, 1, 28) := by decide +kernel
theorem fs_0_7 : fsh 0 7 = some (11, 1, 32) := by decide +kernel
theorem fs_0_8 : fsh 0 8 = some (11, 1, 35) := by decide +kernel
theorem fs_0_9 : fsh 0 9 = some (11, 1, 44) := by decide +kernel
theorem fs_0_10 : fsh 0 10 = some (11, 1, 52) := by decide +kernel
theorem fs_0_11 : fsh 0 11 = some (11, 0, 0) := by decide +kernel
theorem fs_1_0 : fsh 1 0 = some (10, 0, 0) := by decide +kernel
theorem fs_1_1 : fsh 1 1 = some (10, 0, 0) := by decide +kernel
theorem fs_1_2 : fsh 1 2 = some (10, 0, 0) := by decide +kernel
theorem fs_1_3 : fsh 1 3 = some (10, 0, 0) := by decide +kernel
theorem fs_1_4 : fsh 1 4 = some (10, 0, 0) := by decide +kernel
theorem fs_1_5 : fsh 1 5 = some (10, 1, 2) := by decide +kernel
theorem fs_1_6 : fsh 1 6 = some (10, 0, 0) := by decide +kernel
theorem fs_1_7 : fsh 1 7 = some (10, 0, 0) := by decide +kernel
theorem fs_3_0 : fsh 3 0 = some (0, 1, 1) := by decide +kernel
theorem fs_3_1 : fsh 3 1 = some (0, 1, 4) := by decide +kernel
theorem fs_3_2 : fsh 3 2 = some (0, 0, 0) := by decide +kernel
theorem fs_3_3 : fsh 3 3 = some (0, 0, 0) := by decide +kernel
theorem fs_3_4 : fsh 3 4 = some (0, 0, 0) := by decide +kernel
theorem fs_4_0 : fsh 4 0 = some (9, 1, 5) := by decide +kernel
theorem fs_4_1 : fsh 4 1 = some (9, 1, 6) := by decide +kernel
theorem fs_4_2 : fsh 4 2 = some (9, 1, 7) := by decide +kernel
theorem fs_4_3 : fsh 4 3 = some (9, 1, 8) := by decide +kernel
theorem fs_4_4 : fsh 4 4 = some (9, 0, 0) := by decide +kernel
theorem fs_9_0 : fsh 9 0 = some (9, 1, 10) := by decide +kernel
theorem fs_9_1 : fsh 9 1 = some (9, 1, 11) := by decide +kernel
theorem fs_9_2 : fsh 9 2 = some (9, 1, 12) := by decide +kernel
theorem fs_9_3 : fsh 9 3 = some (9, 1, 13) := by decide +kernel
theorem fs_9_4 : fsh 9 4 = some (9, 0, 0) := by decide +kernel
theorem fs_14_0 : fsh 14 0 = some (6, 1, 15) := by decide +kernel
theorem fs_14_1 : fsh 14 1 = some (6, 1, 16) := by decide +kernel
theorem fs_14_2 : fsh 14 2 = some (6, 0, 0) := by decide +kernel
theorem fs_14_3 : fsh 14 3 = some (6, 0, 0) := by decide +kernel
theorem fs_14_4 : fsh 14 4 = some (6, 0, 0) := by decide +kernel
theorem fs_17_0 : fsh 17 0 = some (3, 1, 9) := by decide +kernel
theorem fs_17_1 : fsh 17 1 = some (3, 1, 14) := by decide +kernel
theorem fs_17_2 : fsh 17 2 = some (3, 1, 18) := by decide +kernel
theorem fs_17_3 : fsh 17 3 = some (3, 0, 0) := by decide +kernel
theorem fs_17_4 : fsh 17 4 = some (3, 1, 19) := by decide +kernel
theorem fs_17_5 : fsh 17 5 = some (3, 0, 0) := by decide +kernel
theorem fs_17_6 : fsh 17 6 = some (3, 1, 20) := by decide +kernel
theorem fs_17_7 : fsh 17 7 = some (3, 0, 0) := by decide +kernel
theorem fs_17_8 : fsh 17 8 = some (3, 1, 21) := by decide +kernel
theorem fs_22_0 : fsh 22 0 = some (7, 1, 9) := by decide +kernel
theorem fs_22_1 : fsh 22 1 = some (7, 1, 14) := by decide +kernel
theorem fs_22_2 : fsh 22 2 = some (7, 1, 17) := by decide +kernel
theorem fs_22_3 : fsh 22 3 = some (7, 1, 23) := by decide +kernel
theorem fs_22_4 : fsh 22 4 = some (7, 0, 0) := by decide +kernel
theorem fs_22_5 : fsh 22 5 = some (7, 0, 0) := by decide +kernel
theorem fs_22_6 : fsh 22 6 = some (7, 0, 0) := by decide +kernel
theorem fs_22_7 : fsh 22 7 = some (7, 2, 0) := by decide +kernel
theorem fs_22_8 : fsh 22 8 = some (7, 1, 24) := by decide +kernel
theorem fs_22_9 : fsh 22 9 = some (7, 1, 25) := by decide +kernel
theorem fs_22_10 : fsh 22 10 = some (7, 1, 26) := by decide +kernel
theorem fs_22_11 : fsh 22 11 = some (7, 0, 0) := by decide +kernel
theorem fs_22_12 : fsh 22 12 = some (7, 1, 27) := by decide +kernel
theorem fs_28_0 : fsh 28 0 = some (4, 1, 9) := by decide +kernel
theorem fs_28_1 : fsh 28 1 = some (4, 1, 17) := by decide +kernel
theorem fs_28_2 : fsh 28 2 = some (4, 1, 22) := by decide +kernel
theorem fs_28_3 : fsh 28 3 = some (4, 0, 0) := by decide +kernel
theorem fs_28_4 : fsh 28 4 = some (4, 0, 0) := by decide +kernel
theorem fs_28_5 : fsh 28 5 = some (4, 1, 29) := by decide +kernel
theorem fs_28_6 : fsh 28 6 = some (4, 1, 30) := by decide +kernel
theorem fs_28_7 : fsh 28 7 = some (4, 1, 31) := by decide +kernel
theorem fs_28_8 : fsh 28 8 = some (4, 0, 0) := by decide +kernel
theorem fs_32_0 : fsh 32 0 = some (8, 1, 9) := by decide +kernel
theorem fs_32_1 : fsh 32 1 = some (8, 1, 33) := by decide +kernel
theorem fs_32_2 : fsh 32 2 = some (8, 0, 0) := by decide +kernel
theorem fs_32_3 : fsh 32 3 = some (8, 0, 0) := by decide +kernel
theorem fs_32_4 : fsh 32 4 = some (8, 1, 34) := by decide +kernel
theorem fs_35_0 : fsh 35 0 = some (5, 1, 9) := by decide +kernel
theorem fs_35_1 : fsh 35 1 = some (5, 1, 36) := by decide +kernel
theorem fs_35_2 : fsh 35 2 = some (5, 1, 37) := by decide +kernel
theorem fs_35_3 : fsh 35 3 = some (5, 0, 0) := by decide +kernel
theorem fs_35_4 : fsh 35 4 = some (5, 0, 0) := by decide +kernel
theorem fs_35_5 : fsh 35 5 = some (5, 1, 38) := by decide +kernel
theorem fs_35_6 : fsh 35 6 = some (5, 1, 39) := by decide +kernel
theorem fs_35_7 : fsh 35 7 = some (5, 1, 40) := by decide +kernel
theorem fs_35_8 : fsh 35 8 = some (5, 1, 42) := by decide +kernel
theorem fs_40_0 : fsh 40 0 = some (1, 1, 41) := by decide +kernel
theorem fs_42_0 : fsh 42 0 = some (1, 1, 43) := by decide +kernel
theorem fs_44_0 : fsh 44 0 = some (2, 1, 9) := by decide +kernel
theorem fs_44_1 : fsh 44 1 = some (2, 0, 0) := by decide +kernel
theorem fs_44_2 : fsh 44 2 = some (2, 0, 0) := by decide +kernel
theorem fs_44_3 : fsh 44 3 = some (2, 0, 0) := by decide +kernel
theorem fs_44_4 : fsh 44 4 = some (2, 0, 0) := by decide +kernel
theorem fs_44_5 : fsh 44 5 = some (2, 0, 0) := by decide +kernel
theorem fs_44_6 : fsh 44 6 = some (2, 0, 0) := by decide +kernel
theorem fs_44_7 : fsh 44 7 = some (2, 1, 45) := by decide +kernel
theorem fs_44_8 : fsh 44 8 = some (2, 1, 46) := by decide +kernel
theorem fs_44_9 : fsh 44 9 = some (2, 1, 47) := by decide +kernel
theorem fs_44_10 : fsh 44 10 = some (2, 1, 48) := by decide +kernel
theorem fs_44_11 : fsh 44 11 = some (2, 1, 49) := by decide +kernel
theorem fs_44_12 : fsh 44 12 = some (2, 1, 50) := by decide +kernel
theorem fs_44_13 : fsh 44 13 = some (2, 1, 51) := by decide +kernel
theorem fs_53_0 : fsh 53 0 = some (12, 3, 0) := by decide +kernel
theorem fs_53_1 : fsh 53 1 = some (12, 3, 0) := by decide +kernel
theorem fs_53_2 : fsh 53 2 = some (12, 3, 0) := by decide +kernel
theorem fs_53_3 : fsh 53 3 = some (12, 3, 0) := by decide +kernel
theorem fs_53_4 : fsh 53 4 = some (12, 3, 0) := by decide +kernel
theorem fs_53_5 : fsh 53 5 = some (12, 0, 0) := by decide +kernel
theorem fs_54_0 : fsh 54 0 = some (13, 1, 53) := by decide +kernel
theorem fs_54_1 : fsh 54 1 = some (13, 1, 55) := by decide +kernel
theorem fs_54_2 : fsh 54 2 = some (13, 0, 0) := by decide +kernel
theorem fs_54_3 : fsh 54 3 = some (13, 0, 0) := by decide +kernel
theorem fs_54_4 : fsh 54 4 = some (13, 0, 0) := by decide +kernel
theorem fs_54_5 : fsh 54 5 = some (13, 0, 0) := by decide +kernel
theorem fs_54_6 : fsh 54 6 = some (13, 0, 0) := by decide +kernel
theorem fs_54_7 : fsh 54 7 = some (13, 0, 0) := by decide +kernel
theorem fs_54_8 : fsh 54 8 = some (13, 0, 0) := by decide +kernel
theorem fs_54_9 : fsh 54 9 = some (13, 0, 0) := by decide +kernel
theorem fs_54_10 : fsh 54 10 = some (13, 0, 0) := by decide +kernel
theorem fs_54_11 : fsh 54 11 = some (13, 0, 0) := by decide +kernel
theorem fs_54_12 : fsh 54 12 = some (13, 1, 56) := by decide +kernel
theorem fs_54_13 : fsh 54 13 = some (13, 1, 57) := by decide +kernel
theorem fs_54_14 : fsh 54 14 = some (13, 1, 58) := by decide +kernel
theorem fs_54_15 : fsh 54 15 = some (13, 1, 59) := by decide +kernel
theorem fs_54_16 : fsh 54 16 = some (13, 1, 60) := by decide +kernel
theorem fs_54_17 : fsh 54 17 = some (13, 1, 61) := by decide +kernel
theorem fs_54_18 : fsh 54 18 = some (13, 1, 62) := by decide +kernel
theorem fs_54_19 : fsh 54 19 = some (13, 1, 63) := by decide +kernel
theorem fs_54_20 : fsh 54 20 = some (13, 1, 64) := by decide +kernel
theorem fs_54_21 : fsh 54 21 = some (13, 1, 65) := by decide +kernel
theorem fs_54_22 : fsh 54 22 = some (13, 1, 66) := by decide +kernel
theorem fs_54_23 : fsh 54 23 = some (13, 0, 0) := by decide +kernel
theorem fs_54_24 : fsh 54 24 = some (13, 1, 67) := by decide +kernel
theorem fs_54_25 : fsh 54 25 = some (13, 1, 68) := by decide +kernel
theorem fs_54_26 : fsh 54 26 = some (13, 0, 0) := by decide +kernel
theorem fs_54_27 : fsh 54 27 = some (13, 1, 69) := by decide +kernel
theorem fs_54_28 : fsh 54 28 = some (13, 1, 70) := by decide +kernel
theorem fs_54_29 : fsh 54 29 = some (13, 1, 71) := by decide +kernel
theorem fs_54_30 : fsh 54 30 = some (13, 1, 72) := by decide +kernel
theorem fs_54_31 : fsh 54 31 = some (13, 0, 0) := by decide +kernel
theorem fs_54_32 : fsh 54 32 = some (13, 0, 0) := by decide +kernel
theorem fs_54_33 : fsh 54 33 = some (13, 1, 73) := by decide +kernel
theorem fs_54_34 : fsh 54 34 = some (13, 1, 74) := by decide +kernel
theorem fs_54_35 : fsh 54 35 = some (13, 1, 75) := by decide +kernel
theorem fs_54_36 : fsh 54 36 = some (13, 1, 76) := by decide +kernel
theorem fs_54_37 : fsh 54 37 = some (13, 1, 77) := by decide +kernel
theorem fs_54_38 : fsh 54 38 = some (13, 1, 78) := by decide +kernel
theorem fs_54_39 : fsh 54 39 = some (13, 1, 79) := by decide +kernel
theorem fs_54_40 : fsh 54 40 = some (13, 0, 0) := by decide +kernel
theorem fs_54_41 : fsh 54 41 = some (13, 0, 0) := by decide +kernel
theorem fs_54_42 : fsh 54 42 = some (13, 0, 0) := by decide +kernel
theorem fs_54_43 : fsh 54 43 = some (13, 0, 0) := by decide +kernel
theorem fs_54_44 : fsh 54 44 = some (13, 0, 0) := by decide +kernel
theorem fs_54_45 : fsh 54 45 = some (13, 0, 0) := by decide +kernel
theorem fs_54_46 : fsh 54 46 = some (13, 0, 0) := by decide +kernel
theorem fs_54_47 : fsh 54 47 = some (13, 1, 80) := by decide +kernel
theorem fs_54_48 : fsh 54 48 = some (13, 1, 81) := by decide +kernel
theorem fs_54_49 : fsh 54 49 = some (13, 1, 82) := by decide +kernel
theorem fs_54_50 : fsh 54 50 = some (13, 1, 83) := by decide +kernel
theorem fs_54_51 : fsh 54 51 = some (13, 1, 84) := by decide +kernel
theorem fs_54_52 : fsh 54 52 = some (13, 0, 0) := by decide +kernel
theorem fs_54_53 : fsh 54 53 = some (13, 0, 0) := by decide +kernel
theorem fs_54_54 : fsh 54 54 = some (13, 0, 0) := by decide +kernel
theorem fs_54_55 : fsh 54 55 = some (13, 0, 0) := by decide +kernel
theorem fs_54_56 : fsh 54 56 = some (13, 0, 0) := by decide +kernel
theorem fs_54_57 : fsh 54 57 = some (13, 0, 0) := by decide +kernel
theorem fs_54_58 : fsh 54 58 = some (13, 1, 85) := by decide +kernel
theorem fs_54_59 : fsh 54 59 = some (13, 1, 86) := by decide +kernel
theorem fs_54_60 : fsh 54 60 = some (13, 1, 87) := by decide +kernel
theorem fs_54_61 : fsh 54 61 = some (13, 1, 88) := by decide +kernel
theorem fs_54_62 : fsh 54 62 = some (13, 1, 89) := by decide +kernel
theorem fs_54_63 : fsh 54 63 = some (13, 1, 90) := by decide +kernel
theorem fs_54_64 : fsh 54 64 = some (13, 1, 91) := by decide +kernel
theorem fs_54_65 : fsh 54 65 = some (13, 0, 0) := by decide +kernel
end
section
/-! THE BASE: a memory of numbers by cell and place; a frame's judgement Fw; a method's judgement Cal -/
def gI (M : Mem) (c i : Nat) : Int32 := M.1 c i
def gL (M : Mem) (c i : Nat) : Int64 := M.2 c i
def sI (M : Mem) (c i : Nat) (v : Int32) : Mem := (fun a b => if a = c ∧ b = i then v else M.1 a b, M.2)
def sL (M : Mem) (c i : Nat) (v : Int64) : Mem := (M.1, fun a b => if a = c ∧ b = i then v else M.2 a b)
theorem gI_sI (M : Mem) (c i : Nat) (v : Int32) (a b : Nat) : gI (sI M c i v) a b = if a = c ∧ b = i then v else gI M a b := rfl
theorem gI_sL (M : Mem) (c i : Nat) (v : Int64) (a b : Nat) : gI (sL M c i v) a b = gI M a b := rfl
theorem gL_sL (M : Mem) (c i : Nat) (v : Int64) (a b : Nat) : gL (sL M c i v) a b = if a = c ∧ b = i then v else gL M a b := rfl
theorem gL_sI (M : Mem) (c i : Nat) (v : Int32) (a b : Nat) : gL (sI M c i v) a b = gL M a b := rfl
def fv (ad : Nat → Nat) (M : Mem) (c j : Nat) (f : Nat × Nat) : Value := if f.1 = 0 then .int (gI M c j) else if f.1 = 1 then .ref (ad f.2) else if f.1 = 2 then .long (gL M c j) else .null
def ce (ad : Nat → Nat) (kA : Nat → ClassId) (M : Mem) (c : Nat) (sh : Shp) : va_E := match sh with
  | .inl a => .inl (kA a.1, a.2, if a.1 = 3 then .inr (.inl (gL M c)) else .inl (gI M c))
  | .inr q => .inr (q.1, q.2.mapIdx (fv ad M c))
def wl (ad : Nat → Nat) (kA : Nat → ClassId) (M : Mem) : va_W := shL.mapIdx (fun c sh => (ad c, ce ad kA M c sh))
theorem wl_at {ad : Nat → Nat} {kA : Nat → ClassId} {M : Mem} {c : Nat} {sh : Shp} (h : shL[c]? = some sh) : (wl ad kA M)[c]? = some (ad c, ce ad kA M c sh) := by
  simp [wl, List.getElem?_mapIdx, h]
theorem wl_of {ad : Nat → Nat} {kA : Nat → ClassId} {M : Mem} {c : Nat} {q : Nat × va_E} (h : (wl ad kA M)[c]? = some q) : ∃ sh, shL[c]? = some sh ∧ q = (ad c, ce ad kA M c sh) := by
  simp only [wl, List.getElem?_mapIdx, Option.map_eq_some_iff] at h
  obtain ⟨sh, h1, h2⟩ := h
  exact ⟨sh, h1, h2.symm⟩
theorem sh_lt {c : Nat} {sh : Shp} (h : shL[c]? = some sh) : c < nC := by
  have := (List.getElem?_eq_some_iff.mp h).1
  rw [shL_len] at this
  exact this
theorem wl_set {ad : Nat → Nat} {kA : Nat → ClassId} {M M' : Mem} {c : Nat} {sh : Shp} (h : shL[c]? = some sh) (he : ∀ j sh', j ≠ c → ce ad kA M' j sh' = ce ad kA M j sh') : (wl ad kA M).set c (ad c, ce ad kA M' c sh) = wl ad kA M' := by
  apply List.ext_getElem?
  intro j
  rw [List.getElem?_set]
  have hlen : c < (wl ad kA M).length := by
    have := (List.getElem?_eq_some_iff.mp h).1
    simpa [wl] using this
  by_cases hj : c = j
  · subst hj
    rw [if_pos rfl, if_pos hlen, wl_at h]
  · rw [if_neg hj]
    simp only [wl, List.getElem?_mapIdx]
    cases shL[j]? with
    | none => rfl
    | some sh' =>
      show some (ad j, ce ad kA M j sh') = some (ad j, ce ad kA M' j sh')
      rw [he j sh' (fun e => hj e.symm)]
theorem ce_oI {ad : Nat → Nat} {kA : Nat → ClassId} {M : Mem} {c i : Nat} {v : Int32} : ∀ (j : Nat) (sh : Shp), j ≠ c → ce ad kA (sI M c i v) j sh = ce ad kA M j sh := by
  intro j sh hj
  have e1 : gI (sI M c i v) j = gI M j := by funext b; rw [gI_sI, if_neg (fun h => hj h.1)]
  have e2 : gL (sI M c i v) j = gL M j := by funext b; rfl
  have e3 : fv ad (sI M c i v) j = fv ad M j := by funext b f; simp only [fv, e1, e2]
  cases sh with
  | inl a => simp only [ce, e1, e2]
  | inr q => simp only [ce, e3]
theorem ce_oL {ad : Nat → Nat} {kA : Nat → ClassId} {M : Mem} {c i : Nat} {v : Int64} : ∀ (j : Nat) (sh : Shp), j ≠ c → ce ad kA (sL M c i v) j sh = ce ad kA M j sh := by
  intro j sh hj
  have e1 : gL (sL M c i v) j = gL M j := by funext b; rw [gL_sL, if_neg (fun h => hj h.1)]
  have e2 : gI (sL M c i v) j = gI M j := by funext b; rfl
  have e3 : fv ad (sL M c i v) j = fv ad M j := by funext b f; simp only [fv, e1, e2]
  cases sh with
  | inl a => simp only [ce, e1, e2]
  | inr q => simp only [ce, e3]
theorem ce_aI {ad : Nat → Nat} {kA : Nat → ClassId} {M : Mem} {c i k n : Nat} {v : Int32} (hk : k ≠ 3) : ce ad kA (sI M c i v) c (.inl (k, n)) = .inl (kA k, n, .inl (upd (gI M c) i v)) := by
  have e1 : gI (sI M c i v) c = upd (gI M c) i v := by funext b; rw [gI_sI]; simp only [upd, true_and]
  simp only [ce, if_neg hk, e1]
theorem ce_aL {ad : Nat → Nat} {kA : Nat → ClassId} {M : Mem} {c i n : Nat} {v : Int64} : ce ad kA (sL M c i v) c (.inl (3, n)) = .inl (kA 3, n, .inr (.inl (vp_updL (gL M c) i v))) := by
  have e1 : gL (sL M c i v) c = vp_updL (gL M c) i v := by funext b; rw [gL_sL]; simp only [vp_updL, true_and]
  simp only [ce, e1, if_true]
theorem ce_fI {ad : Nat → Nat} {kA : Nat → ClassId} {M : Mem} {c k ci r : Nat} {fs : List (Nat × Nat)} {v : Int32} (hf : fs[k]? = some (0, r)) : ce ad kA (sI M c k v) c (.inr (ci, fs)) = .inr (ci, (fs.mapIdx (fv ad M c)).set k (.int v)) := by
  simp only [ce]
  congr 2
  apply List.ext_getElem?
  intro j
  have hl : k < (fs.mapIdx (fv ad M c)).length := by
    have := (List.getElem?_eq_some_iff.mp hf).1
    simpa using this
  rw [List.getElem?_set, List.getElem?_mapIdx]
  by_cases hj : k = j
  · subst hj
    rw [if_pos rfl, if_pos hl, hf]
    simp [fv, gI_sI]
  · rw [if_neg hj, List.getElem?_mapIdx]
    congr 1
    funext f
    have e : ¬ j = k := fun h => hj h.symm
    simp [fv, gI_sI, gL_sI, e]
theorem ce_fL {ad : Nat → Nat} {kA : Nat → ClassId} {M : Mem} {c k ci r : Nat} {fs : List (Nat × Nat)} {v : Int64} (hf : fs[k]? = some (2, r)) : ce ad kA (sL M c k v) c (.inr (ci, fs)) = .inr (ci, (fs.mapIdx (fv ad M c)).set k (.long v)) := by
  simp only [ce]
  congr 2
  apply List.ext_getElem?
  intro j
  have hl : k < (fs.mapIdx (fv ad M c)).length := by
    have := (List.getElem?_eq_some_iff.mp hf).1
    simpa using this
  rw [List.getElem?_set, List.getElem?_mapIdx]
  by_cases hj : k = j
  · subst hj
    rw [if_pos rfl, if_pos hl, hf]
    simp [fv, gL_sL]
  · rw [if_neg hj, List.getElem?_mapIdx]
    congr 1
    funext f
    have e : ¬ j = k := fun h => hj h.symm
    simp [fv, gI_sL, gL_sL, e]
/-- which cells may change -/
def AW (ad : Nat → Nat) : Nat → Prop := fun q => ∃ i, i < nC ∧ ad i = q
def apart (ad : Nat → Nat) : Prop := ∀ i j, i < nC → j < nC → ad i = ad j → i = j
theorem wl_D {ad : Nat → Nat} {kA : Nat → ClassId} {M : Mem} (h : apart ad) : va_D (AW ad) (wl ad kA M) := by
  constructor
  · intro i j p q hp hq hpq
    obtain ⟨s1, a1, rfl⟩ := wl_of hp
    obtain ⟨s2, a2, rfl⟩ := wl_of hq
    exact h i j (sh_lt a1) (sh_lt a2) hpq
  · intro k q hq
    obtain ⟨s1, a1, rfl⟩ := wl_of hq
    exact ⟨k, sh_lt a1, rfl⟩
theorem fsh_spec {c k ci tag r : Nat} (h : fsh c k = some (ci, tag, r)) : ∃ fs, shL[c]? = some (.inr (ci, fs)) ∧ fs[k]? = some (tag, r) := by
  unfold fsh at h
  cases hs : shL[c]? with
  | none => rw [hs] at h; cases h
  | some sh =>
    rw [hs] at h
    cases sh with
    | inl a => cases h
    | inr q =>
      obtain ⟨q1, q2⟩ := q
      simp only [Option.map_eq_some_iff] at h
      obtain ⟨f, h1, h2⟩ := h
      cases h2
      exact ⟨q2, rfl, h1⟩
end
section
/-! THE FRAME's JUDGEMENT, a rule an instruction -/
/-- a method: its name, bytes, locals, type, how many frames and words of locals it may need below itself, its handlers -/
abbrev MI : Type := MethodName × ByteArray × Nat × Option FieldType × Nat × Nat × List (Nat × Nat × Nat × Nat)
abbrev MI.y (mi : MI) : MethodName := mi.1
abbrev MI.cc (mi : MI) : ByteArray := mi.2.1
abbrev MI.nL (mi : MI) : Nat := mi.2.2.1
abbrev MI.ret (mi : MI) : Option FieldType := mi.2.2.2.1
abbrev MI.fr (mi : MI) : Nat := mi.2.2.2.2.1
abbrev MI.lw (mi : MI) : Nat := mi.2.2.2.2.2.1
abbrev MI.hh (mi : MI) : List (Nat × Nat × Nat × Nat) := mi.2.2.2.2.2.2
abbrev rmOf (mi : MI) : Room := { frames := mi.fr, cells := 0, slots := 0, locals := mi.lw }
def wsOf (mi : MI) : List Cond := .code mi.y mi.cc mi.nL mi.ret :: lw_w
abbrev tyK (kA : Nat → ClassId) : List (ClassId × FieldType) := [(kA 0, .int), (kA 1, .byte), (kA 2, .boolean), (kA 3, .long)]
def stN : List String := ["AT_FIRST", "LEAST", "GREATEST"]
def stV : List (List Int32) := [[1, 4, 12, 1], [0, 1, 0, 0], [9, 12, 47, 9]]
def scR : List (String × Nat × String) := [("BellTable$BeatText", 50, "at"), ("BellTable$BeatText", 98, "for"), ("BellTable$BeatText", 100, "stick"), ("BellTable$BeatText", 105, "shake"), ("BellTable$Manners", 78, "take"), ("BellTable$Manners", 83, "most"), ("BellTable$Manners", 85, "reach"), ("BellTable$Manners", 87, "stick"), ("BellTableModel", 81, "at"), ("BellTableModel", 101, "for"), ("BellTableModel", 103, "stick"), ("BellTableModel", 105, "shake"), ("BellTableModel", 252, "take"), ("BellTableModel", 254, "most"), ("BellTableModel", 256, "reach")]
def scB : List (List Int32) := [[97, 116], [102, 111, 114], [115, 116, 105, 99, 107], [115, 104, 97, 107, 101], [116, 97, 107, 101], [109, 111, 115, 116], [114, 101, 97, 99, 104], [115, 116, 105, 99, 107], [97, 116], [102, 111, 114], [115, 116, 105, 99, 107], [115, 104, 97, 107, 101], [116, 97, 107, 101], [109, 111, 115, 116], [114, 101, 97, 99, 104]]
def nestL : List (String × Nat) := [("BellTable$BeatText", 79), ("BellTable$Ranges", 69), ("BellTable$Days", 80)]
/-- what lies outside the world and is only read: three static rows, the String constants -/
def Out (ad : Nat → Nat) (U : State) (H : Heap) : Prop :=
  (∀ j, j < 3 → va_Z "BellTable$Manners" (stN.getD j "") "[I" (.ref (ad (200 + j))) (AW ad) U H ∧ va_T .int (ad (200 + j)) 4 (fun i => .int ((stV.getD j []).getD i 0)) (AW ad) U H) ∧
  va_Z "java/lang/String" "COMPACT_STRINGS" "Z" (.int 1) (AW ad) U H ∧
  (∀ i, i < 15 → vk_R (scR.getD i ("", 0, "")).1 (scR.getD i ("", 0, "")).2.1 (scR.getD i ("", 0, "")).2.2 (ad (210 + i)) U ∧ va_O "java/lang/String" (ad (210 + i)) (AW ad) U H ∧ va_OF "java/lang/String" "coder" "B" (.int 0) (ad (210 + i)) (AW ad) U H ∧ va_OF "java/lang/String" "value" "[B" (.ref (ad (230 + i))) (ad (210 + i)) (AW ad) U H ∧ va_T .byte (ad (230 + i)) (scB.getD i []).length (fun j => .int ((scB.getD i []).getD j 0)) (AW ad) U H) ∧
  (∀ q ∈ nestL, va_Nw (.methodLinkNest q.1 q.2 yX11_isBell "BellTable") U) ∧
  va_Zq "jdk/internal/util/Preconditions" "SIOOBE_FORMATTER" "Ljava/util/function/BiFunction;" (AW ad) U H
theorem va_Zq.kept2 {C n d : String} {A : Nat → Prop} {u U : State} {H H1 : Heap} (hvm : u.vm.Alike U.vm) (hq : ∀ a : Nat, a < H.size → ¬ A a → H1[a]? = H[a]?) (h : va_Zq C n d A u H) : va_Zq C n d A U H1 := by
  rcases h with h | ⟨t, h⟩
  · exact Or.inl ((h.moved hvm).kept hq)
  · exact Or.inr ⟨t, (h.moved hvm).kept hq⟩
theorem Out.warm {ad : Nat → Nat} {u U : State} {H H1 : Heap} (hW : u.WarmedH U.vm) (hq : ∀ a : Nat, a < H.size → ¬ AW ad a → H1[a]? = H[a]?) (h : Out ad u H) : Out ad U H1 :=
  ⟨fun j hj => ⟨((h.1 j hj).1.moved hW.alike).kept hq, ((h.1 j hj).2.moved hW.alike).kept hq⟩, (h.2.1.moved hW.alike).kept hq, fun i hi => ⟨(h.2.2.1 i hi).1.warm hW, ((h.2.2.1 i hi).2.1.moved hW.alike).kept hq, ((h.2.2.1 i hi).2.2.1.moved hW.alike).kept hq, ((h.2.2.1 i hi).2.2.2.1.moved hW.alike).kept hq, ((h.2.2.1 i hi).2.2.2.2.moved hW.alike).kept hq⟩, fun q hq => (h.2.2.2.1 q hq).warmM hW, h.2.2.2.2.kept2 hW.alike hq⟩
theorem Out.same {ad : Nat → Nat} {u U : State} {H : Heap} (hv : U.vm = u.vm) (h : Out ad u H) : Out ad U H :=
  have hA : u.vm.Alike U.vm := by rw [hv]; exact Vm.Alike.refl u.vm
  ⟨fun j hj => ⟨(h.1 j hj).1.moved hA, (h.1 j hj).2.moved hA⟩, h.2.1.moved hA, fun i hi => ⟨(h.2.2.1 i hi).1.same hv, (h.2.2.1 i hi).2.1.moved hA, (h.2.2.1 i hi).2.2.1.moved hA, (h.2.2.1 i hi).2.2.2.1.moved hA, (h.2.2.1 i hi).2.2.2.2.moved hA⟩, fun q hq => va_Nw.same rfl hv.symm (h.2.2.2.1 q hq), h.2.2.2.2.kept2 hA (fun _ _ _ => rfl)⟩
/-- what stands fast while a frame of the method runs -/
def Cx (D : va_G) (ad : Nat → Nat) (kA : Nat → ClassId) (mi : MI) (p : Program) (s : State) (m : MethodId) (args : Array Value) (meth : Method) (c : Code) : Prop :=
  p.tables.exec = Jvm.exec ∧ c.code = mi.cc ∧ c.maxLocals = mi.nL ∧ meth.sig.returnType = mi.ret ∧ meth.locks = false ∧ s.vm.findClass mi.y.cls = some m.cls ∧ (∀ w ∈ lw_w, w.before args s = true) ∧ va_K D cls (tyK kA) s ∧ apart ad ∧ Out ad s s.heap ∧ c.exceptionTable.toList.map (fun h => (h.startPc, h.endPc, h.handlerPc, h.catchType)) = mi.hh
/-- locals by their places -/
def lp (lo : List (Option Value)) : List (Nat × Value) := (lo.mapIdx (fun i q => q.map (fun v => (i, v)))).filterMap id
theorem lp_mem {lo : List (Option Value)} {i : Nat} {v : Value} : (i, v) ∈ lp lo ↔ lo[i]? = some (some v) := by
  simp only [lp, List.mem_filterMap, id]
  constructor
  · rintro ⟨a, h1, rfl⟩
    obtain ⟨j, hj⟩ := List.mem_iff_getElem?.mp h1
    rw [List.getElem?_mapIdx] at hj
    cases hq : lo[j]? with
    | none => rw [hq] at hj; cases hj
    | some q =>
      rw [hq] at hj
      cases q with
      | none => simp at hj
      | some w => simp at hj; obtain ⟨rfl, rfl⟩ := hj; exact hq
  · intro h
    refine ⟨some (i, v), List.mem_iff_getElem?.mpr ⟨i, ?_⟩, rfl⟩
    rw [List.getElem?_mapIdx, h]
    rfl
theorem lp_at {ls : Array Slot} {n : Nat} {lo : List (Option Value)} (h : lv_has ls n (lp lo)) {i : Nat} {v : Value} (hi : lo[i]? = some (some v)) : ls[i]? = some (.val v) := h.2.2 (i, v) (lp_mem.mpr hi)
theorem lp_sub {ls : Array Slot} {n : Nat} {lo lo' : List (Option Value)} (h : lv_has ls n (lp lo)) (hs : ∀ (i : Nat) (v : Value), lo'[i]? = some (some v) → lo[i]? = some (some v)) : lv_has ls n (lp lo') := ⟨h.1, h.2.1, fun q hq => h.2.2 q (lp_mem.mpr (hs q.1 q.2 (lp_mem.mp hq)))⟩
def isLg (q : Option Value) : Bool := match q with
  | some v => v.category == 2
  | none => false
/-- a store at i: what was there goes, and a long that reached into it -/
def lset (lo : List (Option Value)) (i : Nat) (v : Value) : List (Option Value) := lo.mapIdx (fun j q => if j = i then some v else if j + 1 = i ∧ isLg q = true then none else q)
def lset2 (lo : List (Option Value)) (i : Nat) (v : Value) : List (Option Value) := lo.mapIdx (fun j q => if j = i then some v else if j = i + 1 then none else if j + 1 = i ∧ isLg q = true then none else q)
theorem lset_has {ls : Array Slot} {n i : Nat} {v : Value} {lo : List (Option Value)} (h : lv_has ls n ((i, v) :: (lp lo).filter (fun q => !(q.1 == i) && !(q.1 + 1 == i && q.2.category == 2)))) : lv_has ls n (lp (lset lo i v)) := by
  refine ⟨h.1, h.2.1, fun q hq => h.2.2 q ?_⟩
  have h1 := lp_mem.mp (show (q.1, q.2) ∈ lp (lset lo i v) from hq)
  simp only [lset, List.getElem?_mapIdx, Option.map_eq_some_iff] at h1
  obtain ⟨x, hx, h2⟩ := h1
  by_cases e1 : q.1 = i
  · rw [if_pos e1] at h2
    cases h2
    exact List.mem_cons.mpr (Or.inl (by rw [← e1]))
  · rw [if_neg e1] at h2
    by_cases e2 : q.1 + 1 = i ∧ isLg x = true
    · rw [if_pos e2] at h2; cases h2
    · rw [if_neg e2] at h2
      subst h2
      refine List.mem_cons.mpr (Or.inr (List.mem_filter.mpr ⟨lp_mem.mpr hx, ?_⟩))
      simp only [Bool.and_eq_true, Bool.not_eq_true', beq_eq_false_iff_ne, ne_eq, Bool.and_eq_false_iff]
      refine ⟨e1, ?_⟩
      by_cases e3 : q.1 + 1 = i
      · exact Or.inr (fun e4 => e2 ⟨e3, by simp [isLg, e4]⟩)
      · exact Or.inl e3
theorem lset2_has {ls : Array Slot} {n i : Nat} {v : Value} {lo : List (Option Value)} (h : lv_has ls n ((i, v) :: (lp lo).filter (fun q => !(q.1 == i) && (!(q.1 == i + 1) && !(q.1 + 1 == i && q.2.category == 2))))) : lv_has ls n (lp (lset2 lo i v)) := by
  refine ⟨h.1, h.2.1, fun q hq => h.2.2 q ?_⟩
  have h1 := lp_mem.mp (show (q.1, q.2) ∈ lp (lset2 lo i v) from hq)
  simp only [lset2, List.getElem?_mapIdx, Option.map_eq_some_iff] at h1
  obtain ⟨x, hx, h2⟩ := h1
  by_cases e1 : q.1 = i
  · rw [if_pos e1] at h2
    cases h2
    exact List.mem_cons.mpr (Or.inl (by rw [← e1]))
  · rw [if_neg e1] at h2
    by_cases e0 : q.1 = i + 1
    · rw [if_pos e0] at h2; cases h2
    · rw [if_neg e0] at h2
      by_cases e2 : q.1 + 1 = i ∧ isLg x = true
      · rw [if_pos e2] at h2; cases h2
      · rw [if_neg e2] at h2
        subst h2
        refine List.mem_cons.mpr (Or.inr (List.mem_filter.mpr ⟨lp_mem.mpr hx, ?_⟩))
        simp only [Bool.and_eq_true, Bool.not_eq_true', beq_eq_false_iff_ne, ne_eq, Bool.and_eq_false_iff]
        refine ⟨e1, e0, ?_⟩
        by_cases e3 : q.1 + 1 = i
        · exact Or.inr (fun e4 => e2 ⟨e3, by simp [isLg, e4]⟩)
        · exact Or.inl e3
/-- a method's end: its outcome, the world behind it, nothing else changed -/
def Po (D : va_G) (ad : Nat → Nat) (kA : Nat → ClassId) (Q : Outcome → Mem → Prop) : Array Value → State → Outcome → State → Prop := fun _ st oc t => (∃ M', Q oc M' ∧ va_P D cls (wl ad kA M') t.heap) ∧ va_F (AW ad) st t
def MQX (below : List Frame) (Qc : Array Value → State → Outcome → State → Prop) (a : Array Value) (s : State) (free : Addr → Prop) : State → Prop := fun t =>
  ∃ oc, t.status = .running ∧ Ended t below oc ∧ Qc a s oc t ∧ ∃ L, (s.WarmedH t.vm ∧ s.sameButNew ({ t with vm := s.vm } : State) L 0 0) ∧ ∀ q ∈ L, free q.base
theorem W.imp {p : Program} {l : Launch} {e : Env} {R : Room} {s : State} {m : MethodId} {args : Array Value} {below : List Frame} {meth : Method} {c : Code} {H : Heap} {locs : List Loc} {cells slots : Nat} {Q Q' : State → Prop} {g : JFrame} (h : ∀ t, Q t → Q' t) (k : W p l e R s m args below meth c H locs cells slots Q g) : W p l e R s m args below meth c H locs cells slots Q' g := by
  intro T hT X
  obtain ⟨t, h1, h2⟩ := k T hT X
  exact ⟨t, h1, h t h2⟩
theorem MQ.x {below : List Frame} {Qc : Array Value → State → Outcome → State → Prop} {a : Array Value} {s : State} {free : Addr → Prop} : ∀ t, MQ below Qc a s 0 0 free t → MQX below Qc a s free t := by
  rintro t ⟨oc, h1, h2, h3, L, ⟨-, h4, h5⟩, h6⟩
  exact ⟨oc, h1, h2, h3, L, ⟨h4, h5⟩, h6⟩
def Fw (l : Launch) (D : va_G) (ad : Nat → Nat) (kA : Nat → ClassId) (mi : MI) (pc : Nat) (lo : List (Option Value)) (st : List Value) (M : Mem) (Q : Outcome → Mem → Prop) : Prop :=
  ∀ (p : Program) (e : Env) (s : State) (m : MethodId) (args : Array Value) (below : List Frame) (meth : Method) (c : Code), Cx D ad kA mi p s m args meth c → ∀ (H : Heap) (locs : List Loc) (ls : Array Slot), va_P D cls (wl ad kA M) H → va_S (AW ad) s.heap H locs → lv_has ls mi.nL (lp lo) →
    W p l e (rmOf mi) s m args below meth c H locs 0 0 (MQX below (Po D ad kA Q) args s (AW ad)) (F0 m pc ls st)
section Rules
variable {l : Launch} {D : va_G} {ad : Nat → Nat} {kA : Nat → ClassId} {mi : MI} {pc : Nat} {lo : List (Option Value)} {rest : List Value} {M : Mem} {Q : Outcome → Mem → Prop}
theorem r_iload_n {k : Fin 4} {x : Int32} (d : decode mi.cc pc = .ok (.iload_n k, 1)) (h : lo[k.val]? = some (some (.int x))) (K : Fw l D ad kA mi (pc + 1) lo (.int x :: rest) M Q) : Fw l D ad kA mi pc lo (rest) M Q := by
  intro p e s m args below meth c C H locs ls hP hS hl
  exact lv_iload_n C.1 C.2.1 d rfl (lp_at hl h) (K p e s m args below meth c C H locs ls hP hS hl)
theorem r_iload {i : Nat} {x : Int32} (d : decode mi.cc pc = .ok (.iload i, 2)) (h : lo[i]? = some (some (.int x))) (K : Fw l D ad kA mi (pc + 2) lo (.int x :: rest) M Q) : Fw l D ad kA mi pc lo (rest) M Q := by
  intro p e s m args below meth c C H locs ls hP hS hl
  exact lv_iload C.1 C.2.1 d (lp_at hl h) (K p e s m args below meth c C H locs ls hP hS hl)
theorem r_lload_n {k : Fin 4} {x : Int64} (d : decode mi.cc pc = .ok (.lload_n k, 1)) (h : lo[k.val]? = some (some (.long x))) (K : Fw l D ad kA mi (pc + 1) lo (.long x :: rest) M Q) : Fw l D ad kA mi pc lo (rest) M Q := by
  intro p e s m args below meth c C H locs ls hP hS hl
  exact lv_lload_n C.1 C.2.1 d rfl (lp_at hl h) (K p e s m args below meth c C H locs ls hP hS hl)
theorem r_lload {i : Nat} {x : Int64} (d : decode mi.cc pc = .ok (.lload i, 2)) (h : lo[i]? = some (some (.long x))) (K : Fw l D ad kA mi (pc + 2) lo (.long x :: rest) M Q) : Fw l D ad kA mi pc lo (rest) M Q := by
  intro p e s m args below meth c C H locs ls hP hS hl
  exact lv_lload C.1 C.2.1 d (lp_at hl h) (K p e s m args below meth c C H locs ls hP hS hl)
theorem r_aload_n {k : Fin 4} {x : Nat} (d : decode mi.cc pc = .ok (.aload_n k, 1)) (h : lo[k.val]? = some (some (.ref x))) (K : Fw l D ad kA mi (pc + 1) lo (.ref x :: rest) M Q) : Fw l D ad kA mi pc lo (rest) M Q := by
  intro p e s m args below meth c C H locs ls hP hS hl
  exact lv_aload_n C.1 C.2.1 d rfl (lp_at hl h) (K p e s m args below meth c C H locs ls hP hS hl)
theorem r_aload {i : Nat} {x : Nat} (d : decode mi.cc pc = .ok (.aload i, 2)) (h : lo[i]? = some (some (.ref x))) (K : Fw l D ad kA mi (pc + 2) lo (.ref x :: rest) M Q) : Fw l D ad kA mi pc lo (rest) M Q := by
  intro p e s m args below meth c C H locs ls hP hS hl
  exact lv_aload C.1 C.2.1 d (lp_at hl h) (K p e s m args below meth c C H locs ls hP hS hl)
theorem r_istore_n {k : Fin 4} {x : Int32} (d : decode mi.cc pc = .ok (.istore_n k, 1)) (hn : k.val < mi.nL) (K : Fw l D ad kA mi (pc + 1) (lset lo k.val (.int x)) rest M Q) : Fw l D ad kA mi pc lo (.int x :: rest) M Q := by
  intro p e s m args below meth c C H locs ls hP hS hl
  exact lv_istore_n C.1 C.2.1 d rfl hl hn rfl (fun ls hl => K p e s m args below meth c C H locs ls hP hS (lset_has hl))
theorem r_istore {i : Nat} {x : Int32} (d : decode mi.cc pc = .ok (.istore i, 2)) (hn : i < mi.nL) (K : Fw l D ad kA mi (pc + 2) (lset lo i (.int x)) rest M Q) : Fw l D ad kA mi pc lo (.int x :: rest) M Q := by
  intro p e s m args below meth c C H locs ls hP hS hl
  exact lv_istore C.1 C.2.1 d hl hn rfl (fun ls hl => K p e s m args below meth c C H locs ls hP hS (lset_has hl))
theorem r_lstore_n {k : Fin 4} {x : Int64} (d : decode mi.cc pc = .ok (.lstore_n k, 1)) (hn : k.val + 1 < mi.nL) (K : Fw l D ad kA mi (pc + 1) (lset2 lo k.val (.long x)) rest M Q) : Fw l D ad kA mi pc lo (.long x :: rest) M Q := by
  intro p e s m args below meth c C H locs ls hP hS hl
  exact lv_lstore_n C.1 C.2.1 d rfl hl hn rfl (fun ls hl => K p e s m args below meth c C H locs ls hP hS (lset2_has hl))
theorem r_lstore {i : Nat} {x : Int64} (d : decode mi.cc pc = .ok (.lstore i, 2)) (hn : i + 1 < mi.nL) (K : Fw l D ad kA mi (pc + 2) (lset2 lo i (.long x)) rest M Q) : Fw l D ad kA mi pc lo (.long x :: rest) M Q := by
  intro p e s m args below meth c C H locs ls hP hS hl
  exact lv_lstore C.1 C.2.1 d hl hn rfl (fun ls hl => K p e s m args below meth c C H locs ls hP hS (lset2_has hl))
theorem r_astore_n {k : Fin 4} {x : Nat} (d : decode mi.cc pc = .ok (.astore_n k, 1)) (hn : k.val < mi.nL) (K : Fw l D ad kA mi (pc + 1) (lset lo k.val (.ref x)) rest M Q) : Fw l D ad kA mi pc lo (.ref x :: rest) M Q := by
  intro p e s m args below meth c C H locs ls hP hS hl
  exact lv_astore_n C.1 C.2.1 d rfl hl hn rfl (fun ls hl => K p e s m args below meth c C H locs ls hP hS (lset_has hl))
theorem r_astore {i : Nat} {x : Nat} (d : decode mi.cc pc = .ok (.astore i, 2)) (hn : i < mi.nL) (K : Fw l D ad kA mi (pc + 2) (lset lo i (.ref x)) rest M Q) : Fw l D ad kA mi pc lo (.ref x :: rest) M Q := by
  intro p e s m args below meth c C H locs ls hP hS hl
  exact lv_astore C.1 C.2.1 d hl hn rfl (fun ls hl => K p e s m args below meth c C H locs ls hP hS (lset_has hl))
theorem r_iinc {i : Nat} {n : Int} {x v : Int32} (d : decode mi.cc pc = .ok (.iinc i n, 3)) (h : lo[i]? = some (some (.int x))) (hv : x + Int32.ofInt n = v) (hn : i < mi.nL) (K : Fw l D ad kA mi (pc + 3) (lset lo i (.int v)) rest M Q) : Fw l D ad kA mi pc lo rest M Q := by
  intro p e s m args below meth c C H locs ls hP hS hl
  obtain ⟨k, hk⟩ := List.mem_iff_getElem?.mp (lp_mem.mpr h)
  exact lv_iinc C.1 C.2.1 d hl hk hv hn rfl (fun ls hl => K p e s m args below meth c C H locs ls hP hS (lset_has hl))
theorem r_iconst {n : Int} {v : Int32} (d : decode mi.cc pc = .ok (.iconst n, 1)) (hv : Int32.ofInt n = v) (K : Fw l D ad kA mi (pc + 1) lo (.int v :: rest) M Q) : Fw l D ad kA mi pc lo (rest) M Q := by
  intro p e s m args below meth c C H locs ls hP hS hl
  exact lv_iconst C.1 C.2.1 d hv (K p e s m args below meth c C H locs ls hP hS hl)
theorem r_bipush {n : Int} {v : Int32} (d : decode mi.cc pc = .ok (.bipush n, 2)) (hv : (Int8.ofInt n).toInt32 = v) (K : Fw l D ad kA mi (pc + 2) lo (.int v :: rest) M Q) : Fw l D ad kA mi pc lo (rest) M Q := by
  intro p e s m args below meth c C H locs ls hP hS hl
  exact lv_bipush C.1 C.2.1 d hv (K p e s m args below meth c C H locs ls hP hS hl)
theorem r_sipush {n : Int} {v : Int32} (d : decode mi.cc pc = .ok (.sipush n, 3)) (hv : (Int16.ofInt n).toInt32 = v) (K : Fw l D ad kA mi (pc + 3) lo (.int v :: rest) M Q) : Fw l D ad kA mi pc lo (rest) M Q := by
  intro p e s m args below meth c C H locs ls hP hS hl
  exact lv_sipush C.1 C.2.1 d hv (K p e s m args below meth c C H locs ls hP hS hl)
theorem r_lconst {n : Fin 2} {v : Int64} (d : decode mi.cc pc = .ok (.lconst n, 1)) (hv : Int64.ofNat (n : Nat) = v) (K : Fw l D ad kA mi (pc + 1) lo (.long v :: rest) M Q) : Fw l D ad kA mi pc lo (rest) M Q := by
  intro p e s m args below meth c C H locs ls hP hS hl
  exact lv_lconst C.1 C.2.1 d hv (K p e s m args below meth c C H locs ls hP hS hl)
theorem r_ldc {index : Nat} {v : Int32} (d : decode mi.cc pc = .ok (.ldc index, 2)) (hc : Cond.constant mi.y.cls index v ∈ lw_w) (K : Fw l D ad kA mi (pc + 2) lo (.int v :: rest) M Q) : Fw l D ad kA mi pc lo (rest) M Q := by
  intro p e s m args below meth c C H locs ls hP hS hl
  exact lv_ldc C.1 C.2.1 C.2.2.2.2.2.1 (C.2.2.2.2.2.2.1 _ hc) d (K p e s m args below meth c C H locs ls hP hS hl)
theorem r_ldcw {index : Nat} {v : Int32} (d : decode mi.cc pc = .ok (.ldc_w index, 3)) (hc : Cond.constant mi.y.cls index v ∈ lw_w) (K : Fw l D ad kA mi (pc + 3) lo (.int v :: rest) M Q) : Fw l D ad kA mi pc lo (rest) M Q := by
  intro p e s m args below meth c C H locs ls hP hS hl
  exact lv_ldcw C.1 C.2.1 C.2.2.2.2.2.1 (C.2.2.2.2.2.2.1 _ hc) d (K p e s m args below meth c C H locs ls hP hS hl)
theorem r_ldc2 {index : Nat} {v : Int64} (d : decode mi.cc pc = .ok (.ldc2_w index, 3)) (hc : Cond.constantLong mi.y.cls index v ∈ lw_w) (K : Fw l D ad kA mi (pc + 3) lo (.long v :: rest) M Q) : Fw l D ad kA mi pc lo (rest) M Q := by
  intro p e s m args below meth c C H locs ls hP hS hl
  exact lv_ldc2 C.1 C.2.1 C.2.2.2.2.2.1 (C.2.2.2.2.2.2.1 _ hc) d (K p e s m args below meth c C H locs ls hP hS hl)
theorem r_ldcS {i : Nat} (d : decode mi.cc pc = .ok (.ldc (scR.getD i ("", 0, "")).2.1, 2)) (hi : i < 15) (ho : (scR.getD i ("", 0, "")).1 = mi.y.cls) (K : Fw l D ad kA mi (pc + 2) lo (.ref (ad (210 + i)) :: rest) M Q) : Fw l D ad kA mi pc lo (rest) M Q := by
  intro p e s m args below meth c C H locs ls hP hS hl
  exact va_ldcS C.1 C.2.1 C.2.2.2.2.2.1 (ho ▸ (C.2.2.2.2.2.2.2.2.2.1.2.2.1 i hi).1) d (K p e s m args below meth c C H locs ls hP hS hl)
theorem r_iadd {x y : Int32} (d : decode mi.cc pc = .ok (.iadd, 1)) (K : Fw l D ad kA mi (pc + 1) lo (.int (x + y) :: rest) M Q) : Fw l D ad kA mi pc lo (.int y :: .int x :: rest) M Q := by
  intro p e s m args below meth c C H locs ls hP hS hl
  exact lv_iadd C.1 C.2.1 d (K p e s m args below meth c C H locs ls hP hS hl)
theorem r_isub {x y : Int32} (d : decode mi.cc pc = .ok (.isub, 1)) (K : Fw l D ad kA mi (pc + 1) lo (.int (x - y) :: rest) M Q) : Fw l D ad kA mi pc lo (.int y :: .int x :: rest) M Q := by
  intro p e s m args below meth c C H locs ls hP hS hl
  exact lv_isub C.1 C.2.1 d (K p e s m args below meth c C H locs ls hP hS hl)
theorem r_imul {x y : Int32} (d : decode mi.cc pc = .ok (.imul, 1)) (K : Fw l D ad kA mi (pc + 1) lo (.int (x * y) :: rest) M Q) : Fw l D ad kA mi pc lo (.int y :: .int x :: rest) M Q := by
  intro p e s m args below meth c C H locs ls hP hS hl
  exact lv_imul C.1 C.2.1 d (K p e s m args below meth c C H locs ls hP hS hl)
theorem r_iand {x y : Int32} (d : decode mi.cc pc = .ok (.iand, 1)) (K : Fw l D ad kA mi (pc + 1) lo (.int (x &&& y) :: rest) M Q) : Fw l D ad kA mi pc lo (.int y :: .int x :: rest) M Q := by
  intro p e s m args below meth c C H locs ls hP hS hl
  exact lv_iand C.1 C.2.1 d (K p e s m args below meth c C H locs ls hP hS hl)
theorem r_ishr {x y : Int32} (d : decode mi.cc pc = .ok (.ishr, 1)) (K : Fw l D ad kA mi (pc + 1) lo (.int (x >>> (y &&& 31)) :: rest) M Q) : Fw l D ad kA mi pc lo (.int y :: .int x :: rest) M Q := by
  intro p e s m args below meth c C H locs ls hP hS hl
  exact lv_ishr C.1 C.2.1 d (K p e s m args below meth c C H locs ls hP hS hl)
theorem r_idiv {x y : Int32} (d : decode mi.cc pc = .ok (.idiv, 1)) (hne : ¬ y = 0) (K : Fw l D ad kA mi (pc + 1) lo (.int (x / y) :: rest) M Q) : Fw l D ad kA mi pc lo (.int y :: .int x :: rest) M Q := by
  intro p e s m args below meth c C H locs ls hP hS hl
  exact lv_idiv C.1 C.2.1 d hne (K p e s m args below meth c C H locs ls hP hS hl)
theorem r_irem {x y : Int32} (d : decode mi.cc pc = .ok (.irem, 1)) (hne : ¬ y = 0) (K : Fw l D ad kA mi (pc + 1) lo (.int (x - x / y * y) :: rest) M Q) : Fw l D ad kA mi pc lo (.int y :: .int x :: rest) M Q := by
  intro p e s m args below meth c C H locs ls hP hS hl
  exact lv_irem C.1 C.2.1 d hne (K p e s m args below meth c C H locs ls hP hS hl)
theorem r_lsub {x y : Int64} (d : decode mi.cc pc = .ok (.lsub, 1)) (K : Fw l D ad kA mi (pc + 1) lo (.long (x - y) :: rest) M Q) : Fw l D ad kA mi pc lo (.long y :: .long x :: rest) M Q := by
  intro p e s m args below meth c C H locs ls hP hS hl
  exact lv_lsub C.1 C.2.1 d (K p e s m args below meth c C H locs ls hP hS hl)
theorem r_land {x y : Int64} (d : decode mi.cc pc = .ok (.land, 1)) (K : Fw l D ad kA mi (pc + 1) lo (.long (x &&& y) :: rest) M Q) : Fw l D ad kA mi pc lo (.long y :: .long x :: rest) M Q := by
  intro p e s m args below meth c C H locs ls hP hS hl
  exact lv_land C.1 C.2.1 d (K p e s m args below meth c C H locs ls hP hS hl)
theorem r_lor {x y : Int64} (d : decode mi.cc pc = .ok (.lor, 1)) (K : Fw l D ad kA mi (pc + 1) lo (.long (x ||| y) :: rest) M Q) : Fw l D ad kA mi pc lo (.long y :: .long x :: rest) M Q := by
  intro p e s m args below meth c C H locs ls hP hS hl
  exact lv_lor C.1 C.2.1 d (K p e s m args below meth c C H locs ls hP hS hl)
theorem r_lxor {x y : Int64} (d : decode mi.cc pc = .ok (.lxor, 1)) (K : Fw l D ad kA mi (pc + 1) lo (.long (x ^^^ y) :: rest) M Q) : Fw l D ad kA mi pc lo (.long y :: .long x :: rest) M Q := by
  intro p e s m args below meth c C H locs ls hP hS hl
  exact lv_lxor C.1 C.2.1 d (K p e s m args below meth c C H locs ls hP hS hl)
theorem r_lushr {x : Int64} {y : Int32} (d : decode mi.cc pc = .ok (.lushr, 1)) (K : Fw l D ad kA mi (pc + 1) lo (.long ((x.toUInt64 >>> (y.toInt64.toUInt64 &&& Int64.toUInt64 63)).toInt64) :: rest) M Q) : Fw l D ad kA mi pc lo (.int y :: .long x :: rest) M Q := by
  intro p e s m args below meth c C H locs ls hP hS hl
  exact lv_lushr C.1 C.2.1 d rfl (K p e s m args below meth c C H locs ls hP hS hl)
theorem r_lshl {x : Int64} {y : Int32} (d : decode mi.cc pc = .ok (.lshl, 1)) (K : Fw l D ad kA mi (pc + 1) lo (.long (x <<< (y.toInt64 &&& 63)) :: rest) M Q) : Fw l D ad kA mi pc lo (.int y :: .long x :: rest) M Q := by
  intro p e s m args below meth c C H locs ls hP hS hl
  exact lv_lshl C.1 C.2.1 d rfl (K p e s m args below meth c C H locs ls hP hS hl)
theorem r_lshr {x : Int64} {y : Int32} (d : decode mi.cc pc = .ok (.lshr, 1)) (K : Fw l D ad kA mi (pc + 1) lo (.long (x >>> (y.toInt64 &&& 63)) :: rest) M Q) : Fw l D ad kA mi pc lo (.int y :: .long x :: rest) M Q := by
  intro p e s m args below meth c C H locs ls hP hS hl
  exact lv_lshr C.1 C.2.1 d rfl (K p e s m args below meth c C H locs ls hP hS hl)
theorem r_ineg {x : Int32} (d : decode mi.cc pc = .ok (.ineg, 1)) (K : Fw l D ad kA mi (pc + 1) lo (.int (-x) :: rest) M Q) : Fw l D ad kA mi pc lo (.int x :: rest) M Q := by
  intro p e s m args below meth c C H locs ls hP hS hl
  exact lv_ineg C.1 C.2.1 d (K p e s m args below meth c C H locs ls hP hS hl)
theorem r_i2c {x : Int32} (d : decode mi.cc pc = .ok (.i2c, 1)) (K : Fw l D ad kA mi (pc + 1) lo (.int (x.toUInt32 % 65536).toInt32 :: rest) M Q) : Fw l D ad kA mi pc lo (.int x :: rest) M Q := by
  intro p e s m args below meth c C H locs ls hP hS hl
  exact lv_i2c C.1 C.2.1 d rfl (K p e s m args below meth c C H locs ls hP hS hl)
theorem r_i2l {x : Int32} (d : decode mi.cc pc = .ok (.i2l, 1)) (K : Fw l D ad kA mi (pc + 1) lo (.long x.toInt64 :: rest) M Q) : Fw l D ad kA mi pc lo (.int x :: rest) M Q := by
  intro p e s m args below meth c C H locs ls hP hS hl
  exact lv_i2l C.1 C.2.1 d rfl (K p e s m args below meth c C H locs ls hP hS hl)
theorem r_i2b {x : Int32} (d : decode mi.cc pc = .ok (.i2b, 1)) (K : Fw l D ad kA mi (pc + 1) lo (.int x.toInt8.toInt32 :: rest) M Q) : Fw l D ad kA mi pc lo (.int x :: rest) M Q := by
  intro p e s m args below meth c C H locs ls hP hS hl
  exact lv_i2b C.1 C.2.1 d rfl (K p e s m args below meth c C H locs ls hP hS hl)
theorem r_lcmp {x y : Int64} (d : decode mi.cc pc = .ok (.lcmp, 1)) (K : Fw l D ad kA mi (pc + 1) lo (.int (lg_cmp x y) :: rest) M Q) : Fw l D ad kA mi pc lo (.long y :: .long x :: rest) M Q := by
  intro p e s m args below meth c C H locs ls hP hS hl
  exact W.lcmp C.1 C.2.1 d (K p e s m args below meth c C H locs ls hP hS hl)
theorem r_dup {v : Value} (d : decode mi.cc pc = .ok (.dup, 1)) (hv : v.category = 1) (K : Fw l D ad kA mi (pc + 1) lo (v :: v :: rest) M Q) : Fw l D ad kA mi pc lo (v :: rest) M Q := by
  intro p e s m args below meth c C H locs ls hP hS hl
  exact lv_dup C.1 C.2.1 d hv (K p e s m args below meth c C H locs ls hP hS hl)
theorem r_pop {v : Value} (d : decode mi.cc pc = .ok (.pop, 1)) (hv : v.category = 1) (K : Fw l D ad kA mi (pc + 1) lo (rest) M Q) : Fw l D ad kA mi pc lo (v :: rest) M Q := by
  intro p e s m args below meth c C H locs ls hP hS hl
  exact lv_pop C.1 C.2.1 d hv (K p e s m args below meth c C H locs ls hP hS hl)
theorem r_dup2 {v w : Value} (d : decode mi.cc pc = .ok (.dup2, 1)) (hv : v.category = 1) (hw : w.category = 1) (K : Fw l D ad kA mi (pc + 1) lo (v :: w :: v :: w :: rest) M Q) : Fw l D ad kA mi pc lo (v :: w :: rest) M Q := by
  intro p e s m args below meth c C H locs ls hP hS hl
  exact lv_dup2_11 C.1 C.2.1 d hv hw (K p e s m args below meth c C H locs ls hP hS hl)
theorem r_if_eq {x : Int32} {off : Int} {tgt : Nat} (d : decode mi.cc pc = .ok (.ifCond .eq off, 3)) (ht : (pc : Int) + off = (tgt : Int)) (Kt : x = 0 → Fw l D ad kA mi tgt lo rest M Q) (Kf : ¬ x = 0 → Fw l D ad kA mi (pc + 3) lo rest M Q) : Fw l D ad kA mi pc lo (.int x :: rest) M Q := by
  intro p e s m args below meth c C H locs ls hP hS hl
  exact lv_if_eq C.1 C.2.1 d ht (fun h => Kt h p e s m args below meth c C H locs ls hP hS hl) (fun h => Kf h p e s m args below meth c C H locs ls hP hS hl)
theorem r_icmp_eq {x y : Int32} {off : Int} {tgt : Nat} (d : decode mi.cc pc = .ok (.if_icmp .eq off, 3)) (ht : (pc : Int) + off = (tgt : Int)) (Kt : x = y → Fw l D ad kA mi tgt lo rest M Q) (Kf : ¬ x = y → Fw l D ad kA mi (pc + 3) lo rest M Q) : Fw l D ad kA mi pc lo (.int y :: .int x :: rest) M Q := by
  intro p e s m args below meth c C H locs ls hP hS hl
  exact lv_icmp_eq C.1 C.2.1 d ht (fun h => Kt h p e s m args below meth c C H locs ls hP hS hl) (fun h => Kf h p e s m args below meth c C H locs ls hP hS hl)
theorem r_if_ne {x : Int32} {off : Int} {tgt : Nat} (d : decode mi.cc pc = .ok (.ifCond .ne off, 3)) (ht : (pc : Int) + off = (tgt : Int)) (Kt : ¬ x = 0 → Fw l D ad kA mi tgt lo rest M Q) (Kf : x = 0 → Fw l D ad kA mi (pc + 3) lo rest M Q) : Fw l D ad kA mi pc lo (.int x :: rest) M Q := by
  intro p e s m args below meth c C H locs ls hP hS hl
  exact lv_if_ne C.1 C.2.1 d ht (fun h => Kt h p e s m args below meth c C H locs ls hP hS hl) (fun h => Kf h p e s m args below meth c C H locs ls hP hS hl)
theorem r_icmp_ne {x y : Int32} {off : Int} {tgt : Nat} (d : decode mi.cc pc = .ok (.if_icmp .ne off, 3)) (ht : (pc : Int) + off = (tgt : Int)) (Kt : ¬ x = y → Fw l D ad kA mi tgt lo rest M Q) (Kf : x = y → Fw l D ad kA mi (pc + 3) lo rest M Q) : Fw l D ad kA mi pc lo (.int y :: .int x :: rest) M Q := by
  intro p e s m args below meth c C H locs ls hP hS hl
  exact lv_icmp_ne C.1 C.2.1 d ht (fun h => Kt h p e s m args below meth c C H locs ls hP hS hl) (fun h => Kf h p e s m args below meth c C H locs ls hP hS hl)
theorem r_if_lt {x : Int32} {off : Int} {tgt : Nat} (d : decode mi.cc pc = .ok (.ifCond .lt off, 3)) (ht : (pc : Int) + off = (tgt : Int)) (Kt : x < 0 → Fw l D ad kA mi tgt lo rest M Q) (Kf : ¬ x < 0 → Fw l D ad kA mi (pc + 3) lo rest M Q) : Fw l D ad kA mi pc lo (.int x :: rest) M Q := by
  intro p e s m args below meth c C H locs ls hP hS hl
  exact lv_if_lt C.1 C.2.1 d ht (fun h => Kt h p e s m args below meth c C H locs ls hP hS hl) (fun h => Kf h p e s m args below meth c C H locs ls hP hS hl)
theorem r_icmp_lt {x y : Int32} {off : Int} {tgt : Nat} (d : decode mi.cc pc = .ok (.if_icmp .lt off, 3)) (ht : (pc : Int) + off = (tgt : Int)) (Kt : x < y → Fw l D ad kA mi tgt lo rest M Q) (Kf : ¬ x < y → Fw l D ad kA mi (pc + 3) lo rest M Q) : Fw l D ad kA mi pc lo (.int y :: .int x :: rest) M Q := by
  intro p e s m args below meth c C H locs ls hP hS hl
  exact lv_icmp_lt C.1 C.2.1 d ht (fun h => Kt h p e s m args below meth c C H locs ls hP hS hl) (fun h => Kf h p e s m args below meth c C H locs ls hP hS hl)
theorem r_if_ge {x : Int32} {off : Int} {tgt : Nat} (d : decode mi.cc pc = .ok (.ifCond .ge off, 3)) (ht : (pc : Int) + off = (tgt : Int)) (Kt : 0 ≤ x → Fw l D ad kA mi tgt lo rest M Q) (Kf : ¬ 0 ≤ x → Fw l D ad kA mi (pc + 3) lo rest M Q) : Fw l D ad kA mi pc lo (.int x :: rest) M Q := by
  intro p e s m args below meth c C H locs ls hP hS hl
  exact lv_if_ge C.1 C.2.1 d ht (fun h => Kt h p e s m args below meth c C H locs ls hP hS hl) (fun h => Kf h p e s m args below meth c C H locs ls hP hS hl)
theorem r_icmp_ge {x y : Int32} {off : Int} {tgt : Nat} (d : decode mi.cc pc = .ok (.if_icmp .ge off, 3)) (ht : (pc : Int) + off = (tgt : Int)) (Kt : y ≤ x → Fw l D ad kA mi tgt lo rest M Q) (Kf : ¬ y ≤ x → Fw l D ad kA mi (pc + 3) lo rest M Q) : Fw l D ad kA mi pc lo (.int y :: .int x :: rest) M Q := by
  intro p e s m args below meth c C H locs ls hP hS hl
  exact lv_icmp_ge C.1 C.2.1 d ht (fun h => Kt h p e s m args below meth c C H locs ls hP hS hl) (fun h => Kf h p e s m args below meth c C H locs ls hP hS hl)
theorem r_if_gt {x : Int32} {off : Int} {tgt : Nat} (d : decode mi.cc pc = .ok (.ifCond .gt off, 3)) (ht : (pc : Int) + off = (tgt : Int)) (Kt : 0 < x → Fw l D ad kA mi tgt lo rest M Q) (Kf : ¬ 0 < x → Fw l D ad kA mi (pc + 3) lo rest M Q) : Fw l D ad kA mi pc lo (.int x :: rest) M Q := by
  intro p e s m args below meth c C H locs ls hP hS hl
  exact lv_if_gt C.1 C.2.1 d ht (fun h => Kt h p e s m args below meth c C H locs ls hP hS hl) (fun h => Kf h p e s m args below meth c C H locs ls hP hS hl)
theorem r_icmp_gt {x y : Int32} {off : Int} {tgt : Nat} (d : decode mi.cc pc = .ok (.if_icmp .gt off, 3)) (ht : (pc : Int) + off = (tgt : Int)) (Kt : y < x → Fw l D ad kA mi tgt lo rest M Q) (Kf : ¬ y < x → Fw l D ad kA mi (pc + 3) lo rest M Q) : Fw l D ad kA mi pc lo (.int y :: .int x :: rest) M Q := by
  intro p e s m args below meth c C H locs ls hP hS hl
  exact lv_icmp_gt C.1 C.2.1 d ht (fun h => Kt h p e s m args below meth c C H locs ls hP hS hl) (fun h => Kf h p e s m args below meth c C H locs ls hP hS hl)
theorem r_if_le {x : Int32} {off : Int} {tgt : Nat} (d : decode mi.cc pc = .ok (.ifCond .le off, 3)) (ht : (pc : Int) + off = (tgt : Int)) (Kt : x ≤ 0 → Fw l D ad kA mi tgt lo rest M Q) (Kf : ¬ x ≤ 0 → Fw l D ad kA mi (pc + 3) lo rest M Q) : Fw l D ad kA mi pc lo (.int x :: rest) M Q := by
  intro p e s m args below meth c C H locs ls hP hS hl
  exact lv_if_le C.1 C.2.1 d ht (fun h => Kt h p e s m args below meth c C H locs ls hP hS hl) (fun h => Kf h p e s m args below meth c C H locs ls hP hS hl)
theorem r_icmp_le {x y : Int32} {off : Int} {tgt : Nat} (d : decode mi.cc pc = .ok (.if_icmp .le off, 3)) (ht : (pc : Int) + off = (tgt : Int)) (Kt : x ≤ y → Fw l D ad kA mi tgt lo rest M Q) (Kf : ¬ x ≤ y → Fw l D ad kA mi (pc + 3) lo rest M Q) : Fw l D ad kA mi pc lo (.int y :: .int x :: rest) M Q := by
  intro p e s m args below meth c C H locs ls hP hS hl
  exact lv_icmp_le C.1 C.2.1 d ht (fun h => Kt h p e s m args below meth c C H locs ls hP hS hl) (fun h => Kf h p e s m args below meth c C H locs ls hP hS hl)
theorem r_goto {off : Int} {tgt : Nat} (d : decode mi.cc pc = .ok (.goto off, 3)) (ht : (pc : Int) + off = (tgt : Int)) (K : Fw l D ad kA mi tgt lo rest M Q) : Fw l D ad kA mi pc lo rest M Q := by
  intro p e s m args below meth c C H locs ls hP hS hl
  exact lv_goto C.1 C.2.1 d ht (K p e s m args below meth c C H locs ls hP hS hl)
theorem r_tableIn {dflt low high : Int} {offs : Array Int} {len : Nat} {x : Int32} {off : Int} {tgt : Nat} (d : decode mi.cc pc = .ok (.tableswitch dflt low high offs, len)) (h1 : ¬ x.toInt < low) (h2 : ¬ high < x.toInt) (ho : offs[(x.toInt - low).toNat]? = some off) (ht : (pc : Int) + off = (tgt : Int)) (K : Fw l D ad kA mi tgt lo rest M Q) : Fw l D ad kA mi pc lo (.int x :: rest) M Q := by
  intro p e s m args below meth c C H locs ls hP hS hl
  exact lv_tableIn C.1 C.2.1 d h1 h2 ho ht (K p e s m args below meth c C H locs ls hP hS hl)
theorem r_tableOut {dflt low high : Int} {offs : Array Int} {len : Nat} {x : Int32} {tgt : Nat} (d : decode mi.cc pc = .ok (.tableswitch dflt low high offs, len)) (h : x.toInt < low ∨ high < x.toInt) (ht : (pc : Int) + dflt = (tgt : Int)) (K : Fw l D ad kA mi tgt lo rest M Q) : Fw l D ad kA mi pc lo (.int x :: rest) M Q := by
  intro p e s m args below meth c C H locs ls hP hS hl
  exact lv_tableOut C.1 C.2.1 d h ht (K p e s m args below meth c C H locs ls hP hS hl)
theorem r_weak {lo' : List (Option Value)} (h : ∀ (i : Nat) (v : Value), lo'[i]? = some (some v) → lo[i]? = some (some v)) (K : Fw l D ad kA mi pc lo' rest M Q) : Fw l D ad kA mi pc lo rest M Q := by
  intro p e s m args below meth c C H locs ls hP hS hl
  exact K p e s m args below meth c C H locs ls hP hS (lp_sub hl h)
/-- a field's link, as the tables have it -/
def Fk (own : String) (index ci k : Nat) : Prop := ∃ (C : String) (T : u_T) (N : Nat) (ty : Nat → FieldType), cls[ci]? = some (C, T, N) ∧ (∀ w ∈ u_ws C T N, w ∈ lw_w) ∧ k < N ∧ Cond.fieldLink own index (T k).1 (T k).2.1 (T k).2.2.1 ∈ lw_w ∧ (∀ j, j < N → parseFieldDescriptor (T j).2.2.1 = some (ty j)) ∧ (∀ a, a < N → ∀ b, b < N → a ≠ b → (T a).2.1 ≠ (T b).2.1)
/-- what a put needs besides: not final, and its type -/
def Fp (ci k : Nat) (ty : FieldType) : Prop := ∃ (C : String) (T : u_T) (N : Nat), cls[ci]? = some (C, T, N) ∧ (T k).2.2.2 = false ∧ parseFieldDescriptor (T k).2.2.1 = some ty
theorem r_getI {c index ci k r : Nat} (d : decode mi.cc pc = .ok (.getfield index, 3)) (hf : fsh c k = some (ci, 0, r)) (hk : Fk mi.y.cls index ci k) (K : Fw l D ad kA mi (pc + 3) lo (.int (gI M c k) :: rest) M Q) : Fw l D ad kA mi pc lo (.ref (ad c) :: rest) M Q := by
  intro p e s m args below meth c0 C H locs ls hP hS hl
  obtain ⟨CN, T, N, ty, h1, h2, h3, h4, h5, h6⟩ := hk
  obtain ⟨fs, hs, hf⟩ := fsh_spec hf
  refine va_get (own := mi.y.cls) (ref := (T k).1) C.1 C.2.1 C.2.2.2.2.2.2.1 h2 C.2.2.2.2.2.1 C.2.2.2.2.2.2.2.1 hP c (wl_at hs) h1 k h3 (C.2.2.2.2.2.2.1 _ h4) (fun _ h => h) (v := .int (gI M c k)) ?_ d (K p e s m args below meth c0 C H locs ls hP hS hl)
  rw [List.getElem?_mapIdx, hf]
  simp [fv]
theorem r_getR {c index ci k r : Nat} (d : decode mi.cc pc = .ok (.getfield index, 3)) (hf : fsh c k = some (ci, 1, r)) (hk : Fk mi.y.cls index ci k) (K : Fw l D ad kA mi (pc + 3) lo (.ref (ad r) :: rest) M Q) : Fw l D ad kA mi pc lo (.ref (ad c) :: rest) M Q := by
  intro p e s m args below meth c0 C H locs ls hP hS hl
  obtain ⟨CN, T, N, ty, h1, h2, h3, h4, h5, h6⟩ := hk
  obtain ⟨fs, hs, hf⟩ := fsh_spec hf
  refine va_get (own := mi.y.cls) (ref := (T k).1) C.1 C.2.1 C.2.2.2.2.2.2.1 h2 C.2.2.2.2.2.1 C.2.2.2.2.2.2.2.1 hP c (wl_at hs) h1 k h3 (C.2.2.2.2.2.2.1 _ h4) (fun _ h => h) (v := .ref (ad r)) ?_ d (K p e s m args below meth c0 C H locs ls hP hS hl)
  rw [List.getElem?_mapIdx, hf]
  simp [fv]
theorem r_getL {c index ci k r : Nat} (d : decode mi.cc pc = .ok (.getfield index, 3)) (hf : fsh c k = some (ci, 2, r)) (hk : Fk mi.y.cls index ci k) (K : Fw l D ad kA mi (pc + 3) lo (.long (gL M c k) :: rest) M Q) : Fw l D ad kA mi pc lo (.ref (ad c) :: rest) M Q := by
  intro p e s m args below meth c0 C H locs ls hP hS hl
  obtain ⟨CN, T, N, ty, h1, h2, h3, h4, h5, h6⟩ := hk
  obtain ⟨fs, hs, hf⟩ := fsh_spec hf
  refine va_get (own := mi.y.cls) (ref := (T k).1) C.1 C.2.1 C.2.2.2.2.2.2.1 h2 C.2.2.2.2.2.1 C.2.2.2.2.2.2.2.1 hP c (wl_at hs) h1 k h3 (C.2.2.2.2.2.2.1 _ h4) (fun _ h => h) (v := .long (gL M c k)) ?_ d (K p e s m args below meth c0 C H locs ls hP hS hl)
  rw [List.getElem?_mapIdx, hf]
  simp [fv]
theorem r_putF {c index ci k r : Nat} {v : Int32} {ty : FieldType} (d : decode mi.cc pc = .ok (.putfield index, 3)) (hf : fsh c k = some (ci, 0, r)) (hk : Fk mi.y.cls index ci k) (hp : Fp ci k ty) (hn : narrow ty (.int v) = .int v) (hfit : fits ty (.int v) = true) (K : Fw l D ad kA mi (pc + 3) lo rest (sI M c k v) Q) : Fw l D ad kA mi pc lo (.int v :: .ref (ad c) :: rest) M Q := by
  intro p e s m args below meth c0 C H locs ls hP hS hl
  obtain ⟨CN, T, N, ty0, h1, h2, h3, h4, h5, h6⟩ := hk
  obtain ⟨fs, hs, hf⟩ := fsh_spec hf
  obtain ⟨CN', T', N', g1, g2, g3⟩ := hp
  cases h1.symm.trans g1
  have hl2 : k < (fs.mapIdx (fv ad M c)).length := by
    have := (List.getElem?_eq_some_iff.mp hf).1
    simpa using this
  refine va_put (own := mi.y.cls) (ref := (T k).1) C.1 C.2.1 C.2.2.2.2.2.2.1 h2 ty0 h5 h6 C.2.2.2.2.2.1 C.2.2.2.2.2.2.2.1 hP (wl_D C.2.2.2.2.2.2.2.2.1) hS c (wl_at hs) h1 k h3 (C.2.2.2.2.2.2.1 _ h4) (fun _ h => h) g2 g3 hn hfit hl2 d (fun H1 locs1 hP1 _ hS1 => K p e s m args below meth c0 C H1 locs1 ls ?_ hS1 hl)
  rw [← ce_fI hf (kA := kA), wl_set hs ce_oI] at hP1
  exact hP1
theorem r_putL {c index ci k r : Nat} {v : Int64} {ty : FieldType} (d : decode mi.cc pc = .ok (.putfield index, 3)) (hf : fsh c k = some (ci, 2, r)) (hk : Fk mi.y.cls index ci k) (hp : Fp ci k ty) (hn : narrow ty (.long v) = .long v) (hfit : fits ty (.long v) = true) (K : Fw l D ad kA mi (pc + 3) lo rest (sL M c k v) Q) : Fw l D ad kA mi pc lo (.long v :: .ref (ad c) :: rest) M Q := by
  intro p e s m args below meth c0 C H locs ls hP hS hl
  obtain ⟨CN, T, N, ty0, h1, h2, h3, h4, h5, h6⟩ := hk
  obtain ⟨fs, hs, hf⟩ := fsh_spec hf
  obtain ⟨CN', T', N', g1, g2, g3⟩ := hp
  cases h1.symm.trans g1
  have hl2 : k < (fs.mapIdx (fv ad M c)).length := by
    have := (List.getElem?_eq_some_iff.mp hf).1
    simpa using this
  refine va_put (own := mi.y.cls) (ref := (T k).1) C.1 C.2.1 C.2.2.2.2.2.2.1 h2 ty0 h5 h6 C.2.2.2.2.2.1 C.2.2.2.2.2.2.2.1 hP (wl_D C.2.2.2.2.2.2.2.2.1) hS c (wl_at hs) h1 k h3 (C.2.2.2.2.2.2.1 _ h4) (fun _ h => h) g2 g3 hn hfit hl2 d (fun H1 locs1 hP1 _ hS1 => K p e s m args below meth c0 C H1 locs1 ls ?_ hS1 hl)
  rw [← ce_fL hf (kA := kA), wl_set hs ce_oL] at hP1
  exact hP1
theorem r_putI {c index ci k r : Nat} {v : Int32} (d : decode mi.cc pc = .ok (.putfield index, 3)) (hf : fsh c k = some (ci, 0, r)) (hk : Fk mi.y.cls index ci k) (hp : Fp ci k .int) (K : Fw l D ad kA mi (pc + 3) lo rest (sI M c k v) Q) : Fw l D ad kA mi pc lo (.int v :: .ref (ad c) :: rest) M Q := r_putF d hf hk hp rfl rfl K
theorem nar_z {v : Int32} (h : v = 0 ∨ v = 1) : narrow .boolean (.int v) = .int v ∧ fits .boolean (.int v) = true := by
  rcases h with rfl | rfl <;> exact ⟨by decide, by decide⟩
theorem r_putZ {c index ci k r : Nat} {v : Int32} (d : decode mi.cc pc = .ok (.putfield index, 3)) (hf : fsh c k = some (ci, 0, r)) (hk : Fk mi.y.cls index ci k) (hp : Fp ci k .boolean) (hv : v = 0 ∨ v = 1) (K : Fw l D ad kA mi (pc + 3) lo rest (sI M c k v) Q) : Fw l D ad kA mi pc lo (.int v :: .ref (ad c) :: rest) M Q := r_putF d hf hk hp (nar_z hv).1 (nar_z hv).2 K
theorem r_iald {c n : Nat} {i : Int32} (d : decode mi.cc pc = .ok (.iaload, 1)) (hs : shL[c]? = some (.inl (0, n))) (hin : vp_in i n) (K : Fw l D ad kA mi (pc + 1) lo (.int (gI M c i.toNatClampNeg) :: rest) M Q) : Fw l D ad kA mi pc lo (.int i :: .ref (ad c) :: rest) M Q := by
  intro p e s m args below meth c0 C H locs ls hP hS hl
  exact va_iald C.1 C.2.1 C.2.2.2.2.2.2.2.1 hP c 0 (wl_at hs) rfl hin d (K p e s m args below meth c0 C H locs ls hP hS hl)
theorem r_bald {c n : Nat} {i : Int32} (d : decode mi.cc pc = .ok (.baload, 1)) (hs : shL[c]? = some (.inl (1, n))) (hin : vp_in i n) (K : Fw l D ad kA mi (pc + 1) lo (.int (gI M c i.toNatClampNeg) :: rest) M Q) : Fw l D ad kA mi pc lo (.int i :: .ref (ad c) :: rest) M Q := by
  intro p e s m args below meth c0 C H locs ls hP hS hl
  exact va_bald C.1 C.2.1 C.2.2.2.2.2.2.2.1 hP c 1 (wl_at hs) rfl hin d (K p e s m args below meth c0 C H locs ls hP hS hl)
theorem r_zald {c n : Nat} {i : Int32} (d : decode mi.cc pc = .ok (.baload, 1)) (hs : shL[c]? = some (.inl (2, n))) (hin : vp_in i n) (K : Fw l D ad kA mi (pc + 1) lo (.int (gI M c i.toNatClampNeg) :: rest) M Q) : Fw l D ad kA mi pc lo (.int i :: .ref (ad c) :: rest) M Q := by
  intro p e s m args below meth c0 C H locs ls hP hS hl
  exact va_zald C.1 C.2.1 C.2.2.2.2.2.2.2.1 hP c 2 (wl_at hs) rfl hin d (K p e s m args below meth c0 C H locs ls hP hS hl)
theorem r_lald {c n : Nat} {i : Int32} (d : decode mi.cc pc = .ok (.laload, 1)) (hs : shL[c]? = some (.inl (3, n))) (hin : vp_in i n) (K : Fw l D ad kA mi (pc + 1) lo (.long (gL M c i.toNatClampNeg) :: rest) M Q) : Fw l D ad kA mi pc lo (.int i :: .ref (ad c) :: rest) M Q := by
  intro p e s m args below meth c0 C H locs ls hP hS hl
  exact va_lald C.1 C.2.1 C.2.2.2.2.2.2.2.1 hP c 3 (wl_at hs) rfl hin d (K p e s m args below meth c0 C H locs ls hP hS hl)
theorem r_iast {c n : Nat} {i : Int32} {v : Int32} (d : decode mi.cc pc = .ok (.iastore, 1)) (hs : shL[c]? = some (.inl (0, n))) (hin : vp_in i n) (K : Fw l D ad kA mi (pc + 1) lo rest (sI M c i.toNatClampNeg (v)) Q) : Fw l D ad kA mi pc lo (.int v :: .int i :: .ref (ad c) :: rest) M Q := by
  intro p e s m args below meth c0 C H locs ls hP hS hl
  refine va_iast C.1 C.2.1 C.2.2.2.2.2.2.2.1 hP (wl_D C.2.2.2.2.2.2.2.2.1) hS c 0 (wl_at hs) rfl hin d (fun H1 locs1 hP1 _ hS1 => K p e s m args below meth c0 C H1 locs1 ls ?_ hS1 hl)
  rw [← ce_aI (k := 0) (by decide) (ad := ad) (kA := kA), wl_set hs ce_oI] at hP1
  exact hP1
theorem r_bast {c n : Nat} {i : Int32} {v : Int32} (d : decode mi.cc pc = .ok (.bastore, 1)) (hs : shL[c]? = some (.inl (1, n))) (hin : vp_in i n) (K : Fw l D ad kA mi (pc + 1) lo rest (sI M c i.toNatClampNeg (vp_nar .byte v)) Q) : Fw l D ad kA mi pc lo (.int v :: .int i :: .ref (ad c) :: rest) M Q := by
  intro p e s m args below meth c0 C H locs ls hP hS hl
  refine va_bast C.1 C.2.1 C.2.2.2.2.2.2.2.1 hP (wl_D C.2.2.2.2.2.2.2.2.1) hS c 1 (wl_at hs) rfl hin d (fun H1 locs1 hP1 _ hS1 => K p e s m args below meth c0 C H1 locs1 ls ?_ hS1 hl)
  rw [← ce_aI (k := 1) (by decide) (ad := ad) (kA := kA), wl_set hs ce_oI] at hP1
  exact hP1
theorem r_zast {c n : Nat} {i : Int32} {v : Int32} (d : decode mi.cc pc = .ok (.bastore, 1)) (hs : shL[c]? = some (.inl (2, n))) (hin : vp_in i n) (K : Fw l D ad kA mi (pc + 1) lo rest (sI M c i.toNatClampNeg (vp_nar .boolean v)) Q) : Fw l D ad kA mi pc lo (.int v :: .int i :: .ref (ad c) :: rest) M Q := by
  intro p e s m args below meth c0 C H locs ls hP hS hl
  refine va_zast C.1 C.2.1 C.2.2.2.2.2.2.2.1 hP (wl_D C.2.2.2.2.2.2.2.2.1) hS c 2 (wl_at hs) rfl hin d (fun H1 locs1 hP1 _ hS1 => K p e s m args below meth c0 C H1 locs1 ls ?_ hS1 hl)
  rw [← ce_aI (k := 2) (by decide) (ad := ad) (kA := kA), wl_set hs ce_oI] at hP1
  exact hP1
theorem r_last {c n : Nat} {i : Int32} {v : Int64} (d : decode mi.cc pc = .ok (.lastore, 1)) (hs : shL[c]? = some (.inl (3, n))) (hin : vp_in i n) (K : Fw l D ad kA mi (pc + 1) lo rest (sL M c i.toNatClampNeg (v)) Q) : Fw l D ad kA mi pc lo (.long v :: .int i :: .ref (ad c) :: rest) M Q := by
  intro p e s m args below meth c0 C H locs ls hP hS hl
  refine va_last C.1 C.2.1 C.2.2.2.2.2.2.2.1 hP (wl_D C.2.2.2.2.2.2.2.2.1) hS c 3 (wl_at hs) rfl hin d (fun H1 locs1 hP1 _ hS1 => K p e s m args below meth c0 C H1 locs1 ls ?_ hS1 hl)
  rw [← ce_aL (ad := ad) (kA := kA), wl_set hs ce_oL] at hP1
  exact hP1
theorem r_alen {c k n : Nat} {v : Int32} (d : decode mi.cc pc = .ok (.arraylength, 1)) (hs : shL[c]? = some (.inl (k, n))) (hk : k < 4) (hv : Int32.ofNat n = v) (K : Fw l D ad kA mi (pc + 1) lo (.int v :: rest) M Q) : Fw l D ad kA mi pc lo (.ref (ad c) :: rest) M Q := by
  intro p e s m args below meth c0 C H locs ls hP hS hl
  match k, hk with
  | 0, _ => exact va_alen C.1 C.2.1 C.2.2.2.2.2.2.2.1 hP c 0 (wl_at hs) rfl hv d (K p e s m args below meth c0 C H locs ls hP hS hl)
  | 1, _ => exact va_alen C.1 C.2.1 C.2.2.2.2.2.2.2.1 hP c 1 (wl_at hs) rfl hv d (K p e s m args below meth c0 C H locs ls hP hS hl)
  | 2, _ => exact va_alen C.1 C.2.1 C.2.2.2.2.2.2.2.1 hP c 2 (wl_at hs) rfl hv d (K p e s m args below meth c0 C H locs ls hP hS hl)
  | 3, _ => exact va_alen C.1 C.2.1 C.2.2.2.2.2.2.2.1 hP c 3 (wl_at hs) rfl hv d (K p e s m args below meth c0 C H locs ls hP hS hl)
/-! what lies outside -/
theorem r_getst {j index : Nat} (d : decode mi.cc pc = .ok (.getstatic index, 3)) (hj : j < 3) (hk : Cond.fieldLink mi.y.cls index "BellTable$Manners" (stN.getD j "") "[I" ∈ lw_w) (K : Fw l D ad kA mi (pc + 3) lo (.ref (ad (200 + j)) :: rest) M Q) : Fw l D ad kA mi pc lo rest M Q := by
  intro p e s m args below meth c C H locs ls hP hS hl
  exact va_gets C.1 C.2.1 (C.2.2.2.2.2.2.2.2.2.1.1 j hj).1 hS C.2.2.2.2.2.1 (C.2.2.2.2.2.2.1 _ hk) (fun _ h => h) d (K p e s m args below meth c C H locs ls hP hS hl)
theorem r_staticald {j : Nat} {i : Int32} (d : decode mi.cc pc = .ok (.iaload, 1)) (hj : j < 3) (hin : vp_in i 4) (K : Fw l D ad kA mi (pc + 1) lo (.int ((stV.getD j []).getD i.toNatClampNeg 0) :: rest) M Q) : Fw l D ad kA mi pc lo (.int i :: .ref (ad (200 + j)) :: rest) M Q := by
  intro p e s m args below meth c C H locs ls hP hS hl
  exact va_ti C.1 C.2.1 (C.2.2.2.2.2.2.2.2.2.1.1 j hj).2 hS hin rfl d (K p e s m args below meth c C H locs ls hP hS hl)
theorem r_getcs {index : Nat} (d : decode mi.cc pc = .ok (.getstatic index, 3)) (hk : Cond.fieldLink mi.y.cls index "java/lang/String" "COMPACT_STRINGS" "Z" ∈ lw_w) (K : Fw l D ad kA mi (pc + 3) lo (.int 1 :: rest) M Q) : Fw l D ad kA mi pc lo rest M Q := by
  intro p e s m args below meth c C H locs ls hP hS hl
  exact va_gets C.1 C.2.1 C.2.2.2.2.2.2.2.2.2.1.2.1 hS C.2.2.2.2.2.1 (C.2.2.2.2.2.2.1 _ hk) (fun _ h => h) d (K p e s m args below meth c C H locs ls hP hS hl)
theorem r_scCoder {i index : Nat} (d : decode mi.cc pc = .ok (.getfield index, 3)) (hi : i < 15) (hk : Cond.fieldLink mi.y.cls index "java/lang/String" "coder" "B" ∈ lw_w) (K : Fw l D ad kA mi (pc + 3) lo (.int 0 :: rest) M Q) : Fw l D ad kA mi pc lo (.ref (ad (210 + i)) :: rest) M Q := by
  intro p e s m args below meth c C H locs ls hP hS hl
  exact vk_getf C.1 C.2.1 (C.2.2.2.2.2.2.2.2.2.1.2.2.1 i hi).2.2.1 hS C.2.2.2.2.2.1 (C.2.2.2.2.2.2.1 _ hk) (fun _ h => h) d (K p e s m args below meth c C H locs ls hP hS hl)
theorem r_scValue {i index : Nat} (d : decode mi.cc pc = .ok (.getfield index, 3)) (hi : i < 15) (hk : Cond.fieldLink mi.y.cls index "java/lang/String" "value" "[B" ∈ lw_w) (K : Fw l D ad kA mi (pc + 3) lo (.ref (ad (230 + i)) :: rest) M Q) : Fw l D ad kA mi pc lo (.ref (ad (210 + i)) :: rest) M Q := by
  intro p e s m args below meth c C H locs ls hP hS hl
  exact vk_getf C.1 C.2.1 (C.2.2.2.2.2.2.2.2.2.1.2.2.1 i hi).2.2.2.1 hS C.2.2.2.2.2.1 (C.2.2.2.2.2.2.1 _ hk) (fun _ h => h) d (K p e s m args below meth c C H locs ls hP hS hl)
theorem r_scald {j : Nat} {i : Int32} (d : decode mi.cc pc = .ok (.baload, 1)) (hj : j < 15) (hin : vp_in i (scB.getD j []).length) (K : Fw l D ad kA mi (pc + 1) lo (.int ((scB.getD j []).getD i.toNatClampNeg 0) :: rest) M Q) : Fw l D ad kA mi pc lo (.int i :: .ref (ad (230 + j)) :: rest) M Q := by
  intro p e s m args below meth c C H locs ls hP hS hl
  exact va_tb C.1 C.2.1 (C.2.2.2.2.2.2.2.2.2.1.2.2.1 j hj).2.2.2.2 hS hin rfl d (K p e s m args below meth c C H locs ls hP hS hl)
theorem r_sclen {j : Nat} {v : Int32} (d : decode mi.cc pc = .ok (.arraylength, 1)) (hj : j < 15) (hv : Int32.ofNat (scB.getD j []).length = v) (K : Fw l D ad kA mi (pc + 1) lo (.int v :: rest) M Q) : Fw l D ad kA mi pc lo (.ref (ad (230 + j)) :: rest) M Q := by
  intro p e s m args below meth c C H locs ls hP hS hl
  exact va_tlen C.1 C.2.1 (C.2.2.2.2.2.2.2.2.2.1.2.2.1 j hj).2.2.2.2 hS hv d (K p e s m args below meth c C H locs ls hP hS hl)
theorem r_getfmt {index : Nat} (d : decode mi.cc pc = .ok (.getstatic index, 3)) (hk : Cond.fieldLink mi.y.cls index "jdk/internal/util/Preconditions" "SIOOBE_FORMATTER" "Ljava/util/function/BiFunction;" ∈ lw_w) (K : ∀ v : Value, (v = .null ∨ ∃ t, v = .ref t) → Fw l D ad kA mi (pc + 3) lo (v :: rest) M Q) : Fw l D ad kA mi pc lo rest M Q := by
  intro p e s m args below meth c C H locs ls hP hS hl
  rcases C.2.2.2.2.2.2.2.2.2.1.2.2.2.2 with h | ⟨t, h⟩
  · exact va_gets C.1 C.2.1 h hS C.2.2.2.2.2.1 (C.2.2.2.2.2.2.1 _ hk) (fun _ h => h) d (K _ (Or.inl rfl) p e s m args below meth c C H locs ls hP hS hl)
  · exact va_gets C.1 C.2.1 h hS C.2.2.2.2.2.1 (C.2.2.2.2.2.2.1 _ hk) (fun _ h => h) d (K _ (Or.inr ⟨t, rfl⟩) p e s m args below meth c C H locs ls hP hS hl)
/-! ends -/
theorem po_of {R : Outcome} {s t : State} {H : Heap} {locs : List Loc} {args : Array Value} (hq : Q R M) (hP : va_P D cls (wl ad kA M) H) (hS : va_S (AW ad) s.heap H locs) (ht : t.heap = H) : Po D ad kA Q args s R t := ⟨⟨M, hq, by rw [ht]; exact hP⟩, hS.F ht⟩
theorem r_iret {v : Int32} (d : decode mi.cc pc = .ok (.ireturn, 1)) (hr : mi.ret = some .int) (hq : Q (.returned (some (.int v))) M) : Fw l D ad kA mi pc lo [.int v] M Q := by
  intro p e s m args below meth c C H locs ls hP hS hl
  exact W.imp MQ.x (W.iret C.1 C.2.1 (C.2.2.2.1.trans hr) (fun t ht _ => po_of hq hP hS ht) hS.2.2 d C.2.2.2.2.1)
theorem r_zret {v : Int32} {ty : FieldType} (d : decode mi.cc pc = .ok (.ireturn, 1)) (hr : mi.ret = some ty) (hn : narrow ty (.int v) = .int v) (hq : Q (.returned (some (.int v))) M) : Fw l D ad kA mi pc lo [.int v] M Q := by
  intro p e s m args below meth c C H locs ls hP hS hl
  exact W.imp MQ.x (W.zret C.1 C.2.1 (C.2.2.2.1.trans hr) hn (fun t ht _ => po_of hq hP hS ht) hS.2.2 d C.2.2.2.2.1)
theorem r_lret {v : Int64} (d : decode mi.cc pc = .ok (.lreturn, 1)) (hr : mi.ret = some .long) (hq : Q (.returned (some (.long v))) M) : Fw l D ad kA mi pc lo [.long v] M Q := by
  intro p e s m args below meth c C H locs ls hP hS hl
  exact W.imp MQ.x (W.lret C.1 C.2.1 (C.2.2.2.1.trans hr) (fun t ht _ => po_of hq hP hS ht) hS.2.2 d C.2.2.2.2.1)
theorem r_vret (d : decode mi.cc pc = .ok (.return_, 1)) (hr : mi.ret = none) (hq : Q (.returned none) M) : Fw l D ad kA mi pc lo [] M Q := by
  intro p e s m args below meth c C H locs ls hP hS hl
  exact W.imp MQ.x (W.vret C.1 C.2.1 (C.2.2.2.1.trans hr) (fun t ht _ => po_of hq hP hS ht) hS.2.2 d C.2.2.2.2.1)
end Rules
end
section
/-! A METHOD's JUDGEMENT, and calls -/
def MetX (l : Launch) (y : MethodName) (ws : List Cond) (rm : Room) (Pc : Array Value → State → Prop) (Qc : Array Value → State → Outcome → State → Prop) (free : Addr → Prop) : Prop :=
  MetFree l y (headSpec ws rm) Pc (fun _ _ _ _ _ => True) (fun a st oc t => Qc a st oc t ∧ ∃ L, (st.WarmedH t.vm ∧ st.sameButNew ({ t with vm := st.vm } : State) L 0 0) ∧ ∀ q ∈ L, free q.base)
theorem MetX.met {l : Launch} {y : MethodName} {ws : List Cond} {rm : Room} {Pc : Array Value → State → Prop} {Qc : Array Value → State → Outcome → State → Prop} {free : Addr → Prop} (h : MetX l y ws rm Pc Qc free) (hr : ∀ a st oc t, Qc a st oc t → ∃ v, oc = .returned v) : Met l y ws rm Pc Qc 0 0 free := by
  intro p e h1 h2 h3 s m args below h4 h5 h6 h7
  obtain ⟨n, oc, g1, g2, g3, g4, L, g5, g6⟩ := h p e h1 h2 h3 s m args below h4 h5 h6 h7
  exact ⟨n, oc, g1, g2, g3, g4, L, ⟨hr _ _ _ _ g4, g5.1, g5.2⟩, g6⟩
/-- a method's start: its arguments, the world -/
def CP (D : va_G) (ad : Nat → Nat) (kA : Nat → ClassId) (M : Mem) : State → Prop := fun U => va_P D cls (wl ad kA M) U.heap ∧ va_K D cls (tyK kA) U ∧ apart ad ∧ Out ad U U.heap
def Cal (l : Launch) (D : va_G) (ad : Nat → Nat) (kA : Nat → ClassId) (mi : MI) (av : List Value) (M : Mem) (Q : Outcome → Mem → Prop) : Prop :=
  MetX l mi.y (wsOf mi) (rmOf mi) (va_Pc av (CP D ad kA M)) (Po D ad kA Q) (AW ad)
section Calls1
variable {l : Launch} {D : va_G} {ad : Nat → Nat} {kA : Nat → ClassId} {mi mi2 : MI} {pc : Nat} {lo : List (Option Value)} {rest : List Value} {M : Mem} {Q : Outcome → Mem → Prop}
theorem CP.blind {av : List Value} : FrameBlind (va_Pc av (CP D ad kA M)) := by
  intro a U g mk h
  obtain ⟨h0, h1, h2, h3, h4⟩ := h
  exact ⟨h0, h1, va_K.moved (u := U) (U := U.calling g mk a) (Vm.Alike.refl U.vm) h2, h3, Out.same (U := U.calling g mk a) (u := U) rfl h4⟩
theorem Cal.of {av : List Value} (hy : plainName mi.y.cls = true) (hh : mi.hh = []) (hlo : lv_args 0 av = lp lo) (hlen : (lg_sl av).length ≤ mi.nL) (K : Fw l D ad kA mi 0 lo [] M Q) : Cal l D ad kA mi av M Q := by
  unfold Cal MetX
  refine MetFree.of_bodyS (code := mi.cc) (maxLocals := mi.nL) (ret := mi.ret) hy ?_ ?_
  · intro args s m h hn
    obtain ⟨meth, c, h1, h2, h3, h4, h5, h6, -, -⟩ := Cond.code_spec hn (atoms_spec (ws := wsOf mi) h _ List.mem_cons_self)
    exact ⟨meth, c, h1, h2, h3, h4, h5, h6⟩
  · intro p e s m args below meth c s₁ B hml hP _
    have hh0 : s₁.heap = s.heap := by rw [B.state]; rfl
    obtain ⟨rfl, hP, hK, hap, hO⟩ := hP
    have hts : ∀ w ∈ wsOf mi, w.before av.toArray s = true := atoms_spec (ws := wsOf mi) B.pre
    have hex : c.exceptionTable.isEmpty = true := BodyLoose.noHandlers B (hts _ List.mem_cons_self)
    have hl := lv_entry av (n := mi.nL) hlen
    have C : Cx D ad kA mi p s m av.toArray meth c := ⟨B.exec, B.bytes, hml, B.returns, B.notSynchronized, findClass_of_methodNamed B.named, fun w hw => hts w (List.mem_cons_of_mem _ hw), hK, hap, hO, by
      rw [hh]
      have : c.exceptionTable = #[] := by simpa using hex
      rw [this]; rfl⟩
    have k := K p e s m av.toArray below meth c C s.heap [] _ hP va_S.rf (by rw [← hlo]; exact hl)
    rw [← lg_entry_eq] at k
    obtain ⟨t, a1, oc, b1, b2, b3⟩ := k s₁ hh0 (Stand.of_body B)
    exact ⟨t, oc, a1, b1, b2, b3⟩
theorem Cal.imp {av : List Value} {Q' : Outcome → Mem → Prop} (h : ∀ oc M', Q oc M' → Q' oc M') (k : Cal l D ad kA mi av M Q) : Cal l D ad kA mi av M Q' := by
  intro p e h1 h2 h3 s m args below h4 h5 h6 h7
  obtain ⟨n, oc, g1, g2, g3, ⟨⟨M', q1, q2⟩, q3⟩, g5⟩ := k p e h1 h2 h3 s m args below h4 h5 h6 h7
  exact ⟨n, oc, g1, g2, g3, ⟨⟨M', h _ _ q1, q2⟩, q3⟩, g5⟩
theorem Fw.imp {st : List Value} {Q' : Outcome → Mem → Prop} (h : ∀ oc M', Q oc M' → Q' oc M') (k : Fw l D ad kA mi pc lo st M Q) : Fw l D ad kA mi pc lo st M Q' := by
  intro p e s m args below meth c C H locs ls hP hS hl
  refine W.imp ?_ (k p e s m args below meth c C H locs ls hP hS hl)
  rintro t ⟨oc, g1, g2, ⟨⟨M', q1, q2⟩, q3⟩, g5⟩
  exact ⟨oc, g1, g2, ⟨⟨M', h _ _ q1, q2⟩, q3⟩, g5⟩
theorem good_ws (h : Cond.code mi2.y mi2.cc mi2.nL mi2.ret ∈ lw_w) : GoodIn lw_w (wsOf mi2) := by
  intro w hw
  have hm : w ∈ lw_w := by
    rcases List.mem_cons.mp hw with rfl | hw
    · exact h
    · exact hw
  exact ⟨hm, good_of_word (List.mem_filter.mp hm).2⟩
/-- a call's link -/
def Mk (own : String) (index : Nat) (mi2 : MI) (n : Nat) : Prop := Cond.methodLink own index mi2.y ∈ lw_w ∧ Cond.initialized mi2.y.cls ∈ lw_w ∧ Cond.code mi2.y mi2.cc mi2.nL mi2.ret ∈ lw_w ∧ (mi2.y.cls ≠ "java/lang/invoke/MethodHandle" ∧ mi2.y.cls ≠ "java/lang/invoke/VarHandle" ∧ (parseMethodDescriptor mi2.y.desc).map (fun d => d.parameters.length) = some n)
def MkV (mi2 : MI) : Prop := Cond.instanceMethod mi2.y ∈ lw_w ∧ Cond.selects mi2.y.cls mi2.y mi2.y ∈ lw_w
def Rm (mi mi2 : MI) : Prop := mi2.fr + 1 ≤ mi.fr ∧ 8 + (mi2.nL + 11) + mi2.lw ≤ mi.lw
theorem call_go {p : Program} {e : Env} {R : Room} {s : State} {m : MethodId} {args : Array Value} {below : List Frame} {meth : Method} {c : Code} {H H0 : Heap} {locs : List Loc} {a : Array Value} {ls : Array Slot} {st0 : List Value} {Q1 : State → Prop} {Q' : Outcome → Mem → Prop}
    (hr : va_Run p l e R s m args below meth c H locs 0 0 0 0 (F0 m pc ls st0) rest (Po D ad kA Q' a) (AW ad)) (hS : va_S (AW ad) H0 H locs)
    (kk : ∀ (v : Option Value) (M' : Mem) (H1 : Heap) (locs1 : List Loc), Q' (.returned v) M' → va_P D cls (wl ad kA M') H1 → va_S (AW ad) H0 H1 locs1 → W p l e R s m args below meth c H1 locs1 0 0 Q1 (F0 m (pc + 3) ls (v.toList ++ rest))) : W p l e R s m args below meth c H locs 0 0 Q1 (F0 m pc ls st0) := by
  intro T hT X
  obtain ⟨v, st₀, t, T', L, h0, X', hL, e1, e2, ⟨⟨M', hq, hP1⟩, hz, hk⟩, st⟩ := hr T hT X
  rw [h0] at hz hk
  obtain ⟨t2, a1, b1⟩ := kk v M' T'.heap (locs ++ L) hq (by rw [e1]; exact hP1)
    ⟨Nat.le_trans hS.1 (by rw [e1]; exact hz), fun q h1 h2 => by rw [e1, hk q (Nat.lt_of_lt_of_le h1 hS.1) h2]; exact hS.2.1 q h1 h2, fun q hq => by
      rcases List.mem_append.mp hq with h | h
      · exact hS.2.2 q h
      · exact hL q h⟩ T' rfl X'
  exact ⟨t2, st t2 a1, b1⟩
theorem CP.at {p : Program} {s : State} {m : MethodId} {args : Array Value} {meth : Method} {c : Code} {H : Heap} {locs : List Loc} (C : Cx D ad kA mi p s m args meth c) (hP : va_P D cls (wl ad kA M) H) (hS : va_S (AW ad) s.heap H locs) : ∀ U : State, U.heap = H → s.WarmedH U.vm → CP D ad kA M U := fun U hU hW => ⟨by rw [hU]; exact hP, va_K.moved hW.alike C.2.2.2.2.2.2.2.1, C.2.2.2.2.2.2.2.2.1, by rw [hU]; exact Out.warm hW hS.2.1 C.2.2.2.2.2.2.2.2.2.1⟩
theorem recv_at {p : Program} {s : State} {m : MethodId} {args : Array Value} {meth : Method} {c : Code} {H : Heap} {x ci : Nat} {fs : List (Nat × Nat)} {q : vw_C} (C : Cx D ad kA mi p s m args meth c) (hP : va_P D cls (wl ad kA M) H) (hs : shL[x]? = some (.inr (ci, fs))) (hc : cls[ci]? = some q) : ∃ cell : Cell, H[ad x]? = some cell ∧ cell.vm.isStatics = false ∧ s.vm.findClass q.1 = some cell.cls := va_recv C.2.2.2.2.2.2.2.1 hP hc (wl_at hs)
/-- a call that returns: the receiver a cell of the world -/
theorem r_callV {x index n : Nat} {As st : List Value} (d : decode mi.cc pc = .ok (.invokevirtual index, 3)) (hk : Mk mi.y.cls index mi2 n) (hv : MkV mi2) (hR : Rm mi mi2) (hst : st = As.reverse ++ .ref (ad x) :: rest) (hn : As.length = n) (hx : (do let sh ← shL[x]?; match sh with | .inr q => (cls[q.1]?).map (fun t => t.1) | .inl _ => none) = some mi2.y.cls) (hw : (rest.map fun v => v.category).sum ≤ 8)
    (K : Cal l D ad kA mi2 (.ref (ad x) :: As) M (fun oc M' => ∃ v, oc = .returned v ∧ Fw l D ad kA mi (pc + 3) lo (v.toList ++ rest) M' Q)) : Fw l D ad kA mi pc lo st M Q := by
  intro p e s m args below meth c C H locs ls hP hS hl
  subst hst
  have hts := C.2.2.2.2.2.2.1
  cases hsx : shL[x]? with
  | none => rw [hsx] at hx; cases hx
  | some sh =>
    rw [hsx] at hx
    cases sh with
    | inl q => cases hx
    | inr q =>
      cases hcq : cls[q.1]? with
      | none => simp only [Option.bind_eq_bind, Option.bind_some, hcq] at hx; cases hx
      | some t =>
        simp only [Option.bind_eq_bind, Option.bind_some, hcq, Option.map_some, Option.some.injEq] at hx
        have hrec := recv_at C hP (ci := q.1) (fs := q.2) hsx hcq
        rw [hx] at hrec
        refine call_go (Q' := fun oc M' => ∃ v, oc = .returned v ∧ Fw l D ad kA mi (pc + 3) lo (v.toList ++ rest) M' Q) (va_runV (cc := mi.cc) (As := As) (rest := rest) (Ts := lw_w) (own := mi.y.cls) (C := mi2.y.cls) (index := index) (bytes := mi2.cc) (maxL := mi2.nL) (ret := mi2.ret) (n := n) ⟨C.1, C.2.1, C.2.2.1, C.2.2.2.2.2.1, hts⟩ (K.met ?_) ⟨callB_of n hts (good_ws hk.2.2.1) rfl rfl rfl (hts _ hk.2.1) (hts _ hk.1) hk.2.2.2 hR, hts _ hv.1, hts _ hv.2⟩ ⟨CP.blind, hrec, fun U hU hW => ⟨rfl, CP.at C hP hS U hU hW⟩⟩ rfl hn hl.1 rfl (lv_room hw) d ⟨Nat.le_refl 0, Nat.le_refl 0⟩) hS ?_
        · rintro a st oc t ⟨⟨M', ⟨v, h, -⟩, -⟩, -⟩
          exact ⟨v, h⟩
        · rintro v M' H1 locs1 ⟨v', h1, h2⟩ hP1 hS1
          cases h1
          exact h2 p e s m args below meth c C H1 locs1 ls hP1 hS1 hl
/-- the same, the receiver a String constant -/
theorem r_callT {i index n : Nat} {As st : List Value} (d : decode mi.cc pc = .ok (.invokevirtual index, 3)) (hk : Mk mi.y.cls index mi2 n) (hv : MkV mi2) (hR : Rm mi mi2) (hst : st = As.reverse ++ .ref (ad (210 + i)) :: rest) (hn : As.length = n) (hi : i < 15) (hy : mi2.y.cls = "java/lang/String") (hw : (rest.map fun v => v.category).sum ≤ 8)
    (K : Cal l D ad kA mi2 (.ref (ad (210 + i)) :: As) M (fun oc M' => ∃ v, oc = .returned v ∧ Fw l D ad kA mi (pc + 3) lo (v.toList ++ rest) M' Q)) : Fw l D ad kA mi pc lo st M Q := by
  intro p e s m args below meth c C H locs ls hP hS hl
  subst hst
  have hts := C.2.2.2.2.2.2.1
  have hrec : ∃ cell : Cell, H[ad (210 + i)]? = some cell ∧ cell.vm.isStatics = false ∧ s.vm.findClass mi2.y.cls = some cell.cls := by
    obtain ⟨cell, h1, h2, h3, -⟩ := (C.2.2.2.2.2.2.2.2.2.1.2.2.1 i hi).2.1.kept hS.2.1
    exact ⟨cell, h1, h2, by rw [hy]; exact h3⟩
  refine call_go (Q' := fun oc M' => ∃ v, oc = .returned v ∧ Fw l D ad kA mi (pc + 3) lo (v.toList ++ rest) M' Q) (va_runV (cc := mi.cc) (As := As) (rest := rest) (Ts := lw_w) (own := mi.y.cls) (C := mi2.y.cls) (index := index) (bytes := mi2.cc) (maxL := mi2.nL) (ret := mi2.ret) (n := n) ⟨C.1, C.2.1, C.2.2.1, C.2.2.2.2.2.1, hts⟩ (K.met ?_) ⟨callB_of n hts (good_ws hk.2.2.1) rfl rfl rfl (hts _ hk.2.1) (hts _ hk.1) hk.2.2.2 hR, hts _ hv.1, hts _ hv.2⟩ ⟨CP.blind, hrec, fun U hU hW => ⟨rfl, CP.at C hP hS U hU hW⟩⟩ rfl hn hl.1 rfl (lv_room hw) d ⟨Nat.le_refl 0, Nat.le_refl 0⟩) hS ?_
  · rintro a st oc t ⟨⟨M', ⟨v, h, -⟩, -⟩, -⟩
    exact ⟨v, h⟩
  · rintro v M' H1 locs1 ⟨v', h1, h2⟩ hP1 hS1
    cases h1
    exact h2 p e s m args below meth c C H1 locs1 ls hP1 hS1 hl
theorem r_callS {index n : Nat} {As st : List Value} (d : decode mi.cc pc = .ok (.invokestatic index, 3)) (hk : Mk mi.y.cls index mi2 n) (hv : Cond.static mi2.y ∈ lw_w) (hR : Rm mi mi2) (hst : st = As.reverse ++ rest) (hn : As.length = n) (hw : (rest.map fun v => v.category).sum ≤ 8)
    (K : Cal l D ad kA mi2 As M (fun oc M' => ∃ v, oc = .returned v ∧ Fw l D ad kA mi (pc + 3) lo (v.toList ++ rest) M' Q)) : Fw l D ad kA mi pc lo st M Q := by
  intro p e s m args below meth c C H locs ls hP hS hl
  subst hst
  have hts := C.2.2.2.2.2.2.1
  refine call_go (Q' := fun oc M' => ∃ v, oc = .returned v ∧ Fw l D ad kA mi (pc + 3) lo (v.toList ++ rest) M' Q) (va_runS (cc := mi.cc) (As := As) (rest := rest) (Ts := lw_w) (own := mi.y.cls) (index := index) (bytes := mi2.cc) (maxL := mi2.nL) (ret := mi2.ret) (n := n) ⟨C.1, C.2.1, C.2.2.1, C.2.2.2.2.2.1, hts⟩ (K.met ?_) ⟨callB_of n hts (good_ws hk.2.2.1) rfl rfl rfl (hts _ hk.2.1) (hts _ hk.1) hk.2.2.2 hR, hts _ hv⟩ ⟨CP.blind, fun U hU hW => ⟨rfl, CP.at C hP hS U hU hW⟩⟩ rfl hn hl.1 rfl (lv_room hw) d ⟨Nat.le_refl 0, Nat.le_refl 0⟩) hS ?_
  · rintro a st oc t ⟨⟨M', ⟨v, h, -⟩, -⟩, -⟩
    exact ⟨v, h⟩
  · rintro v M' H1 locs1 ⟨v', h1, h2⟩ hP1 hS1
    cases h1
    exact h2 p e s m args below meth c C H1 locs1 ls hP1 hS1 hl
end Calls1
end
section
/-! Math's three, arraycopy, a static method of a nest mate -/
theorem w_min : Cond.static Lib.Math.min.name ∈ lw_w ∧ Cond.code Lib.Math.min.name Lib.Math.min.code 2 (some .int) ∈ lw_w := ⟨lw_in (i := 619) (by decide +kernel) (by decide +kernel), lw_in (i := 620) (by decide +kernel) (by decide +kernel)⟩
theorem w_max : Cond.static Lib.Math.max.name ∈ lw_w ∧ Cond.code Lib.Math.max.name Lib.Math.max.code 2 (some .int) ∈ lw_w := ⟨lw_in (i := 883) (by decide +kernel) (by decide +kernel), lw_in (i := 884) (by decide +kernel) (by decide +kernel)⟩
theorem w_abs : Cond.static Lib.Math.abs.name ∈ lw_w ∧ Cond.code Lib.Math.abs.name Lib.Math.abs.code 1 (some .int) ∈ lw_w := ⟨lw_in (i := 928) (by decide +kernel) (by decide +kernel), lw_in (i := 929) (by decide +kernel) (by decide +kernel)⟩
theorem w_math : Cond.initialized "java/lang/Math" ∈ lw_w := lw_in (i := 22) (by decide +kernel) (by decide +kernel)
theorem w_copy : Cond.static arraycopyName ∈ lw_w ∧ Cond.native arraycopyName ∈ lw_w := ⟨lw_in (i := 154) (by decide +kernel) (by decide +kernel), lw_in (i := 155) (by decide +kernel) (by decide +kernel)⟩
theorem w_sys : Cond.initialized "java/lang/System" ∈ lw_w := by decide +kernel
def mcp (M : Mem) (c d n : Nat) : Mem := (fun a b => if a = d ∧ b < n then M.1 c b else M.1 a b, M.2)
theorem gI_mcp (M : Mem) (c d n a b : Nat) : gI (mcp M c d n) a b = if a = d ∧ b < n then gI M c b else gI M a b := rfl
theorem gL_mcp (M : Mem) (c d n a b : Nat) : gL (mcp M c d n) a b = gL M a b := rfl
section More1
variable {l : Launch} {D : va_G} {ad : Nat → Nat} {kA : Nat → ClassId} {mi mi2 : MI} {pc : Nat} {lo : List (Option Value)} {rest : List Value} {M : Mem} {Q : Outcome → Mem → Prop}
theorem r_mmin {x y : Int32} {index : Nat} (d : decode mi.cc pc = .ok (.invokestatic index, 3)) (hk : Cond.methodLink mi.y.cls index Lib.Math.min.name ∈ lw_w) (hf : 1 ≤ mi.fr) (hw : (rest.map fun v => v.category).sum + 13 ≤ mi.lw) (K : Fw l D ad kA mi (pc + 3) lo (.int (if y < x then y else x) :: rest) M Q) : Fw l D ad kA mi pc lo (.int y :: .int x :: rest) M Q := by
  intro p e s m args below meth c C H locs ls hP hS hl
  have hts := C.2.2.2.2.2.2.1
  exact va_mmin C.1 C.2.1 (C.2.2.1.trans hl.1.symm) C.2.2.2.2.2.1 (hts _ hk) (hts _ w_min.1) (hts _ w_math) (hts _ w_min.2) hf hw (Nat.le_refl 0) (Nat.le_refl 0) d (K p e s m args below meth c C H locs ls hP hS hl)
theorem r_mmax {x y : Int32} {index : Nat} (d : decode mi.cc pc = .ok (.invokestatic index, 3)) (hk : Cond.methodLink mi.y.cls index Lib.Math.max.name ∈ lw_w) (hf : 1 ≤ mi.fr) (hw : (rest.map fun v => v.category).sum + 13 ≤ mi.lw) (K : Fw l D ad kA mi (pc + 3) lo (.int (if x < y then y else x) :: rest) M Q) : Fw l D ad kA mi pc lo (.int y :: .int x :: rest) M Q := by
  intro p e s m args below meth c C H locs ls hP hS hl
  have hts := C.2.2.2.2.2.2.1
  exact va_mmax C.1 C.2.1 (C.2.2.1.trans hl.1.symm) C.2.2.2.2.2.1 (hts _ hk) (hts _ w_max.1) (hts _ w_math) (hts _ w_max.2) hf hw (Nat.le_refl 0) (Nat.le_refl 0) d (K p e s m args below meth c C H locs ls hP hS hl)
theorem r_mabs {x : Int32} {index : Nat} (d : decode mi.cc pc = .ok (.invokestatic index, 3)) (hk : Cond.methodLink mi.y.cls index Lib.Math.abs.name ∈ lw_w) (hf : 1 ≤ mi.fr) (hw : (rest.map fun v => v.category).sum + 13 ≤ mi.lw) (K : Fw l D ad kA mi (pc + 3) lo (.int (if 0 ≤ x then x else 0 - x) :: rest) M Q) : Fw l D ad kA mi pc lo (.int x :: rest) M Q := by
  intro p e s m args below meth c C H locs ls hP hS hl
  have hts := C.2.2.2.2.2.2.1
  exact va_mabs C.1 C.2.1 (C.2.2.1.trans hl.1.symm) C.2.2.2.2.2.1 (hts _ hk) (hts _ w_abs.1) (hts _ w_math) (hts _ w_abs.2) hf hw (Nat.le_refl 0) (Nat.le_refl 0) d (K p e s m args below meth c C H locs ls hP hS hl)
/-- arraycopy of ints from the begin to the begin -/
theorem r_copy {c1 c2 n1 n2 index : Nat} {n : Int32} (d : decode mi.cc pc = .ok (.invokestatic index, 3)) (hk : Cond.methodLink mi.y.cls index arraycopyName ∈ lw_w) (hf : 1 ≤ mi.fr) (hw : (rest.map fun v => v.category).sum + (nativeFrameWords "java/lang/System" "arraycopy" 5 + 11) ≤ mi.lw) (h1 : shL[c1]? = some (.inl (0, n1))) (h2 : shL[c2]? = some (.inl (0, n2))) (h3 : ¬ n < 0) (h4 : n.toNatClampNeg ≤ n1) (h5 : n.toNatClampNeg ≤ n2) (K : Fw l D ad kA mi (pc + 3) lo rest (mcp M c1 c2 n.toNatClampNeg) Q) : Fw l D ad kA mi pc lo (.int n :: .int 0 :: .ref (ad c2) :: .int 0 :: .ref (ad c1) :: rest) M Q := by
  intro p e s m args below meth c C H locs ls hP hS hl
  have hts := C.2.2.2.2.2.2.1
  have hz : (0 : Int32).toNatClampNeg = 0 := by decide
  refine va_copyi C.1 C.2.1 (C.2.2.1.trans hl.1.symm) C.2.2.2.2.2.1 (hts _ hk) (hts _ w_copy.2) (hts _ w_copy.1) (hts _ w_sys) C.2.2.2.2.2.2.2.1 hP (wl_D C.2.2.2.2.2.2.2.2.1) hS c1 c2 0 0 (wl_at h1) (wl_at h2) rfl rfl rfl (by decide) (by decide) h3 (by rw [hz]; omega) (by rw [hz]; omega) (fun _ _ => rfl) hf hw d (fun H1 locs1 hP1 _ hS1 => K p e s m args below meth c C H1 locs1 ls ?_ hS1 hl)
  have e1 : ce ad kA (mcp M c1 c2 n.toNatClampNeg) c2 (.inl (0, n2)) = .inl (kA 0, n2, .inl (va_cpy (gI M c1) (gI M c2) (0 : Int32).toNatClampNeg (0 : Int32).toNatClampNeg n.toNatClampNeg)) := by
    have : gI (mcp M c1 c2 n.toNatClampNeg) c2 = va_cpy (gI M c1) (gI M c2) (0 : Int32).toNatClampNeg (0 : Int32).toNatClampNeg n.toNatClampNeg := by
      funext b
      rw [gI_mcp, hz]
      simp [va_cpy]
    simp only [ce, this]
    rfl
  have e2 : ∀ (j : Nat) (sh : Shp), j ≠ c2 → ce ad kA (mcp M c1 c2 n.toNatClampNeg) j sh = ce ad kA M j sh := by
    intro j sh hj
    have g1 : gI (mcp M c1 c2 n.toNatClampNeg) j = gI M j := by funext b; rw [gI_mcp, if_neg (fun h => hj h.1)]
    have g2 : gL (mcp M c1 c2 n.toNatClampNeg) j = gL M j := by funext b; rfl
    have g3 : fv ad (mcp M c1 c2 n.toNatClampNeg) j = fv ad M j := by funext b f; simp only [fv, g1, g2]
    cases sh with
    | inl a => simp only [ce, g1, g2]
    | inr q => simp only [ce, g3]
  have hP2 : va_P D cls ((wl ad kA M).set c2 (ad c2, .inl (kA 0, n2, .inl (va_cpy (gI M c1) (gI M c2) (0 : Int32).toNatClampNeg (0 : Int32).toNatClampNeg n.toNatClampNeg)))) H1 := hP1
  rw [← e1, wl_set h2 e2] at hP2
  exact hP2
/-- a static method of a nest mate: isBell alone -/
theorem r_callN {index n : Nat} {As st : List Value} (d : decode mi.cc pc = .ok (.invokestatic index, 3)) (hm : mi2.y = yX11_isBell) (hq : (mi.y.cls, index) ∈ nestL) (hi : Cond.initialized mi2.y.cls ∈ lw_w) (hc : Cond.code mi2.y mi2.cc mi2.nL mi2.ret ∈ lw_w) (hd : mi2.y.cls ≠ "java/lang/invoke/MethodHandle" ∧ mi2.y.cls ≠ "java/lang/invoke/VarHandle" ∧ (parseMethodDescriptor mi2.y.desc).map (fun d => d.parameters.length) = some n) (hv : Cond.static mi2.y ∈ lw_w) (hR : Rm mi mi2) (hst : st = As.reverse ++ rest) (hn : As.length = n) (hw : (rest.map fun v => v.category).sum ≤ 8)
    (K : Cal l D ad kA mi2 As M (fun oc M' => ∃ v, oc = .returned v ∧ Fw l D ad kA mi (pc + 3) lo (v.toList ++ rest) M' Q)) : Fw l D ad kA mi pc lo st M Q := by
  intro p e s m args below meth c C H locs ls hP hS hl
  subst hst
  have hts := C.2.2.2.2.2.2.1
  have hN := C.2.2.2.2.2.2.2.2.2.1.2.2.2.1 _ hq
  rw [← hm] at hN
  refine call_go (Q' := fun oc M' => ∃ v, oc = .returned v ∧ Fw l D ad kA mi (pc + 3) lo (v.toList ++ rest) M' Q) (va_runSN (cc := mi.cc) (As := As) (rest := rest) (Ts := lw_w) (own := mi.y.cls) (host := "BellTable") (index := index) (bytes := mi2.cc) (maxL := mi2.nL) (ret := mi2.ret) (n := n) ⟨C.1, C.2.1, C.2.2.1, C.2.2.2.2.2.1, hts⟩ (K.met ?_) ⟨va_cnB n hts (good_ws hc) rfl rfl rfl hN (hts _ hi) hd hR, hts _ hv, trivial⟩ ⟨CP.blind, fun U hU hW => ⟨rfl, CP.at C hP hS U hU hW⟩⟩ rfl hn hl.1 rfl (lv_room hw) d ⟨Nat.le_refl 0, Nat.le_refl 0⟩) hS ?_
  · rintro a st oc t ⟨⟨M', ⟨v, h, -⟩, -⟩, -⟩
    exact ⟨v, h⟩
  · rintro v M' H1 locs1 ⟨v', h1, h2⟩ hP1 hS1
    cases h1
    exact h2 p e s m args below meth c C H1 locs1 ls hP1 hS1 hl
end More1
end
section
/-! Rules in the form that the printed walks use -/
def imin (x y : Int32) : Int32 := if y < x then y else x
def imax (x y : Int32) : Int32 := if x < y then y else x
def iabs (x : Int32) : Int32 := if 0 ≤ x then x else 0 - x
def lushr (x : Int64) (y : Int32) : Int64 := (x.toUInt64 >>> (y.toInt64.toUInt64 &&& Int64.toUInt64 63)).toInt64
def lshl (x : Int64) (y : Int32) : Int64 := x <<< (y.toInt64 &&& 63)
def lshr (x : Int64) (y : Int32) : Int64 := x >>> (y.toInt64 &&& 63)
def LoS : List (Option Value) → List (Option Value) → Prop
  | [], _ => True
  | none :: a, b => LoS a b.tail
  | some v :: a, b => b.head? = some (some v) ∧ LoS a b.tail
theorem LoS.sub : ∀ {a b : List (Option Value)}, LoS a b → ∀ (i : Nat) (v : Value), a[i]? = some (some v) → b[i]? = some (some v)
  | [], _, _, i, v, h => by simp at h
  | none :: a, b, hL, i, v, h => by
    cases i with
    | zero => simp at h
    | succ i =>
      have h1 := LoS.sub (a := a) (b := b.tail) hL i v (by simpa using h)
      simpa using h1
  | some w :: a, b, hL, i, v, h => by
    cases i with
    | zero =>
      have h1 : w = v := by simpa using h
      subst h1
      have h2 := hL.1
      rw [List.head?_eq_getElem?] at h2
      exact h2
    | succ i =>
      have h1 := LoS.sub (a := a) (b := b.tail) hL.2 i v (by simpa using h)
      simpa using h1
def drL : Option Value → Option Value
  | some (.long _) => none
  | some (.double _) => none
  | q => q
def drAt : Nat → Option Value → Option Value
  | 0, q => drL q
  | _ + 1, q => q
/-- a store, by places -/
def lsF : List (Option Value) → Nat → Value → List (Option Value)
  | [], _, _ => []
  | _ :: t, 0, v => some v :: t
  | q :: t, n + 1, v => drAt n q :: lsF t n v
def lsF2 : List (Option Value) → Nat → Value → List (Option Value)
  | [], _, _ => []
  | _ :: t, 0, v => some v :: (match t with | [] => [] | _ :: t' => none :: t')
  | q :: t, n + 1, v => drAt n q :: lsF2 t n v
theorem drL_some {q : Option Value} {w : Value} (h : drL q = some w) : q = some w ∧ isLg q = false := by
  cases q with
  | none => cases h
  | some a => cases a <;> first | (cases h; exact ⟨rfl, rfl⟩) | cases h
theorem lsF_at : ∀ (lo : List (Option Value)) (i j : Nat) (v w : Value), (lsF lo i v)[j]? = some (some w) → (j = i ∧ w = v ∧ j < lo.length) ∨ (j ≠ i ∧ lo[j]? = some (some w) ∧ (j + 1 = i → isLg (some w) = false))
  | [], i, j, v, w, h => by simp [lsF] at h
  | q :: t, 0, 0, v, w, h => by simp [lsF] at h; exact Or.inl ⟨rfl, h.symm, Nat.succ_pos _⟩
  | q :: t, 0, j + 1, v, w, h => by
    simp only [lsF, List.getElem?_cons_succ] at h
    exact Or.inr ⟨by omega, by simpa using h, fun e => by omega⟩
  | q :: t, i + 1, 0, v, w, h => by
    simp only [lsF, List.getElem?_cons_zero, Option.some.injEq] at h
    refine Or.inr ⟨by omega, ?_, fun e => ?_⟩
    · cases i with
      | zero => rw [List.getElem?_cons_zero, (drL_some h).1]
      | succ i => rw [List.getElem?_cons_zero]; exact congrArg some h
    · have : i = 0 := by omega
      subst this
      have := drL_some h
      rw [← this.1]; exact this.2
  | q :: t, i + 1, j + 1, v, w, h => by
    simp only [lsF, List.getElem?_cons_succ] at h
    rcases lsF_at t i j v w h with ⟨h1, h2, h3⟩ | ⟨h1, h2, h3⟩
    · exact Or.inl ⟨by omega, h2, by simp; omega⟩
    · exact Or.inr ⟨by omega, by simpa using h2, fun e => h3 (by omega)⟩
theorem lsF2_at : ∀ (lo : List (Option Value)) (i j : Nat) (v w : Value), (lsF2 lo i v)[j]? = some (some w) → (j = i ∧ w = v ∧ j < lo.length) ∨ (j ≠ i ∧ j ≠ i + 1 ∧ lo[j]? = some (some w) ∧ (j + 1 = i → isLg (some w) = false))
  | [], i, j, v, w, h => by simp [lsF2] at h
  | q :: t, 0, 0, v, w, h => by simp [lsF2] at h; exact Or.inl ⟨rfl, h.symm, Nat.succ_pos _⟩
  | [q], 0, j + 1, v, w, h => by simp [lsF2] at h
  | q :: r :: t, 0, 1, v, w, h => by simp [lsF2] at h
  | q :: r :: t, 0, j + 2, v, w, h => by
    simp only [lsF2, List.getElem?_cons_succ] at h
    exact Or.inr ⟨by omega, by omega, by simpa using h, fun e => by omega⟩
  | q :: t, i + 1, 0, v, w, h => by
    simp only [lsF2, List.getElem?_cons_zero, Option.some.injEq] at h
    refine Or.inr ⟨by omega, by omega, ?_, fun e => ?_⟩
    · cases i with
      | zero => rw [List.getElem?_cons_zero, (drL_some h).1]
      | succ i => rw [List.getElem?_cons_zero]; exact congrArg some h
    · have : i = 0 := by omega
      subst this
      have := drL_some h
      rw [← this.1]; exact this.2
  | q :: t, i + 1, j + 1, v, w, h => by
    simp only [lsF2, List.getElem?_cons_succ] at h
    rcases lsF2_at t i j v w h with ⟨h1, h2, h3⟩ | ⟨h1, h1', h2, h3⟩
    · exact Or.inl ⟨by omega, h2, by simp; omega⟩
    · exact Or.inr ⟨by omega, by omega, by simpa using h2, fun e => h3 (by omega)⟩
theorem lsF_sub {lo : List (Option Value)} {i : Nat} {v : Value} (j : Nat) (w : Value) (h : (lsF lo i v)[j]? = some (some w)) : (lset lo i v)[j]? = some (some w) := by
  rcases lsF_at lo i j v w h with ⟨h1, h2, h3⟩ | ⟨h1, h2, h3⟩
  · subst h1; subst h2
    simp [lset, List.getElem?_mapIdx, List.getElem?_eq_getElem h3]
  · simp only [lset, List.getElem?_mapIdx, h2, Option.map_some, if_neg h1]
    by_cases e : j + 1 = i
    · rw [if_neg (fun q => by rw [h3 e] at q; exact absurd q.2 (by decide))]
    · rw [if_neg (fun q => e q.1)]
theorem lsF2_sub {lo : List (Option Value)} {i : Nat} {v : Value} (j : Nat) (w : Value) (h : (lsF2 lo i v)[j]? = some (some w)) : (lset2 lo i v)[j]? = some (some w) := by
  rcases lsF2_at lo i j v w h with ⟨h1, h2, h3⟩ | ⟨h1, h1', h2, h3⟩
  · subst h1; subst h2
    simp [lset2, List.getElem?_mapIdx, List.getElem?_eq_getElem h3]
  · simp only [lset2, List.getElem?_mapIdx, h2, Option.map_some, if_neg h1, if_neg h1']
    by_cases e : j + 1 = i
    · rw [if_neg (fun q => by rw [h3 e] at q; exact absurd q.2 (by decide))]
    · rw [if_neg (fun q => e q.1)]
theorem ite01 {c : Prop} [Decidable c] {a b : Int32} (ha : a = 0 ∨ a = 1) (hb : b = 0 ∨ b = 1) : (if c then a else b) = 0 ∨ (if c then a else b) = 1 := by
  split
  · exact ha
  · exact hb
theorem nar_zb {v : Int32} (h : v = 0 ∨ v = 1) : vp_nar .boolean v = v := by
  rcases h with rfl | rfl <;> decide
theorem sw_out {x : Int32} (n : Nat) (h : ∀ q, q < n → ¬ x = Int32.ofNat q) (hn : n < 2 ^ 31 := by decide) : x.toInt < 0 ∨ ((n : Int) - 1) < x.toInt := by
  by_cases h0 : x.toInt < 0
  · exact Or.inl h0
  · refine Or.inr ?_
    by_cases h1 : ((n : Int) - 1) < x.toInt
    · exact h1
    · exfalso
      refine h x.toInt.toNat (by omega) ?_
      have h2 : (Int32.ofNat x.toInt.toNat).toInt = x.toInt := by
        have h3 := nI_toInt (n := x.toInt.toNat) (by omega)
        unfold nI at h3
        rw [h3]; omega
      exact (Int32.toInt_inj.mp h2).symm
section QRules
variable {l : Launch} {D : va_G} {ad : Nat → Nat} {kA : Nat → ClassId} {mi mi2 : MI} {pc : Nat} {lo lo' : List (Option Value)} {rest : List Value} {M : Mem} {Q : Outcome → Mem → Prop}
theorem q_istore_n {k : Fin 4} {x : Int32} (d : decode mi.cc pc = .ok (.istore_n k, 1)) (hn : k.val < mi.nL) (he : lsF lo k.val (.int x) = lo') (K : Fw l D ad kA mi (pc + 1) lo' rest M Q) : Fw l D ad kA mi pc lo (.int x :: rest) M Q := by subst he; exact r_istore_n d hn (r_weak lsF_sub K)
theorem q_istore {i : Nat} {x : Int32} (d : decode mi.cc pc = .ok (.istore i, 2)) (hn : i < mi.nL) (he : lsF lo i (.int x) = lo') (K : Fw l D ad kA mi (pc + 2) lo' rest M Q) : Fw l D ad kA mi pc lo (.int x :: rest) M Q := by subst he; exact r_istore d hn (r_weak lsF_sub K)
theorem q_astore_n {k : Fin 4} {x : Nat} (d : decode mi.cc pc = .ok (.astore_n k, 1)) (hn : k.val < mi.nL) (he : lsF lo k.val (.ref x) = lo') (K : Fw l D ad kA mi (pc + 1) lo' rest M Q) : Fw l D ad kA mi pc lo (.ref x :: rest) M Q := by subst he; exact r_astore_n d hn (r_weak lsF_sub K)
theorem q_lstore_n {k : Fin 4} {x : Int64} (d : decode mi.cc pc = .ok (.lstore_n k, 1)) (hn : k.val + 1 < mi.nL) (he : lsF2 lo k.val (.long x) = lo') (K : Fw l D ad kA mi (pc + 1) lo' rest M Q) : Fw l D ad kA mi pc lo (.long x :: rest) M Q := by subst he; exact r_lstore_n d hn (r_weak lsF2_sub K)
theorem q_lstore {i : Nat} {x : Int64} (d : decode mi.cc pc = .ok (.lstore i, 2)) (hn : i + 1 < mi.nL) (he : lsF2 lo i (.long x) = lo') (K : Fw l D ad kA mi (pc + 2) lo' rest M Q) : Fw l D ad kA mi pc lo (.long x :: rest) M Q := by subst he; exact r_lstore d hn (r_weak lsF2_sub K)
theorem q_iinc {i : Nat} {n : Int} {x v : Int32} (d : decode mi.cc pc = .ok (.iinc i n, 3)) (h : lo[i]? = some (some (.int x))) (hv : x + Int32.ofInt n = v) (hn : i < mi.nL) (he : lsF lo i (.int v) = lo') (K : Fw l D ad kA mi (pc + 3) lo' rest M Q) : Fw l D ad kA mi pc lo rest M Q := by subst he; exact r_iinc d h hv hn (r_weak lsF_sub K)
theorem q_weak {st : List Value} (h : LoS lo' lo) (K : Fw l D ad kA mi pc lo' st M Q) : Fw l D ad kA mi pc lo st M Q := r_weak h.sub K
theorem q_lushr {x : Int64} {y : Int32} (d : decode mi.cc pc = .ok (.lushr, 1)) (K : Fw l D ad kA mi (pc + 1) lo (.long (lushr x y) :: rest) M Q) : Fw l D ad kA mi pc lo (.int y :: .long x :: rest) M Q := r_lushr d K
theorem q_lshl {x : Int64} {y : Int32} (d : decode mi.cc pc = .ok (.lshl, 1)) (K : Fw l D ad kA mi (pc + 1) lo (.long (lshl x y) :: rest) M Q) : Fw l D ad kA mi pc lo (.int y :: .long x :: rest) M Q := r_lshl d K
theorem q_lshr {x : Int64} {y : Int32} (d : decode mi.cc pc = .ok (.lshr, 1)) (K : Fw l D ad kA mi (pc + 1) lo (.long (lshr x y) :: rest) M Q) : Fw l D ad kA mi pc lo (.int y :: .long x :: rest) M Q := r_lshr d K
theorem q_mmin {x y : Int32} {index : Nat} (d : decode mi.cc pc = .ok (.invokestatic index, 3)) (hk : Cond.methodLink mi.y.cls index Lib.Math.min.name ∈ lw_w) (hf : 1 ≤ mi.fr) (hw : (rest.map fun v => v.category).sum + 13 ≤ mi.lw) (K : Fw l D ad kA mi (pc + 3) lo (.int (imin x y) :: rest) M Q) : Fw l D ad kA mi pc lo (.int y :: .int x :: rest) M Q := r_mmin d hk hf hw K
theorem q_mmax {x y : Int32} {index : Nat} (d : decode mi.cc pc = .ok (.invokestatic index, 3)) (hk : Cond.methodLink mi.y.cls index Lib.Math.max.name ∈ lw_w) (hf : 1 ≤ mi.fr) (hw : (rest.map fun v => v.category).sum + 13 ≤ mi.lw) (K : Fw l D ad kA mi (pc + 3) lo (.int (imax x y) :: rest) M Q) : Fw l D ad kA mi pc lo (.int y :: .int x :: rest) M Q := r_mmax d hk hf hw K
theorem q_mabs {x : Int32} {index : Nat} (d : decode mi.cc pc = .ok (.invokestatic index, 3)) (hk : Cond.methodLink mi.y.cls index Lib.Math.abs.name ∈ lw_w) (hf : 1 ≤ mi.fr) (hw : (rest.map fun v => v.category).sum + 13 ≤ mi.lw) (K : Fw l D ad kA mi (pc + 3) lo (.int (iabs x) :: rest) M Q) : Fw l D ad kA mi pc lo (.int x :: rest) M Q := r_mabs d hk hf hw K
theorem q_zast {c n : Nat} {i : Int32} {v : Int32} (d : decode mi.cc pc = .ok (.bastore, 1)) (hs : shL[c]? = some (.inl (2, n))) (hin : vp_in i n) (hv : v = 0 ∨ v = 1) (K : Fw l D ad kA mi (pc + 1) lo rest (sI M c i.toNatClampNeg v) Q) : Fw l D ad kA mi pc lo (.int v :: .int i :: .ref (ad c) :: rest) M Q := r_zast d hs hin (by rw [nar_zb hv]; exact K)
theorem cal_i {av : List Value} (h : LoS lo' lo) (K : Cal l D ad kA mi2 av M (fun oc M2 => ∃ r : Int32, oc = .returned (some (.int r)) ∧ Fw l D ad kA mi pc lo' (.int r :: rest) M2 Q)) : Cal l D ad kA mi2 av M (fun oc M2 => ∃ v, oc = .returned v ∧ Fw l D ad kA mi pc lo (v.toList ++ rest) M2 Q) := K.imp (fun _ _ ⟨r, h1, h2⟩ => ⟨_, h1, q_weak h h2⟩)
theorem cal_l {av : List Value} (h : LoS lo' lo) (K : Cal l D ad kA mi2 av M (fun oc M2 => ∃ r : Int64, oc = .returned (some (.long r)) ∧ Fw l D ad kA mi pc lo' (.long r :: rest) M2 Q)) : Cal l D ad kA mi2 av M (fun oc M2 => ∃ v, oc = .returned v ∧ Fw l D ad kA mi pc lo (v.toList ++ rest) M2 Q) := K.imp (fun _ _ ⟨r, h1, h2⟩ => ⟨_, h1, q_weak h h2⟩)
theorem cal_v {av : List Value} (h : LoS lo' lo) (K : Cal l D ad kA mi2 av M (fun oc M2 => oc = .returned none ∧ Fw l D ad kA mi pc lo' rest M2 Q)) : Cal l D ad kA mi2 av M (fun oc M2 => ∃ v, oc = .returned v ∧ Fw l D ad kA mi pc lo (v.toList ++ rest) M2 Q) := K.imp (fun _ _ ⟨h1, h2⟩ => ⟨_, h1, q_weak h h2⟩)
theorem ldcwS {p : Program} {e : Env} {R : Room} {s : State} {m : MethodId} {args : Array Value} {below : List Frame} {meth : Method} {c : Code} {T : State} {locs : List Loc} {cells slots : Nat}
    (X : Stand p l e R s m args below meth c T locs cells slots) (hexec : p.tables.exec = Jvm.exec) {own text : String} {index : Nat} {a : Addr} (hown : s.vm.findClass own = some m.cls)
    (hZ : vk_R own index text a s) {g : JFrame} (hg : g.method = m) (hdg : decode c.code g.pc = .ok (.ldc_w index, 3)) :
    ∀ target, Steps p.tables e below (T.setTop { g with pc := g.pc + 3, stack := .ref a :: g.stack }) target → Steps p.tables e below (T.setTop g) target := by
  obtain ⟨k, cf, i, a', hk, hcf, hcp, -, hr, hev'⟩ := Cond.stringRef_spec hown hZ.1
  cases hZ.2.symm.trans hev'
  obtain ⟨k', hk', he⟩ := X.warmed.alike.2.2 _ _ hk
  have hr' : k'.resolved[index]? = some (some (.string a)) := by
    rcases X.warmed.entry hk hk' index with h | ⟨h, -⟩
    · rw [h]; exact hr
    · rw [hr] at h; cases h
  intro target hrest
  subst hg
  jvm_step X.here [hexec, hdg, ldc_w.wp_string (e := e) (s := T) (f := g) X.here.top hk' (by rw [he]; exact hcf) hcp hr']
  exact hrest
theorem r_ldcwS {i : Nat} (d : decode mi.cc pc = .ok (.ldc_w (scR.getD i ("", 0, "")).2.1, 3)) (hi : i < 15) (ho : (scR.getD i ("", 0, "")).1 = mi.y.cls) (K : Fw l D ad kA mi (pc + 3) lo (.ref (ad (210 + i)) :: rest) M Q) : Fw l D ad kA mi pc lo rest M Q := by
  intro p e s m args below meth c C H locs ls hP hS hl
  have hZ := (C.2.2.2.2.2.2.2.2.2.1.2.2.1 i hi).1
  rw [ho] at hZ
  intro T hT X
  obtain ⟨t, a1, b1⟩ := K p e s m args below meth c C H locs ls hP hS hl T hT X
  exact ⟨t, ldcwS X C.1 C.2.2.2.2.2.1 hZ (g := F0 m pc ls rest) rfl (by rw [C.2.1]; exact d) t a1, b1⟩
end QRules
end
