section
-- ===== PART A: goes FIRST, ahead of the names: the tables' words, and 'selects' of the private methods out of them =====
/-- a private method of a class that the tables say can be made, by its rows of tables_1 -/
def lw_okq (q : MethodName × Nat) : Prop := (q.1.cls ≠ "java/lang/invoke/MethodHandle" ∧ q.1.cls ≠ "java/lang/invoke/VarHandle") ∧ Cond.instantiable q.1.cls q.2 ∈ tables_1 ∧ Cond.privateMethod q.1 ∈ tables_1 ∧ Cond.instanceMethod q.1 ∈ tables_1
theorem lw_p0 : lw_okq (⟨"PlainMusic", "putBytes", "(I)V"⟩, 11) := ⟨⟨by decide +kernel, by decide +kernel⟩, List.mem_of_getElem? (i := 23) (by decide +kernel), List.mem_of_getElem? (i := 500) (by decide +kernel), List.mem_of_getElem? (i := 501) (by decide +kernel)⟩
theorem lw_p1 : lw_okq (⟨"PlainMusic$Tokens", "cutOne", "()Z"⟩, 13) := ⟨⟨by decide +kernel, by decide +kernel⟩, List.mem_of_getElem? (i := 37) (by decide +kernel), List.mem_of_getElem? (i := 527) (by decide +kernel), List.mem_of_getElem? (i := 528) (by decide +kernel)⟩
theorem lw_p2 : lw_okq (⟨"PlainMusic$Tokens", "skipBlanks", "()V"⟩, 13) := ⟨⟨by decide +kernel, by decide +kernel⟩, List.mem_of_getElem? (i := 37) (by decide +kernel), List.mem_of_getElem? (i := 531) (by decide +kernel), List.mem_of_getElem? (i := 532) (by decide +kernel)⟩
theorem lw_p3 : lw_okq (⟨"PlainMusic$Tokens", "byteAt", "(I)I"⟩, 13) := ⟨⟨by decide +kernel, by decide +kernel⟩, List.mem_of_getElem? (i := 37) (by decide +kernel), List.mem_of_getElem? (i := 535) (by decide +kernel), List.mem_of_getElem? (i := 536) (by decide +kernel)⟩
theorem lw_p4 : lw_okq (⟨"PlainMusic$Tokens", "cutPitch", "(I)V"⟩, 13) := ⟨⟨by decide +kernel, by decide +kernel⟩, List.mem_of_getElem? (i := 37) (by decide +kernel), List.mem_of_getElem? (i := 539) (by decide +kernel), List.mem_of_getElem? (i := 540) (by decide +kernel)⟩
theorem lw_p5 : lw_okq (⟨"PlainMusic$Tokens", "cutName", "()V"⟩, 13) := ⟨⟨by decide +kernel, by decide +kernel⟩, List.mem_of_getElem? (i := 37) (by decide +kernel), List.mem_of_getElem? (i := 551) (by decide +kernel), List.mem_of_getElem? (i := 552) (by decide +kernel)⟩
theorem lw_p6 : lw_okq (⟨"PlainMusic$Tokens", "cutNumber", "()V"⟩, 13) := ⟨⟨by decide +kernel, by decide +kernel⟩, List.mem_of_getElem? (i := 37) (by decide +kernel), List.mem_of_getElem? (i := 618) (by decide +kernel), List.mem_of_getElem? (i := 619) (by decide +kernel)⟩
theorem lw_p7 : lw_okq (⟨"PlainMusic$Reader", "readTime", "()Z"⟩, 8) := ⟨⟨by decide +kernel, by decide +kernel⟩, List.mem_of_getElem? (i := 31) (by decide +kernel), List.mem_of_getElem? (i := 684) (by decide +kernel), List.mem_of_getElem? (i := 685) (by decide +kernel)⟩
theorem lw_p8 : lw_okq (⟨"PlainMusic$Reader", "blame", "(II)Z"⟩, 8) := ⟨⟨by decide +kernel, by decide +kernel⟩, List.mem_of_getElem? (i := 31) (by decide +kernel), List.mem_of_getElem? (i := 688) (by decide +kernel), List.mem_of_getElem? (i := 689) (by decide +kernel)⟩
theorem lw_p9 : lw_okq (⟨"PlainMusic$Reader", "readNumber", "(IZ)I"⟩, 8) := ⟨⟨by decide +kernel, by decide +kernel⟩, List.mem_of_getElem? (i := 31) (by decide +kernel), List.mem_of_getElem? (i := 693) (by decide +kernel), List.mem_of_getElem? (i := 694) (by decide +kernel)⟩
theorem lw_p10 : lw_okq (⟨"PlainMusic$Reader", "refuse", "()Z"⟩, 8) := ⟨⟨by decide +kernel, by decide +kernel⟩, List.mem_of_getElem? (i := 31) (by decide +kernel), List.mem_of_getElem? (i := 697) (by decide +kernel), List.mem_of_getElem? (i := 698) (by decide +kernel)⟩
theorem lw_p11 : lw_okq (⟨"PlainMusic$Reader", "take", "(I)Z"⟩, 8) := ⟨⟨by decide +kernel, by decide +kernel⟩, List.mem_of_getElem? (i := 31) (by decide +kernel), List.mem_of_getElem? (i := 707) (by decide +kernel), List.mem_of_getElem? (i := 708) (by decide +kernel)⟩
theorem lw_p12 : lw_okq (⟨"PlainMusic$Reader", "readVoice", "()Z"⟩, 8) := ⟨⟨by decide +kernel, by decide +kernel⟩, List.mem_of_getElem? (i := 31) (by decide +kernel), List.mem_of_getElem? (i := 715) (by decide +kernel), List.mem_of_getElem? (i := 716) (by decide +kernel)⟩
theorem lw_p13 : lw_okq (⟨"PlainMusic$Reader", "beginsEvent", "()Z"⟩, 8) := ⟨⟨by decide +kernel, by decide +kernel⟩, List.mem_of_getElem? (i := 31) (by decide +kernel), List.mem_of_getElem? (i := 731) (by decide +kernel), List.mem_of_getElem? (i := 732) (by decide +kernel)⟩
theorem lw_p14 : lw_okq (⟨"PlainMusic$Reader", "isShallow", "()Z"⟩, 8) := ⟨⟨by decide +kernel, by decide +kernel⟩, List.mem_of_getElem? (i := 31) (by decide +kernel), List.mem_of_getElem? (i := 735) (by decide +kernel), List.mem_of_getElem? (i := 736) (by decide +kernel)⟩
theorem lw_p15 : lw_okq (⟨"PlainMusic$Reader", "readEvent", "(LPlainMusic$Voice;)Z"⟩, 8) := ⟨⟨by decide +kernel, by decide +kernel⟩, List.mem_of_getElem? (i := 31) (by decide +kernel), List.mem_of_getElem? (i := 739) (by decide +kernel), List.mem_of_getElem? (i := 740) (by decide +kernel)⟩
def lw_privs_1 : List (MethodName × Nat) := [(⟨"PlainMusic", "putBytes", "(I)V"⟩, 11), (⟨"PlainMusic$Tokens", "cutOne", "()Z"⟩, 13), (⟨"PlainMusic$Tokens", "skipBlanks", "()V"⟩, 13), (⟨"PlainMusic$Tokens", "byteAt", "(I)I"⟩, 13), (⟨"PlainMusic$Tokens", "cutPitch", "(I)V"⟩, 13), (⟨"PlainMusic$Tokens", "cutName", "()V"⟩, 13), (⟨"PlainMusic$Tokens", "cutNumber", "()V"⟩, 13), (⟨"PlainMusic$Reader", "readTime", "()Z"⟩, 8), (⟨"PlainMusic$Reader", "blame", "(II)Z"⟩, 8), (⟨"PlainMusic$Reader", "readNumber", "(IZ)I"⟩, 8), (⟨"PlainMusic$Reader", "refuse", "()Z"⟩, 8), (⟨"PlainMusic$Reader", "take", "(I)Z"⟩, 8), (⟨"PlainMusic$Reader", "readVoice", "()Z"⟩, 8), (⟨"PlainMusic$Reader", "beginsEvent", "()Z"⟩, 8), (⟨"PlainMusic$Reader", "isShallow", "()Z"⟩, 8), (⟨"PlainMusic$Reader", "readEvent", "(LPlainMusic$Voice;)Z"⟩, 8)]
theorem lw_r1 : ∀ q ∈ lw_privs_1, lw_okq q := List.forall_mem_cons.mpr ⟨lw_p0, List.forall_mem_cons.mpr ⟨lw_p1, List.forall_mem_cons.mpr ⟨lw_p2, List.forall_mem_cons.mpr ⟨lw_p3, List.forall_mem_cons.mpr ⟨lw_p4, List.forall_mem_cons.mpr ⟨lw_p5, List.forall_mem_cons.mpr ⟨lw_p6, List.forall_mem_cons.mpr ⟨lw_p7, List.forall_mem_cons.mpr ⟨lw_p8, List.forall_mem_cons.mpr ⟨lw_p9, List.forall_mem_cons.mpr ⟨lw_p10, List.forall_mem_cons.mpr ⟨lw_p11, List.forall_mem_cons.mpr ⟨lw_p12, List.forall_mem_cons.mpr ⟨lw_p13, List.forall_mem_cons.mpr ⟨lw_p14, List.forall_mem_cons.mpr ⟨lw_p15, fun _ h => absurd h List.not_mem_nil⟩⟩⟩⟩⟩⟩⟩⟩⟩⟩⟩⟩⟩⟩⟩⟩
theorem lw_p16 : lw_okq (⟨"PlainMusic$Reader", "readSound", "(LPlainMusic$Voice;)Z"⟩, 8) := ⟨⟨by decide +kernel, by decide +kernel⟩, List.mem_of_getElem? (i := 31) (by decide +kernel), List.mem_of_getElem? (i := 743) (by decide +kernel), List.mem_of_getElem? (i := 744) (by decide +kernel)⟩
theorem lw_p17 : lw_okq (⟨"PlainMusic$Reader", "admit", "()Z"⟩, 8) := ⟨⟨by decide +kernel, by decide +kernel⟩, List.mem_of_getElem? (i := 31) (by decide +kernel), List.mem_of_getElem? (i := 747) (by decide +kernel), List.mem_of_getElem? (i := 748) (by decide +kernel)⟩
theorem lw_p18 : lw_okq (⟨"PlainMusic$Reader", "readPart", "()Z"⟩, 8) := ⟨⟨by decide +kernel, by decide +kernel⟩, List.mem_of_getElem? (i := 31) (by decide +kernel), List.mem_of_getElem? (i := 764) (by decide +kernel), List.mem_of_getElem? (i := 765) (by decide +kernel)⟩
theorem lw_p19 : lw_okq (⟨"PlainMusic$Reader", "readStretch", "()Z"⟩, 8) := ⟨⟨by decide +kernel, by decide +kernel⟩, List.mem_of_getElem? (i := 31) (by decide +kernel), List.mem_of_getElem? (i := 773) (by decide +kernel), List.mem_of_getElem? (i := 774) (by decide +kernel)⟩
theorem lw_p20 : lw_okq (⟨"PlainMusic$Parts", "walkThrough", "(LPlainMusic$Voice;IIIJJ)V"⟩, 12) := ⟨⟨by decide +kernel, by decide +kernel⟩, List.mem_of_getElem? (i := 89) (by decide +kernel), List.mem_of_getElem? (i := 785) (by decide +kernel), List.mem_of_getElem? (i := 786) (by decide +kernel)⟩
theorem lw_p21 : lw_okq (⟨"PlainMusic$Parts", "walkRepeat", "(LPlainMusic$Voice;IIJJ)I"⟩, 12) := ⟨⟨by decide +kernel, by decide +kernel⟩, List.mem_of_getElem? (i := 89) (by decide +kernel), List.mem_of_getElem? (i := 789) (by decide +kernel), List.mem_of_getElem? (i := 790) (by decide +kernel)⟩
theorem lw_p22 : lw_okq (⟨"PlainMusic$Parts", "meetLine", "(LPlainMusic$Voice;)V"⟩, 12) := ⟨⟨by decide +kernel, by decide +kernel⟩, List.mem_of_getElem? (i := 89) (by decide +kernel), List.mem_of_getElem? (i := 794) (by decide +kernel), List.mem_of_getElem? (i := 795) (by decide +kernel)⟩
theorem lw_p23 : lw_okq (⟨"PlainMusic$Reader", "readLine", "()Z"⟩, 8) := ⟨⟨by decide +kernel, by decide +kernel⟩, List.mem_of_getElem? (i := 31) (by decide +kernel), List.mem_of_getElem? (i := 819) (by decide +kernel), List.mem_of_getElem? (i := 820) (by decide +kernel)⟩
theorem lw_p24 : lw_okq (⟨"PlainMusic$Reader", "readRule", "()Z"⟩, 8) := ⟨⟨by decide +kernel, by decide +kernel⟩, List.mem_of_getElem? (i := 31) (by decide +kernel), List.mem_of_getElem? (i := 827) (by decide +kernel), List.mem_of_getElem? (i := 828) (by decide +kernel)⟩
theorem lw_p25 : lw_okq (⟨"PlainMusic$Reader", "readName", "()I"⟩, 8) := ⟨⟨by decide +kernel, by decide +kernel⟩, List.mem_of_getElem? (i := 31) (by decide +kernel), List.mem_of_getElem? (i := 831) (by decide +kernel), List.mem_of_getElem? (i := 832) (by decide +kernel)⟩
theorem lw_p26 : lw_okq (⟨"PlainMusic$Reader", "readRow", "()Z"⟩, 8) := ⟨⟨by decide +kernel, by decide +kernel⟩, List.mem_of_getElem? (i := 31) (by decide +kernel), List.mem_of_getElem? (i := 839) (by decide +kernel), List.mem_of_getElem? (i := 840) (by decide +kernel)⟩
theorem lw_p27 : lw_okq (⟨"PlainMusic", "forgetFindings", "()V"⟩, 11) := ⟨⟨by decide +kernel, by decide +kernel⟩, List.mem_of_getElem? (i := 23) (by decide +kernel), List.mem_of_getElem? (i := 851) (by decide +kernel), List.mem_of_getElem? (i := 852) (by decide +kernel)⟩
theorem lw_p28 : lw_okq (⟨"PlainMusic$Judge", "hearVoice", "(LPlainMusic$Score;LPlainMusic$Voice;I)V"⟩, 3) := ⟨⟨by decide +kernel, by decide +kernel⟩, List.mem_of_getElem? (i := 308) (by decide +kernel), List.mem_of_getElem? (i := 949) (by decide +kernel), List.mem_of_getElem? (i := 950) (by decide +kernel)⟩
theorem lw_p29 : lw_okq (⟨"PlainMusic$Judge", "add", "(IIII)V"⟩, 3) := ⟨⟨by decide +kernel, by decide +kernel⟩, List.mem_of_getElem? (i := 308) (by decide +kernel), List.mem_of_getElem? (i := 971) (by decide +kernel), List.mem_of_getElem? (i := 972) (by decide +kernel)⟩
theorem lw_p30 : lw_okq (⟨"PlainMusic$Judge", "hearAlone", "(LPlainMusic$Voice;II)V"⟩, 3) := ⟨⟨by decide +kernel, by decide +kernel⟩, List.mem_of_getElem? (i := 308) (by decide +kernel), List.mem_of_getElem? (i := 975) (by decide +kernel), List.mem_of_getElem? (i := 976) (by decide +kernel)⟩
theorem lw_p31 : lw_okq (⟨"PlainMusic$Judge", "hearCrossings", "(LPlainMusic$Score;LPlainMusic$Voice;II)V"⟩, 3) := ⟨⟨by decide +kernel, by decide +kernel⟩, List.mem_of_getElem? (i := 308) (by decide +kernel), List.mem_of_getElem? (i := 1001) (by decide +kernel), List.mem_of_getElem? (i := 1002) (by decide +kernel)⟩
def lw_privs_2 : List (MethodName × Nat) := [(⟨"PlainMusic$Reader", "readSound", "(LPlainMusic$Voice;)Z"⟩, 8), (⟨"PlainMusic$Reader", "admit", "()Z"⟩, 8), (⟨"PlainMusic$Reader", "readPart", "()Z"⟩, 8), (⟨"PlainMusic$Reader", "readStretch", "()Z"⟩, 8), (⟨"PlainMusic$Parts", "walkThrough", "(LPlainMusic$Voice;IIIJJ)V"⟩, 12), (⟨"PlainMusic$Parts", "walkRepeat", "(LPlainMusic$Voice;IIJJ)I"⟩, 12), (⟨"PlainMusic$Parts", "meetLine", "(LPlainMusic$Voice;)V"⟩, 12), (⟨"PlainMusic$Reader", "readLine", "()Z"⟩, 8), (⟨"PlainMusic$Reader", "readRule", "()Z"⟩, 8), (⟨"PlainMusic$Reader", "readName", "()I"⟩, 8), (⟨"PlainMusic$Reader", "readRow", "()Z"⟩, 8), (⟨"PlainMusic", "forgetFindings", "()V"⟩, 11), (⟨"PlainMusic$Judge", "hearVoice", "(LPlainMusic$Score;LPlainMusic$Voice;I)V"⟩, 3), (⟨"PlainMusic$Judge", "add", "(IIII)V"⟩, 3), (⟨"PlainMusic$Judge", "hearAlone", "(LPlainMusic$Voice;II)V"⟩, 3), (⟨"PlainMusic$Judge", "hearCrossings", "(LPlainMusic$Score;LPlainMusic$Voice;II)V"⟩, 3)]
theorem lw_r2 : ∀ q ∈ lw_privs_2, lw_okq q := List.forall_mem_cons.mpr ⟨lw_p16, List.forall_mem_cons.mpr ⟨lw_p17, List.forall_mem_cons.mpr ⟨lw_p18, List.forall_mem_cons.mpr ⟨lw_p19, List.forall_mem_cons.mpr ⟨lw_p20, List.forall_mem_cons.mpr ⟨lw_p21, List.forall_mem_cons.mpr ⟨lw_p22, List.forall_mem_cons.mpr ⟨lw_p23, List.forall_mem_cons.mpr ⟨lw_p24, List.forall_mem_cons.mpr ⟨lw_p25, List.forall_mem_cons.mpr ⟨lw_p26, List.forall_mem_cons.mpr ⟨lw_p27, List.forall_mem_cons.mpr ⟨lw_p28, List.forall_mem_cons.mpr ⟨lw_p29, List.forall_mem_cons.mpr ⟨lw_p30, List.forall_mem_cons.mpr ⟨lw_p31, fun _ h => absurd h List.not_mem_nil⟩⟩⟩⟩⟩⟩⟩⟩⟩⟩⟩⟩⟩⟩⟩⟩
theorem lw_p32 : lw_okq (⟨"PlainMusic$Judge", "hearParallels", "(LPlainMusic$Score;LPlainMusic$Voice;II)V"⟩, 3) := ⟨⟨by decide +kernel, by decide +kernel⟩, List.mem_of_getElem? (i := 308) (by decide +kernel), List.mem_of_getElem? (i := 1019) (by decide +kernel), List.mem_of_getElem? (i := 1020) (by decide +kernel)⟩
theorem lw_p33 : lw_okq (⟨"PlainMusic$Beams", "cutRun", "(LPlainMusic$Voice;IIII)I"⟩, 4) := ⟨⟨by decide +kernel, by decide +kernel⟩, List.mem_of_getElem? (i := 324) (by decide +kernel), List.mem_of_getElem? (i := 1051) (by decide +kernel), List.mem_of_getElem? (i := 1052) (by decide +kernel)⟩
theorem lw_p34 : lw_okq (⟨"PlainMusic$Page", "timesIn", "(LPlainMusic$Score;I)I"⟩, 8) := ⟨⟨by decide +kernel, by decide +kernel⟩, List.mem_of_getElem? (i := 343) (by decide +kernel), List.mem_of_getElem? (i := 1098) (by decide +kernel), List.mem_of_getElem? (i := 1099) (by decide +kernel)⟩
theorem lw_p35 : lw_okq (⟨"PlainMusic$Page", "setNext", "(LPlainMusic$Voice;II)V"⟩, 8) := ⟨⟨by decide +kernel, by decide +kernel⟩, List.mem_of_getElem? (i := 343) (by decide +kernel), List.mem_of_getElem? (i := 1102) (by decide +kernel), List.mem_of_getElem? (i := 1103) (by decide +kernel)⟩
theorem lw_p36 : lw_okq (⟨"PlainMusic$Page", "earliest", "()I"⟩, 8) := ⟨⟨by decide +kernel, by decide +kernel⟩, List.mem_of_getElem? (i := 343) (by decide +kernel), List.mem_of_getElem? (i := 1110) (by decide +kernel), List.mem_of_getElem? (i := 1111) (by decide +kernel)⟩
theorem lw_p37 : lw_okq (⟨"PlainMusic$Page", "passTime", "(LPlainMusic$Score;IJJ)V"⟩, 8) := ⟨⟨by decide +kernel, by decide +kernel⟩, List.mem_of_getElem? (i := 343) (by decide +kernel), List.mem_of_getElem? (i := 1118) (by decide +kernel), List.mem_of_getElem? (i := 1119) (by decide +kernel)⟩
theorem lw_p38 : lw_okq (⟨"PlainMusic$Page", "findFrom", "(III)V"⟩, 8) := ⟨⟨by decide +kernel, by decide +kernel⟩, List.mem_of_getElem? (i := 343) (by decide +kernel), List.mem_of_getElem? (i := 1122) (by decide +kernel), List.mem_of_getElem? (i := 1123) (by decide +kernel)⟩
theorem lw_p39 : lw_okq (⟨"PlainMusic$Seconds", "extend", "(II)V"⟩, 8) := ⟨⟨by decide +kernel, by decide +kernel⟩, List.mem_of_getElem? (i := 374) (by decide +kernel), List.mem_of_getElem? (i := 1153) (by decide +kernel), List.mem_of_getElem? (i := 1154) (by decide +kernel)⟩
theorem lw_p40 : lw_okq (⟨"PlainMusic$Seconds", "keep", "(I)V"⟩, 8) := ⟨⟨by decide +kernel, by decide +kernel⟩, List.mem_of_getElem? (i := 374) (by decide +kernel), List.mem_of_getElem? (i := 1157) (by decide +kernel), List.mem_of_getElem? (i := 1158) (by decide +kernel)⟩
theorem lw_p41 : lw_okq (⟨"PlainMusic$Seconds", "fitsAlone", "(I)Z"⟩, 8) := ⟨⟨by decide +kernel, by decide +kernel⟩, List.mem_of_getElem? (i := 374) (by decide +kernel), List.mem_of_getElem? (i := 1161) (by decide +kernel), List.mem_of_getElem? (i := 1162) (by decide +kernel)⟩
theorem lw_p42 : lw_okq (⟨"PlainMusic$Seconds", "asks", "(I)Z"⟩, 8) := ⟨⟨by decide +kernel, by decide +kernel⟩, List.mem_of_getElem? (i := 374) (by decide +kernel), List.mem_of_getElem? (i := 1165) (by decide +kernel), List.mem_of_getElem? (i := 1166) (by decide +kernel)⟩
theorem lw_p43 : lw_okq (⟨"PlainMusic$Seconds", "fitsBehind", "(I)Z"⟩, 8) := ⟨⟨by decide +kernel, by decide +kernel⟩, List.mem_of_getElem? (i := 374) (by decide +kernel), List.mem_of_getElem? (i := 1173) (by decide +kernel), List.mem_of_getElem? (i := 1174) (by decide +kernel)⟩
theorem lw_p44 : lw_okq (⟨"PlainMusic$Seconds", "fitsLeap", "(I)Z"⟩, 8) := ⟨⟨by decide +kernel, by decide +kernel⟩, List.mem_of_getElem? (i := 374) (by decide +kernel), List.mem_of_getElem? (i := 1178) (by decide +kernel), List.mem_of_getElem? (i := 1179) (by decide +kernel)⟩
theorem lw_p45 : lw_okq (⟨"PlainMusic$Seconds", "rowAt", "(I)I"⟩, 8) := ⟨⟨by decide +kernel, by decide +kernel⟩, List.mem_of_getElem? (i := 374) (by decide +kernel), List.mem_of_getElem? (i := 1190) (by decide +kernel), List.mem_of_getElem? (i := 1191) (by decide +kernel)⟩
theorem lw_p46 : lw_okq (⟨"PlainMusic$Trees", "fill", "(LPlainMusic$Score;II)V"⟩, 6) := ⟨⟨by decide +kernel, by decide +kernel⟩, List.mem_of_getElem? (i := 405) (by decide +kernel), List.mem_of_getElem? (i := 1208) (by decide +kernel), List.mem_of_getElem? (i := 1209) (by decide +kernel)⟩
theorem lw_p47 : lw_okq (⟨"PlainMusic$Trees", "treesBy", "(LPlainMusic$Score;III)J"⟩, 6) := ⟨⟨by decide +kernel, by decide +kernel⟩, List.mem_of_getElem? (i := 405) (by decide +kernel), List.mem_of_getElem? (i := 1215) (by decide +kernel), List.mem_of_getElem? (i := 1216) (by decide +kernel)⟩
def lw_privs_3 : List (MethodName × Nat) := [(⟨"PlainMusic$Judge", "hearParallels", "(LPlainMusic$Score;LPlainMusic$Voice;II)V"⟩, 3), (⟨"PlainMusic$Beams", "cutRun", "(LPlainMusic$Voice;IIII)I"⟩, 4), (⟨"PlainMusic$Page", "timesIn", "(LPlainMusic$Score;I)I"⟩, 8), (⟨"PlainMusic$Page", "setNext", "(LPlainMusic$Voice;II)V"⟩, 8), (⟨"PlainMusic$Page", "earliest", "()I"⟩, 8), (⟨"PlainMusic$Page", "passTime", "(LPlainMusic$Score;IJJ)V"⟩, 8), (⟨"PlainMusic$Page", "findFrom", "(III)V"⟩, 8), (⟨"PlainMusic$Seconds", "extend", "(II)V"⟩, 8), (⟨"PlainMusic$Seconds", "keep", "(I)V"⟩, 8), (⟨"PlainMusic$Seconds", "fitsAlone", "(I)Z"⟩, 8), (⟨"PlainMusic$Seconds", "asks", "(I)Z"⟩, 8), (⟨"PlainMusic$Seconds", "fitsBehind", "(I)Z"⟩, 8), (⟨"PlainMusic$Seconds", "fitsLeap", "(I)Z"⟩, 8), (⟨"PlainMusic$Seconds", "rowAt", "(I)I"⟩, 8), (⟨"PlainMusic$Trees", "fill", "(LPlainMusic$Score;II)V"⟩, 6), (⟨"PlainMusic$Trees", "treesBy", "(LPlainMusic$Score;III)J"⟩, 6)]
theorem lw_r3 : ∀ q ∈ lw_privs_3, lw_okq q := List.forall_mem_cons.mpr ⟨lw_p32, List.forall_mem_cons.mpr ⟨lw_p33, List.forall_mem_cons.mpr ⟨lw_p34, List.forall_mem_cons.mpr ⟨lw_p35, List.forall_mem_cons.mpr ⟨lw_p36, List.forall_mem_cons.mpr ⟨lw_p37, List.forall_mem_cons.mpr ⟨lw_p38, List.forall_mem_cons.mpr ⟨lw_p39, List.forall_mem_cons.mpr ⟨lw_p40, List.forall_mem_cons.mpr ⟨lw_p41, List.forall_mem_cons.mpr ⟨lw_p42, List.forall_mem_cons.mpr ⟨lw_p43, List.forall_mem_cons.mpr ⟨lw_p44, List.forall_mem_cons.mpr ⟨lw_p45, List.forall_mem_cons.mpr ⟨lw_p46, List.forall_mem_cons.mpr ⟨lw_p47, fun _ h => absurd h List.not_mem_nil⟩⟩⟩⟩⟩⟩⟩⟩⟩⟩⟩⟩⟩⟩⟩⟩
theorem lw_p48 : lw_okq (⟨"PlainMusic$Trees", "treesCut", "(LPlainMusic$Score;IIII)J"⟩, 6) := ⟨⟨by decide +kernel, by decide +kernel⟩, List.mem_of_getElem? (i := 405) (by decide +kernel), List.mem_of_getElem? (i := 1219) (by decide +kernel), List.mem_of_getElem? (i := 1220) (by decide +kernel)⟩
theorem lw_p49 : lw_okq (⟨"PlainMusic$Trees", "treesOf", "(III)I"⟩, 6) := ⟨⟨by decide +kernel, by decide +kernel⟩, List.mem_of_getElem? (i := 405) (by decide +kernel), List.mem_of_getElem? (i := 1223) (by decide +kernel), List.mem_of_getElem? (i := 1224) (by decide +kernel)⟩
theorem lw_p50 : lw_okq (⟨"PlainMusic$Trees", "findRule", "(LPlainMusic$Score;)I"⟩, 6) := ⟨⟨by decide +kernel, by decide +kernel⟩, List.mem_of_getElem? (i := 405) (by decide +kernel), List.mem_of_getElem? (i := 1240) (by decide +kernel), List.mem_of_getElem? (i := 1241) (by decide +kernel)⟩
theorem lw_p51 : lw_okq (⟨"PlainMusic$Trees", "findCut", "(LPlainMusic$Score;I)I"⟩, 6) := ⟨⟨by decide +kernel, by decide +kernel⟩, List.mem_of_getElem? (i := 405) (by decide +kernel), List.mem_of_getElem? (i := 1244) (by decide +kernel), List.mem_of_getElem? (i := 1245) (by decide +kernel)⟩
theorem lw_p52 : lw_okq (⟨"PlainMusic$Trees", "goDown", "(LPlainMusic$Score;IIZ)V"⟩, 6) := ⟨⟨by decide +kernel, by decide +kernel⟩, List.mem_of_getElem? (i := 405) (by decide +kernel), List.mem_of_getElem? (i := 1248) (by decide +kernel), List.mem_of_getElem? (i := 1249) (by decide +kernel)⟩
theorem lw_p53 : lw_okq (⟨"PlainMusic$Pairing", "weigh", "(LPlainMusic$Voice;LPlainMusic$Voice;II)V"⟩, 8) := ⟨⟨by decide +kernel, by decide +kernel⟩, List.mem_of_getElem? (i := 430) (by decide +kernel), List.mem_of_getElem? (i := 1268) (by decide +kernel), List.mem_of_getElem? (i := 1269) (by decide +kernel)⟩
theorem lw_p54 : lw_okq (⟨"PlainMusic$Pairing", "slot", "(II)I"⟩, 8) := ⟨⟨by decide +kernel, by decide +kernel⟩, List.mem_of_getElem? (i := 430) (by decide +kernel), List.mem_of_getElem? (i := 1272) (by decide +kernel), List.mem_of_getElem? (i := 1273) (by decide +kernel)⟩
theorem lw_p55 : lw_okq (⟨"PlainMusic$Pairing", "pairCost", "(LPlainMusic$Voice;LPlainMusic$Voice;II)I"⟩, 8) := ⟨⟨by decide +kernel, by decide +kernel⟩, List.mem_of_getElem? (i := 430) (by decide +kernel), List.mem_of_getElem? (i := 1277) (by decide +kernel), List.mem_of_getElem? (i := 1278) (by decide +kernel)⟩
theorem lw_p56 : lw_okq (⟨"PlainMusic$Pairing", "choose", "(LPlainMusic$Voice;LPlainMusic$Voice;)V"⟩, 8) := ⟨⟨by decide +kernel, by decide +kernel⟩, List.mem_of_getElem? (i := 430) (by decide +kernel), List.mem_of_getElem? (i := 1285) (by decide +kernel), List.mem_of_getElem? (i := 1286) (by decide +kernel)⟩
theorem lw_p57 : lw_okq (⟨"PlainMusic$Pairing", "isPair", "(LPlainMusic$Voice;LPlainMusic$Voice;II)Z"⟩, 8) := ⟨⟨by decide +kernel, by decide +kernel⟩, List.mem_of_getElem? (i := 430) (by decide +kernel), List.mem_of_getElem? (i := 1289) (by decide +kernel), List.mem_of_getElem? (i := 1290) (by decide +kernel)⟩
theorem lw_p58 : lw_okq (⟨"PlainMusic$Pairing", "isFirstAlone", "(II)Z"⟩, 8) := ⟨⟨by decide +kernel, by decide +kernel⟩, List.mem_of_getElem? (i := 430) (by decide +kernel), List.mem_of_getElem? (i := 1293) (by decide +kernel), List.mem_of_getElem? (i := 1294) (by decide +kernel)⟩
theorem lw_p59 : lw_okq (⟨"PlainMusicModel", "lay", "(I)V"⟩, 111) := ⟨⟨by decide +kernel, by decide +kernel⟩, List.mem_of_getElem? (i := 1344) (by decide +kernel), List.mem_of_getElem? (i := 1688) (by decide +kernel), List.mem_of_getElem? (i := 1689) (by decide +kernel)⟩
theorem lw_p60 : lw_okq (⟨"PlainMusicModel", "parse", "()Z"⟩, 111) := ⟨⟨by decide +kernel, by decide +kernel⟩, List.mem_of_getElem? (i := 1344) (by decide +kernel), List.mem_of_getElem? (i := 1700) (by decide +kernel), List.mem_of_getElem? (i := 1701) (by decide +kernel)⟩
theorem lw_p61 : lw_okq (⟨"PlainMusicModel", "next", "()Z"⟩, 111) := ⟨⟨by decide +kernel, by decide +kernel⟩, List.mem_of_getElem? (i := 1344) (by decide +kernel), List.mem_of_getElem? (i := 1704) (by decide +kernel), List.mem_of_getElem? (i := 1705) (by decide +kernel)⟩
theorem lw_p62 : lw_okq (⟨"PlainMusicModel", "pitch", "(I)V"⟩, 111) := ⟨⟨by decide +kernel, by decide +kernel⟩, List.mem_of_getElem? (i := 1344) (by decide +kernel), List.mem_of_getElem? (i := 1708) (by decide +kernel), List.mem_of_getElem? (i := 1709) (by decide +kernel)⟩
theorem lw_p63 : lw_okq (⟨"PlainMusicModel", "at", "(I)I"⟩, 111) := ⟨⟨by decide +kernel, by decide +kernel⟩, List.mem_of_getElem? (i := 1344) (by decide +kernel), List.mem_of_getElem? (i := 1712) (by decide +kernel), List.mem_of_getElem? (i := 1713) (by decide +kernel)⟩
def lw_privs_4 : List (MethodName × Nat) := [(⟨"PlainMusic$Trees", "treesCut", "(LPlainMusic$Score;IIII)J"⟩, 6), (⟨"PlainMusic$Trees", "treesOf", "(III)I"⟩, 6), (⟨"PlainMusic$Trees", "findRule", "(LPlainMusic$Score;)I"⟩, 6), (⟨"PlainMusic$Trees", "findCut", "(LPlainMusic$Score;I)I"⟩, 6), (⟨"PlainMusic$Trees", "goDown", "(LPlainMusic$Score;IIZ)V"⟩, 6), (⟨"PlainMusic$Pairing", "weigh", "(LPlainMusic$Voice;LPlainMusic$Voice;II)V"⟩, 8), (⟨"PlainMusic$Pairing", "slot", "(II)I"⟩, 8), (⟨"PlainMusic$Pairing", "pairCost", "(LPlainMusic$Voice;LPlainMusic$Voice;II)I"⟩, 8), (⟨"PlainMusic$Pairing", "choose", "(LPlainMusic$Voice;LPlainMusic$Voice;)V"⟩, 8), (⟨"PlainMusic$Pairing", "isPair", "(LPlainMusic$Voice;LPlainMusic$Voice;II)Z"⟩, 8), (⟨"PlainMusic$Pairing", "isFirstAlone", "(II)Z"⟩, 8), (⟨"PlainMusicModel", "lay", "(I)V"⟩, 111), (⟨"PlainMusicModel", "parse", "()Z"⟩, 111), (⟨"PlainMusicModel", "next", "()Z"⟩, 111), (⟨"PlainMusicModel", "pitch", "(I)V"⟩, 111), (⟨"PlainMusicModel", "at", "(I)I"⟩, 111)]
theorem lw_r4 : ∀ q ∈ lw_privs_4, lw_okq q := List.forall_mem_cons.mpr ⟨lw_p48, List.forall_mem_cons.mpr ⟨lw_p49, List.forall_mem_cons.mpr ⟨lw_p50, List.forall_mem_cons.mpr ⟨lw_p51, List.forall_mem_cons.mpr ⟨lw_p52, List.forall_mem_cons.mpr ⟨lw_p53, List.forall_mem_cons.mpr ⟨lw_p54, List.forall_mem_cons.mpr ⟨lw_p55, List.forall_mem_cons.mpr ⟨lw_p56, List.forall_mem_cons.mpr ⟨lw_p57, List.forall_mem_cons.mpr ⟨lw_p58, List.forall_mem_cons.mpr ⟨lw_p59, List.forall_mem_cons.mpr ⟨lw_p60, List.forall_mem_cons.mpr ⟨lw_p61, List.forall_mem_cons.mpr ⟨lw_p62, List.forall_mem_cons.mpr ⟨lw_p63, fun _ h => absurd h List.not_mem_nil⟩⟩⟩⟩⟩⟩⟩⟩⟩⟩⟩⟩⟩⟩⟩⟩
theorem lw_p64 : lw_okq (⟨"PlainMusicModel", "whites", "(I)I"⟩, 111) := ⟨⟨by decide +kernel, by decide +kernel⟩, List.mem_of_getElem? (i := 1344) (by decide +kernel), List.mem_of_getElem? (i := 1716) (by decide +kernel), List.mem_of_getElem? (i := 1717) (by decide +kernel)⟩
theorem lw_p65 : lw_okq (⟨"PlainMusicModel", "isSmall", "(I)Z"⟩, 111) := ⟨⟨by decide +kernel, by decide +kernel⟩, List.mem_of_getElem? (i := 1344) (by decide +kernel), List.mem_of_getElem? (i := 1720) (by decide +kernel), List.mem_of_getElem? (i := 1721) (by decide +kernel)⟩
theorem lw_p66 : lw_okq (⟨"PlainMusicModel", "word", "()V"⟩, 111) := ⟨⟨by decide +kernel, by decide +kernel⟩, List.mem_of_getElem? (i := 1344) (by decide +kernel), List.mem_of_getElem? (i := 1724) (by decide +kernel), List.mem_of_getElem? (i := 1725) (by decide +kernel)⟩
theorem lw_p67 : lw_okq (⟨"PlainMusicModel", "isDigit", "(I)Z"⟩, 111) := ⟨⟨by decide +kernel, by decide +kernel⟩, List.mem_of_getElem? (i := 1344) (by decide +kernel), List.mem_of_getElem? (i := 1734) (by decide +kernel), List.mem_of_getElem? (i := 1735) (by decide +kernel)⟩
theorem lw_p68 : lw_okq (⟨"PlainMusicModel", "number", "()V"⟩, 111) := ⟨⟨by decide +kernel, by decide +kernel⟩, List.mem_of_getElem? (i := 1344) (by decide +kernel), List.mem_of_getElem? (i := 1738) (by decide +kernel), List.mem_of_getElem? (i := 1739) (by decide +kernel)⟩
theorem lw_p69 : lw_okq (⟨"PlainMusicModel", "isWord", "(I)Z"⟩, 111) := ⟨⟨by decide +kernel, by decide +kernel⟩, List.mem_of_getElem? (i := 1344) (by decide +kernel), List.mem_of_getElem? (i := 1742) (by decide +kernel), List.mem_of_getElem? (i := 1743) (by decide +kernel)⟩
theorem lw_p70 : lw_okq (⟨"PlainMusicModel", "timeItem", "()Z"⟩, 111) := ⟨⟨by decide +kernel, by decide +kernel⟩, List.mem_of_getElem? (i := 1344) (by decide +kernel), List.mem_of_getElem? (i := 1746) (by decide +kernel), List.mem_of_getElem? (i := 1747) (by decide +kernel)⟩
theorem lw_p71 : lw_okq (⟨"PlainMusicModel", "wrong", "(II)Z"⟩, 111) := ⟨⟨by decide +kernel, by decide +kernel⟩, List.mem_of_getElem? (i := 1344) (by decide +kernel), List.mem_of_getElem? (i := 1750) (by decide +kernel), List.mem_of_getElem? (i := 1751) (by decide +kernel)⟩
theorem lw_p72 : lw_okq (⟨"PlainMusicModel", "cant", "()Z"⟩, 111) := ⟨⟨by decide +kernel, by decide +kernel⟩, List.mem_of_getElem? (i := 1344) (by decide +kernel), List.mem_of_getElem? (i := 1754) (by decide +kernel), List.mem_of_getElem? (i := 1755) (by decide +kernel)⟩
theorem lw_p73 : lw_okq (⟨"PlainMusicModel", "want", "(I)Z"⟩, 111) := ⟨⟨by decide +kernel, by decide +kernel⟩, List.mem_of_getElem? (i := 1344) (by decide +kernel), List.mem_of_getElem? (i := 1758) (by decide +kernel), List.mem_of_getElem? (i := 1759) (by decide +kernel)⟩
theorem lw_p74 : lw_okq (⟨"PlainMusicModel", "isSign", "(I)Z"⟩, 111) := ⟨⟨by decide +kernel, by decide +kernel⟩, List.mem_of_getElem? (i := 1344) (by decide +kernel), List.mem_of_getElem? (i := 1762) (by decide +kernel), List.mem_of_getElem? (i := 1763) (by decide +kernel)⟩
theorem lw_p75 : lw_okq (⟨"PlainMusicModel", "isPower", "(II)Z"⟩, 111) := ⟨⟨by decide +kernel, by decide +kernel⟩, List.mem_of_getElem? (i := 1344) (by decide +kernel), List.mem_of_getElem? (i := 1766) (by decide +kernel), List.mem_of_getElem? (i := 1767) (by decide +kernel)⟩
theorem lw_p76 : lw_okq (⟨"PlainMusicModel", "voiceItem", "()Z"⟩, 111) := ⟨⟨by decide +kernel, by decide +kernel⟩, List.mem_of_getElem? (i := 1344) (by decide +kernel), List.mem_of_getElem? (i := 1770) (by decide +kernel), List.mem_of_getElem? (i := 1771) (by decide +kernel)⟩
theorem lw_p77 : lw_okq (⟨"PlainMusicModel", "voicePart", "()Z"⟩, 111) := ⟨⟨by decide +kernel, by decide +kernel⟩, List.mem_of_getElem? (i := 1344) (by decide +kernel), List.mem_of_getElem? (i := 1774) (by decide +kernel), List.mem_of_getElem? (i := 1775) (by decide +kernel)⟩
theorem lw_p78 : lw_okq (⟨"PlainMusicModel", "put", "(I)V"⟩, 111) := ⟨⟨by decide +kernel, by decide +kernel⟩, List.mem_of_getElem? (i := 1344) (by decide +kernel), List.mem_of_getElem? (i := 1778) (by decide +kernel), List.mem_of_getElem? (i := 1779) (by decide +kernel)⟩
theorem lw_p79 : lw_okq (⟨"PlainMusicModel", "timesPart", "()Z"⟩, 111) := ⟨⟨by decide +kernel, by decide +kernel⟩, List.mem_of_getElem? (i := 1344) (by decide +kernel), List.mem_of_getElem? (i := 1782) (by decide +kernel), List.mem_of_getElem? (i := 1783) (by decide +kernel)⟩
def lw_privs_5 : List (MethodName × Nat) := [(⟨"PlainMusicModel", "whites", "(I)I"⟩, 111), (⟨"PlainMusicModel", "isSmall", "(I)Z"⟩, 111), (⟨"PlainMusicModel", "word", "()V"⟩, 111), (⟨"PlainMusicModel", "isDigit", "(I)Z"⟩, 111), (⟨"PlainMusicModel", "number", "()V"⟩, 111), (⟨"PlainMusicModel", "isWord", "(I)Z"⟩, 111), (⟨"PlainMusicModel", "timeItem", "()Z"⟩, 111), (⟨"PlainMusicModel", "wrong", "(II)Z"⟩, 111), (⟨"PlainMusicModel", "cant", "()Z"⟩, 111), (⟨"PlainMusicModel", "want", "(I)Z"⟩, 111), (⟨"PlainMusicModel", "isSign", "(I)Z"⟩, 111), (⟨"PlainMusicModel", "isPower", "(II)Z"⟩, 111), (⟨"PlainMusicModel", "voiceItem", "()Z"⟩, 111), (⟨"PlainMusicModel", "voicePart", "()Z"⟩, 111), (⟨"PlainMusicModel", "put", "(I)V"⟩, 111), (⟨"PlainMusicModel", "timesPart", "()Z"⟩, 111)]
theorem lw_r5 : ∀ q ∈ lw_privs_5, lw_okq q := List.forall_mem_cons.mpr ⟨lw_p64, List.forall_mem_cons.mpr ⟨lw_p65, List.forall_mem_cons.mpr ⟨lw_p66, List.forall_mem_cons.mpr ⟨lw_p67, List.forall_mem_cons.mpr ⟨lw_p68, List.forall_mem_cons.mpr ⟨lw_p69, List.forall_mem_cons.mpr ⟨lw_p70, List.forall_mem_cons.mpr ⟨lw_p71, List.forall_mem_cons.mpr ⟨lw_p72, List.forall_mem_cons.mpr ⟨lw_p73, List.forall_mem_cons.mpr ⟨lw_p74, List.forall_mem_cons.mpr ⟨lw_p75, List.forall_mem_cons.mpr ⟨lw_p76, List.forall_mem_cons.mpr ⟨lw_p77, List.forall_mem_cons.mpr ⟨lw_p78, List.forall_mem_cons.mpr ⟨lw_p79, fun _ h => absurd h List.not_mem_nil⟩⟩⟩⟩⟩⟩⟩⟩⟩⟩⟩⟩⟩⟩⟩⟩
theorem lw_p80 : lw_okq (⟨"PlainMusicModel", "soundPart", "()Z"⟩, 111) := ⟨⟨by decide +kernel, by decide +kernel⟩, List.mem_of_getElem? (i := 1344) (by decide +kernel), List.mem_of_getElem? (i := 1786) (by decide +kernel), List.mem_of_getElem? (i := 1787) (by decide +kernel)⟩
theorem lw_p81 : lw_okq (⟨"PlainMusicModel", "pitchOf", "(I)Z"⟩, 111) := ⟨⟨by decide +kernel, by decide +kernel⟩, List.mem_of_getElem? (i := 1344) (by decide +kernel), List.mem_of_getElem? (i := 1790) (by decide +kernel), List.mem_of_getElem? (i := 1791) (by decide +kernel)⟩
theorem lw_p82 : lw_okq (⟨"PlainMusicModel", "walk", "(I)Z"⟩, 111) := ⟨⟨by decide +kernel, by decide +kernel⟩, List.mem_of_getElem? (i := 1344) (by decide +kernel), List.mem_of_getElem? (i := 1794) (by decide +kernel), List.mem_of_getElem? (i := 1795) (by decide +kernel)⟩
theorem lw_p83 : lw_okq (⟨"PlainMusicModel", "event", "(II)V"⟩, 111) := ⟨⟨by decide +kernel, by decide +kernel⟩, List.mem_of_getElem? (i := 1344) (by decide +kernel), List.mem_of_getElem? (i := 1798) (by decide +kernel), List.mem_of_getElem? (i := 1799) (by decide +kernel)⟩
theorem lw_p84 : lw_okq (⟨"PlainMusicModel", "fraction", "(JJ)V"⟩, 111) := ⟨⟨by decide +kernel, by decide +kernel⟩, List.mem_of_getElem? (i := 1344) (by decide +kernel), List.mem_of_getElem? (i := 1803) (by decide +kernel), List.mem_of_getElem? (i := 1804) (by decide +kernel)⟩
theorem lw_p85 : lw_okq (⟨"PlainMusicModel", "divisor", "(JJ)J"⟩, 111) := ⟨⟨by decide +kernel, by decide +kernel⟩, List.mem_of_getElem? (i := 1344) (by decide +kernel), List.mem_of_getElem? (i := 1807) (by decide +kernel), List.mem_of_getElem? (i := 1808) (by decide +kernel)⟩
theorem lw_p86 : lw_okq (⟨"PlainMusicModel", "isFar", "(JJ)Z"⟩, 111) := ⟨⟨by decide +kernel, by decide +kernel⟩, List.mem_of_getElem? (i := 1344) (by decide +kernel), List.mem_of_getElem? (i := 1811) (by decide +kernel), List.mem_of_getElem? (i := 1812) (by decide +kernel)⟩
theorem lw_p87 : lw_okq (⟨"PlainMusicModel", "sum", "(JJJJ)V"⟩, 111) := ⟨⟨by decide +kernel, by decide +kernel⟩, List.mem_of_getElem? (i := 1344) (by decide +kernel), List.mem_of_getElem? (i := 1817) (by decide +kernel), List.mem_of_getElem? (i := 1818) (by decide +kernel)⟩
theorem lw_p88 : lw_okq (⟨"PlainMusicModel", "colons", "(I)I"⟩, 111) := ⟨⟨by decide +kernel, by decide +kernel⟩, List.mem_of_getElem? (i := 1344) (by decide +kernel), List.mem_of_getElem? (i := 1821) (by decide +kernel), List.mem_of_getElem? (i := 1822) (by decide +kernel)⟩
theorem lw_p89 : lw_okq (⟨"PlainMusicModel", "scale", "(II)V"⟩, 111) := ⟨⟨by decide +kernel, by decide +kernel⟩, List.mem_of_getElem? (i := 1344) (by decide +kernel), List.mem_of_getElem? (i := 1825) (by decide +kernel), List.mem_of_getElem? (i := 1826) (by decide +kernel)⟩
theorem lw_p90 : lw_okq (⟨"PlainMusicModel", "opening", "(I)I"⟩, 111) := ⟨⟨by decide +kernel, by decide +kernel⟩, List.mem_of_getElem? (i := 1344) (by decide +kernel), List.mem_of_getElem? (i := 1829) (by decide +kernel), List.mem_of_getElem? (i := 1830) (by decide +kernel)⟩
theorem lw_p91 : lw_okq (⟨"PlainMusicModel", "behindColon", "(II)I"⟩, 111) := ⟨⟨by decide +kernel, by decide +kernel⟩, List.mem_of_getElem? (i := 1344) (by decide +kernel), List.mem_of_getElem? (i := 1833) (by decide +kernel), List.mem_of_getElem? (i := 1834) (by decide +kernel)⟩
theorem lw_p92 : lw_okq (⟨"PlainMusicModel", "isIn", "(I)Z"⟩, 111) := ⟨⟨by decide +kernel, by decide +kernel⟩, List.mem_of_getElem? (i := 1344) (by decide +kernel), List.mem_of_getElem? (i := 1837) (by decide +kernel), List.mem_of_getElem? (i := 1838) (by decide +kernel)⟩
theorem lw_p93 : lw_okq (⟨"PlainMusicModel", "turned", "(I)I"⟩, 111) := ⟨⟨by decide +kernel, by decide +kernel⟩, List.mem_of_getElem? (i := 1344) (by decide +kernel), List.mem_of_getElem? (i := 1841) (by decide +kernel), List.mem_of_getElem? (i := 1842) (by decide +kernel)⟩
theorem lw_p94 : lw_okq (⟨"PlainMusicModel", "closing", "(I)I"⟩, 111) := ⟨⟨by decide +kernel, by decide +kernel⟩, List.mem_of_getElem? (i := 1344) (by decide +kernel), List.mem_of_getElem? (i := 1845) (by decide +kernel), List.mem_of_getElem? (i := 1846) (by decide +kernel)⟩
theorem lw_p95 : lw_okq (⟨"PlainMusicModel", "lineItem", "()Z"⟩, 111) := ⟨⟨by decide +kernel, by decide +kernel⟩, List.mem_of_getElem? (i := 1344) (by decide +kernel), List.mem_of_getElem? (i := 1849) (by decide +kernel), List.mem_of_getElem? (i := 1850) (by decide +kernel)⟩
def lw_privs_6 : List (MethodName × Nat) := [(⟨"PlainMusicModel", "soundPart", "()Z"⟩, 111), (⟨"PlainMusicModel", "pitchOf", "(I)Z"⟩, 111), (⟨"PlainMusicModel", "walk", "(I)Z"⟩, 111), (⟨"PlainMusicModel", "event", "(II)V"⟩, 111), (⟨"PlainMusicModel", "fraction", "(JJ)V"⟩, 111), (⟨"PlainMusicModel", "divisor", "(JJ)J"⟩, 111), (⟨"PlainMusicModel", "isFar", "(JJ)Z"⟩, 111), (⟨"PlainMusicModel", "sum", "(JJJJ)V"⟩, 111), (⟨"PlainMusicModel", "colons", "(I)I"⟩, 111), (⟨"PlainMusicModel", "scale", "(II)V"⟩, 111), (⟨"PlainMusicModel", "opening", "(I)I"⟩, 111), (⟨"PlainMusicModel", "behindColon", "(II)I"⟩, 111), (⟨"PlainMusicModel", "isIn", "(I)Z"⟩, 111), (⟨"PlainMusicModel", "turned", "(I)I"⟩, 111), (⟨"PlainMusicModel", "closing", "(I)I"⟩, 111), (⟨"PlainMusicModel", "lineItem", "()Z"⟩, 111)]
theorem lw_r6 : ∀ q ∈ lw_privs_6, lw_okq q := List.forall_mem_cons.mpr ⟨lw_p80, List.forall_mem_cons.mpr ⟨lw_p81, List.forall_mem_cons.mpr ⟨lw_p82, List.forall_mem_cons.mpr ⟨lw_p83, List.forall_mem_cons.mpr ⟨lw_p84, List.forall_mem_cons.mpr ⟨lw_p85, List.forall_mem_cons.mpr ⟨lw_p86, List.forall_mem_cons.mpr ⟨lw_p87, List.forall_mem_cons.mpr ⟨lw_p88, List.forall_mem_cons.mpr ⟨lw_p89, List.forall_mem_cons.mpr ⟨lw_p90, List.forall_mem_cons.mpr ⟨lw_p91, List.forall_mem_cons.mpr ⟨lw_p92, List.forall_mem_cons.mpr ⟨lw_p93, List.forall_mem_cons.mpr ⟨lw_p94, List.forall_mem_cons.mpr ⟨lw_p95, fun _ h => absurd h List.not_mem_nil⟩⟩⟩⟩⟩⟩⟩⟩⟩⟩⟩⟩⟩⟩⟩⟩
theorem lw_p96 : lw_okq (⟨"PlainMusicModel", "ruleItem", "()Z"⟩, 111) := ⟨⟨by decide +kernel, by decide +kernel⟩, List.mem_of_getElem? (i := 1344) (by decide +kernel), List.mem_of_getElem? (i := 1853) (by decide +kernel), List.mem_of_getElem? (i := 1854) (by decide +kernel)⟩
theorem lw_p97 : lw_okq (⟨"PlainMusicModel", "nameNumber", "()I"⟩, 111) := ⟨⟨by decide +kernel, by decide +kernel⟩, List.mem_of_getElem? (i := 1344) (by decide +kernel), List.mem_of_getElem? (i := 1857) (by decide +kernel), List.mem_of_getElem? (i := 1858) (by decide +kernel)⟩
theorem lw_p98 : lw_okq (⟨"PlainMusicModel", "rowItem", "()Z"⟩, 111) := ⟨⟨by decide +kernel, by decide +kernel⟩, List.mem_of_getElem? (i := 1344) (by decide +kernel), List.mem_of_getElem? (i := 1861) (by decide +kernel), List.mem_of_getElem? (i := 1862) (by decide +kernel)⟩
theorem lw_p99 : lw_okq (⟨"PlainMusicModel", "keep", "()V"⟩, 111) := ⟨⟨by decide +kernel, by decide +kernel⟩, List.mem_of_getElem? (i := 1344) (by decide +kernel), List.mem_of_getElem? (i := 1865) (by decide +kernel), List.mem_of_getElem? (i := 1866) (by decide +kernel)⟩
theorem lw_p100 : lw_okq (⟨"PlainMusicModel", "keepEvent", "(II)V"⟩, 111) := ⟨⟨by decide +kernel, by decide +kernel⟩, List.mem_of_getElem? (i := 1344) (by decide +kernel), List.mem_of_getElem? (i := 1869) (by decide +kernel), List.mem_of_getElem? (i := 1870) (by decide +kernel)⟩
theorem lw_p101 : lw_okq (⟨"PlainMusicModel", "pageBars", "()I"⟩, 111) := ⟨⟨by decide +kernel, by decide +kernel⟩, List.mem_of_getElem? (i := 1344) (by decide +kernel), List.mem_of_getElem? (i := 1881) (by decide +kernel), List.mem_of_getElem? (i := 1882) (by decide +kernel)⟩
theorem lw_p102 : lw_okq (⟨"PlainMusicModel", "isVoice", "(I)Z"⟩, 111) := ⟨⟨by decide +kernel, by decide +kernel⟩, List.mem_of_getElem? (i := 1344) (by decide +kernel), List.mem_of_getElem? (i := 1889) (by decide +kernel), List.mem_of_getElem? (i := 1890) (by decide +kernel)⟩
theorem lw_p103 : lw_okq (⟨"PlainMusicModel", "firstOf", "(II)I"⟩, 111) := ⟨⟨by decide +kernel, by decide +kernel⟩, List.mem_of_getElem? (i := 1344) (by decide +kernel), List.mem_of_getElem? (i := 1902) (by decide +kernel), List.mem_of_getElem? (i := 1903) (by decide +kernel)⟩
theorem lw_p104 : lw_okq (⟨"PlainMusicModel", "isWhole", "(II)Z"⟩, 111) := ⟨⟨by decide +kernel, by decide +kernel⟩, List.mem_of_getElem? (i := 1344) (by decide +kernel), List.mem_of_getElem? (i := 1906) (by decide +kernel), List.mem_of_getElem? (i := 1907) (by decide +kernel)⟩
theorem lw_p105 : lw_okq (⟨"PlainMusicModel", "compare", "(JJJJ)I"⟩, 111) := ⟨⟨by decide +kernel, by decide +kernel⟩, List.mem_of_getElem? (i := 1344) (by decide +kernel), List.mem_of_getElem? (i := 1910) (by decide +kernel), List.mem_of_getElem? (i := 1911) (by decide +kernel)⟩
theorem lw_p106 : lw_okq (⟨"PlainMusicModel", "tell", "(IIII)V"⟩, 111) := ⟨⟨by decide +kernel, by decide +kernel⟩, List.mem_of_getElem? (i := 1344) (by decide +kernel), List.mem_of_getElem? (i := 1914) (by decide +kernel), List.mem_of_getElem? (i := 1915) (by decide +kernel)⟩
theorem lw_p107 : lw_okq (⟨"PlainMusicModel", "judgeEvent", "(II)V"⟩, 111) := ⟨⟨by decide +kernel, by decide +kernel⟩, List.mem_of_getElem? (i := 1344) (by decide +kernel), List.mem_of_getElem? (i := 1918) (by decide +kernel), List.mem_of_getElem? (i := 1919) (by decide +kernel)⟩
theorem lw_p108 : lw_okq (⟨"PlainMusicModel", "goesOn", "(II)Z"⟩, 111) := ⟨⟨by decide +kernel, by decide +kernel⟩, List.mem_of_getElem? (i := 1344) (by decide +kernel), List.mem_of_getElem? (i := 1922) (by decide +kernel), List.mem_of_getElem? (i := 1923) (by decide +kernel)⟩
theorem lw_p109 : lw_okq (⟨"PlainMusicModel", "lowest", "(I)I"⟩, 111) := ⟨⟨by decide +kernel, by decide +kernel⟩, List.mem_of_getElem? (i := 1344) (by decide +kernel), List.mem_of_getElem? (i := 1926) (by decide +kernel), List.mem_of_getElem? (i := 1927) (by decide +kernel)⟩
theorem lw_p110 : lw_okq (⟨"PlainMusicModel", "crosses", "(II)Z"⟩, 111) := ⟨⟨by decide +kernel, by decide +kernel⟩, List.mem_of_getElem? (i := 1344) (by decide +kernel), List.mem_of_getElem? (i := 1930) (by decide +kernel), List.mem_of_getElem? (i := 1931) (by decide +kernel)⟩
theorem lw_p111 : lw_okq (⟨"PlainMusicModel", "isAhead", "(II)Z"⟩, 111) := ⟨⟨by decide +kernel, by decide +kernel⟩, List.mem_of_getElem? (i := 1344) (by decide +kernel), List.mem_of_getElem? (i := 1934) (by decide +kernel), List.mem_of_getElem? (i := 1935) (by decide +kernel)⟩
def lw_privs_7 : List (MethodName × Nat) := [(⟨"PlainMusicModel", "ruleItem", "()Z"⟩, 111), (⟨"PlainMusicModel", "nameNumber", "()I"⟩, 111), (⟨"PlainMusicModel", "rowItem", "()Z"⟩, 111), (⟨"PlainMusicModel", "keep", "()V"⟩, 111), (⟨"PlainMusicModel", "keepEvent", "(II)V"⟩, 111), (⟨"PlainMusicModel", "pageBars", "()I"⟩, 111), (⟨"PlainMusicModel", "isVoice", "(I)Z"⟩, 111), (⟨"PlainMusicModel", "firstOf", "(II)I"⟩, 111), (⟨"PlainMusicModel", "isWhole", "(II)Z"⟩, 111), (⟨"PlainMusicModel", "compare", "(JJJJ)I"⟩, 111), (⟨"PlainMusicModel", "tell", "(IIII)V"⟩, 111), (⟨"PlainMusicModel", "judgeEvent", "(II)V"⟩, 111), (⟨"PlainMusicModel", "goesOn", "(II)Z"⟩, 111), (⟨"PlainMusicModel", "lowest", "(I)I"⟩, 111), (⟨"PlainMusicModel", "crosses", "(II)Z"⟩, 111), (⟨"PlainMusicModel", "isAhead", "(II)Z"⟩, 111)]
theorem lw_r7 : ∀ q ∈ lw_privs_7, lw_okq q := List.forall_mem_cons.mpr ⟨lw_p96, List.forall_mem_cons.mpr ⟨lw_p97, List.forall_mem_cons.mpr ⟨lw_p98, List.forall_mem_cons.mpr ⟨lw_p99, List.forall_mem_cons.mpr ⟨lw_p100, List.forall_mem_cons.mpr ⟨lw_p101, List.forall_mem_cons.mpr ⟨lw_p102, List.forall_mem_cons.mpr ⟨lw_p103, List.forall_mem_cons.mpr ⟨lw_p104, List.forall_mem_cons.mpr ⟨lw_p105, List.forall_mem_cons.mpr ⟨lw_p106, List.forall_mem_cons.mpr ⟨lw_p107, List.forall_mem_cons.mpr ⟨lw_p108, List.forall_mem_cons.mpr ⟨lw_p109, List.forall_mem_cons.mpr ⟨lw_p110, List.forall_mem_cons.mpr ⟨lw_p111, fun _ h => absurd h List.not_mem_nil⟩⟩⟩⟩⟩⟩⟩⟩⟩⟩⟩⟩⟩⟩⟩⟩
theorem lw_p112 : lw_okq (⟨"PlainMusicModel", "highest", "(I)I"⟩, 111) := ⟨⟨by decide +kernel, by decide +kernel⟩, List.mem_of_getElem? (i := 1344) (by decide +kernel), List.mem_of_getElem? (i := 1938) (by decide +kernel), List.mem_of_getElem? (i := 1939) (by decide +kernel)⟩
theorem lw_p113 : lw_okq (⟨"PlainMusicModel", "goesAlong", "(II)Z"⟩, 111) := ⟨⟨by decide +kernel, by decide +kernel⟩, List.mem_of_getElem? (i := 1344) (by decide +kernel), List.mem_of_getElem? (i := 1942) (by decide +kernel), List.mem_of_getElem? (i := 1943) (by decide +kernel)⟩
theorem lw_p114 : lw_okq (⟨"PlainMusicModel", "modulo", "(I)I"⟩, 111) := ⟨⟨by decide +kernel, by decide +kernel⟩, List.mem_of_getElem? (i := 1344) (by decide +kernel), List.mem_of_getElem? (i := 1946) (by decide +kernel), List.mem_of_getElem? (i := 1947) (by decide +kernel)⟩
theorem lw_p115 : lw_okq (⟨"PlainMusicModel", "isShort", "(I)Z"⟩, 111) := ⟨⟨by decide +kernel, by decide +kernel⟩, List.mem_of_getElem? (i := 1344) (by decide +kernel), List.mem_of_getElem? (i := 1958) (by decide +kernel), List.mem_of_getElem? (i := 1959) (by decide +kernel)⟩
theorem lw_p116 : lw_okq (⟨"PlainMusicModel", "run", "(IIII)I"⟩, 111) := ⟨⟨by decide +kernel, by decide +kernel⟩, List.mem_of_getElem? (i := 1344) (by decide +kernel), List.mem_of_getElem? (i := 1962) (by decide +kernel), List.mem_of_getElem? (i := 1963) (by decide +kernel)⟩
theorem lw_p117 : lw_okq (⟨"PlainMusicModel", "groupCost", "(IIII)I"⟩, 111) := ⟨⟨by decide +kernel, by decide +kernel⟩, List.mem_of_getElem? (i := 1344) (by decide +kernel), List.mem_of_getElem? (i := 1966) (by decide +kernel), List.mem_of_getElem? (i := 1967) (by decide +kernel)⟩
theorem lw_p118 : lw_okq (⟨"PlainMusicModel", "isFirstTime", "(III)Z"⟩, 111) := ⟨⟨by decide +kernel, by decide +kernel⟩, List.mem_of_getElem? (i := 1344) (by decide +kernel), List.mem_of_getElem? (i := 1978) (by decide +kernel), List.mem_of_getElem? (i := 1979) (by decide +kernel)⟩
theorem lw_p119 : lw_okq (⟨"PlainMusicModel", "through", "(I)I"⟩, 111) := ⟨⟨by decide +kernel, by decide +kernel⟩, List.mem_of_getElem? (i := 1344) (by decide +kernel), List.mem_of_getElem? (i := 1996) (by decide +kernel), List.mem_of_getElem? (i := 1997) (by decide +kernel)⟩
theorem lw_p120 : lw_okq (⟨"PlainMusicModel", "goes", "(I)Z"⟩, 111) := ⟨⟨by decide +kernel, by decide +kernel⟩, List.mem_of_getElem? (i := 1344) (by decide +kernel), List.mem_of_getElem? (i := 2000) (by decide +kernel), List.mem_of_getElem? (i := 2001) (by decide +kernel)⟩
theorem lw_p121 : lw_okq (⟨"PlainMusicModel", "isRule", "(I)Z"⟩, 111) := ⟨⟨by decide +kernel, by decide +kernel⟩, List.mem_of_getElem? (i := 1344) (by decide +kernel), List.mem_of_getElem? (i := 2004) (by decide +kernel), List.mem_of_getElem? (i := 2005) (by decide +kernel)⟩
theorem lw_p122 : lw_okq (⟨"PlainMusicModel", "isWhite", "(I)Z"⟩, 111) := ⟨⟨by decide +kernel, by decide +kernel⟩, List.mem_of_getElem? (i := 1344) (by decide +kernel), List.mem_of_getElem? (i := 2008) (by decide +kernel), List.mem_of_getElem? (i := 2009) (by decide +kernel)⟩
theorem lw_p123 : lw_okq (⟨"PlainMusicModel", "byRule", "(IIII)J"⟩, 111) := ⟨⟨by decide +kernel, by decide +kernel⟩, List.mem_of_getElem? (i := 1344) (by decide +kernel), List.mem_of_getElem? (i := 2020) (by decide +kernel), List.mem_of_getElem? (i := 2021) (by decide +kernel)⟩
theorem lw_p124 : lw_okq (⟨"PlainMusicModel", "treeAt", "(III)I"⟩, 111) := ⟨⟨by decide +kernel, by decide +kernel⟩, List.mem_of_getElem? (i := 1344) (by decide +kernel), List.mem_of_getElem? (i := 2024) (by decide +kernel), List.mem_of_getElem? (i := 2025) (by decide +kernel)⟩
theorem lw_p125 : lw_okq (⟨"PlainMusicModel", "capped", "(J)J"⟩, 111) := ⟨⟨by decide +kernel, by decide +kernel⟩, List.mem_of_getElem? (i := 1344) (by decide +kernel), List.mem_of_getElem? (i := 2028) (by decide +kernel), List.mem_of_getElem? (i := 2029) (by decide +kernel)⟩
theorem lw_p126 : lw_okq (⟨"PlainMusicModel", "soundsOf", "(IZ)I"⟩, 111) := ⟨⟨by decide +kernel, by decide +kernel⟩, List.mem_of_getElem? (i := 1344) (by decide +kernel), List.mem_of_getElem? (i := 2041) (by decide +kernel), List.mem_of_getElem? (i := 2042) (by decide +kernel)⟩
theorem lw_p127 : lw_okq (⟨"PlainMusicModel", "cell", "(IIII)V"⟩, 111) := ⟨⟨by decide +kernel, by decide +kernel⟩, List.mem_of_getElem? (i := 1344) (by decide +kernel), List.mem_of_getElem? (i := 2045) (by decide +kernel), List.mem_of_getElem? (i := 2046) (by decide +kernel)⟩
def lw_privs_8 : List (MethodName × Nat) := [(⟨"PlainMusicModel", "highest", "(I)I"⟩, 111), (⟨"PlainMusicModel", "goesAlong", "(II)Z"⟩, 111), (⟨"PlainMusicModel", "modulo", "(I)I"⟩, 111), (⟨"PlainMusicModel", "isShort", "(I)Z"⟩, 111), (⟨"PlainMusicModel", "run", "(IIII)I"⟩, 111), (⟨"PlainMusicModel", "groupCost", "(IIII)I"⟩, 111), (⟨"PlainMusicModel", "isFirstTime", "(III)Z"⟩, 111), (⟨"PlainMusicModel", "through", "(I)I"⟩, 111), (⟨"PlainMusicModel", "goes", "(I)Z"⟩, 111), (⟨"PlainMusicModel", "isRule", "(I)Z"⟩, 111), (⟨"PlainMusicModel", "isWhite", "(I)Z"⟩, 111), (⟨"PlainMusicModel", "byRule", "(IIII)J"⟩, 111), (⟨"PlainMusicModel", "treeAt", "(III)I"⟩, 111), (⟨"PlainMusicModel", "capped", "(J)J"⟩, 111), (⟨"PlainMusicModel", "soundsOf", "(IZ)I"⟩, 111), (⟨"PlainMusicModel", "cell", "(IIII)V"⟩, 111)]
theorem lw_r8 : ∀ q ∈ lw_privs_8, lw_okq q := List.forall_mem_cons.mpr ⟨lw_p112, List.forall_mem_cons.mpr ⟨lw_p113, List.forall_mem_cons.mpr ⟨lw_p114, List.forall_mem_cons.mpr ⟨lw_p115, List.forall_mem_cons.mpr ⟨lw_p116, List.forall_mem_cons.mpr ⟨lw_p117, List.forall_mem_cons.mpr ⟨lw_p118, List.forall_mem_cons.mpr ⟨lw_p119, List.forall_mem_cons.mpr ⟨lw_p120, List.forall_mem_cons.mpr ⟨lw_p121, List.forall_mem_cons.mpr ⟨lw_p122, List.forall_mem_cons.mpr ⟨lw_p123, List.forall_mem_cons.mpr ⟨lw_p124, List.forall_mem_cons.mpr ⟨lw_p125, List.forall_mem_cons.mpr ⟨lw_p126, List.forall_mem_cons.mpr ⟨lw_p127, fun _ h => absurd h List.not_mem_nil⟩⟩⟩⟩⟩⟩⟩⟩⟩⟩⟩⟩⟩⟩⟩⟩
theorem lw_p128 : lw_okq (⟨"PlainMusicModel", "pairCost", "(II)I"⟩, 111) := ⟨⟨by decide +kernel, by decide +kernel⟩, List.mem_of_getElem? (i := 1344) (by decide +kernel), List.mem_of_getElem? (i := 2049) (by decide +kernel), List.mem_of_getElem? (i := 2050) (by decide +kernel)⟩
theorem lw_p129 : lw_okq (⟨"PlainMusicModel", "sound", "(IJJI)D"⟩, 111) := ⟨⟨by decide +kernel, by decide +kernel⟩, List.mem_of_getElem? (i := 1344) (by decide +kernel), List.mem_of_getElem? (i := 2068) (by decide +kernel), List.mem_of_getElem? (i := 2069) (by decide +kernel)⟩
theorem lw_p130 : lw_okq (⟨"PlainMusicModel", "ratioTop", "(I)I"⟩, 111) := ⟨⟨by decide +kernel, by decide +kernel⟩, List.mem_of_getElem? (i := 1344) (by decide +kernel), List.mem_of_getElem? (i := 2072) (by decide +kernel), List.mem_of_getElem? (i := 2073) (by decide +kernel)⟩
theorem lw_p131 : lw_okq (⟨"PlainMusicModel", "ratioLow", "(I)I"⟩, 111) := ⟨⟨by decide +kernel, by decide +kernel⟩, List.mem_of_getElem? (i := 1344) (by decide +kernel), List.mem_of_getElem? (i := 2077) (by decide +kernel), List.mem_of_getElem? (i := 2078) (by decide +kernel)⟩
theorem lw_p132 : lw_okq (⟨"PlainMusicModel", "product", "(JJJ)J"⟩, 111) := ⟨⟨by decide +kernel, by decide +kernel⟩, List.mem_of_getElem? (i := 1344) (by decide +kernel), List.mem_of_getElem? (i := 2081) (by decide +kernel), List.mem_of_getElem? (i := 2082) (by decide +kernel)⟩
def lw_privs_9 : List (MethodName × Nat) := [(⟨"PlainMusicModel", "pairCost", "(II)I"⟩, 111), (⟨"PlainMusicModel", "sound", "(IJJI)D"⟩, 111), (⟨"PlainMusicModel", "ratioTop", "(I)I"⟩, 111), (⟨"PlainMusicModel", "ratioLow", "(I)I"⟩, 111), (⟨"PlainMusicModel", "product", "(JJJ)J"⟩, 111)]
theorem lw_r9 : ∀ q ∈ lw_privs_9, lw_okq q := List.forall_mem_cons.mpr ⟨lw_p128, List.forall_mem_cons.mpr ⟨lw_p129, List.forall_mem_cons.mpr ⟨lw_p130, List.forall_mem_cons.mpr ⟨lw_p131, List.forall_mem_cons.mpr ⟨lw_p132, fun _ h => absurd h List.not_mem_nil⟩⟩⟩⟩⟩
def lw_privs : List (MethodName × Nat) := lw_privs_1 ++ (lw_privs_2 ++ (lw_privs_3 ++ (lw_privs_4 ++ (lw_privs_5 ++ (lw_privs_6 ++ (lw_privs_7 ++ (lw_privs_8 ++ (lw_privs_9))))))))
def lw_tbl : List Cond := k2_sels lw_privs ++ tables_1
theorem lw_privs_ok : ∀ q ∈ lw_privs, lw_okq q := by
  show ∀ q ∈ lw_privs_1 ++ (lw_privs_2 ++ (lw_privs_3 ++ (lw_privs_4 ++ (lw_privs_5 ++ (lw_privs_6 ++ (lw_privs_7 ++ (lw_privs_8 ++ (lw_privs_9)))))))), lw_okq q
  exact List.forall_mem_append.mpr ⟨lw_r1, List.forall_mem_append.mpr ⟨lw_r2, List.forall_mem_append.mpr ⟨lw_r3, List.forall_mem_append.mpr ⟨lw_r4, List.forall_mem_append.mpr ⟨lw_r5, List.forall_mem_append.mpr ⟨lw_r6, List.forall_mem_append.mpr ⟨lw_r7, List.forall_mem_append.mpr ⟨lw_r8, lw_r9⟩⟩⟩⟩⟩⟩⟩⟩
-- ===== end of PART A; then your names; then what follows =====
end
section
/-! ===== the classes' names and fields, as printed ===== -/
def RX0 : String := "PlainMusic$Beams"
def TX0 : u_T := fun k => match k with
  | 0 => ("PlainMusic$Beams", "groups", "[I", true)
  | 1 => ("PlainMusic$Beams", "groupCount", "I", false)
  | 2 => ("PlainMusic$Beams", "best", "[I", true)
  | _ => ("PlainMusic$Beams", "sizes", "[I", true)
def tyX0 : Nat → FieldType := fun k => match k with
  | 0 => .array .int
  | 1 => .int
  | 2 => .array .int
  | _ => .array .int
abbrev wsX00 : List Cond := u_ws RX0 TX0 4
theorem nmX0 : ∀ a, a < 4 → ∀ b, b < 4 → a ≠ b → (TX0 a).2.1 ≠ (TX0 b).2.1 := by decide +kernel
theorem tyX0_ok : ∀ k, k < 4 → parseFieldDescriptor (TX0 k).2.2.1 = some (tyX0 k) := by decide +kernel
def RX1 : String := "PlainMusic$Judge"
def TX1 : u_T := fun k => match k with
  | 0 => ("PlainMusic$Judge", "faults", "[I", true)
  | 1 => ("PlainMusic$Judge", "size", "I", false)
  | _ => ("PlainMusic$Judge", "sounding", "[I", true)
def tyX1 : Nat → FieldType := fun k => match k with
  | 0 => .array .int
  | 1 => .int
  | _ => .array .int
abbrev wsX10 : List Cond := u_ws RX1 TX1 3
theorem nmX1 : ∀ a, a < 3 → ∀ b, b < 3 → a ≠ b → (TX1 a).2.1 ≠ (TX1 b).2.1 := by decide +kernel
theorem tyX1_ok : ∀ k, k < 3 → parseFieldDescriptor (TX1 k).2.2.1 = some (tyX1 k) := by decide +kernel
def RX2 : String := "PlainMusic$Page"
def TX2 : u_T := fun k => match k with
  | 0 => ("PlainMusic$Page", "lineBars", "[I", true)
  | 1 => ("PlainMusic$Page", "lineCount", "I", false)
  | 2 => ("PlainMusic$Page", "widths", "[I", true)
  | 3 => ("PlainMusic$Page", "best", "[J", true)
  | 4 => ("PlainMusic$Page", "sizes", "[I", true)
  | 5 => ("PlainMusic$Page", "nextEvents", "[I", true)
  | 6 => ("PlainMusic$Page", "nextTops", "[J", true)
  | _ => ("PlainMusic$Page", "nextBottoms", "[J", true)
def tyX2 : Nat → FieldType := fun k => match k with
  | 0 => .array .int
  | 1 => .int
  | 2 => .array .int
  | 3 => .array .long
  | 4 => .array .int
  | 5 => .array .int
  | 6 => .array .long
  | _ => .array .long
abbrev wsX20 : List Cond := u_ws RX2 TX2 8
theorem nmX2 : ∀ a, a < 8 → ∀ b, b < 8 → a ≠ b → (TX2 a).2.1 ≠ (TX2 b).2.1 := by decide +kernel
theorem tyX2_ok : ∀ k, k < 8 → parseFieldDescriptor (TX2 k).2.2.1 = some (tyX2 k) := by decide +kernel
def RX3 : String := "PlainMusic$Pairing"
def TX3 : u_T := fun k => match k with
  | 0 => ("PlainMusic$Pairing", "firstEvents", "[I", true)
  | 1 => ("PlainMusic$Pairing", "otherEvents", "[I", true)
  | 2 => ("PlainMusic$Pairing", "costs", "[I", true)
  | 3 => ("PlainMusic$Pairing", "wayCounts", "[I", true)
  | 4 => ("PlainMusic$Pairing", "partners", "[I", true)
  | 5 => ("PlainMusic$Pairing", "firsts", "I", false)
  | 6 => ("PlainMusic$Pairing", "others", "I", false)
  | _ => ("PlainMusic$Pairing", "leastWays", "I", false)
def tyX3 : Nat → FieldType := fun k => match k with
  | 0 => .array .int
  | 1 => .array .int
  | 2 => .array .int
  | 3 => .array .int
  | 4 => .array .int
  | 5 => .int
  | 6 => .int
  | _ => .int
abbrev wsX30 : List Cond := u_ws RX3 TX3 8
theorem nmX3 : ∀ a, a < 8 → ∀ b, b < 8 → a ≠ b → (TX3 a).2.1 ≠ (TX3 b).2.1 := by decide +kernel
theorem tyX3_ok : ∀ k, k < 8 → parseFieldDescriptor (TX3 k).2.2.1 = some (tyX3 k) := by decide +kernel
def RX4 : String := "PlainMusic$Parts"
def TX4 : u_T := fun k => match k with
  | 0 => ("PlainMusic$Parts", "kinds", "[I", true)
  | 1 => ("PlainMusic$Parts", "links", "[I", true)
  | 2 => ("PlainMusic$Parts", "values", "[I", true)
  | 3 => ("PlainMusic$Parts", "others", "[I", true)
  | 4 => ("PlainMusic$Parts", "size", "I", false)
  | 5 => ("PlainMusic$Parts", "opened", "[I", true)
  | 6 => ("PlainMusic$Parts", "lastMarks", "[I", true)
  | 7 => ("PlainMusic$Parts", "depth", "I", false)
  | 8 => ("PlainMusic$Parts", "steps", "I", false)
  | 9 => ("PlainMusic$Parts", "eventsMet", "I", false)
  | 10 => ("PlainMusic$Parts", "linesMet", "I", false)
  | _ => ("PlainMusic$Parts", "timely", "Z", false)
def tyX4 : Nat → FieldType := fun k => match k with
  | 0 => .array .int
  | 1 => .array .int
  | 2 => .array .int
  | 3 => .array .int
  | 4 => .int
  | 5 => .array .int
  | 6 => .array .int
  | 7 => .int
  | 8 => .int
  | 9 => .int
  | 10 => .int
  | _ => .boolean
abbrev wsX40 : List Cond := u_ws RX4 TX4 12
theorem nmX4 : ∀ a, a < 12 → ∀ b, b < 12 → a ≠ b → (TX4 a).2.1 ≠ (TX4 b).2.1 := by decide +kernel
theorem tyX4_ok : ∀ k, k < 12 → parseFieldDescriptor (TX4 k).2.2.1 = some (tyX4 k) := by decide +kernel
def RX5 : String := "PlainMusic$Reader"
def TX5 : u_T := fun k => match k with
  | 0 => ("PlainMusic$Reader", "tokens", "LPlainMusic$Tokens;", true)
  | 1 => ("PlainMusic$Reader", "parts", "LPlainMusic$Parts;", true)
  | 2 => ("PlainMusic$Reader", "names", "[J", true)
  | 3 => ("PlainMusic$Reader", "nameCount", "I", false)
  | 4 => ("PlainMusic$Reader", "soundsRead", "I", false)
  | 5 => ("PlainMusic$Reader", "target", "LPlainMusic$Score;", false)
  | 6 => ("PlainMusic$Reader", "fault", "I", false)
  | _ => ("PlainMusic$Reader", "faultPlace", "I", false)
def tyX5 : Nat → FieldType := fun k => match k with
  | 0 => .object "PlainMusic$Tokens"
  | 1 => .object "PlainMusic$Parts"
  | 2 => .array .long
  | 3 => .int
  | 4 => .int
  | 5 => .object "PlainMusic$Score"
  | 6 => .int
  | _ => .int
abbrev wsX50 : List Cond := u_ws RX5 TX5 8
theorem nmX5 : ∀ a, a < 8 → ∀ b, b < 8 → a ≠ b → (TX5 a).2.1 ≠ (TX5 b).2.1 := by decide +kernel
theorem tyX5_ok : ∀ k, k < 8 → parseFieldDescriptor (TX5 k).2.2.1 = some (tyX5 k) := by decide +kernel
def RX6 : String := "PlainMusic$Score"
def TX6 : u_T := fun k => match k with
  | 0 => ("PlainMusic$Score", "voices", "[LPlainMusic$Voice;", true)
  | 1 => ("PlainMusic$Score", "voiceCount", "I", false)
  | 2 => ("PlainMusic$Score", "timeTop", "I", false)
  | 3 => ("PlainMusic$Score", "timeBottom", "I", false)
  | 4 => ("PlainMusic$Score", "timed", "Z", false)
  | 5 => ("PlainMusic$Score", "lineKeys", "[I", true)
  | 6 => ("PlainMusic$Score", "lineLength", "I", false)
  | 7 => ("PlainMusic$Score", "ruleNames", "[I", true)
  | 8 => ("PlainMusic$Score", "ruleLefts", "[I", true)
  | 9 => ("PlainMusic$Score", "ruleRights", "[I", true)
  | 10 => ("PlainMusic$Score", "ruleCount", "I", false)
  | 11 => ("PlainMusic$Score", "row", "[I", true)
  | _ => ("PlainMusic$Score", "rowLength", "I", false)
def tyX6 : Nat → FieldType := fun k => match k with
  | 0 => .array (.object "PlainMusic$Voice")
  | 1 => .int
  | 2 => .int
  | 3 => .int
  | 4 => .boolean
  | 5 => .array .int
  | 6 => .int
  | 7 => .array .int
  | 8 => .array .int
  | 9 => .array .int
  | 10 => .int
  | 11 => .array .int
  | _ => .int
abbrev wsX60 : List Cond := u_ws RX6 TX6 13
theorem nmX6 : ∀ a, a < 13 → ∀ b, b < 13 → a ≠ b → (TX6 a).2.1 ≠ (TX6 b).2.1 := by decide +kernel
theorem tyX6_ok : ∀ k, k < 13 → parseFieldDescriptor (TX6 k).2.2.1 = some (tyX6 k) := by decide +kernel
def RX7 : String := "PlainMusic$Seconds"
def TX7 : u_T := fun k => match k with
  | 0 => ("PlainMusic$Seconds", "bits", "[J", true)
  | 1 => ("PlainMusic$Seconds", "found", "I", false)
  | 2 => ("PlainMusic$Seconds", "low", "I", false)
  | 3 => ("PlainMusic$Seconds", "span", "I", false)
  | 4 => ("PlainMusic$Seconds", "places", "I", false)
  | 5 => ("PlainMusic$Seconds", "rules", "I", false)
  | 6 => ("PlainMusic$Seconds", "line", "[I", true)
  | _ => ("PlainMusic$Seconds", "keys", "[I", true)
def tyX7 : Nat → FieldType := fun k => match k with
  | 0 => .array .long
  | 1 => .int
  | 2 => .int
  | 3 => .int
  | 4 => .int
  | 5 => .int
  | 6 => .array .int
  | _ => .array .int
abbrev wsX70 : List Cond := u_ws RX7 TX7 8
theorem nmX7 : ∀ a, a < 8 → ∀ b, b < 8 → a ≠ b → (TX7 a).2.1 ≠ (TX7 b).2.1 := by decide +kernel
theorem tyX7_ok : ∀ k, k < 8 → parseFieldDescriptor (TX7 k).2.2.1 = some (tyX7 k) := by decide +kernel
def RX8 : String := "PlainMusic$Tokens"
def TX8 : u_T := fun k => match k with
  | 0 => ("PlainMusic$Tokens", "kinds", "[I", true)
  | 1 => ("PlainMusic$Tokens", "places", "[I", true)
  | 2 => ("PlainMusic$Tokens", "values", "[J", true)
  | 3 => ("PlainMusic$Tokens", "steps", "[I", true)
  | 4 => ("PlainMusic$Tokens", "size", "I", false)
  | 5 => ("PlainMusic$Tokens", "now", "I", false)
  | 6 => ("PlainMusic$Tokens", "text", "[I", false)
  | 7 => ("PlainMusic$Tokens", "length", "I", false)
  | 8 => ("PlainMusic$Tokens", "at", "I", false)
  | 9 => ("PlainMusic$Tokens", "kind", "I", false)
  | 10 => ("PlainMusic$Tokens", "place", "I", false)
  | 11 => ("PlainMusic$Tokens", "value", "J", false)
  | _ => ("PlainMusic$Tokens", "step", "I", false)
def tyX8 : Nat → FieldType := fun k => match k with
  | 0 => .array .int
  | 1 => .array .int
  | 2 => .array .long
  | 3 => .array .int
  | 4 => .int
  | 5 => .int
  | 6 => .array .int
  | 7 => .int
  | 8 => .int
  | 9 => .int
  | 10 => .int
  | 11 => .long
  | _ => .int
abbrev wsX80 : List Cond := u_ws RX8 TX8 13
theorem nmX8 : ∀ a, a < 13 → ∀ b, b < 13 → a ≠ b → (TX8 a).2.1 ≠ (TX8 b).2.1 := by decide +kernel
theorem tyX8_ok : ∀ k, k < 13 → parseFieldDescriptor (TX8 k).2.2.1 = some (tyX8 k) := by decide +kernel
def RX9 : String := "PlainMusic$Trees"
def TX9 : u_T := fun k => match k with
  | 0 => ("PlainMusic$Trees", "counts", "[I", true)
  | 1 => ("PlainMusic$Trees", "found", "I", false)
  | 2 => ("PlainMusic$Trees", "partName", "I", false)
  | 3 => ("PlainMusic$Trees", "partFrom", "I", false)
  | 4 => ("PlainMusic$Trees", "partTo", "I", false)
  | _ => ("PlainMusic$Trees", "partTree", "J", false)
def tyX9 : Nat → FieldType := fun k => match k with
  | 0 => .array .int
  | 1 => .int
  | 2 => .int
  | 3 => .int
  | 4 => .int
  | _ => .long
abbrev wsX90 : List Cond := u_ws RX9 TX9 6
theorem nmX9 : ∀ a, a < 6 → ∀ b, b < 6 → a ≠ b → (TX9 a).2.1 ≠ (TX9 b).2.1 := by decide +kernel
theorem tyX9_ok : ∀ k, k < 6 → parseFieldDescriptor (TX9 k).2.2.1 = some (tyX9 k) := by decide +kernel
def RX10 : String := "PlainMusic$Voice"
def TX10 : u_T := fun k => match k with
  | 0 => ("PlainMusic$Voice", "pitchKeys", "[I", true)
  | 1 => ("PlainMusic$Voice", "pitchSteps", "[I", true)
  | 2 => ("PlainMusic$Voice", "pitches", "I", false)
  | 3 => ("PlainMusic$Voice", "soundPitches", "[I", true)
  | 4 => ("PlainMusic$Voice", "soundNumbers", "[I", true)
  | 5 => ("PlainMusic$Voice", "soundDots", "[I", true)
  | 6 => ("PlainMusic$Voice", "soundTied", "[Z", true)
  | 7 => ("PlainMusic$Voice", "sounds", "I", false)
  | 8 => ("PlainMusic$Voice", "eventSounds", "[I", true)
  | 9 => ("PlainMusic$Voice", "eventBars", "[I", true)
  | 10 => ("PlainMusic$Voice", "startTop", "[J", true)
  | 11 => ("PlainMusic$Voice", "startBottom", "[J", true)
  | 12 => ("PlainMusic$Voice", "lengthTop", "[J", true)
  | 13 => ("PlainMusic$Voice", "lengthBottom", "[J", true)
  | 14 => ("PlainMusic$Voice", "events", "I", false)
  | 15 => ("PlainMusic$Voice", "barEvents", "[I", true)
  | _ => ("PlainMusic$Voice", "bars", "I", false)
def tyX10 : Nat → FieldType := fun k => match k with
  | 0 => .array .int
  | 1 => .array .int
  | 2 => .int
  | 3 => .array .int
  | 4 => .array .int
  | 5 => .array .int
  | 6 => .array .boolean
  | 7 => .int
  | 8 => .array .int
  | 9 => .array .int
  | 10 => .array .long
  | 11 => .array .long
  | 12 => .array .long
  | 13 => .array .long
  | 14 => .int
  | 15 => .array .int
  | _ => .int
abbrev wsX100 : List Cond := u_ws RX10 TX10 17
theorem nmX10 : ∀ a, a < 17 → ∀ b, b < 17 → a ≠ b → (TX10 a).2.1 ≠ (TX10 b).2.1 := by decide +kernel
theorem tyX10_ok : ∀ k, k < 17 → parseFieldDescriptor (TX10 k).2.2.1 = some (tyX10 k) := by decide +kernel
def RX11 : String := "PlainMusic"
def TX11 : u_T := fun k => match k with
  | 0 => ("PlainMusic", "tape", "[I", true)
  | 1 => ("PlainMusic", "taped", "I", false)
  | 2 => ("PlainMusic", "reader", "LPlainMusic$Reader;", true)
  | 3 => ("PlainMusic", "current", "LPlainMusic$Score;", false)
  | 4 => ("PlainMusic", "faultPlace", "I", false)
  | 5 => ("PlainMusic", "judge", "LPlainMusic$Judge;", true)
  | 6 => ("PlainMusic", "beams", "LPlainMusic$Beams;", true)
  | 7 => ("PlainMusic", "page", "LPlainMusic$Page;", true)
  | 8 => ("PlainMusic", "seconds", "LPlainMusic$Seconds;", true)
  | 9 => ("PlainMusic", "trees", "LPlainMusic$Trees;", true)
  | _ => ("PlainMusic", "pairing", "LPlainMusic$Pairing;", true)
def tyX11 : Nat → FieldType := fun k => match k with
  | 0 => .array .int
  | 1 => .int
  | 2 => .object "PlainMusic$Reader"
  | 3 => .object "PlainMusic$Score"
  | 4 => .int
  | 5 => .object "PlainMusic$Judge"
  | 6 => .object "PlainMusic$Beams"
  | 7 => .object "PlainMusic$Page"
  | 8 => .object "PlainMusic$Seconds"
  | 9 => .object "PlainMusic$Trees"
  | _ => .object "PlainMusic$Pairing"
abbrev wsX110 : List Cond := u_ws RX11 TX11 11
theorem nmX11 : ∀ a, a < 11 → ∀ b, b < 11 → a ≠ b → (TX11 a).2.1 ≠ (TX11 b).2.1 := by decide +kernel
theorem tyX11_ok : ∀ k, k < 11 → parseFieldDescriptor (TX11 k).2.2.1 = some (tyX11 k) := by decide +kernel
def RX12 : String := "PlainMusicModel"
def TX12 : u_T := fun k => match k with
  | 0 => ("PlainMusicModel", "tape", "[I", true)
  | 1 => ("PlainMusicModel", "taped", "I", false)
  | 2 => ("PlainMusicModel", "end", "I", false)
  | 3 => ("PlainMusicModel", "scan", "I", false)
  | 4 => ("PlainMusicModel", "kind", "I", false)
  | 5 => ("PlainMusicModel", "from", "I", false)
  | 6 => ("PlainMusicModel", "value", "I", false)
  | 7 => ("PlainMusicModel", "name", "J", false)
  | 8 => ("PlainMusicModel", "key", "I", false)
  | 9 => ("PlainMusicModel", "step", "I", false)
  | 10 => ("PlainMusicModel", "signs", "I", false)
  | 11 => ("PlainMusicModel", "fault", "I", false)
  | 12 => ("PlainMusicModel", "faultAt", "I", false)
  | 13 => ("PlainMusicModel", "placed", "I", false)
  | 14 => ("PlainMusicModel", "voices", "[I", true)
  | 15 => ("PlainMusicModel", "timeTop", "[I", true)
  | 16 => ("PlainMusicModel", "timeLow", "[I", true)
  | 17 => ("PlainMusicModel", "lineSize", "[I", true)
  | 18 => ("PlainMusicModel", "lineKey", "[I", true)
  | 19 => ("PlainMusicModel", "rules", "[I", true)
  | 20 => ("PlainMusicModel", "ruleOf", "[I", true)
  | 21 => ("PlainMusicModel", "ruleLeft", "[I", true)
  | 22 => ("PlainMusicModel", "ruleRight", "[I", true)
  | 23 => ("PlainMusicModel", "rowSize", "[I", true)
  | 24 => ("PlainMusicModel", "row", "[I", true)
  | 25 => ("PlainMusicModel", "nameCount", "[I", true)
  | 26 => ("PlainMusicModel", "names", "[J", true)
  | 27 => ("PlainMusicModel", "count", "[I", true)
  | 28 => ("PlainMusicModel", "bars", "[I", true)
  | 29 => ("PlainMusicModel", "startTop", "[J", true)
  | 30 => ("PlainMusicModel", "startLow", "[J", true)
  | 31 => ("PlainMusicModel", "lengthTop", "[J", true)
  | 32 => ("PlainMusicModel", "lengthLow", "[J", true)
  | 33 => ("PlainMusicModel", "pitches", "[I", true)
  | 34 => ("PlainMusicModel", "keys", "[I", true)
  | 35 => ("PlainMusicModel", "steps", "[I", true)
  | 36 => ("PlainMusicModel", "accidents", "[I", true)
  | 37 => ("PlainMusicModel", "tied", "[Z", true)
  | 38 => ("PlainMusicModel", "barOf", "[I", true)
  | 39 => ("PlainMusicModel", "told", "[I", true)
  | 40 => ("PlainMusicModel", "dots", "[I", true)
  | 41 => ("PlainMusicModel", "barTop", "[J", true)
  | 42 => ("PlainMusicModel", "barLow", "[J", true)
  | 43 => ("PlainMusicModel", "parts", "I", false)
  | 44 => ("PlainMusicModel", "part", "[I", true)
  | 45 => ("PlainMusicModel", "partTop", "[I", true)
  | 46 => ("PlainMusicModel", "partLow", "[I", true)
  | 47 => ("PlainMusicModel", "partPitches", "[I", true)
  | 48 => ("PlainMusicModel", "partKeys", "[I", true)
  | 49 => ("PlainMusicModel", "partSteps", "[I", true)
  | 50 => ("PlainMusicModel", "partSigns", "[I", true)
  | 51 => ("PlainMusicModel", "partTied", "[Z", true)
  | 52 => ("PlainMusicModel", "partDots", "[I", true)
  | 53 => ("PlainMusicModel", "mate", "[I", true)
  | 54 => ("PlainMusicModel", "firstColon", "[I", true)
  | 55 => ("PlainMusicModel", "nextColon", "[I", true)
  | 56 => ("PlainMusicModel", "lastColon", "[I", true)
  | 57 => ("PlainMusicModel", "colonCount", "[I", true)
  | 58 => ("PlainMusicModel", "openPart", "[I", true)
  | 59 => ("PlainMusicModel", "hasTime", "Z", false)
  | 60 => ("PlainMusicModel", "hasLine", "Z", false)
  | 61 => ("PlainMusicModel", "hasRow", "Z", false)
  | 62 => ("PlainMusicModel", "openKind", "[I", true)
  | 63 => ("PlainMusicModel", "opens", "I", false)
  | 64 => ("PlainMusicModel", "sounds", "I", false)
  | 65 => ("PlainMusicModel", "top", "J", false)
  | 66 => ("PlainMusicModel", "low", "J", false)
  | 67 => ("PlainMusicModel", "walkAt", "[I", true)
  | 68 => ("PlainMusicModel", "turn", "[I", true)
  | 69 => ("PlainMusicModel", "turns", "[I", true)
  | 70 => ("PlainMusicModel", "depth", "I", false)
  | 71 => ("PlainMusicModel", "come", "I", false)
  | 72 => ("PlainMusicModel", "events", "I", false)
  | 73 => ("PlainMusicModel", "lines", "I", false)
  | 74 => ("PlainMusicModel", "far", "Z", false)
  | 75 => ("PlainMusicModel", "nowTop", "J", false)
  | 76 => ("PlainMusicModel", "nowLow", "J", false)
  | 77 => ("PlainMusicModel", "scaleTop", "J", false)
  | 78 => ("PlainMusicModel", "scaleLow", "J", false)
  | 79 => ("PlainMusicModel", "inEnding", "[Z", true)
  | 80 => ("PlainMusicModel", "faults", "I", false)
  | 81 => ("PlainMusicModel", "faultSort", "[I", true)
  | 82 => ("PlainMusicModel", "faultVoice", "[I", true)
  | 83 => ("PlainMusicModel", "faultEvent", "[I", true)
  | 84 => ("PlainMusicModel", "faultOther", "[I", true)
  | 85 => ("PlainMusicModel", "groups", "I", false)
  | 86 => ("PlainMusicModel", "group", "[I", true)
  | 87 => ("PlainMusicModel", "least", "[I", true)
  | 88 => ("PlainMusicModel", "take", "[I", true)
  | 89 => ("PlainMusicModel", "lineCount", "I", false)
  | 90 => ("PlainMusicModel", "lineBars", "[I", true)
  | 91 => ("PlainMusicModel", "found", "I", false)
  | 92 => ("PlainMusicModel", "against", "[I", true)
  | 93 => ("PlainMusicModel", "againstSize", "I", false)
  | 94 => ("PlainMusicModel", "lowKey", "I", false)
  | 95 => ("PlainMusicModel", "highKey", "I", false)
  | 96 => ("PlainMusicModel", "ruleBits", "I", false)
  | 97 => ("PlainMusicModel", "second", "[I", true)
  | 98 => ("PlainMusicModel", "readingCount", "I", false)
  | 99 => ("PlainMusicModel", "trees", "[J", true)
  | 100 => ("PlainMusicModel", "toldName", "[I", true)
  | 101 => ("PlainMusicModel", "toldFirst", "[I", true)
  | 102 => ("PlainMusicModel", "toldSize", "[I", true)
  | 103 => ("PlainMusicModel", "toldWhich", "[J", true)
  | 104 => ("PlainMusicModel", "partners", "I", false)
  | 105 => ("PlainMusicModel", "wayCount", "I", false)
  | 106 => ("PlainMusicModel", "partner", "[I", true)
  | 107 => ("PlainMusicModel", "one", "[I", true)
  | 108 => ("PlainMusicModel", "other", "[I", true)
  | 109 => ("PlainMusicModel", "cost", "[I", true)
  | _ => ("PlainMusicModel", "ways", "[J", true)
def tyX12 : Nat → FieldType := fun k => match k with
  | 0 => .array .int
  | 1 => .int
  | 2 => .int
  | 3 => .int
  | 4 => .int
  | 5 => .int
  | 6 => .int
  | 7 => .long
  | 8 => .int
  | 9 => .int
  | 10 => .int
  | 11 => .int
  | 12 => .int
  | 13 => .int
  | 14 => .array .int
  | 15 => .array .int
  | 16 => .array .int
  | 17 => .array .int
  | 18 => .array .int
  | 19 => .array .int
  | 20 => .array .int
  | 21 => .array .int
  | 22 => .array .int
  | 23 => .array .int
  | 24 => .array .int
  | 25 => .array .int
  | 26 => .array .long
  | 27 => .array .int
  | 28 => .array .int
  | 29 => .array .long
  | 30 => .array .long
  | 31 => .array .long
  | 32 => .array .long
  | 33 => .array .int
  | 34 => .array .int
  | 35 => .array .int
  | 36 => .array .int
  | 37 => .array .boolean
  | 38 => .array .int
  | 39 => .array .int
  | 40 => .array .int
  | 41 => .array .long
  | 42 => .array .long
  | 43 => .int
  | 44 => .array .int
  | 45 => .array .int
  | 46 => .array .int
  | 47 => .array .int
  | 48 => .array .int
  | 49 => .array .int
  | 50 => .array .int
  | 51 => .array .boolean
  | 52 => .array .int
  | 53 => .array .int
  | 54 => .array .int
  | 55 => .array .int
  | 56 => .array .int
  | 57 => .array .int
  | 58 => .array .int
  | 59 => .boolean
  | 60 => .boolean
  | 61 => .boolean
  | 62 => .array .int
  | 63 => .int
  | 64 => .int
  | 65 => .long
  | 66 => .long
  | 67 => .array .int
  | 68 => .array .int
  | 69 => .array .int
  | 70 => .int
  | 71 => .int
  | 72 => .int
  | 73 => .int
  | 74 => .boolean
  | 75 => .long
  | 76 => .long
  | 77 => .long
  | 78 => .long
  | 79 => .array .boolean
  | 80 => .int
  | 81 => .array .int
  | 82 => .array .int
  | 83 => .array .int
  | 84 => .array .int
  | 85 => .int
  | 86 => .array .int
  | 87 => .array .int
  | 88 => .array .int
  | 89 => .int
  | 90 => .array .int
  | 91 => .int
  | 92 => .array .int
  | 93 => .int
  | 94 => .int
  | 95 => .int
  | 96 => .int
  | 97 => .array .int
  | 98 => .int
  | 99 => .array .long
  | 100 => .array .int
  | 101 => .array .int
  | 102 => .array .int
  | 103 => .array .long
  | 104 => .int
  | 105 => .int
  | 106 => .array .int
  | 107 => .array .int
  | 108 => .array .int
  | 109 => .array .int
  | _ => .array .long
abbrev wsX120 : List Cond := u_ws RX12 TX12 111
theorem nmX12 : ∀ a, a < 111 → ∀ b, b < 111 → a ≠ b → (TX12 a).2.1 ≠ (TX12 b).2.1 := by decide +kernel
theorem tyX12_ok : ∀ k, k < 111 → parseFieldDescriptor (TX12 k).2.2.1 = some (tyX12 k) := by decide +kernel
end
section
/-! ===== an abstract machine over the kit's rows: values, heap, the judgement aw ===== -/
abbrev av_T : Type := Int ⊕ (Int ⊕ (UInt64 ⊕ (Option Nat ⊕ Nat)))
abbrev av_I (z : Int) : av_T := .inl z
abbrev av_L (z : Int) : av_T := .inr (.inl z)
abbrev av_D (d : UInt64) : av_T := .inr (.inr (.inl d))
abbrev av_R (r : Option Nat) : av_T := .inr (.inr (.inr (.inl r)))
abbrev av_S (k : Nat) : av_T := .inr (.inr (.inr (.inr k)))
/-- base, addresses, lengths and contents of the arrays that are only read, class ids, slots, array class ids, launch -/
abbrev cx_T : Type := Nat × (Nat → Nat) × (Nat → Nat) × (Nat → Nat → Int) × (Nat → ClassId) × (Nat → Nat → Nat) × (Nat → ClassId) × Launch
abbrev cx_b (G : cx_T) : Nat := G.1
abbrev cx_ra (G : cx_T) : Nat → Nat := G.2.1
abbrev cx_rl (G : cx_T) : Nat → Nat := G.2.2.1
abbrev cx_rv (G : cx_T) : Nat → Nat → Int := G.2.2.2.1
abbrev cx_dC (G : cx_T) : Nat → ClassId := G.2.2.2.2.1
abbrev cx_dI (G : cx_T) : Nat → Nat → Nat := G.2.2.2.2.2.1
abbrev cx_cA (G : cx_T) : Nat → ClassId := G.2.2.2.2.2.2.1
abbrev cx_l (G : cx_T) : Launch := G.2.2.2.2.2.2.2
def cv (G : cx_T) (v : av_T) : Value := match v with
  | .inl z => .int (Int32.ofInt z)
  | .inr (.inl z) => .long (Int64.ofInt z)
  | .inr (.inr (.inl d)) => .double d
  | .inr (.inr (.inr (.inl r))) => va_rf (r.map (fun a => cx_b G + a))
  | .inr (.inr (.inr (.inr k))) => .ref (cx_ra G k)
def i32 (z : Int) : Prop := -2147483648 ≤ z ∧ z < 2147483648
def i64 (z : Int) : Prop := -9223372036854775808 ≤ z ∧ z < 9223372036854775808
def w32 (z : Int) : Int := (z + 2147483648) % 4294967296 - 2147483648
def w64 (z : Int) : Int := (z + 9223372036854775808) % 18446744073709551616 - 9223372036854775808
def nv (v : av_T) : Prop := match v with
  | .inl z => i32 z
  | .inr (.inl z) => i64 z
  | _ => True
theorem w32_in (z : Int) : i32 (w32 z) := by unfold i32 w32; omega
theorem w64_in (z : Int) : i64 (w64 z) := by unfold i64 w64; omega
theorem w32_id {z : Int} (h : i32 z) : w32 z = z := by unfold i32 at h; unfold w32; omega
theorem w64_id {z : Int} (h : i64 z) : w64 z = z := by unfold i64 at h; unfold w64; omega
theorem w32_bm (z : Int) : z.bmod 4294967296 = w32 z := by
  unfold w32 Int.bmod
  dsimp only
  split <;> omega
theorem w64_bm (z : Int) : z.bmod 18446744073709551616 = w64 z := by
  unfold w64 Int.bmod
  dsimp only
  split <;> omega
theorem i32_ti (z : Int) : (Int32.ofInt z).toInt = w32 z := by rw [Int32.toInt_ofInt]; exact w32_bm z
theorem i64_ti (z : Int) : (Int64.ofInt z).toInt = w64 z := by rw [Int64.toInt_ofInt]; exact w64_bm z
theorem i32_tn {z : Int} (h : i32 z) : (Int32.ofInt z).toInt = z := by rw [i32_ti, w32_id h]
theorem i64_tn {z : Int} (h : i64 z) : (Int64.ofInt z).toInt = z := by rw [i64_ti, w64_id h]
theorem i32_of (x : Int32) : i32 x.toInt := by
  have h1 := x.le_toInt
  have h2 := x.toInt_lt
  unfold i32; omega
theorem i64_of (x : Int64) : i64 x.toInt := by
  have h1 := x.le_toInt
  have h2 := x.toInt_lt
  unfold i64; omega
theorem i32_rt (x : Int32) : Int32.ofInt x.toInt = x := by
  apply Int32.toInt_inj.mp
  rw [i32_tn (i32_of x)]
theorem i64_rt (x : Int64) : Int64.ofInt x.toInt = x := by
  apply Int64.toInt_inj.mp
  rw [i64_tn (i64_of x)]
theorem i32_e {z : Int} {x : Int32} (h : x.toInt = z) : Int32.ofInt z = x := by rw [← h, i32_rt]
theorem i64_e {z : Int} {x : Int64} (h : x.toInt = z) : Int64.ofInt z = x := by rw [← h, i64_rt]
theorem w32_add (x y : Int) : Int32.ofInt (w32 (x + y)) = Int32.ofInt x + Int32.ofInt y := by
  apply i32_e
  rw [Int32.toInt_add, i32_ti, i32_ti]
  exact (w32_bm _).trans (by unfold w32; omega)
theorem w32_sub (x y : Int) : Int32.ofInt (w32 (x - y)) = Int32.ofInt x - Int32.ofInt y := by
  apply i32_e
  rw [Int32.toInt_sub, i32_ti, i32_ti]
  exact (w32_bm _).trans (by unfold w32; omega)
theorem w32_neg (x : Int) : Int32.ofInt (w32 (-x)) = -Int32.ofInt x := by
  apply i32_e
  rw [Int32.toInt_neg, i32_ti]
  exact (w32_bm _).trans (by unfold w32; omega)
theorem w32_mul {x y : Int} (hx : i32 x) (hy : i32 y) : Int32.ofInt (w32 (x * y)) = Int32.ofInt x * Int32.ofInt y := by
  apply i32_e
  rw [Int32.toInt_mul, i32_tn hx, i32_tn hy]
  exact w32_bm _
theorem w64_add (x y : Int) : Int64.ofInt (w64 (x + y)) = Int64.ofInt x + Int64.ofInt y := by
  apply i64_e
  rw [Int64.toInt_add, i64_ti, i64_ti]
  exact (w64_bm _).trans (by unfold w64; omega)
theorem w64_sub (x y : Int) : Int64.ofInt (w64 (x - y)) = Int64.ofInt x - Int64.ofInt y := by
  apply i64_e
  rw [Int64.toInt_sub, i64_ti, i64_ti]
  exact (w64_bm _).trans (by unfold w64; omega)
theorem w64_neg (x : Int) : Int64.ofInt (w64 (-x)) = -Int64.ofInt x := by
  apply i64_e
  rw [Int64.toInt_neg, i64_ti]
  exact (w64_bm _).trans (by unfold w64; omega)
theorem w64_mul {x y : Int} (hx : i64 x) (hy : i64 y) : Int64.ofInt (w64 (x * y)) = Int64.ofInt x * Int64.ofInt y := by
  apply i64_e
  rw [Int64.toInt_mul, i64_tn hx, i64_tn hy]
  exact w64_bm _
theorem i32_0 : i32 0 := by unfold i32; omega
theorem i64_0 : i64 0 := by unfold i64; omega
theorem i32_lt {x y : Int} (hx : i32 x) (hy : i32 y) : Int32.ofInt x < Int32.ofInt y ↔ x < y := by rw [Int32.lt_iff_toInt_lt, i32_tn hx, i32_tn hy]
theorem i32_le {x y : Int} (hx : i32 x) (hy : i32 y) : Int32.ofInt x ≤ Int32.ofInt y ↔ x ≤ y := by rw [Int32.le_iff_toInt_le, i32_tn hx, i32_tn hy]
theorem i32_eq {x y : Int} (hx : i32 x) (hy : i32 y) : Int32.ofInt x = Int32.ofInt y ↔ x = y := by
  constructor
  · intro h
    have h2 := congrArg Int32.toInt h
    rw [i32_tn hx, i32_tn hy] at h2
    exact h2
  · intro h; rw [h]
theorem i32_z : (Int32.ofInt 0) = 0 := rfl
theorem i64_lt {x y : Int} (hx : i64 x) (hy : i64 y) : Int64.ofInt x < Int64.ofInt y ↔ x < y := by rw [Int64.lt_iff_toInt_lt, i64_tn hx, i64_tn hy]
theorem i64_eq {x y : Int} (hx : i64 x) (hy : i64 y) : Int64.ofInt x = Int64.ofInt y ↔ x = y := by
  constructor
  · intro h
    have h2 := congrArg Int64.toInt h
    rw [i64_tn hx, i64_tn hy] at h2
    exact h2
  · intro h; rw [h]
/-- an index that is in range -/
theorem i32_in {z : Int} {n : Nat} (h : i32 z) (h0 : 0 ≤ z) (h1 : z < n) : vp_in (Int32.ofInt z) n := by
  rw [vp_in_iff, i32_tn h]
  exact ⟨h0, h1⟩
theorem i32_cl {z : Int} (h : i32 z) (h0 : 0 ≤ z) : (Int32.ofInt z).toNatClampNeg = z.toNat := by
  have h2 := i32_tn h
  rw [← Int32.toNat_toInt, h2]
/-! the heap: shapes (kind, size), ints, longs, references -/
abbrev ah_T : Type := List (Nat × Nat) × (Nat → Nat → Int) × (Nat → Nat → Int) × (Nat → Nat → Option Nat)
abbrev ah_s (h : ah_T) : List (Nat × Nat) := h.1
abbrev ah_i (h : ah_T) : Nat → Nat → Int := h.2.1
abbrev ah_l (h : ah_T) : Nat → Nat → Int := h.2.2.1
abbrev ah_r (h : ah_T) : Nat → Nat → Option Nat := h.2.2.2
def up1 {α : Type} (f : Nat → α) (k : Nat) (v : α) : Nat → α := fun y => if y = k then v else f y
def up2 {α : Type} (f : Nat → Nat → α) (a k : Nat) (v : α) : Nat → Nat → α := fun x y => if x = a ∧ y = k then v else f x y
theorem up2_s {α : Type} (f : Nat → Nat → α) (a k : Nat) (v : α) : up2 f a k v a = up1 (f a) k v := by
  funext y
  simp [up2, up1]
theorem up2_n {α : Type} {f : Nat → Nat → α} {a k : Nat} {v : α} {x : Nat} (h : x ≠ a) : up2 f a k v x = f x := by
  funext y
  simp [up2, h]
theorem up2_at {α : Type} {f : Nat → Nat → α} {a k : Nat} {v : α} : up2 f a k v a k = v := by simp [up2]
theorem up2_o {α : Type} {f : Nat → Nat → α} {a k x y : Nat} {v : α} (h : ¬ (x = a ∧ y = k)) : up2 f a k v x y = f x y := by simp only [up2, if_neg h]
def st_i (h : ah_T) (a k : Nat) (z : Int) : ah_T := (h.1, up2 h.2.1 a k z, h.2.2.1, h.2.2.2)
def st_l (h : ah_T) (a k : Nat) (z : Int) : ah_T := (h.1, h.2.1, up2 h.2.2.1 a k z, h.2.2.2)
def st_r (h : ah_T) (a k : Nat) (z : Option Nat) : ah_T := (h.1, h.2.1, h.2.2.1, up2 h.2.2.2 a k z)
def st_n (h : ah_T) (kd n : Nat) : ah_T := (h.1 ++ [(kd, n)], h.2.1, h.2.2.1, h.2.2.2)
/-- an object's field as a value -/
def fv_V (b : Nat) (ty : FieldType) (fi fl : Nat → Int) (fr : Nat → Option Nat) (k : Nat) : Value := match ty with
  | .long => .long (Int64.ofInt (fl k))
  | .object _ => va_rf ((fr k).map (fun a => b + a))
  | .array _ => va_rf ((fr k).map (fun a => b + a))
  | _ => .int (Int32.ofInt (fi k))
def c_tys : List (Nat → FieldType) := [tyX0, tyX1, tyX2, tyX3, tyX4, tyX5, tyX6, tyX7, tyX8, tyX9, tyX10, tyX11, tyX12]
def f_ty (c k : Nat) : FieldType := match c_tys[c]? with
  | some f => f k
  | none => .int
abbrev classes : List vw_C := [(RX0, TX0, 4), (RX1, TX1, 3), (RX2, TX2, 8), (RX3, TX3, 8), (RX4, TX4, 12), (RX5, TX5, 8), (RX6, TX6, 13), (RX7, TX7, 8), (RX8, TX8, 13), (RX9, TX9, 6), (RX10, TX10, 17), (RX11, TX11, 11), (RX12, TX12, 111)]
def cell_R (G : cx_T) (kd n : Nat) (fi fl : Nat → Int) (fr : Nat → Option Nat) (q : Nat) (H : Heap) : Prop := match kd with
  | 0 => H[q]? = some (arrV (cx_cA G 0) n (fun j => .int (Int32.ofInt (fi j))))
  | 1 => H[q]? = some (arrV (cx_cA G 1) n (fun j => .long (Int64.ofInt (fl j))))
  | 2 => H[q]? = some (arrV (cx_cA G 2) n (fun j => .int (Int32.ofInt (fi j)))) ∧ ∀ j, fi j = 0 ∨ fi j = 1
  | 3 => H[q]? = some (arrV (cx_cA G 3) n (fun j => va_rf ((fr j).map (fun a => cx_b G + a))))
  | c + 4 => ∃ r : vw_C, classes[c]? = some r ∧ n = r.2.2 ∧ t_OB q (cx_dC G c) n (cx_dI G c) H (fun k => fv_V (cx_b G) (f_ty c k) fi fl fr k) ∧ ∀ k, f_ty c k = .boolean → fi k = 0 ∨ fi k = 1
theorem cell_R.kept {G : cx_T} {kd n : Nat} {fi fl : Nat → Int} {fr : Nat → Option Nat} {q : Nat} {H H1 : Heap} (h : cell_R G kd n fi fl fr q H) (hq : H1[q]? = H[q]?) : cell_R G kd n fi fl fr q H1 := by
  match kd, h with
  | 0, h => exact hq.trans h
  | 1, h => exact hq.trans h
  | 2, h => exact ⟨hq.trans h.1, h.2⟩
  | 3, h => exact hq.trans h
  | c + 4, h =>
    obtain ⟨r, h1, h2, h3, h4⟩ := h
    exact ⟨r, h1, h2, h3.kept hq, h4⟩
def hr_OK (G : cx_T) (h : ah_T) (H : Heap) : Prop :=
  H.size = cx_b G + h.1.length ∧ (∀ a kd n, h.1[a]? = some (kd, n) → cell_R G kd n (h.2.1 a) (h.2.2.1 a) (h.2.2.2 a) (cx_b G + a) H) ∧
  (∀ a, h.1.length ≤ a → ∀ k, h.2.1 a k = 0 ∧ h.2.2.1 a k = 0 ∧ h.2.2.2 a k = none) ∧ (∀ a k, i32 (h.2.1 a k)) ∧ (∀ a k, i64 (h.2.2.1 a k))
/-- the arrays that are only read: n_RO of them -/
def n_RO : Nat := 1
def ro_OK (G : cx_T) (U : State) (H : Heap) : Prop := ∀ k, k < n_RO → va_T .int (cx_ra G k) (cx_rl G k) (fun j => .int (Int32.ofInt (cx_rv G k j))) (fun q => cx_b G ≤ q) U H ∧ ∀ j, i32 (cx_rv G k j)
abbrev c_arr (G : cx_T) : List (ClassId × FieldType) := [(cx_cA G 0, .int), (cx_cA G 1, .long), (cx_cA G 2, .boolean), (cx_cA G 3, .object RX10)]
/-- the words that last -/
def nestW : Cond → Bool
  | .methodLinkNest _ _ _ _ => true
  | .fieldLinkNest _ _ _ _ _ _ => true
  | .arrayOver (.object _) => true
  | _ => false
def gw : List Cond := lw_tbl.filter goodWord
theorem gw_ok : GoodIn gw gw := fun w hw => ⟨hw, good_of_word (List.mem_filter.mp hw).2⟩
theorem gw_in {w : Cond} (i : Nat) (h : lw_tbl[i]? = some w) (hg : goodWord w = true) : w ∈ gw := List.mem_filter.mpr ⟨List.mem_of_getElem? h, hg⟩
def nw_OK (U : State) : Prop := ∀ w ∈ lw_tbl, nestW w = true → va_Nw w U
theorem nw_OK.moved {s U : State} (hW : s.WarmedH U.vm) (h : nw_OK s) : nw_OK U := by
  intro w hw hn
  have h1 := h w hw hn
  cases w <;> first | exact va_Nw.warmM hW h1 | exact va_Nw.warmF hW h1 | (simp [nestW] at hn; done) | skip
  rename_i ty
  cases ty <;> first | exact va_AO.moved hW.alike h1 | (simp [nestW] at hn; done)
def kf_OK (G : cx_T) (U : State) : Prop := va_K (cx_dC G, cx_dI G) classes (c_arr G) U ∧ nw_OK U
/-- a method: its name, its code, its locals, what it returns -/
abbrev mr_T : Type := MethodName × ByteArray × Nat × Option FieldType
abbrev mr_w (M : mr_T) : Cond := Cond.code M.1 M.2.1 M.2.2.1 M.2.2.2
def st_OK (G : cx_T) (M : mr_T) (p : Program) (s : State) (m : MethodId) (args : Array Value) (meth : Method) (c : Code) : Prop :=
  p.tables.exec = Jvm.exec ∧ c.code = M.2.1 ∧ c.maxLocals = M.2.2.1 ∧ s.vm.findClass M.1.cls = some m.cls ∧ (∀ w ∈ gw, w.before args s = true) ∧ kf_OK G s ∧ meth.sig.returnType = M.2.2.2 ∧ meth.locks = false ∧ (M.1.name = "<init>" → meth.name = "<init>")
/-- locals by their places -/
def lr_OK (G : cx_T) (n : Nat) (L : List (Option av_T)) (ls : Array Slot) : Prop :=
  L.length = n ∧ ls.size = n ∧ lv_wf ls ∧ ∀ (k : Nat) (v : av_T), L[k]? = some (some v) → ls[k]? = some (.val (cv G v)) ∧ nv v
abbrev fr_A (G : cx_T) : Nat → Prop := fun q => cx_b G ≤ q
def qc_Q (G : cx_T) (Q : Option av_T → ah_T → Prop) : Array Value → State → Outcome → State → Prop := fun _ st o t =>
  (∃ (r : Option av_T) (h' : ah_T), o = .returned (r.map (cv G)) ∧ (∀ v, r = some v → nv v) ∧ Q r h' ∧ hr_OK G h' t.heap ∧ ro_OK G t t.heap) ∧ va_F (fr_A G) st t
def aw (G : cx_T) (R : Room) (M : mr_T) (cu su pc : Nat) (L : List (Option av_T)) (st : List av_T) (h : ah_T) (Q : Option av_T → ah_T → Prop) : Prop :=
  ∀ (p : Program) (e : Env) (s : State) (m : MethodId) (args : Array Value) (below : List Frame) (meth : Method) (c : Code) (H : Heap) (locs : List Loc) (ls : Array Slot),
    st_OK G M p s m args meth c → hr_OK G h H → ro_OK G s s.heap → va_S (fr_A G) s.heap H locs → cx_b G ≤ s.heap.size → lr_OK G M.2.2.1 L ls → (∀ v ∈ st, nv v) →
    W p (cx_l G) e R s m args below meth c H locs cu su (MQ below (qc_Q G Q) args s R.cells R.slots (fr_A G)) (F0 m pc ls (st.map (cv G)))
def rm_R (d mc ms : Nat) : Room := { frames := d, cells := mc, slots := ms, locals := 48 * d }
def con (G : cx_T) (d mc ms : Nat) (M : mr_T) (As : List av_T) (h : ah_T) (Q : Option av_T → ah_T → Prop) : Prop :=
  (∀ v ∈ As, nv v) → Met (cx_l G) M.1 (mr_w M :: gw) (rm_R d mc ms) (va_Pc (As.map (cv G)) (fun U => hr_OK G h U.heap ∧ ro_OK G U U.heap ∧ kf_OK G U ∧ cx_b G ≤ U.heap.size)) (qc_Q G Q) mc ms (fr_A G)
end
section
theorem nv_h {v : av_T} {l : List av_T} (h : ∀ x ∈ v :: l, nv x) : nv v := h v List.mem_cons_self
theorem nv_t {v : av_T} {l : List av_T} (h : ∀ x ∈ v :: l, nv x) : ∀ x ∈ l, nv x := fun x hx => h x (List.mem_cons_of_mem _ hx)
theorem nv_c {v : av_T} {l : List av_T} (h : nv v) (h2 : ∀ x ∈ l, nv x) : ∀ x ∈ v :: l, nv x := List.forall_mem_cons.mpr ⟨h, h2⟩
theorem i64_1 : i64 1 := by unfold i64; omega
def i32b (n : Int) : Bool := decide (-2147483648 ≤ n) && decide (n < 2147483648)
theorem i32b_ok {n : Int} (h : i32b n = true) : i32 n := by
  simp only [i32b, Bool.and_eq_true, decide_eq_true_eq] at h
  exact h
def i64b (n : Int) : Bool := decide (-9223372036854775808 ≤ n) && decide (n < 9223372036854775808)
theorem i64b_ok {n : Int} (h : i64b n = true) : i64 n := by
  simp only [i64b, Bool.and_eq_true, decide_eq_true_eq] at h
  exact h
def i8b (n : Int) : Bool := decide (-128 ≤ n) && decide (n < 128)
def i16b (n : Int) : Bool := decide (-32768 ≤ n) && decide (n < 32768)
theorem i8b_ok {n : Int} (h : i8b n = true) : i32 n := by
  simp only [i8b, Bool.and_eq_true, decide_eq_true_eq] at h
  unfold i32; omega
theorem i16b_ok {n : Int} (h : i16b n = true) : i32 n := by
  simp only [i16b, Bool.and_eq_true, decide_eq_true_eq] at h
  unfold i32; omega
theorem i8b_v {n : Int} (h : i8b n = true) : (Int8.ofInt n).toInt32 = Int32.ofInt n := by
  have h2 := i8b_ok h
  simp only [i8b, Bool.and_eq_true, decide_eq_true_eq] at h
  apply Int32.toInt_inj.mp
  rw [Int8.toInt_toInt32, Int8.toInt_ofInt, i32_tn h2]
  have e : n.bmod 256 = n := Int.bmod_eq_of_le (by omega) (by omega)
  exact e
theorem i16b_v {n : Int} (h : i16b n = true) : (Int16.ofInt n).toInt32 = Int32.ofInt n := by
  have h2 := i16b_ok h
  simp only [i16b, Bool.and_eq_true, decide_eq_true_eq] at h
  apply Int32.toInt_inj.mp
  rw [Int16.toInt_toInt32, Int16.toInt_ofInt, i32_tn h2]
  have e : n.bmod 65536 = n := Int.bmod_eq_of_le (by omega) (by omega)
  exact e
theorem i32_ne0 {y : Int} (h : i32 y) (hy : y ≠ 0) : ¬ Int32.ofInt y = 0 := fun z => hy ((i32_eq h i32_0).mp z)
theorem i64_ne0 {y : Int} (h : i64 y) (hy : y ≠ 0) : ¬ Int64.ofInt y = 0 := fun z => hy ((i64_eq h i64_0).mp z)
theorem w32_div {x y : Int} (hx : i32 x) (hy : i32 y) : Int32.ofInt (w32 (x.tdiv y)) = Int32.ofInt x / Int32.ofInt y := by
  apply i32_e
  rw [Int32.toInt_div, i32_tn hx, i32_tn hy]
  exact w32_bm _
theorem w64_div {x y : Int} (hx : i64 x) (hy : i64 y) : Int64.ofInt (w64 (x.tdiv y)) = Int64.ofInt x / Int64.ofInt y := by
  apply i64_e
  rw [Int64.toInt_div, i64_tn hx, i64_tn hy]
  exact w64_bm _
theorem tmod_in32 {x y : Int} (h : i32 x) : i32 (x.tmod y) := by
  unfold i32 at *
  rcases Int.le_total 0 x with h0 | h0
  · have h1 := Int.tmod_nonneg y h0
    have h2 : x.tmod y ≤ x := by
      have := Int.natAbs_tmod x y
      have h3 : (x.tmod y).natAbs ≤ x.natAbs := by rw [this]; exact Nat.mod_le _ _
      omega
    omega
  · have h3 : (x.tmod y).natAbs ≤ x.natAbs := by rw [Int.natAbs_tmod]; exact Nat.mod_le _ _
    have h4 : x.tmod y ≤ 0 := by
      have := Int.tmod_nonneg (a := -x) y (by omega)
      rw [Int.neg_tmod] at this
      omega
    omega
theorem tmod_in64 {x y : Int} (h : i64 x) : i64 (x.tmod y) := by
  unfold i64 at *
  rcases Int.le_total 0 x with h0 | h0
  · have h1 := Int.tmod_nonneg y h0
    have h3 : (x.tmod y).natAbs ≤ x.natAbs := by rw [Int.natAbs_tmod]; exact Nat.mod_le _ _
    omega
  · have h3 : (x.tmod y).natAbs ≤ x.natAbs := by rw [Int.natAbs_tmod]; exact Nat.mod_le _ _
    have h4 : x.tmod y ≤ 0 := by
      have := Int.tmod_nonneg (a := -x) y (by omega)
      rw [Int.neg_tmod] at this
      omega
    omega
theorem w32_rem {x y : Int} (hx : i32 x) (hy : i32 y) (h0 : y ≠ 0) : Int32.ofInt x - Int32.ofInt x / Int32.ofInt y * Int32.ofInt y = Int32.ofInt (x.tmod y) := by
  apply Int32.toInt_inj.mp
  rw [i32_tn (tmod_in32 hx), Int32.toInt_sub, Int32.toInt_mul, Int32.toInt_div, i32_tn hx, i32_tn hy]
  rw [Int.bmod_mul_bmod, Int.sub_bmod_bmod]
  have e : x - x.tdiv y * y = x.tmod y := by rw [Int.tmod_def, Int.mul_comm]
  rw [e]
  exact (w32_bm _).trans (w32_id (tmod_in32 hx))
theorem w64_rem {x y : Int} (hx : i64 x) (hy : i64 y) (h0 : y ≠ 0) : Int64.ofInt x - Int64.ofInt x / Int64.ofInt y * Int64.ofInt y = Int64.ofInt (x.tmod y) := by
  apply Int64.toInt_inj.mp
  rw [i64_tn (tmod_in64 hx), Int64.toInt_sub, Int64.toInt_mul, Int64.toInt_div, i64_tn hx, i64_tn hy]
  rw [Int.bmod_mul_bmod, Int.sub_bmod_bmod]
  have e : x - x.tdiv y * y = x.tmod y := by rw [Int.tmod_def, Int.mul_comm]
  rw [e]
  exact (w64_bm _).trans (w64_id (tmod_in64 hx))
theorem i64_i32 {x : Int} (h : i32 x) : i64 x := by unfold i32 at h; unfold i64; omega
theorem i2l_v {x : Int} (h : i32 x) : (Int32.ofInt x).toInt64 = Int64.ofInt x := by
  apply Int64.toInt_inj.mp
  rw [Int32.toInt_toInt64, i32_tn h, i64_tn (i64_i32 h)]
theorem l2i_v (x : Int) : (Int64.ofInt x).toInt32 = Int32.ofInt (w32 x) := by
  apply Int32.toInt_inj.mp
  rw [Int64.toInt_toInt32, i64_ti, i32_ti]
  exact (w32_bm _).trans (by unfold w32 w64; omega)
def cmp_I (x y : Int) : Int := if x < y then -1 else if x = y then 0 else 1
theorem cmp_in (x y : Int) : i32 (cmp_I x y) := by
  unfold cmp_I i32
  split
  · omega
  · split <;> omega
theorem cmp_v {x y : Int} (hx : i64 x) (hy : i64 y) : lg_cmp (Int64.ofInt x) (Int64.ofInt y) = Int32.ofInt (cmp_I x y) := by
  unfold lg_cmp cmp_I
  have h1 := i64_lt hx hy
  have h2 := i64_lt hy hx
  have h3 := i64_eq hx hy
  by_cases a : x < y
  · have b : ¬ y < x := by omega
    have d : ¬ x = y := by omega
    simp [h1, h2, h3, a, b, d]
  · by_cases b : x = y
    · subst b; simp
    · have d : y < x := by omega
      simp [h1, h2, h3, a, b, d]
theorem nar_b {x : Int} (h : x = 0 ∨ x = 1) : narrow .boolean (.int (Int32.ofInt x)) = .int (Int32.ofInt x) := by
  rcases h with rfl | rfl <;> rfl
theorem nar_c {x : Int} (h : 0 ≤ x ∧ x < 65536) : narrow .char (.int (Int32.ofInt x)) = .int (Int32.ofInt x) := by
  obtain ⟨k, rfl⟩ := Int.eq_ofNat_of_zero_le h.1
  exact (pk_charN (q := k) (by omega)).1
theorem cv_ref {G : cx_T} (r : Option Nat) : cv G (av_R r) = .null ∨ ∃ a, cv G (av_R r) = .ref a := by
  cases r with
  | none => exact Or.inl rfl
  | some a => exact Or.inr ⟨_, rfl⟩
theorem ro_end {G : cx_T} {s t : State} {H : Heap} {locs : List Loc} (h : ro_OK G s s.heap) (hS : va_S (fr_A G) s.heap H locs) (ht : t.heap = H) (hw : s.WarmedH t.vm) : ro_OK G t t.heap := by
  intro k hk
  rw [ht]
  exact ⟨((h k hk).1.kept hS.2.1).moved hw.alike, (h k hk).2⟩
/-! locals -/
def cat2 : av_T → Bool
  | .inr (.inl _) => true
  | .inr (.inr (.inl _)) => true
  | _ => false
theorem cv_cat {G : cx_T} (v : av_T) : ((cv G v).category == 2) = cat2 v := by
  rcases v with z | z | d | r | k
  · rfl
  · rfl
  · rfl
  · cases r <;> rfl
  · rfl
def lkill (L : List (Option av_T)) (i : Nat) : List (Option av_T) := match i with
  | 0 => L
  | j + 1 => match L[j]? with
    | some (some v) => if cat2 v = true then L.set j none else L
    | _ => L
def lst1 (L : List (Option av_T)) (i : Nat) (v : av_T) : List (Option av_T) := (lkill L i).set i (some v)
def lst2 (L : List (Option av_T)) (i : Nat) (v : av_T) : List (Option av_T) := ((lkill L i).set i (some v)).set (i + 1) none
theorem lkill_len (L : List (Option av_T)) (i : Nat) : (lkill L i).length = L.length := by
  unfold lkill
  split
  · rfl
  · split
    · split
      · simp
      · rfl
    · rfl
theorem lkill_at {L : List (Option av_T)} {i k : Nat} {w : av_T} (h : (lkill L i)[k]? = some (some w)) : L[k]? = some (some w) ∧ (k + 1 = i → cat2 w = false) := by
  unfold lkill at h
  split at h
  · exact ⟨h, fun z => by omega⟩
  · rename_i j
    split at h
    · rename_i v hv
      split at h
      · rename_i h2
        by_cases hk : k = j
        · subst hk
          have hlt := (List.getElem?_eq_some_iff.mp hv).1
          rw [List.getElem?_set_self hlt] at h
          simp at h
        · rw [List.getElem?_set_ne (Ne.symm hk)] at h
          exact ⟨h, fun z => by omega⟩
      · rename_i h2
        refine ⟨h, fun z => ?_⟩
        have : k = j := by omega
        subst this
        rw [hv] at h
        cases h
        simpa using h2
    · rename_i h2
      refine ⟨h, fun z => ?_⟩
      have : k = j := by omega
      subst this
      exact absurd h (h2 w)
def lr_l (G : cx_T) (L : List (Option av_T)) : List (Nat × Value) := (List.range L.length).filterMap fun k => match L[k]? with
  | some (some v) => some (k, cv G v)
  | _ => none
theorem lr_mem {G : cx_T} {L : List (Option av_T)} {q : Nat × Value} : q ∈ lr_l G L ↔ ∃ v, L[q.1]? = some (some v) ∧ q.2 = cv G v := by
  unfold lr_l
  rw [List.mem_filterMap]
  constructor
  · rintro ⟨k, hk, h⟩
    split at h
    · rename_i v hv
      cases h
      exact ⟨v, hv, rfl⟩
    · cases h
  · rintro ⟨v, hv, h⟩
    refine ⟨q.1, List.mem_range.mpr (List.getElem?_eq_some_iff.mp hv).1, ?_⟩
    rw [hv]
    dsimp only
    rw [← h]
theorem lr_h {G : cx_T} {n : Nat} {L : List (Option av_T)} {ls : Array Slot} (h : lr_OK G n L ls) : lv_has ls n (lr_l G L) := by
  refine ⟨h.2.1, h.2.2.1, fun q hq => ?_⟩
  obtain ⟨v, h1, h2⟩ := lr_mem.mp hq
  rw [h2]
  exact (h.2.2.2 _ _ h1).1
theorem lr_k {G : cx_T} {L : List (Option av_T)} {i : Nat} {v : av_T} (h : L[i]? = some (some v)) : ∃ k : Nat, (lr_l G L)[k]? = some (i, cv G v) :=
  List.getElem?_of_mem (lr_mem.mpr ⟨v, h, rfl⟩)
theorem lr_s1 {G : cx_T} {n i : Nat} {L : List (Option av_T)} {v : av_T} {ls ls' : Array Slot} (hL : lr_OK G n L ls) (hi : i < L.length) (hv : nv v) (_hc : cat2 v = false)
    (h : lv_has ls' n ((i, cv G v) :: (lr_l G L).filter (fun q => !(q.1 == i) && !(q.1 + 1 == i && q.2.category == 2)))) : lr_OK G n (lst1 L i v) ls' := by
  refine ⟨by simp [lst1, lkill_len, hL.1], h.1, h.2.1, fun k w hk => ?_⟩
  unfold lst1 at hk
  by_cases hki : k = i
  · subst hki
    rw [List.getElem?_set_self (by rw [lkill_len]; exact hi)] at hk
    cases hk
    exact ⟨h.2.2 _ List.mem_cons_self, hv⟩
  · rw [List.getElem?_set_ne (Ne.symm hki)] at hk
    obtain ⟨h1, h2⟩ := lkill_at hk
    refine ⟨h.2.2 (k, cv G w) (List.mem_cons_of_mem _ (List.mem_filter.mpr ⟨lr_mem.mpr ⟨w, h1, rfl⟩, ?_⟩)), (hL.2.2.2 k w h1).2⟩
    dsimp only
    rw [cv_cat]
    by_cases hk1 : k + 1 = i
    · simp [hki, h2 hk1]
    · simp [hki, hk1]
theorem lr_s2 {G : cx_T} {n i : Nat} {L : List (Option av_T)} {v : av_T} {ls ls' : Array Slot} (hL : lr_OK G n L ls) (hi : i + 1 < L.length) (hv : nv v) (_hc : cat2 v = true)
    (h : lv_has ls' n ((i, cv G v) :: (lr_l G L).filter (fun q => !(q.1 == i) && (!(q.1 == i + 1) && !(q.1 + 1 == i && q.2.category == 2))))) : lr_OK G n (lst2 L i v) ls' := by
  refine ⟨by simp [lst2, lkill_len, hL.1], h.1, h.2.1, fun k w hk => ?_⟩
  unfold lst2 at hk
  by_cases hki1 : k = i + 1
  · subst hki1
    rw [List.getElem?_set_self (by simp [lkill_len]; omega)] at hk
    simp at hk
  · rw [List.getElem?_set_ne (Ne.symm hki1)] at hk
    by_cases hki : k = i
    · subst hki
      rw [List.getElem?_set_self (by rw [lkill_len]; omega)] at hk
      cases hk
      exact ⟨h.2.2 _ List.mem_cons_self, hv⟩
    · rw [List.getElem?_set_ne (Ne.symm hki)] at hk
      obtain ⟨h1, h2⟩ := lkill_at hk
      refine ⟨h.2.2 (k, cv G w) (List.mem_cons_of_mem _ (List.mem_filter.mpr ⟨lr_mem.mpr ⟨w, h1, rfl⟩, ?_⟩)), (hL.2.2.2 k w h1).2⟩
      dsimp only
      rw [cv_cat]
      by_cases hk1 : k + 1 = i
      · simp [hki, hki1, h2 hk1]
      · simp [hki, hki1, hk1]
section AWR
variable {G : cx_T} {R : Room} {M : mr_T} {cu su pc : Nat} {L : List (Option av_T)} {st : List av_T} {h : ah_T} {Q : Option av_T → ah_T → Prop}
theorem A_iconst {n : Int} (hd : decode M.2.1 pc = .ok (.iconst n, 1)) (hr : i32b n = true) (k : aw G R M cu su (pc + 1) L (av_I n :: st) h Q) : aw G R M cu su pc L (st) h Q := by
  intro p e s m args below meth c H locs ls S hH hO hS hb hL hn
  refine lv_iconst (v := Int32.ofInt n) S.1 S.2.1 hd rfl ?_
  exact k p e s m args below meth c H locs ls S hH hO hS hb hL (nv_c (i32b_ok hr) hn)
theorem A_bipush {n : Int} (hd : decode M.2.1 pc = .ok (.bipush n, 2)) (hr : i8b n = true) (k : aw G R M cu su (pc + 2) L (av_I n :: st) h Q) : aw G R M cu su pc L (st) h Q := by
  intro p e s m args below meth c H locs ls S hH hO hS hb hL hn
  refine lv_bipush (v := Int32.ofInt n) S.1 S.2.1 hd (i8b_v hr) ?_
  exact k p e s m args below meth c H locs ls S hH hO hS hb hL (nv_c (i8b_ok hr) hn)
theorem A_sipush {n : Int} (hd : decode M.2.1 pc = .ok (.sipush n, 3)) (hr : i16b n = true) (k : aw G R M cu su (pc + 3) L (av_I n :: st) h Q) : aw G R M cu su pc L (st) h Q := by
  intro p e s m args below meth c H locs ls S hH hO hS hb hL hn
  refine lv_sipush (v := Int32.ofInt n) S.1 S.2.1 hd (i16b_v hr) ?_
  exact k p e s m args below meth c H locs ls S hH hO hS hb hL (nv_c (i16b_ok hr) hn)
theorem A_lconst_0  (hd : decode M.2.1 pc = .ok (.lconst 0, 1)) (k : aw G R M cu su (pc + 1) L (av_L 0 :: st) h Q) : aw G R M cu su pc L (st) h Q := by
  intro p e s m args below meth c H locs ls S hH hO hS hb hL hn
  refine lv_lconst (v := Int64.ofInt 0) S.1 S.2.1 hd rfl ?_
  exact k p e s m args below meth c H locs ls S hH hO hS hb hL (nv_c i64_0 hn)
theorem A_lconst_1  (hd : decode M.2.1 pc = .ok (.lconst 1, 1)) (k : aw G R M cu su (pc + 1) L (av_L 1 :: st) h Q) : aw G R M cu su pc L (st) h Q := by
  intro p e s m args below meth c H locs ls S hH hO hS hb hL hn
  refine lv_lconst (v := Int64.ofInt 1) S.1 S.2.1 hd rfl ?_
  exact k p e s m args below meth c H locs ls S hH hO hS hb hL (nv_c i64_1 hn)
theorem A_dconst_0  (hd : decode M.2.1 pc = .ok (.dconst 0, 1)) (k : aw G R M cu su (pc + 1) L (av_D FP.dconst0 :: st) h Q) : aw G R M cu su pc L (st) h Q := by
  intro p e s m args below meth c H locs ls S hH hO hS hb hL hn
  refine lv_dconst0 S.1 S.2.1 hd ?_
  exact k p e s m args below meth c H locs ls S hH hO hS hb hL (nv_c trivial hn)
theorem A_dconst_1  (hd : decode M.2.1 pc = .ok (.dconst 1, 1)) (k : aw G R M cu su (pc + 1) L (av_D FP.dconst1 :: st) h Q) : aw G R M cu su pc L (st) h Q := by
  intro p e s m args below meth c H locs ls S hH hO hS hb hL hn
  refine lv_dconst1 S.1 S.2.1 hd ?_
  exact k p e s m args below meth c H locs ls S hH hO hS hb hL (nv_c trivial hn)
theorem A_null  (hd : decode M.2.1 pc = .ok (.aconst_null, 1)) (k : aw G R M cu su (pc + 1) L (av_R none :: st) h Q) : aw G R M cu su pc L (st) h Q := by
  intro p e s m args below meth c H locs ls S hH hO hS hb hL hn
  refine lv_null S.1 S.2.1 hd ?_
  exact k p e s m args below meth c H locs ls S hH hO hS hb hL (nv_c trivial hn)
theorem A_ldc {idx : Nat} {z : Int} (hd : decode M.2.1 pc = .ok (.ldc idx, 2)) (hw : Cond.constant M.1.cls idx (Int32.ofInt z) ∈ gw) (hr : i32b z = true) (k : aw G R M cu su (pc + 2) L (av_I z :: st) h Q) : aw G R M cu su pc L (st) h Q := by
  intro p e s m args below meth c H locs ls S hH hO hS hb hL hn
  refine lv_ldc S.1 S.2.1 S.2.2.2.1 (S.2.2.2.2.1 _ hw) hd ?_
  exact k p e s m args below meth c H locs ls S hH hO hS hb hL (nv_c (i32b_ok hr) hn)
theorem A_ldcw {idx : Nat} {z : Int} (hd : decode M.2.1 pc = .ok (.ldc_w idx, 3)) (hw : Cond.constant M.1.cls idx (Int32.ofInt z) ∈ gw) (hr : i32b z = true) (k : aw G R M cu su (pc + 3) L (av_I z :: st) h Q) : aw G R M cu su pc L (st) h Q := by
  intro p e s m args below meth c H locs ls S hH hO hS hb hL hn
  refine lv_ldcw S.1 S.2.1 S.2.2.2.1 (S.2.2.2.2.1 _ hw) hd ?_
  exact k p e s m args below meth c H locs ls S hH hO hS hb hL (nv_c (i32b_ok hr) hn)
theorem A_ldc2 {idx : Nat} {z : Int} (hd : decode M.2.1 pc = .ok (.ldc2_w idx, 3)) (hw : Cond.constantLong M.1.cls idx (Int64.ofInt z) ∈ gw) (hr : i64b z = true) (k : aw G R M cu su (pc + 3) L (av_L z :: st) h Q) : aw G R M cu su pc L (st) h Q := by
  intro p e s m args below meth c H locs ls S hH hO hS hb hL hn
  refine lv_ldc2 S.1 S.2.1 S.2.2.2.1 (S.2.2.2.2.1 _ hw) hd ?_
  exact k p e s m args below meth c H locs ls S hH hO hS hb hL (nv_c (i64b_ok hr) hn)
theorem A_ldc2d {idx : Nat} {z : UInt64} (hd : decode M.2.1 pc = .ok (.ldc2_w idx, 3)) (hw : Cond.constantDouble M.1.cls idx z ∈ gw) (k : aw G R M cu su (pc + 3) L (av_D z :: st) h Q) : aw G R M cu su pc L (st) h Q := by
  intro p e s m args below meth c H locs ls S hH hO hS hb hL hn
  refine lv_ldc2d S.1 S.2.1 S.2.2.2.1 (S.2.2.2.2.1 _ hw) hd ?_
  exact k p e s m args below meth c H locs ls S hH hO hS hb hL (nv_c trivial hn)
theorem A_iload_n {n : Fin 4} {x : Int} (i : Nat) (hd : decode M.2.1 pc = .ok (.iload_n n, 1)) (hi : (n : Nat) = i) (hl : L[i]? = some (some (av_I x))) (k : aw G R M cu su (pc + 1) L (av_I x :: st) h Q) : aw G R M cu su pc L (st) h Q := by
  intro p e s m args below meth c H locs ls S hH hO hS hb hL hn
  refine lv_iload_n S.1 S.2.1 hd hi (hL.2.2.2 i _ hl).1 ?_
  exact k p e s m args below meth c H locs ls S hH hO hS hb hL (nv_c (hL.2.2.2 i _ hl).2 hn)
theorem A_iload {i : Nat} {x : Int} (hd : decode M.2.1 pc = .ok (.iload i, 2)) (hl : L[i]? = some (some (av_I x))) (k : aw G R M cu su (pc + 2) L (av_I x :: st) h Q) : aw G R M cu su pc L (st) h Q := by
  intro p e s m args below meth c H locs ls S hH hO hS hb hL hn
  refine lv_iload S.1 S.2.1 hd (hL.2.2.2 i _ hl).1 ?_
  exact k p e s m args below meth c H locs ls S hH hO hS hb hL (nv_c (hL.2.2.2 i _ hl).2 hn)
theorem A_lload_n {n : Fin 4} {x : Int} (i : Nat) (hd : decode M.2.1 pc = .ok (.lload_n n, 1)) (hi : (n : Nat) = i) (hl : L[i]? = some (some (av_L x))) (k : aw G R M cu su (pc + 1) L (av_L x :: st) h Q) : aw G R M cu su pc L (st) h Q := by
  intro p e s m args below meth c H locs ls S hH hO hS hb hL hn
  refine lv_lload_n S.1 S.2.1 hd hi (hL.2.2.2 i _ hl).1 ?_
  exact k p e s m args below meth c H locs ls S hH hO hS hb hL (nv_c (hL.2.2.2 i _ hl).2 hn)
theorem A_lload {i : Nat} {x : Int} (hd : decode M.2.1 pc = .ok (.lload i, 2)) (hl : L[i]? = some (some (av_L x))) (k : aw G R M cu su (pc + 2) L (av_L x :: st) h Q) : aw G R M cu su pc L (st) h Q := by
  intro p e s m args below meth c H locs ls S hH hO hS hb hL hn
  refine lv_lload S.1 S.2.1 hd (hL.2.2.2 i _ hl).1 ?_
  exact k p e s m args below meth c H locs ls S hH hO hS hb hL (nv_c (hL.2.2.2 i _ hl).2 hn)
theorem A_dload_n {n : Fin 4} {x : UInt64} (i : Nat) (hd : decode M.2.1 pc = .ok (.dload_n n, 1)) (hi : (n : Nat) = i) (hl : L[i]? = some (some (av_D x))) (k : aw G R M cu su (pc + 1) L (av_D x :: st) h Q) : aw G R M cu su pc L (st) h Q := by
  intro p e s m args below meth c H locs ls S hH hO hS hb hL hn
  refine lv_dload_n S.1 S.2.1 hd hi (hL.2.2.2 i _ hl).1 ?_
  exact k p e s m args below meth c H locs ls S hH hO hS hb hL (nv_c (hL.2.2.2 i _ hl).2 hn)
theorem A_dload {i : Nat} {x : UInt64} (hd : decode M.2.1 pc = .ok (.dload i, 2)) (hl : L[i]? = some (some (av_D x))) (k : aw G R M cu su (pc + 2) L (av_D x :: st) h Q) : aw G R M cu su pc L (st) h Q := by
  intro p e s m args below meth c H locs ls S hH hO hS hb hL hn
  refine lv_dload S.1 S.2.1 hd (hL.2.2.2 i _ hl).1 ?_
  exact k p e s m args below meth c H locs ls S hH hO hS hb hL (nv_c (hL.2.2.2 i _ hl).2 hn)
theorem A_aload_n {n : Fin 4} (i : Nat) {r : Option Nat} (hd : decode M.2.1 pc = .ok (.aload_n n, 1)) (hi : (n : Nat) = i) (hl : L[i]? = some (some (av_R r))) (k : aw G R M cu su (pc + 1) L (av_R r :: st) h Q) : aw G R M cu su pc L st h Q := by
  intro p e s m args below meth c H locs ls S hH hO hS hb hL hn
  have k2 := k p e s m args below meth c H locs ls S hH hO hS hb hL (nv_c trivial hn)
  have hv := (hL.2.2.2 i _ hl).1
  cases r with
  | none => exact lv_aload_nN S.1 S.2.1 hd hi hv k2
  | some a => exact lv_aload_n S.1 S.2.1 hd hi hv k2
theorem A_aload_nS {n : Fin 4} (i : Nat) {r : Nat} (hd : decode M.2.1 pc = .ok (.aload_n n, 1)) (hi : (n : Nat) = i) (hl : L[i]? = some (some (av_S r))) (k : aw G R M cu su (pc + 1) L (av_S r :: st) h Q) : aw G R M cu su pc L st h Q := by
  intro p e s m args below meth c H locs ls S hH hO hS hb hL hn
  exact lv_aload_n S.1 S.2.1 hd hi (hL.2.2.2 i _ hl).1 (k p e s m args below meth c H locs ls S hH hO hS hb hL (nv_c trivial hn))
theorem A_aload {i : Nat} {r : Option Nat} (hd : decode M.2.1 pc = .ok (.aload i, 2)) (hl : L[i]? = some (some (av_R r))) (k : aw G R M cu su (pc + 2) L (av_R r :: st) h Q) : aw G R M cu su pc L st h Q := by
  intro p e s m args below meth c H locs ls S hH hO hS hb hL hn
  have k2 := k p e s m args below meth c H locs ls S hH hO hS hb hL (nv_c trivial hn)
  have hv := (hL.2.2.2 i _ hl).1
  cases r with
  | none => exact lv_aloadN S.1 S.2.1 hd hv k2
  | some a => exact lv_aload S.1 S.2.1 hd hv k2
theorem A_aloadS {i : Nat} {r : Nat} (hd : decode M.2.1 pc = .ok (.aload i, 2)) (hl : L[i]? = some (some (av_S r))) (k : aw G R M cu su (pc + 2) L (av_S r :: st) h Q) : aw G R M cu su pc L st h Q := by
  intro p e s m args below meth c H locs ls S hH hO hS hb hL hn
  exact lv_aload S.1 S.2.1 hd (hL.2.2.2 i _ hl).1 (k p e s m args below meth c H locs ls S hH hO hS hb hL (nv_c trivial hn))
theorem A_istore_n {n : Fin 4} (i : Nat) {x : Int} {L' : List (Option av_T)} (hd : decode M.2.1 pc = .ok (.istore_n n, 1)) (hi : (n : Nat) = i) (hb2 : i < L.length) (hl : lst1 L i (av_I x) = L') (k : aw G R M cu su (pc + 1) L' st h Q) : aw G R M cu su pc L (av_I x :: st) h Q := by
  intro p e s m args below meth c H locs ls S hH hO hS hb hL hn
  subst hl
  exact lv_istore_n S.1 S.2.1 hd hi (lr_h hL) (by rw [← hL.1]; exact hb2) rfl (fun ls' hl' => k p e s m args below meth c H locs ls' S hH hO hS hb (lr_s1 hL hb2 (nv_h hn) rfl hl') (nv_t hn))
theorem A_istore {i : Nat} {x : Int} {L' : List (Option av_T)} (hd : decode M.2.1 pc = .ok (.istore i, 2)) (hb2 : i < L.length) (hl : lst1 L i (av_I x) = L') (k : aw G R M cu su (pc + 2) L' st h Q) : aw G R M cu su pc L (av_I x :: st) h Q := by
  intro p e s m args below meth c H locs ls S hH hO hS hb hL hn
  subst hl
  exact lv_istore S.1 S.2.1 hd (lr_h hL) (by rw [← hL.1]; exact hb2) rfl (fun ls' hl' => k p e s m args below meth c H locs ls' S hH hO hS hb (lr_s1 hL hb2 (nv_h hn) rfl hl') (nv_t hn))
theorem A_lstore_n {n : Fin 4} (i : Nat) {x : Int} {L' : List (Option av_T)} (hd : decode M.2.1 pc = .ok (.lstore_n n, 1)) (hi : (n : Nat) = i) (hb2 : i + 1 < L.length) (hl : lst2 L i (av_L x) = L') (k : aw G R M cu su (pc + 1) L' st h Q) : aw G R M cu su pc L (av_L x :: st) h Q := by
  intro p e s m args below meth c H locs ls S hH hO hS hb hL hn
  subst hl
  exact lv_lstore_n S.1 S.2.1 hd hi (lr_h hL) (by rw [← hL.1]; exact hb2) rfl (fun ls' hl' => k p e s m args below meth c H locs ls' S hH hO hS hb (lr_s2 hL hb2 (nv_h hn) rfl hl') (nv_t hn))
theorem A_lstore {i : Nat} {x : Int} {L' : List (Option av_T)} (hd : decode M.2.1 pc = .ok (.lstore i, 2)) (hb2 : i + 1 < L.length) (hl : lst2 L i (av_L x) = L') (k : aw G R M cu su (pc + 2) L' st h Q) : aw G R M cu su pc L (av_L x :: st) h Q := by
  intro p e s m args below meth c H locs ls S hH hO hS hb hL hn
  subst hl
  exact lv_lstore S.1 S.2.1 hd (lr_h hL) (by rw [← hL.1]; exact hb2) rfl (fun ls' hl' => k p e s m args below meth c H locs ls' S hH hO hS hb (lr_s2 hL hb2 (nv_h hn) rfl hl') (nv_t hn))
theorem A_dstore_n {n : Fin 4} (i : Nat) {x : UInt64} {L' : List (Option av_T)} (hd : decode M.2.1 pc = .ok (.dstore_n n, 1)) (hi : (n : Nat) = i) (hb2 : i + 1 < L.length) (hl : lst2 L i (av_D x) = L') (k : aw G R M cu su (pc + 1) L' st h Q) : aw G R M cu su pc L (av_D x :: st) h Q := by
  intro p e s m args below meth c H locs ls S hH hO hS hb hL hn
  subst hl
  exact lv_dstore_n S.1 S.2.1 hd hi (lr_h hL) (by rw [← hL.1]; exact hb2) rfl (fun ls' hl' => k p e s m args below meth c H locs ls' S hH hO hS hb (lr_s2 hL hb2 (nv_h hn) rfl hl') (nv_t hn))
theorem A_dstore {i : Nat} {x : UInt64} {L' : List (Option av_T)} (hd : decode M.2.1 pc = .ok (.dstore i, 2)) (hb2 : i + 1 < L.length) (hl : lst2 L i (av_D x) = L') (k : aw G R M cu su (pc + 2) L' st h Q) : aw G R M cu su pc L (av_D x :: st) h Q := by
  intro p e s m args below meth c H locs ls S hH hO hS hb hL hn
  subst hl
  exact lv_dstore S.1 S.2.1 hd (lr_h hL) (by rw [← hL.1]; exact hb2) rfl (fun ls' hl' => k p e s m args below meth c H locs ls' S hH hO hS hb (lr_s2 hL hb2 (nv_h hn) rfl hl') (nv_t hn))
theorem A_astore_n {n : Fin 4} (i : Nat) {r : Option Nat} {L' : List (Option av_T)} (hd : decode M.2.1 pc = .ok (.astore_n n, 1)) (hi : (n : Nat) = i) (hb2 : i < L.length) (hl : lst1 L i (av_R r) = L') (k : aw G R M cu su (pc + 1) L' st h Q) : aw G R M cu su pc L (av_R r :: st) h Q := by
  intro p e s m args below meth c H locs ls S hH hO hS hb hL hn
  subst hl
  cases r with
  | none => exact lv_astore_nN S.1 S.2.1 hd hi (lr_h hL) (by rw [← hL.1]; exact hb2) rfl (fun ls' hl' => k p e s m args below meth c H locs ls' S hH hO hS hb (lr_s1 hL hb2 (nv_h hn) rfl hl') (nv_t hn))
  | some a => exact lv_astore_n S.1 S.2.1 hd hi (lr_h hL) (by rw [← hL.1]; exact hb2) rfl (fun ls' hl' => k p e s m args below meth c H locs ls' S hH hO hS hb (lr_s1 hL hb2 (nv_h hn) rfl hl') (nv_t hn))
theorem A_astore {i : Nat} {r : Option Nat} {L' : List (Option av_T)} (hd : decode M.2.1 pc = .ok (.astore i, 2)) (hb2 : i < L.length) (hl : lst1 L i (av_R r) = L') (k : aw G R M cu su (pc + 2) L' st h Q) : aw G R M cu su pc L (av_R r :: st) h Q := by
  intro p e s m args below meth c H locs ls S hH hO hS hb hL hn
  subst hl
  cases r with
  | none => exact lv_astoreN S.1 S.2.1 hd (lr_h hL) (by rw [← hL.1]; exact hb2) rfl (fun ls' hl' => k p e s m args below meth c H locs ls' S hH hO hS hb (lr_s1 hL hb2 (nv_h hn) rfl hl') (nv_t hn))
  | some a => exact lv_astore S.1 S.2.1 hd (lr_h hL) (by rw [← hL.1]; exact hb2) rfl (fun ls' hl' => k p e s m args below meth c H locs ls' S hH hO hS hb (lr_s1 hL hb2 (nv_h hn) rfl hl') (nv_t hn))
theorem A_astore_nS {n : Fin 4} (i : Nat) {r : Nat} {L' : List (Option av_T)} (hd : decode M.2.1 pc = .ok (.astore_n n, 1)) (hi : (n : Nat) = i) (hb2 : i < L.length) (hl : lst1 L i (av_S r) = L') (k : aw G R M cu su (pc + 1) L' st h Q) : aw G R M cu su pc L (av_S r :: st) h Q := by
  intro p e s m args below meth c H locs ls S hH hO hS hb hL hn
  subst hl
  exact lv_astore_n S.1 S.2.1 hd hi (lr_h hL) (by rw [← hL.1]; exact hb2) rfl (fun ls' hl' => k p e s m args below meth c H locs ls' S hH hO hS hb (lr_s1 hL hb2 (nv_h hn) rfl hl') (nv_t hn))
theorem A_astoreS {i : Nat} {r : Nat} {L' : List (Option av_T)} (hd : decode M.2.1 pc = .ok (.astore i, 2)) (hb2 : i < L.length) (hl : lst1 L i (av_S r) = L') (k : aw G R M cu su (pc + 2) L' st h Q) : aw G R M cu su pc L (av_S r :: st) h Q := by
  intro p e s m args below meth c H locs ls S hH hO hS hb hL hn
  subst hl
  exact lv_astore S.1 S.2.1 hd (lr_h hL) (by rw [← hL.1]; exact hb2) rfl (fun ls' hl' => k p e s m args below meth c H locs ls' S hH hO hS hb (lr_s1 hL hb2 (nv_h hn) rfl hl') (nv_t hn))
theorem A_iinc {i : Nat} {n x : Int} {L' : List (Option av_T)} (hd : decode M.2.1 pc = .ok (.iinc i n, 3)) (hx : L[i]? = some (some (av_I x))) (hl : lst1 L i (av_I (w32 (x + n))) = L') (k : aw G R M cu su (pc + 3) L' st h Q) : aw G R M cu su pc L st h Q := by
  intro p e s m args below meth c H locs ls S hH hO hS hb hL hn
  subst hl
  have hi : i < L.length := (List.getElem?_eq_some_iff.mp hx).1
  obtain ⟨kk, hk⟩ := lr_k (G := G) hx
  exact lv_iinc S.1 S.2.1 hd (lr_h hL) hk (w32_add x n).symm (by rw [← hL.1]; exact hi) rfl (fun ls' hl' => k p e s m args below meth c H locs ls' S hH hO hS hb (lr_s1 (v := av_I (w32 (x + n))) hL hi (w32_in _) rfl hl') hn)
theorem A_iadd {x y : Int} (hd : decode M.2.1 pc = .ok (.iadd, 1)) (k : aw G R M cu su (pc + 1) L (av_I (w32 (x + y)) :: st) h Q) : aw G R M cu su pc L (av_I y :: av_I x :: st) h Q := by
  intro p e s m args below meth c H locs ls S hH hO hS hb hL hn
  refine lv_iadd S.1 S.2.1 hd ?_
  rw [← w32_add x y]
  exact k p e s m args below meth c H locs ls S hH hO hS hb hL (nv_c (w32_in _) (nv_t (nv_t hn)))
theorem A_isub {x y : Int} (hd : decode M.2.1 pc = .ok (.isub, 1)) (k : aw G R M cu su (pc + 1) L (av_I (w32 (x - y)) :: st) h Q) : aw G R M cu su pc L (av_I y :: av_I x :: st) h Q := by
  intro p e s m args below meth c H locs ls S hH hO hS hb hL hn
  refine lv_isub S.1 S.2.1 hd ?_
  rw [← w32_sub x y]
  exact k p e s m args below meth c H locs ls S hH hO hS hb hL (nv_c (w32_in _) (nv_t (nv_t hn)))
theorem A_imul {x y : Int} (hd : decode M.2.1 pc = .ok (.imul, 1)) (k : aw G R M cu su (pc + 1) L (av_I (w32 (x * y)) :: st) h Q) : aw G R M cu su pc L (av_I y :: av_I x :: st) h Q := by
  intro p e s m args below meth c H locs ls S hH hO hS hb hL hn
  refine lv_imul S.1 S.2.1 hd ?_
  rw [← w32_mul (nv_h (nv_t hn)) (nv_h hn)]
  exact k p e s m args below meth c H locs ls S hH hO hS hb hL (nv_c (w32_in _) (nv_t (nv_t hn)))
theorem A_idiv {x y : Int} (hd : decode M.2.1 pc = .ok (.idiv, 1)) (hy : y ≠ 0) (k : aw G R M cu su (pc + 1) L (av_I (w32 (x.tdiv y)) :: st) h Q) : aw G R M cu su pc L (av_I y :: av_I x :: st) h Q := by
  intro p e s m args below meth c H locs ls S hH hO hS hb hL hn
  refine lv_idiv S.1 S.2.1 hd (i32_ne0 (nv_h hn) hy) ?_
  rw [← w32_div (nv_h (nv_t hn)) (nv_h hn)]
  exact k p e s m args below meth c H locs ls S hH hO hS hb hL (nv_c (w32_in _) (nv_t (nv_t hn)))
theorem A_irem {x y : Int} (hd : decode M.2.1 pc = .ok (.irem, 1)) (hy : y ≠ 0) (k : aw G R M cu su (pc + 1) L (av_I (x.tmod y) :: st) h Q) : aw G R M cu su pc L (av_I y :: av_I x :: st) h Q := by
  intro p e s m args below meth c H locs ls S hH hO hS hb hL hn
  refine lv_irem S.1 S.2.1 hd (i32_ne0 (nv_h hn) hy) ?_
  rw [w32_rem (nv_h (nv_t hn)) (nv_h hn) hy]
  exact k p e s m args below meth c H locs ls S hH hO hS hb hL (nv_c (tmod_in32 (nv_h (nv_t hn))) (nv_t (nv_t hn)))
theorem A_ineg {x : Int} (hd : decode M.2.1 pc = .ok (.ineg, 1)) (k : aw G R M cu su (pc + 1) L (av_I (w32 (-x)) :: st) h Q) : aw G R M cu su pc L (av_I x :: st) h Q := by
  intro p e s m args below meth c H locs ls S hH hO hS hb hL hn
  refine lv_ineg S.1 S.2.1 hd ?_
  rw [← w32_neg x]
  exact k p e s m args below meth c H locs ls S hH hO hS hb hL (nv_c (w32_in _) (nv_t hn))
theorem A_iand {x y : Int} (hd : decode M.2.1 pc = .ok (.iand, 1)) (k : aw G R M cu su (pc + 1) L (av_I ((Int32.ofInt x &&& Int32.ofInt y).toInt) :: st) h Q) : aw G R M cu su pc L (av_I y :: av_I x :: st) h Q := by
  intro p e s m args below meth c H locs ls S hH hO hS hb hL hn
  refine lv_iand S.1 S.2.1 hd ?_
  rw [← i32_rt (Int32.ofInt x &&& Int32.ofInt y)]
  exact k p e s m args below meth c H locs ls S hH hO hS hb hL (nv_c (i32_of _) (nv_t (nv_t hn)))
theorem A_ior {x y : Int} (hd : decode M.2.1 pc = .ok (.ior, 1)) (k : aw G R M cu su (pc + 1) L (av_I ((Int32.ofInt x ||| Int32.ofInt y).toInt) :: st) h Q) : aw G R M cu su pc L (av_I y :: av_I x :: st) h Q := by
  intro p e s m args below meth c H locs ls S hH hO hS hb hL hn
  refine lv_ior S.1 S.2.1 hd ?_
  rw [← i32_rt (Int32.ofInt x ||| Int32.ofInt y)]
  exact k p e s m args below meth c H locs ls S hH hO hS hb hL (nv_c (i32_of _) (nv_t (nv_t hn)))
theorem A_ixor {x y : Int} (hd : decode M.2.1 pc = .ok (.ixor, 1)) (k : aw G R M cu su (pc + 1) L (av_I ((Int32.ofInt x ^^^ Int32.ofInt y).toInt) :: st) h Q) : aw G R M cu su pc L (av_I y :: av_I x :: st) h Q := by
  intro p e s m args below meth c H locs ls S hH hO hS hb hL hn
  refine lv_ixor S.1 S.2.1 hd ?_
  rw [← i32_rt (Int32.ofInt x ^^^ Int32.ofInt y)]
  exact k p e s m args below meth c H locs ls S hH hO hS hb hL (nv_c (i32_of _) (nv_t (nv_t hn)))
theorem A_ishl {x y : Int} (hd : decode M.2.1 pc = .ok (.ishl, 1)) (k : aw G R M cu su (pc + 1) L (av_I ((Int32.ofInt x <<< (Int32.ofInt y &&& 31)).toInt) :: st) h Q) : aw G R M cu su pc L (av_I y :: av_I x :: st) h Q := by
  intro p e s m args below meth c H locs ls S hH hO hS hb hL hn
  refine lv_ishl S.1 S.2.1 hd ?_
  rw [← i32_rt (Int32.ofInt x <<< (Int32.ofInt y &&& 31))]
  exact k p e s m args below meth c H locs ls S hH hO hS hb hL (nv_c (i32_of _) (nv_t (nv_t hn)))
theorem A_ishr {x y : Int} (hd : decode M.2.1 pc = .ok (.ishr, 1)) (k : aw G R M cu su (pc + 1) L (av_I ((Int32.ofInt x >>> (Int32.ofInt y &&& 31)).toInt) :: st) h Q) : aw G R M cu su pc L (av_I y :: av_I x :: st) h Q := by
  intro p e s m args below meth c H locs ls S hH hO hS hb hL hn
  refine lv_ishr S.1 S.2.1 hd ?_
  rw [← i32_rt (Int32.ofInt x >>> (Int32.ofInt y &&& 31))]
  exact k p e s m args below meth c H locs ls S hH hO hS hb hL (nv_c (i32_of _) (nv_t (nv_t hn)))
theorem A_iushr {x y : Int} (hd : decode M.2.1 pc = .ok (.iushr, 1)) (k : aw G R M cu su (pc + 1) L (av_I (((Int32.ofInt x).toUInt32 >>> ((Int32.ofInt y).toUInt32 &&& Int32.toUInt32 31)).toInt32.toInt) :: st) h Q) : aw G R M cu su pc L (av_I y :: av_I x :: st) h Q := by
  intro p e s m args below meth c H locs ls S hH hO hS hb hL hn
  refine lv_iushr S.1 S.2.1 hd (i32_rt _).symm ?_
  exact k p e s m args below meth c H locs ls S hH hO hS hb hL (nv_c (i32_of _) (nv_t (nv_t hn)))
theorem A_i2l {x : Int} (hd : decode M.2.1 pc = .ok (.i2l, 1)) (k : aw G R M cu su (pc + 1) L (av_L x :: st) h Q) : aw G R M cu su pc L (av_I x :: st) h Q := by
  intro p e s m args below meth c H locs ls S hH hO hS hb hL hn
  refine lv_i2l S.1 S.2.1 hd (i2l_v (nv_h hn)) ?_
  exact k p e s m args below meth c H locs ls S hH hO hS hb hL (nv_c (i64_i32 (nv_h hn)) (nv_t hn))
theorem A_l2i {x : Int} (hd : decode M.2.1 pc = .ok (.l2i, 1)) (k : aw G R M cu su (pc + 1) L (av_I (w32 x) :: st) h Q) : aw G R M cu su pc L (av_L x :: st) h Q := by
  intro p e s m args below meth c H locs ls S hH hO hS hb hL hn
  refine lv_l2i S.1 S.2.1 hd (l2i_v x) ?_
  exact k p e s m args below meth c H locs ls S hH hO hS hb hL (nv_c (w32_in _) (nv_t hn))
theorem A_i2c {x : Int} (hd : decode M.2.1 pc = .ok (.i2c, 1)) (k : aw G R M cu su (pc + 1) L (av_I ((((Int32.ofInt x).toUInt32 % 65536).toInt32).toInt) :: st) h Q) : aw G R M cu su pc L (av_I x :: st) h Q := by
  intro p e s m args below meth c H locs ls S hH hO hS hb hL hn
  refine lv_i2c S.1 S.2.1 hd (i32_rt _).symm ?_
  exact k p e s m args below meth c H locs ls S hH hO hS hb hL (nv_c (i32_of _) (nv_t hn))
theorem A_ladd {x y : Int} (hd : decode M.2.1 pc = .ok (.ladd, 1)) (k : aw G R M cu su (pc + 1) L (av_L (w64 (x + y)) :: st) h Q) : aw G R M cu su pc L (av_L y :: av_L x :: st) h Q := by
  intro p e s m args below meth c H locs ls S hH hO hS hb hL hn
  refine lv_ladd S.1 S.2.1 hd ?_
  rw [← w64_add x y]
  exact k p e s m args below meth c H locs ls S hH hO hS hb hL (nv_c (w64_in _) (nv_t (nv_t hn)))
theorem A_lsub {x y : Int} (hd : decode M.2.1 pc = .ok (.lsub, 1)) (k : aw G R M cu su (pc + 1) L (av_L (w64 (x - y)) :: st) h Q) : aw G R M cu su pc L (av_L y :: av_L x :: st) h Q := by
  intro p e s m args below meth c H locs ls S hH hO hS hb hL hn
  refine lv_lsub S.1 S.2.1 hd ?_
  rw [← w64_sub x y]
  exact k p e s m args below meth c H locs ls S hH hO hS hb hL (nv_c (w64_in _) (nv_t (nv_t hn)))
theorem A_lmul {x y : Int} (hd : decode M.2.1 pc = .ok (.lmul, 1)) (k : aw G R M cu su (pc + 1) L (av_L (w64 (x * y)) :: st) h Q) : aw G R M cu su pc L (av_L y :: av_L x :: st) h Q := by
  intro p e s m args below meth c H locs ls S hH hO hS hb hL hn
  refine lv_lmul S.1 S.2.1 hd ?_
  rw [← w64_mul (nv_h (nv_t hn)) (nv_h hn)]
  exact k p e s m args below meth c H locs ls S hH hO hS hb hL (nv_c (w64_in _) (nv_t (nv_t hn)))
theorem A_ldiv {x y : Int} (hd : decode M.2.1 pc = .ok (.ldiv, 1)) (hy : y ≠ 0) (k : aw G R M cu su (pc + 1) L (av_L (w64 (x.tdiv y)) :: st) h Q) : aw G R M cu su pc L (av_L y :: av_L x :: st) h Q := by
  intro p e s m args below meth c H locs ls S hH hO hS hb hL hn
  refine lv_ldiv S.1 S.2.1 hd (i64_ne0 (nv_h hn) hy) ?_
  rw [← w64_div (nv_h (nv_t hn)) (nv_h hn)]
  exact k p e s m args below meth c H locs ls S hH hO hS hb hL (nv_c (w64_in _) (nv_t (nv_t hn)))
theorem A_lrem {x y : Int} (hd : decode M.2.1 pc = .ok (.lrem, 1)) (hy : y ≠ 0) (k : aw G R M cu su (pc + 1) L (av_L (x.tmod y) :: st) h Q) : aw G R M cu su pc L (av_L y :: av_L x :: st) h Q := by
  intro p e s m args below meth c H locs ls S hH hO hS hb hL hn
  refine lv_lrem S.1 S.2.1 hd (i64_ne0 (nv_h hn) hy) ?_
  rw [w64_rem (nv_h (nv_t hn)) (nv_h hn) hy]
  exact k p e s m args below meth c H locs ls S hH hO hS hb hL (nv_c (tmod_in64 (nv_h (nv_t hn))) (nv_t (nv_t hn)))
theorem A_lneg {x : Int} (hd : decode M.2.1 pc = .ok (.lneg, 1)) (k : aw G R M cu su (pc + 1) L (av_L (w64 (-x)) :: st) h Q) : aw G R M cu su pc L (av_L x :: st) h Q := by
  intro p e s m args below meth c H locs ls S hH hO hS hb hL hn
  refine lv_lneg S.1 S.2.1 hd ?_
  rw [← w64_neg x]
  exact k p e s m args below meth c H locs ls S hH hO hS hb hL (nv_c (w64_in _) (nv_t hn))
theorem A_land {x y : Int} (hd : decode M.2.1 pc = .ok (.land, 1)) (k : aw G R M cu su (pc + 1) L (av_L ((Int64.ofInt x &&& Int64.ofInt y).toInt) :: st) h Q) : aw G R M cu su pc L (av_L y :: av_L x :: st) h Q := by
  intro p e s m args below meth c H locs ls S hH hO hS hb hL hn
  refine lv_land S.1 S.2.1 hd ?_
  rw [← i64_rt (Int64.ofInt x &&& Int64.ofInt y)]
  exact k p e s m args below meth c H locs ls S hH hO hS hb hL (nv_c (i64_of _) (nv_t (nv_t hn)))
theorem A_lor {x y : Int} (hd : decode M.2.1 pc = .ok (.lor, 1)) (k : aw G R M cu su (pc + 1) L (av_L ((Int64.ofInt x ||| Int64.ofInt y).toInt) :: st) h Q) : aw G R M cu su pc L (av_L y :: av_L x :: st) h Q := by
  intro p e s m args below meth c H locs ls S hH hO hS hb hL hn
  refine lv_lor S.1 S.2.1 hd ?_
  rw [← i64_rt (Int64.ofInt x ||| Int64.ofInt y)]
  exact k p e s m args below meth c H locs ls S hH hO hS hb hL (nv_c (i64_of _) (nv_t (nv_t hn)))
theorem A_lxor {x y : Int} (hd : decode M.2.1 pc = .ok (.lxor, 1)) (k : aw G R M cu su (pc + 1) L (av_L ((Int64.ofInt x ^^^ Int64.ofInt y).toInt) :: st) h Q) : aw G R M cu su pc L (av_L y :: av_L x :: st) h Q := by
  intro p e s m args below meth c H locs ls S hH hO hS hb hL hn
  refine lv_lxor S.1 S.2.1 hd ?_
  rw [← i64_rt (Int64.ofInt x ^^^ Int64.ofInt y)]
  exact k p e s m args below meth c H locs ls S hH hO hS hb hL (nv_c (i64_of _) (nv_t (nv_t hn)))
theorem A_lshl {x y : Int} (hd : decode M.2.1 pc = .ok (.lshl, 1)) (k : aw G R M cu su (pc + 1) L (av_L ((Int64.ofInt x <<< ((Int32.ofInt y).toInt64 &&& 63)).toInt) :: st) h Q) : aw G R M cu su pc L (av_I y :: av_L x :: st) h Q := by
  intro p e s m args below meth c H locs ls S hH hO hS hb hL hn
  refine lv_lshl S.1 S.2.1 hd (i64_rt _).symm ?_
  exact k p e s m args below meth c H locs ls S hH hO hS hb hL (nv_c (i64_of _) (nv_t (nv_t hn)))
theorem A_lshr {x y : Int} (hd : decode M.2.1 pc = .ok (.lshr, 1)) (k : aw G R M cu su (pc + 1) L (av_L ((Int64.ofInt x >>> ((Int32.ofInt y).toInt64 &&& 63)).toInt) :: st) h Q) : aw G R M cu su pc L (av_I y :: av_L x :: st) h Q := by
  intro p e s m args below meth c H locs ls S hH hO hS hb hL hn
  refine lv_lshr S.1 S.2.1 hd (i64_rt _).symm ?_
  exact k p e s m args below meth c H locs ls S hH hO hS hb hL (nv_c (i64_of _) (nv_t (nv_t hn)))
theorem A_lushr {x y : Int} (hd : decode M.2.1 pc = .ok (.lushr, 1)) (k : aw G R M cu su (pc + 1) L (av_L ((((Int64.ofInt x).toUInt64 >>> ((Int32.ofInt y).toInt64.toUInt64 &&& Int64.toUInt64 63)).toInt64).toInt) :: st) h Q) : aw G R M cu su pc L (av_I y :: av_L x :: st) h Q := by
  intro p e s m args below meth c H locs ls S hH hO hS hb hL hn
  refine lv_lushr S.1 S.2.1 hd (i64_rt _).symm ?_
  exact k p e s m args below meth c H locs ls S hH hO hS hb hL (nv_c (i64_of _) (nv_t (nv_t hn)))
theorem A_lcmp {x y : Int} (hd : decode M.2.1 pc = .ok (.lcmp, 1)) (k : aw G R M cu su (pc + 1) L (av_I (cmp_I x y) :: st) h Q) : aw G R M cu su pc L (av_L y :: av_L x :: st) h Q := by
  intro p e s m args below meth c H locs ls S hH hO hS hb hL hn
  refine W.lcmp S.1 S.2.1 hd ?_
  rw [cmp_v (nv_h (nv_t hn)) (nv_h hn)]
  exact k p e s m args below meth c H locs ls S hH hO hS hb hL (nv_c (cmp_in x y) (nv_t (nv_t hn)))
theorem A_dcmp {x y : UInt64} {op : CmpOp} (hd : decode M.2.1 pc = .ok (.dcmp op, 1)) (k : aw G R M cu su (pc + 1) L (av_I ((Op.cmpValue (FP.dcmp x y) op).toInt) :: st) h Q) : aw G R M cu su pc L (av_D y :: av_D x :: st) h Q := by
  intro p e s m args below meth c H locs ls S hH hO hS hb hL hn
  refine lv_dcmp S.1 S.2.1 hd ?_
  rw [← i32_rt (Op.cmpValue (FP.dcmp x y) op)]
  exact k p e s m args below meth c H locs ls S hH hO hS hb hL (nv_c (i32_of _) (nv_t (nv_t hn)))
theorem A_dupI {x : Int} (hd : decode M.2.1 pc = .ok (.dup, 1)) (k : aw G R M cu su (pc + 1) L (av_I x :: av_I x :: st) h Q) : aw G R M cu su pc L (av_I x :: st) h Q := by
  intro p e s m args below meth c H locs ls S hH hO hS hb hL hn
  refine lv_dup S.1 S.2.1 hd rfl ?_
  exact k p e s m args below meth c H locs ls S hH hO hS hb hL (nv_c (nv_h hn) hn)
theorem A_popI {x : Int} (hd : decode M.2.1 pc = .ok (.pop, 1)) (k : aw G R M cu su (pc + 1) L (st) h Q) : aw G R M cu su pc L (av_I x :: st) h Q := by
  intro p e s m args below meth c H locs ls S hH hO hS hb hL hn
  refine lv_pop S.1 S.2.1 hd rfl ?_
  exact k p e s m args below meth c H locs ls S hH hO hS hb hL (nv_t hn)
theorem A_dupR {x : Option Nat} (hd : decode M.2.1 pc = .ok (.dup, 1)) (k : aw G R M cu su (pc + 1) L (av_R x :: av_R x :: st) h Q) : aw G R M cu su pc L (av_R x :: st) h Q := by
  intro p e s m args below meth c H locs ls S hH hO hS hb hL hn
  refine lv_dup S.1 S.2.1 hd (by cases x <;> rfl) ?_
  exact k p e s m args below meth c H locs ls S hH hO hS hb hL (nv_c (nv_h hn) hn)
theorem A_popR {x : Option Nat} (hd : decode M.2.1 pc = .ok (.pop, 1)) (k : aw G R M cu su (pc + 1) L (st) h Q) : aw G R M cu su pc L (av_R x :: st) h Q := by
  intro p e s m args below meth c H locs ls S hH hO hS hb hL hn
  refine lv_pop S.1 S.2.1 hd (by cases x <;> rfl) ?_
  exact k p e s m args below meth c H locs ls S hH hO hS hb hL (nv_t hn)
theorem A_dupS {x : Nat} (hd : decode M.2.1 pc = .ok (.dup, 1)) (k : aw G R M cu su (pc + 1) L (av_S x :: av_S x :: st) h Q) : aw G R M cu su pc L (av_S x :: st) h Q := by
  intro p e s m args below meth c H locs ls S hH hO hS hb hL hn
  refine lv_dup S.1 S.2.1 hd rfl ?_
  exact k p e s m args below meth c H locs ls S hH hO hS hb hL (nv_c (nv_h hn) hn)
theorem A_popS {x : Nat} (hd : decode M.2.1 pc = .ok (.pop, 1)) (k : aw G R M cu su (pc + 1) L (st) h Q) : aw G R M cu su pc L (av_S x :: st) h Q := by
  intro p e s m args below meth c H locs ls S hH hO hS hb hL hn
  refine lv_pop S.1 S.2.1 hd rfl ?_
  exact k p e s m args below meth c H locs ls S hH hO hS hb hL (nv_t hn)
theorem A_dup2RI {r : Option Nat} {x : Int} (hd : decode M.2.1 pc = .ok (.dup2, 1)) (k : aw G R M cu su (pc + 1) L (av_I x :: av_R r :: av_I x :: av_R r :: st) h Q) : aw G R M cu su pc L (av_I x :: av_R r :: st) h Q := by
  intro p e s m args below meth c H locs ls S hH hO hS hb hL hn
  refine lv_dup2_11 S.1 S.2.1 hd rfl (by cases r <;> rfl) ?_
  exact k p e s m args below meth c H locs ls S hH hO hS hb hL (nv_c (nv_h hn) (nv_c trivial hn))
theorem A_dup2L {x : Int} (hd : decode M.2.1 pc = .ok (.dup2, 1)) (k : aw G R M cu su (pc + 1) L (av_L x :: av_L x :: st) h Q) : aw G R M cu su pc L (av_L x :: st) h Q := by
  intro p e s m args below meth c H locs ls S hH hO hS hb hL hn
  refine lv_dup2_2 S.1 S.2.1 hd rfl ?_
  exact k p e s m args below meth c H locs ls S hH hO hS hb hL (nv_c (nv_h hn) hn)
theorem A_pop2L {x : Int} (hd : decode M.2.1 pc = .ok (.pop2, 1)) (k : aw G R M cu su (pc + 1) L (st) h Q) : aw G R M cu su pc L (av_L x :: st) h Q := by
  intro p e s m args below meth c H locs ls S hH hO hS hb hL hn
  refine lv_pop2_2 S.1 S.2.1 hd rfl ?_
  exact k p e s m args below meth c H locs ls S hH hO hS hb hL (nv_t hn)
theorem A_pop2D {x : UInt64} (hd : decode M.2.1 pc = .ok (.pop2, 1)) (k : aw G R M cu su (pc + 1) L (st) h Q) : aw G R M cu su pc L (av_D x :: st) h Q := by
  intro p e s m args below meth c H locs ls S hH hO hS hb hL hn
  refine lv_pop2_2 S.1 S.2.1 hd rfl ?_
  exact k p e s m args below meth c H locs ls S hH hO hS hb hL (nv_t hn)
theorem A_goto {off : Int} {tgt : Nat} (hd : decode M.2.1 pc = .ok (.goto off, 3)) (ht : (pc : Int) + off = (tgt : Int)) (k : aw G R M cu su tgt L st h Q) : aw G R M cu su pc L st h Q := by
  intro p e s m args below meth c H locs ls S hH hO hS hb hL hn
  exact lv_goto S.1 S.2.1 hd ht (k p e s m args below meth c H locs ls S hH hO hS hb hL hn)
theorem A_if_eq {x : Int} {off : Int} {tgt : Nat} (hd : decode M.2.1 pc = .ok (.ifCond .eq off, 3)) (ht : (pc : Int) + off = (tgt : Int)) (kt : x = 0 → aw G R M cu su tgt L st h Q) (kf : ¬ x = 0 → aw G R M cu su (pc + 3) L st h Q) : aw G R M cu su pc L (av_I x :: st) h Q := by
  intro p e s m args below meth c H locs ls S hH hO hS hb hL hn
  exact lv_if_eq S.1 S.2.1 hd ht (fun z => (kt ((i32_eq (nv_h hn) i32_0).mp z)) p e s m args below meth c H locs ls S hH hO hS hb hL (nv_t hn)) (fun z => (kf (fun w => z ((i32_eq (nv_h hn) i32_0).mpr w))) p e s m args below meth c H locs ls S hH hO hS hb hL (nv_t hn))
theorem A_icmp_eq {x y : Int} {off : Int} {tgt : Nat} (hd : decode M.2.1 pc = .ok (.if_icmp .eq off, 3)) (ht : (pc : Int) + off = (tgt : Int)) (kt : x = y → aw G R M cu su tgt L st h Q) (kf : ¬ x = y → aw G R M cu su (pc + 3) L st h Q) : aw G R M cu su pc L (av_I y :: av_I x :: st) h Q := by
  intro p e s m args below meth c H locs ls S hH hO hS hb hL hn
  exact lv_icmp_eq S.1 S.2.1 hd ht (fun z => (kt ((i32_eq (nv_h (nv_t hn)) (nv_h hn)).mp z)) p e s m args below meth c H locs ls S hH hO hS hb hL (nv_t (nv_t hn))) (fun z => (kf (fun w => z ((i32_eq (nv_h (nv_t hn)) (nv_h hn)).mpr w))) p e s m args below meth c H locs ls S hH hO hS hb hL (nv_t (nv_t hn)))
theorem A_if_ne {x : Int} {off : Int} {tgt : Nat} (hd : decode M.2.1 pc = .ok (.ifCond .ne off, 3)) (ht : (pc : Int) + off = (tgt : Int)) (kt : ¬ x = 0 → aw G R M cu su tgt L st h Q) (kf : x = 0 → aw G R M cu su (pc + 3) L st h Q) : aw G R M cu su pc L (av_I x :: st) h Q := by
  intro p e s m args below meth c H locs ls S hH hO hS hb hL hn
  exact lv_if_ne S.1 S.2.1 hd ht (fun z => (kt (fun w => z ((i32_eq (nv_h hn) i32_0).mpr w))) p e s m args below meth c H locs ls S hH hO hS hb hL (nv_t hn)) (fun z => (kf ((i32_eq (nv_h hn) i32_0).mp z)) p e s m args below meth c H locs ls S hH hO hS hb hL (nv_t hn))
theorem A_icmp_ne {x y : Int} {off : Int} {tgt : Nat} (hd : decode M.2.1 pc = .ok (.if_icmp .ne off, 3)) (ht : (pc : Int) + off = (tgt : Int)) (kt : ¬ x = y → aw G R M cu su tgt L st h Q) (kf : x = y → aw G R M cu su (pc + 3) L st h Q) : aw G R M cu su pc L (av_I y :: av_I x :: st) h Q := by
  intro p e s m args below meth c H locs ls S hH hO hS hb hL hn
  exact lv_icmp_ne S.1 S.2.1 hd ht (fun z => (kt (fun w => z ((i32_eq (nv_h (nv_t hn)) (nv_h hn)).mpr w))) p e s m args below meth c H locs ls S hH hO hS hb hL (nv_t (nv_t hn))) (fun z => (kf ((i32_eq (nv_h (nv_t hn)) (nv_h hn)).mp z)) p e s m args below meth c H locs ls S hH hO hS hb hL (nv_t (nv_t hn)))
theorem A_if_lt {x : Int} {off : Int} {tgt : Nat} (hd : decode M.2.1 pc = .ok (.ifCond .lt off, 3)) (ht : (pc : Int) + off = (tgt : Int)) (kt : x < 0 → aw G R M cu su tgt L st h Q) (kf : ¬ x < 0 → aw G R M cu su (pc + 3) L st h Q) : aw G R M cu su pc L (av_I x :: st) h Q := by
  intro p e s m args below meth c H locs ls S hH hO hS hb hL hn
  exact lv_if_lt S.1 S.2.1 hd ht (fun z => (kt ((i32_lt (nv_h hn) i32_0).mp z)) p e s m args below meth c H locs ls S hH hO hS hb hL (nv_t hn)) (fun z => (kf (fun w => z ((i32_lt (nv_h hn) i32_0).mpr w))) p e s m args below meth c H locs ls S hH hO hS hb hL (nv_t hn))
theorem A_icmp_lt {x y : Int} {off : Int} {tgt : Nat} (hd : decode M.2.1 pc = .ok (.if_icmp .lt off, 3)) (ht : (pc : Int) + off = (tgt : Int)) (kt : x < y → aw G R M cu su tgt L st h Q) (kf : ¬ x < y → aw G R M cu su (pc + 3) L st h Q) : aw G R M cu su pc L (av_I y :: av_I x :: st) h Q := by
  intro p e s m args below meth c H locs ls S hH hO hS hb hL hn
  exact lv_icmp_lt S.1 S.2.1 hd ht (fun z => (kt ((i32_lt (nv_h (nv_t hn)) (nv_h hn)).mp z)) p e s m args below meth c H locs ls S hH hO hS hb hL (nv_t (nv_t hn))) (fun z => (kf (fun w => z ((i32_lt (nv_h (nv_t hn)) (nv_h hn)).mpr w))) p e s m args below meth c H locs ls S hH hO hS hb hL (nv_t (nv_t hn)))
theorem A_if_ge {x : Int} {off : Int} {tgt : Nat} (hd : decode M.2.1 pc = .ok (.ifCond .ge off, 3)) (ht : (pc : Int) + off = (tgt : Int)) (kt : 0 ≤ x → aw G R M cu su tgt L st h Q) (kf : ¬ 0 ≤ x → aw G R M cu su (pc + 3) L st h Q) : aw G R M cu su pc L (av_I x :: st) h Q := by
  intro p e s m args below meth c H locs ls S hH hO hS hb hL hn
  exact lv_if_ge S.1 S.2.1 hd ht (fun z => (kt ((i32_le i32_0 (nv_h hn)).mp z)) p e s m args below meth c H locs ls S hH hO hS hb hL (nv_t hn)) (fun z => (kf (fun w => z ((i32_le i32_0 (nv_h hn)).mpr w))) p e s m args below meth c H locs ls S hH hO hS hb hL (nv_t hn))
theorem A_icmp_ge {x y : Int} {off : Int} {tgt : Nat} (hd : decode M.2.1 pc = .ok (.if_icmp .ge off, 3)) (ht : (pc : Int) + off = (tgt : Int)) (kt : y ≤ x → aw G R M cu su tgt L st h Q) (kf : ¬ y ≤ x → aw G R M cu su (pc + 3) L st h Q) : aw G R M cu su pc L (av_I y :: av_I x :: st) h Q := by
  intro p e s m args below meth c H locs ls S hH hO hS hb hL hn
  exact lv_icmp_ge S.1 S.2.1 hd ht (fun z => (kt ((i32_le (nv_h hn) (nv_h (nv_t hn))).mp z)) p e s m args below meth c H locs ls S hH hO hS hb hL (nv_t (nv_t hn))) (fun z => (kf (fun w => z ((i32_le (nv_h hn) (nv_h (nv_t hn))).mpr w))) p e s m args below meth c H locs ls S hH hO hS hb hL (nv_t (nv_t hn)))
theorem A_if_gt {x : Int} {off : Int} {tgt : Nat} (hd : decode M.2.1 pc = .ok (.ifCond .gt off, 3)) (ht : (pc : Int) + off = (tgt : Int)) (kt : 0 < x → aw G R M cu su tgt L st h Q) (kf : ¬ 0 < x → aw G R M cu su (pc + 3) L st h Q) : aw G R M cu su pc L (av_I x :: st) h Q := by
  intro p e s m args below meth c H locs ls S hH hO hS hb hL hn
  exact lv_if_gt S.1 S.2.1 hd ht (fun z => (kt ((i32_lt i32_0 (nv_h hn)).mp z)) p e s m args below meth c H locs ls S hH hO hS hb hL (nv_t hn)) (fun z => (kf (fun w => z ((i32_lt i32_0 (nv_h hn)).mpr w))) p e s m args below meth c H locs ls S hH hO hS hb hL (nv_t hn))
theorem A_icmp_gt {x y : Int} {off : Int} {tgt : Nat} (hd : decode M.2.1 pc = .ok (.if_icmp .gt off, 3)) (ht : (pc : Int) + off = (tgt : Int)) (kt : y < x → aw G R M cu su tgt L st h Q) (kf : ¬ y < x → aw G R M cu su (pc + 3) L st h Q) : aw G R M cu su pc L (av_I y :: av_I x :: st) h Q := by
  intro p e s m args below meth c H locs ls S hH hO hS hb hL hn
  exact lv_icmp_gt S.1 S.2.1 hd ht (fun z => (kt ((i32_lt (nv_h hn) (nv_h (nv_t hn))).mp z)) p e s m args below meth c H locs ls S hH hO hS hb hL (nv_t (nv_t hn))) (fun z => (kf (fun w => z ((i32_lt (nv_h hn) (nv_h (nv_t hn))).mpr w))) p e s m args below meth c H locs ls S hH hO hS hb hL (nv_t (nv_t hn)))
theorem A_if_le {x : Int} {off : Int} {tgt : Nat} (hd : decode M.2.1 pc = .ok (.ifCond .le off, 3)) (ht : (pc : Int) + off = (tgt : Int)) (kt : x ≤ 0 → aw G R M cu su tgt L st h Q) (kf : ¬ x ≤ 0 → aw G R M cu su (pc + 3) L st h Q) : aw G R M cu su pc L (av_I x :: st) h Q := by
  intro p e s m args below meth c H locs ls S hH hO hS hb hL hn
  exact lv_if_le S.1 S.2.1 hd ht (fun z => (kt ((i32_le (nv_h hn) i32_0).mp z)) p e s m args below meth c H locs ls S hH hO hS hb hL (nv_t hn)) (fun z => (kf (fun w => z ((i32_le (nv_h hn) i32_0).mpr w))) p e s m args below meth c H locs ls S hH hO hS hb hL (nv_t hn))
theorem A_icmp_le {x y : Int} {off : Int} {tgt : Nat} (hd : decode M.2.1 pc = .ok (.if_icmp .le off, 3)) (ht : (pc : Int) + off = (tgt : Int)) (kt : x ≤ y → aw G R M cu su tgt L st h Q) (kf : ¬ x ≤ y → aw G R M cu su (pc + 3) L st h Q) : aw G R M cu su pc L (av_I y :: av_I x :: st) h Q := by
  intro p e s m args below meth c H locs ls S hH hO hS hb hL hn
  exact lv_icmp_le S.1 S.2.1 hd ht (fun z => (kt ((i32_le (nv_h (nv_t hn)) (nv_h hn)).mp z)) p e s m args below meth c H locs ls S hH hO hS hb hL (nv_t (nv_t hn))) (fun z => (kf (fun w => z ((i32_le (nv_h (nv_t hn)) (nv_h hn)).mpr w))) p e s m args below meth c H locs ls S hH hO hS hb hL (nv_t (nv_t hn)))
theorem A_ifnull {r : Option Nat} {off : Int} {tgt : Nat} (hd : decode M.2.1 pc = .ok (.ifnull off, 3)) (ht : (pc : Int) + off = (tgt : Int)) (kt : r = none → aw G R M cu su tgt L st h Q) (kf : ∀ a, r = some a → aw G R M cu su (pc + 3) L st h Q) : aw G R M cu su pc L (av_R r :: st) h Q := by
  intro p e s m args below meth c H locs ls S hH hO hS hb hL hn
  cases r with
  | none => exact lv_ifnullN S.1 S.2.1 hd ht ((kt rfl) p e s m args below meth c H locs ls S hH hO hS hb hL (nv_t hn))
  | some a => exact lv_ifnull S.1 S.2.1 hd ((kf a rfl) p e s m args below meth c H locs ls S hH hO hS hb hL (nv_t hn))
theorem A_ifnonnull {r : Option Nat} {off : Int} {tgt : Nat} (hd : decode M.2.1 pc = .ok (.ifnonnull off, 3)) (ht : (pc : Int) + off = (tgt : Int)) (kt : ∀ a, r = some a → aw G R M cu su tgt L st h Q) (kf : r = none → aw G R M cu su (pc + 3) L st h Q) : aw G R M cu su pc L (av_R r :: st) h Q := by
  intro p e s m args below meth c H locs ls S hH hO hS hb hL hn
  cases r with
  | none => exact lv_ifnonnullN S.1 S.2.1 hd ((kf rfl) p e s m args below meth c H locs ls S hH hO hS hb hL (nv_t hn))
  | some a => exact lv_ifnonnull S.1 S.2.1 hd ht ((kt a rfl) p e s m args below meth c H locs ls S hH hO hS hb hL (nv_t hn))
theorem A_tabIn {x : Int} {dflt lo hi : Int} {offs : Array Int} {len : Nat} {off : Int} {tgt : Nat} (hd : decode M.2.1 pc = .ok (.tableswitch dflt lo hi offs, len)) (h1 : lo ≤ x) (h2 : x ≤ hi) (ho : offs[(x - lo).toNat]? = some off) (ht : (pc : Int) + off = (tgt : Int)) (k : aw G R M cu su tgt L st h Q) : aw G R M cu su pc L (av_I x :: st) h Q := by
  intro p e s m args below meth c H locs ls S hH hO hS hb hL hn
  have e1 := i32_tn (nv_h hn)
  exact lv_tableIn S.1 S.2.1 hd (by rw [e1]; omega) (by rw [e1]; omega) (by rw [e1]; exact ho) ht (k p e s m args below meth c H locs ls S hH hO hS hb hL (nv_t hn))
theorem A_tabOut {x : Int} {dflt lo hi : Int} {offs : Array Int} {len : Nat} {tgt : Nat} (hd : decode M.2.1 pc = .ok (.tableswitch dflt lo hi offs, len)) (h1 : x < lo ∨ hi < x) (ht : (pc : Int) + dflt = (tgt : Int)) (k : aw G R M cu su tgt L st h Q) : aw G R M cu su pc L (av_I x :: st) h Q := by
  intro p e s m args below meth c H locs ls S hH hO hS hb hL hn
  have e1 := i32_tn (nv_h hn)
  exact lv_tableOut S.1 S.2.1 hd (by rw [e1]; exact h1) ht (k p e s m args below meth c H locs ls S hH hO hS hb hL (nv_t hn))
theorem A_nmI {x : Int} (k : ∀ y : Int, y = x → aw G R M cu su pc L (av_I y :: st) h Q) : aw G R M cu su pc L (av_I x :: st) h Q := k x rfl
theorem A_nmL {x : Int} (k : ∀ y : Int, y = x → aw G R M cu su pc L (av_L y :: st) h Q) : aw G R M cu su pc L (av_L x :: st) h Q := k x rfl
theorem A_rgI {x : Int} (k : i32 x → aw G R M cu su pc L (av_I x :: st) h Q) : aw G R M cu su pc L (av_I x :: st) h Q := by
  intro p e s m args below meth c H locs ls S hH hO hS hb hL hn
  exact (k (nv_h hn)) p e s m args below meth c H locs ls S hH hO hS hb hL hn
theorem A_rgL {x : Int} (k : i64 x → aw G R M cu su pc L (av_L x :: st) h Q) : aw G R M cu su pc L (av_L x :: st) h Q := by
  intro p e s m args below meth c H locs ls S hH hO hS hb hL hn
  exact (k (nv_h hn)) p e s m args below meth c H locs ls S hH hO hS hb hL hn
theorem A_locI (i : Nat) {x : Int} (hl : L[i]? = some (some (av_I x))) (k : i32 x → aw G R M cu su pc L st h Q) : aw G R M cu su pc L st h Q := by
  intro p e s m args below meth c H locs ls S hH hO hS hb hL hn
  exact (k (hL.2.2.2 i _ hl).2) p e s m args below meth c H locs ls S hH hO hS hb hL hn
theorem A_locL (i : Nat) {x : Int} (hl : L[i]? = some (some (av_L x))) (k : i64 x → aw G R M cu su pc L st h Q) : aw G R M cu su pc L st h Q := by
  intro p e s m args below meth c H locs ls S hH hO hS hb hL hn
  exact (k (hL.2.2.2 i _ hl).2) p e s m args below meth c H locs ls S hH hO hS hb hL hn
theorem A_heap (k : (∀ a k, i32 (h.2.1 a k)) → (∀ a k, i64 (h.2.2.1 a k)) → (∀ a, h.1.length ≤ a → ∀ k, h.2.1 a k = 0 ∧ h.2.2.1 a k = 0 ∧ h.2.2.2 a k = none) → aw G R M cu su pc L st h Q) : aw G R M cu su pc L st h Q := by
  intro p e s m args below meth c H locs ls S hH hO hS hb hL hn
  exact (k hH.2.2.2.1 hH.2.2.2.2 hH.2.2.1) p e s m args below meth c H locs ls S hH hO hS hb hL hn
theorem A_pc {pc' : Nat} (hp : pc = pc') (k : aw G R M cu su pc' L st h Q) : aw G R M cu su pc L st h Q := hp ▸ k
theorem A_iret {x : Int} (hd : decode M.2.1 pc = .ok (.ireturn, 1)) (hc : cu ≤ R.cells ∧ su ≤ R.slots) (hr : M.2.2.2 = some .int) (hq : Q (some (av_I x)) h) : aw G R M cu su pc L [av_I x] h Q := by
  intro p e s m args below meth c H locs ls S hH hO hS hb hL hn
  refine W.widen hc.1 hc.2 ?_
  exact W.iret S.1 S.2.1 (S.2.2.2.2.2.2.1.trans hr) (fun t ht hw => ⟨⟨some (av_I x), h, rfl, (fun v hv => by cases hv; exact nv_h hn), hq, by rw [ht]; exact hH, ro_end hO hS ht hw⟩, hS.F ht⟩) hS.2.2 hd S.2.2.2.2.2.2.2.1
theorem A_zret {x : Int} (hd : decode M.2.1 pc = .ok (.ireturn, 1)) (hc : cu ≤ R.cells ∧ su ≤ R.slots) (hr : M.2.2.2 = some .boolean) (h01 : x = 0 ∨ x = 1) (hq : Q (some (av_I x)) h) : aw G R M cu su pc L [av_I x] h Q := by
  intro p e s m args below meth c H locs ls S hH hO hS hb hL hn
  refine W.widen hc.1 hc.2 ?_
  exact W.zret S.1 S.2.1 (S.2.2.2.2.2.2.1.trans hr) (nar_b h01) (fun t ht hw => ⟨⟨some (av_I x), h, rfl, (fun v hv => by cases hv; exact nv_h hn), hq, by rw [ht]; exact hH, ro_end hO hS ht hw⟩, hS.F ht⟩) hS.2.2 hd S.2.2.2.2.2.2.2.1
theorem A_cret {x : Int} (hd : decode M.2.1 pc = .ok (.ireturn, 1)) (hc : cu ≤ R.cells ∧ su ≤ R.slots) (hr : M.2.2.2 = some .char) (h01 : 0 ≤ x ∧ x < 65536) (hq : Q (some (av_I x)) h) : aw G R M cu su pc L [av_I x] h Q := by
  intro p e s m args below meth c H locs ls S hH hO hS hb hL hn
  refine W.widen hc.1 hc.2 ?_
  exact W.zret S.1 S.2.1 (S.2.2.2.2.2.2.1.trans hr) (nar_c h01) (fun t ht hw => ⟨⟨some (av_I x), h, rfl, (fun v hv => by cases hv; exact nv_h hn), hq, by rw [ht]; exact hH, ro_end hO hS ht hw⟩, hS.F ht⟩) hS.2.2 hd S.2.2.2.2.2.2.2.1
theorem A_lret {x : Int} (hd : decode M.2.1 pc = .ok (.lreturn, 1)) (hc : cu ≤ R.cells ∧ su ≤ R.slots) (hr : M.2.2.2 = some .long) (hq : Q (some (av_L x)) h) : aw G R M cu su pc L [av_L x] h Q := by
  intro p e s m args below meth c H locs ls S hH hO hS hb hL hn
  refine W.widen hc.1 hc.2 ?_
  exact W.lret S.1 S.2.1 (S.2.2.2.2.2.2.1.trans hr) (fun t ht hw => ⟨⟨some (av_L x), h, rfl, (fun v hv => by cases hv; exact nv_h hn), hq, by rw [ht]; exact hH, ro_end hO hS ht hw⟩, hS.F ht⟩) hS.2.2 hd S.2.2.2.2.2.2.2.1
theorem A_dret {x : UInt64} (hd : decode M.2.1 pc = .ok (.dreturn, 1)) (hc : cu ≤ R.cells ∧ su ≤ R.slots) (hr : M.2.2.2 = some .double) (hq : Q (some (av_D x)) h) : aw G R M cu su pc L [av_D x] h Q := by
  intro p e s m args below meth c H locs ls S hH hO hS hb hL hn
  refine W.widen hc.1 hc.2 ?_
  exact W.dret S.1 S.2.1 (S.2.2.2.2.2.2.1.trans hr) (fun t ht hw => ⟨⟨some (av_D x), h, rfl, (fun v hv => by cases hv; exact nv_h hn), hq, by rw [ht]; exact hH, ro_end hO hS ht hw⟩, hS.F ht⟩) hS.2.2 hd S.2.2.2.2.2.2.2.1
theorem A_aret {r : Option Nat} (hd : decode M.2.1 pc = .ok (.areturn, 1)) (hc : cu ≤ R.cells ∧ su ≤ R.slots) {rt : FieldType} (hr : M.2.2.2 = some rt) (hrt : (∃ n, rt = .object n) ∨ ∃ t, rt = .array t) (hq : Q (some (av_R r)) h) : aw G R M cu su pc L [av_R r] h Q := by
  intro p e s m args below meth c H locs ls S hH hO hS hb hL hn
  refine W.widen hc.1 hc.2 ?_
  exact W.aret S.1 S.2.1 (S.2.2.2.2.2.2.1.trans hr) hrt (cv_ref r) (fun t ht hw => ⟨⟨some (av_R r), h, rfl, (fun v hv => by cases hv; exact nv_h hn), hq, by rw [ht]; exact hH, ro_end hO hS ht hw⟩, hS.F ht⟩) hS.2.2 hd S.2.2.2.2.2.2.2.1
theorem A_vret  (hd : decode M.2.1 pc = .ok (.return_, 1)) (hc : cu ≤ R.cells ∧ su ≤ R.slots) (hr : M.2.2.2 = none) (hq : Q none h) : aw G R M cu su pc L [] h Q := by
  intro p e s m args below meth c H locs ls S hH hO hS hb hL hn
  refine W.widen hc.1 hc.2 ?_
  exact W.vret S.1 S.2.1 (S.2.2.2.2.2.2.1.trans hr) (fun t ht hw => ⟨⟨none, h, rfl, (fun v hv => by cases hv), hq, by rw [ht]; exact hH, ro_end hO hS ht hw⟩, hS.F ht⟩) hS.2.2 hd S.2.2.2.2.2.2.2.1
end AWR
end
section
/-! ===== rows of the abstract machine that read and write the heap, make cells, call ===== -/
def fl_OK (own : String) (idx c k : Nat) (ty : FieldType) (fin : Bool) : Prop := ∃ q : vw_C, classes[c]? = some q ∧ k < q.2.2 ∧ Cond.fieldLink own idx (q.2.1 k).1 (q.2.1 k).2.1 (q.2.1 k).2.2.1 ∈ gw ∧ f_ty c k = ty ∧ (q.2.1 k).2.2.2 = fin
def cl_F (c : Nat) (q : vw_C) : Prop := (∀ w ∈ u_ws q.1 q.2.1 q.2.2, w ∈ gw) ∧ (∀ k, k < q.2.2 → parseFieldDescriptor (q.2.1 k).2.2.1 = some (f_ty c k)) ∧ (∀ a, a < q.2.2 → ∀ b, b < q.2.2 → a ≠ b → (q.2.1 a).2.1 ≠ (q.2.1 b).2.1) ∧ Cond.instantiable q.1 q.2.2 ∈ gw ∧ Cond.initialized q.1 ∈ gw ∧ ∀ k, k < q.2.2 → (q.2.1 k).1 = q.1
def tbl_OK : Prop := ∀ c q, classes[c]? = some q → cl_F c q
theorem hr_lt {G : cx_T} {h : ah_T} {H : Heap} (hH : hr_OK G h H) {a kd n : Nat} (hs : h.1[a]? = some (kd, n)) : a < h.1.length ∧ cx_b G + a < H.size := by
  have h1 := (List.getElem?_eq_some_iff.mp hs).1
  exact ⟨h1, by rw [hH.1]; omega⟩
theorem hr_upd {G : cx_T} {h h' : ah_T} {H H1 : Heap} (hH : hr_OK G h H) {a kd n : Nat} (hs : h.1[a]? = some (kd, n)) (hsh : h'.1 = h.1) (ho : ∀ x, x ≠ a → h'.2.1 x = h.2.1 x ∧ h'.2.2.1 x = h.2.2.1 x ∧ h'.2.2.2 x = h.2.2.2 x)
    (hr1 : ∀ k, i32 (h'.2.1 a k)) (hr2 : ∀ k, i64 (h'.2.2.1 a k)) (z : H1.size = H.size) (oq : ∀ q : Nat, q ≠ cx_b G + a → H1[q]? = H[q]?) (hc : cell_R G kd n (h'.2.1 a) (h'.2.2.1 a) (h'.2.2.2 a) (cx_b G + a) H1) : hr_OK G h' H1 := by
  obtain ⟨h1, h2, h3, h4, h5⟩ := hH
  have hlt := (List.getElem?_eq_some_iff.mp hs).1
  refine ⟨by rw [z, h1, hsh], fun x kx nx hx => ?_, fun x hx k => ?_, fun x k => ?_, fun x k => ?_⟩
  · rw [hsh] at hx
    by_cases hxa : x = a
    · subst hxa
      rw [hs] at hx
      cases hx
      exact hc
    · obtain ⟨o1, o2, o3⟩ := ho x hxa
      rw [o1, o2, o3]
      exact (h2 x kx nx hx).kept (oq _ (by omega))
  · rw [hsh] at hx
    obtain ⟨o1, o2, o3⟩ := ho x (by omega)
    rw [o1, o2, o3]
    exact h3 x hx k
  · by_cases hxa : x = a
    · subst hxa; exact hr1 k
    · rw [(ho x hxa).1]; exact h4 x k
  · by_cases hxa : x = a
    · subst hxa; exact hr2 k
    · rw [(ho x hxa).2.1]; exact h5 x k
theorem up1_i32 {f : Nat → Int} {k : Nat} {z : Int} (hf : ∀ j, i32 (f j)) (hz : i32 z) : ∀ j, i32 (up1 f k z j) := by
  intro j
  unfold up1
  split
  · exact hz
  · exact hf j
theorem up1_i64 {f : Nat → Int} {k : Nat} {z : Int} (hf : ∀ j, i64 (f j)) (hz : i64 z) : ∀ j, i64 (up1 f k z j) := by
  intro j
  unfold up1
  split
  · exact hz
  · exact hf j
theorem fvi_up {b : Nat} {ty : Nat → FieldType} {fi fl : Nat → Int} {fr : Nat → Option Nat} {k : Nat} {z : Int} (hk : ty k = .int ∨ ty k = .boolean) (j : Nat) : fv_V b (ty j) (up1 fi k z) fl fr j = updV (fun j => fv_V b (ty j) fi fl fr j) k (.int (Int32.ofInt z)) j := by
  by_cases hj : j = k
  · subst hj
    rcases hk with hk | hk <;> simp [updV, hk, fv_V, up1]
  · simp only [updV, hj, if_false]
    cases hty : ty j <;> simp [fv_V, up1, hj]
theorem fvl_up {b : Nat} {ty : Nat → FieldType} {fi fl : Nat → Int} {fr : Nat → Option Nat} {k : Nat} {z : Int} (hk : ty k = .long) (j : Nat) : fv_V b (ty j) fi (up1 fl k z) fr j = updV (fun j => fv_V b (ty j) fi fl fr j) k (.long (Int64.ofInt z)) j := by
  by_cases hj : j = k
  · subst hj
    simp [updV, hk, fv_V, up1]
  · simp only [updV, hj, if_false]
    cases hty : ty j <;> simp [fv_V, up1, hj]
theorem fvr_up {b : Nat} {ty : Nat → FieldType} {fi fl : Nat → Int} {fr : Nat → Option Nat} {k : Nat} {z : Option Nat} (hk : (∃ n, ty k = .object n) ∨ ∃ n, ty k = .array n) (j : Nat) : fv_V b (ty j) fi fl (up1 fr k z) j = updV (fun j => fv_V b (ty j) fi fl fr j) k (va_rf (z.map (fun a => b + a))) j := by
  by_cases hj : j = k
  · subst hj
    rcases hk with ⟨n, hk⟩ | ⟨n, hk⟩ <;> simp [updV, hk, fv_V, up1]
  · simp only [updV, hj, if_false]
    cases hty : ty j <;> simp [fv_V, up1, hj]
theorem fit_r {ty : FieldType} (hk : (∃ n, ty = .object n) ∨ ∃ n, ty = .array n) (b : Nat) (z : Option Nat) : narrow ty (va_rf (z.map (fun a => b + a))) = va_rf (z.map (fun a => b + a)) ∧ fits ty (va_rf (z.map (fun a => b + a))) = true := by
  rcases hk with ⟨n, rfl⟩ | ⟨n, rfl⟩ <;> cases z <;> exact ⟨rfl, rfl⟩
theorem fit_b {z : Int} (h : z = 0 ∨ z = 1) : fits .boolean (.int (Int32.ofInt z)) = true := by
  rcases h with rfl | rfl <;> rfl
/-- n cells of a kind -/
theorem c_arr_K {G : cx_T} {U : State} (h : kf_OK G U) : ∀ (k : Nat) (q : ClassId × FieldType), (c_arr G)[k]? = some q → ArrOfT U q.1 q.2 ∧ va_RA U q.1 q.2 := h.1.2
section AWH
variable {G : cx_T} {R : Room} {M : mr_T} {cu su pc : Nat} {L : List (Option av_T)} {st : List av_T} {h : ah_T} {Q : Option av_T → ah_T → Prop}
theorem get_W {own : String} {idx c k : Nat} {ty : FieldType} {fin : Bool} {a n : Nat} (hT : tbl_OK) (hd : decode M.2.1 pc = .ok (.getfield idx, 3)) (hf : fl_OK M.1.cls idx c k ty fin) (hs : h.1[a]? = some (c + 4, n)) (v : av_T) (hv : cv G v = fv_V (cx_b G) ty (h.2.1 a) (h.2.2.1 a) (h.2.2.2 a) k)
    (hnv : hr_OK G h (#[] : Heap) ∨ ((∀ a k, i32 (h.2.1 a k)) → (∀ a k, i64 (h.2.2.1 a k)) → nv v)) (kk : aw G R M cu su (pc + 3) L (v :: st) h Q) : aw G R M cu su pc L (av_R (some a) :: st) h Q := by
  intro p e s m args below meth cd H locs ls S hH hO hS hb hL hn
  obtain ⟨r, h1, h2, ⟨cell, q1, q2, q3, q4⟩, h5⟩ := hH.2.1 a _ _ hs
  obtain ⟨q, g1, g2, g3, g4, g5⟩ := hf
  have hrq : r = q := Option.some.inj (h1.symm.trans g1)
  subst hrq
  obtain ⟨k1, k2, k3, k4, k5, k6⟩ := hT c r g1
  obtain ⟨hS2, hfc, kC, hkC, hkind⟩ := S.2.2.2.2.2.1.1.1 c _ g1
  obtain ⟨cf, kf, fi, f, hi, hsl⟩ := hS2 k g2
  have hnv' : nv v := by
    rcases hnv with z | z
    · exact absurd z.1 (by have := (List.getElem?_eq_some_iff.mp hs).1; simp; omega)
    · exact z hH.2.2.2.1 hH.2.2.2.2
  refine W.getf S.1 S.2.1 S.2.2.2.1 (S.2.2.2.2.1 _ g3) hi (u_facts hfc hkC (u_lays S.2.2.2.2.1 k1 g2) hi).1 q1 (by rw [q3]; exact fun h => by cases h) (v := cv G v) ?_ rfl rfl hd (kk p e s m args below meth cd H locs ls S hH hO hS hb hL (nv_c hnv' (nv_t hn)))
  rw [hsl, q4 k (by rw [h2]; exact g2), hv]
  show some (fv_V _ (f_ty c k) _ _ _ k) = _
  rw [g4]
theorem A_getI {idx c k : Nat} {fin : Bool} {a n : Nat} (hT : tbl_OK) (hd : decode M.2.1 pc = .ok (.getfield idx, 3)) (hf : fl_OK M.1.cls idx c k .int fin) (hs : h.1[a]? = some (c + 4, n)) (kk : aw G R M cu su (pc + 3) L (av_I (h.2.1 a k) :: st) h Q) : aw G R M cu su pc L (av_R (some a) :: st) h Q :=
  get_W (own := "") hT hd hf hs (av_I (h.2.1 a k)) rfl (Or.inr fun z _ => z a k) kk
theorem A_getZ {idx c k : Nat} {fin : Bool} {a n : Nat} (hT : tbl_OK) (hd : decode M.2.1 pc = .ok (.getfield idx, 3)) (hf : fl_OK M.1.cls idx c k .boolean fin) (hs : h.1[a]? = some (c + 4, n)) (kk : (h.2.1 a k = 0 ∨ h.2.1 a k = 1) → aw G R M cu su (pc + 3) L (av_I (h.2.1 a k) :: st) h Q) : aw G R M cu su pc L (av_R (some a) :: st) h Q := by
  intro p e s m args below meth cd H locs ls S hH hO hS hb hL hn
  obtain ⟨r, h1, h2, h3, h4⟩ := hH.2.1 a _ _ hs
  obtain ⟨q, g1, g2, g3, g4, g5⟩ := id hf
  exact get_W (own := "") hT hd hf hs (av_I (h.2.1 a k)) rfl (Or.inr fun z _ => z a k) (kk (h4 k g4)) p e s m args below meth cd H locs ls S hH hO hS hb hL hn
theorem A_getL {idx c k : Nat} {fin : Bool} {a n : Nat} (hT : tbl_OK) (hd : decode M.2.1 pc = .ok (.getfield idx, 3)) (hf : fl_OK M.1.cls idx c k .long fin) (hs : h.1[a]? = some (c + 4, n)) (kk : aw G R M cu su (pc + 3) L (av_L (h.2.2.1 a k) :: st) h Q) : aw G R M cu su pc L (av_R (some a) :: st) h Q :=
  get_W (own := "") hT hd hf hs (av_L (h.2.2.1 a k)) rfl (Or.inr fun _ z => z a k) kk
theorem A_getA {idx c k : Nat} {t : FieldType} {fin : Bool} {a n : Nat} (hT : tbl_OK) (hd : decode M.2.1 pc = .ok (.getfield idx, 3)) (hf : fl_OK M.1.cls idx c k (.array t) fin) (hs : h.1[a]? = some (c + 4, n)) (kk : aw G R M cu su (pc + 3) L (av_R (h.2.2.2 a k) :: st) h Q) : aw G R M cu su pc L (av_R (some a) :: st) h Q :=
  get_W (own := "") hT hd hf hs (av_R (h.2.2.2 a k)) rfl (Or.inr fun _ _ => trivial) kk
theorem A_getO {idx c k : Nat} {t : String} {fin : Bool} {a n : Nat} (hT : tbl_OK) (hd : decode M.2.1 pc = .ok (.getfield idx, 3)) (hf : fl_OK M.1.cls idx c k (.object t) fin) (hs : h.1[a]? = some (c + 4, n)) (kk : aw G R M cu su (pc + 3) L (av_R (h.2.2.2 a k) :: st) h Q) : aw G R M cu su pc L (av_R (some a) :: st) h Q :=
  get_W (own := "") hT hd hf hs (av_R (h.2.2.2 a k)) rfl (Or.inr fun _ _ => trivial) kk
theorem put_W {idx c k : Nat} {ty : FieldType} {fin : Bool} {a n : Nat} {w : av_T} {h' : ah_T} (hT : tbl_OK) (hd : decode M.2.1 pc = .ok (.putfield idx, 3)) (hf : fl_OK M.1.cls idx c k ty fin) (hs : h.1[a]? = some (c + 4, n)) (hfin : fin = false ∨ (M.1.name = "<init>" ∧ ∀ q, classes[c]? = some q → q.1 = M.1.cls))
    (hn0 : nv w → narrow ty (cv G w) = cv G w ∧ fits ty (cv G w) = true) (hsh : h'.1 = h.1) (ho : ∀ x, x ≠ a → h'.2.1 x = h.2.1 x ∧ h'.2.2.1 x = h.2.2.1 x ∧ h'.2.2.2 x = h.2.2.2 x)
    (hr1 : nv w → (∀ k, i32 (h.2.1 a k)) → ∀ k, i32 (h'.2.1 a k)) (hr2 : nv w → (∀ k, i64 (h.2.2.1 a k)) → ∀ k, i64 (h'.2.2.1 a k))
    (hV : f_ty c k = ty → ∀ j, updV (fun j => fv_V (cx_b G) (f_ty c j) (h.2.1 a) (h.2.2.1 a) (h.2.2.2 a) j) k (cv G w) j = fv_V (cx_b G) (f_ty c j) (h'.2.1 a) (h'.2.2.1 a) (h'.2.2.2 a) j) (hb0 : f_ty c k = ty → (∀ j, f_ty c j = .boolean → h.2.1 a j = 0 ∨ h.2.1 a j = 1) → ∀ j, f_ty c j = .boolean → h'.2.1 a j = 0 ∨ h'.2.1 a j = 1)
    (kk : aw G R M cu su (pc + 3) L st h' Q) : aw G R M cu su pc L (w :: av_R (some a) :: st) h Q := by
  intro p e s m args below meth cd H locs ls S hH hO hS hb hL hn
  obtain ⟨r, h1, h2, ⟨cell, q1, q2, q3, q4⟩, h5⟩ := id (hH.2.1 a _ _ hs)
  obtain ⟨q, g1, g2, g3, g4, g5⟩ := hf
  have hrq : r = q := Option.some.inj (h1.symm.trans g1)
  subst hrq
  obtain ⟨k1, k2, k3, k4, k5, k6⟩ := hT c r g1
  have hKn := S.2.2.2.2.2.1.1.1 c _ g1
  obtain ⟨hS2, hfc, kC, hkC, hkind⟩ := id hKn
  obtain ⟨cf, kf, fi, f, hi, hsl⟩ := hS2 k g2
  have hst := (u_facts hfc hkC (u_lays S.2.2.2.2.1 k1 g2) hi).1
  have hdk : parseFieldDescriptor (r.2.1 k).2.2.1 = some ty := by rw [k2 k g2, g4]
  obtain ⟨n1, n2⟩ := hn0 (nv_h hn)
  have hap := va_apart (own := M.1.cls) (T := r.2.1) S.2.2.2.2.1 k1 (f_ty c) k2 k3 S.2.2.2.2.2.1.1 g1
  have fin2 : ∀ H1 : Heap, H1[cx_b G + a]? = some (cell.setSlot f.slot (cv G w)) → H1.size = H.size → (∀ q : Nat, q ≠ cx_b G + a → H1[q]? = H[q]?) → W p (cx_l G) e R s m args below meth cd H1 (locs ++ [⟨cx_b G + a, f.slot⟩]) cu su (MQ below (qc_Q G Q) args s R.cells R.slots (fr_A G)) (F0 m (pc + 3) ls (st.map (cv G))) := by
    intro H1 e1 e2 e3
    rw [hsl] at e1 ⊢
    refine kk p e s m args below meth cd H1 _ ls S ?_ hO (hS.put e2 e3 (Nat.le_add_right _ _)) hb hL (nv_t (nv_t hn))
    refine hr_upd hH hs hsh ho (hr1 (nv_h hn) (hH.2.2.2.1 a)) (hr2 (nv_h hn) (hH.2.2.2.2 a)) e2 e3 ⟨r, g1, h2, ?_, hb0 g4 h5⟩
    refine t_OB.to (V := updV (fun j => fv_V (cx_b G) (f_ty c j) (h.2.1 a) (h.2.2.1 a) (h.2.2.2 a) j) k (cv G w)) ⟨_, e1, q2, q3, ?_⟩ (fun j _ => hV g4 j)
    rw [h2] at q4 ⊢
    exact t_set q4 hap g2 (cv G w)
  rcases hfin with hfin | ⟨hin, hcl⟩
  · have hlay := S.2.2.2.2.1 _ (k1 _ (u_in_lay g2))
    unfold u_lay at hlay
    rw [if_neg (by rw [g5, hfin]; decide)] at hlay
    have h6 := u_store hfc hkC hkind hlay hi hdk n1 n2
    exact W.putK S.1 S.2.1 (f := f) ⟨S.2.2.2.1, S.2.2.2.2.1 _ g3, ⟨_, _, _, hi⟩, hst⟩ (by rw [q2]; exact h6) q1 q3 (by rw [hsl]; exact k2_hasslot (q4 k (by rw [h2]; exact g2))) rfl rfl hd fin2
  · cases fin with
    | false =>
      have hlay := S.2.2.2.2.1 _ (k1 _ (u_in_lay g2))
      unfold u_lay at hlay
      rw [if_neg (by rw [g5]; decide)] at hlay
      have h6 := u_store hfc hkC hkind hlay hi hdk n1 n2
      exact W.putK S.1 S.2.1 (f := f) ⟨S.2.2.2.1, S.2.2.2.2.1 _ g3, ⟨_, _, _, hi⟩, hst⟩ (by rw [q2]; exact h6) q1 q3 (by rw [hsl]; exact k2_hasslot (q4 k (by rw [h2]; exact g2))) rfl rfl hd fin2
    | true =>
      have hlay := S.2.2.2.2.1 _ (k1 _ (u_in_lay g2))
      unfold u_lay at hlay
      rw [if_pos g5] at hlay
      have hcf : m.cls = cf := by
        obtain ⟨_, _, c', _, _, _, -, -, hf', -, -, -, hown2, -⟩ := Cond.laysFinal_spec hlay
        have e1 : c' = cf := by have := hi.symm.trans hf'; simp at this; exact this.1.symm
        rw [k6 k g2, hcl r g1] at hown2
        rw [← e1]; exact Option.some.inj (S.2.2.2.1.symm.trans hown2)
      have h6 := u_fits hfc hkC hkind (Or.inr hlay) hi hdk n1 n2
      exact W.putFinK S.1 S.2.1 S.2.2.2.1 (S.2.2.2.2.1 _ g3) hi hst hcf (S.2.2.2.2.2.2.2.2 hin) (by rw [q2]; exact h6) q1 q3 (by rw [hsl]; exact k2_hasslot (q4 k (by rw [h2]; exact g2))) rfl rfl hd fin2
abbrev fin_OK (M : mr_T) (c : Nat) (fin : Bool) : Prop := fin = false ∨ (M.1.name = "<init>" ∧ ∀ q, classes[c]? = some q → q.1 = M.1.cls)
theorem A_putI {idx c k : Nat} {fin : Bool} {a n : Nat} {z : Int} (hT : tbl_OK) (hd : decode M.2.1 pc = .ok (.putfield idx, 3)) (hf : fl_OK M.1.cls idx c k .int fin) (hs : h.1[a]? = some (c + 4, n)) (hfin : fin_OK M c fin) (kk : aw G R M cu su (pc + 3) L st (st_i h a k z) Q) : aw G R M cu su pc L (av_I z :: av_R (some a) :: st) h Q := by
  refine put_W (h' := st_i h a k z) hT hd hf hs hfin (fun _ => ⟨rfl, rfl⟩) rfl (fun x hx => ⟨up2_n hx, rfl, rfl⟩) (fun hz hr => ?_) (fun _ hr => hr) (fun hty j => ?_) (fun hty hb0 j hj => ?_) kk
  · show ∀ k', i32 (up2 h.2.1 a k z a k')
    rw [up2_s]; exact up1_i32 hr hz
  · show _ = fv_V _ _ (up2 h.2.1 a k z a) _ _ j
    rw [up2_s]; exact (fvi_up (Or.inl hty) j).symm
  · show up2 h.2.1 a k z a j = 0 ∨ up2 h.2.1 a k z a j = 1
    rw [up2_s]
    unfold up1
    by_cases hjk : j = k
    · subst hjk; rw [hty] at hj; cases hj
    · rw [if_neg hjk]; exact hb0 j hj
theorem A_putZ {idx c k : Nat} {fin : Bool} {a n : Nat} {z : Int} (hT : tbl_OK) (hd : decode M.2.1 pc = .ok (.putfield idx, 3)) (hf : fl_OK M.1.cls idx c k .boolean fin) (hs : h.1[a]? = some (c + 4, n)) (hfin : fin_OK M c fin) (h01 : z = 0 ∨ z = 1) (kk : aw G R M cu su (pc + 3) L st (st_i h a k z) Q) : aw G R M cu su pc L (av_I z :: av_R (some a) :: st) h Q := by
  refine put_W (h' := st_i h a k z) hT hd hf hs hfin (fun _ => ⟨nar_b h01, fit_b h01⟩) rfl (fun x hx => ⟨up2_n hx, rfl, rfl⟩) (fun hz hr => ?_) (fun _ hr => hr) (fun hty j => ?_) (fun hty hb0 j hj => ?_) kk
  · show ∀ k', i32 (up2 h.2.1 a k z a k')
    rw [up2_s]; exact up1_i32 hr hz
  · show _ = fv_V _ _ (up2 h.2.1 a k z a) _ _ j
    rw [up2_s]; exact (fvi_up (Or.inr hty) j).symm
  · show up2 h.2.1 a k z a j = 0 ∨ up2 h.2.1 a k z a j = 1
    rw [up2_s]
    unfold up1
    by_cases hjk : j = k
    · rw [if_pos hjk]; exact h01
    · rw [if_neg hjk]; exact hb0 j hj
theorem A_putL {idx c k : Nat} {fin : Bool} {a n : Nat} {z : Int} (hT : tbl_OK) (hd : decode M.2.1 pc = .ok (.putfield idx, 3)) (hf : fl_OK M.1.cls idx c k .long fin) (hs : h.1[a]? = some (c + 4, n)) (hfin : fin_OK M c fin) (kk : aw G R M cu su (pc + 3) L st (st_l h a k z) Q) : aw G R M cu su pc L (av_L z :: av_R (some a) :: st) h Q := by
  refine put_W (h' := st_l h a k z) hT hd hf hs hfin (fun _ => ⟨rfl, rfl⟩) rfl (fun x hx => ⟨rfl, up2_n hx, rfl⟩) (fun _ hr => hr) (fun hz hr => ?_) (fun hty j => ?_) (fun hty hb0 => hb0) kk
  · show ∀ k', i64 (up2 h.2.2.1 a k z a k')
    rw [up2_s]; exact up1_i64 hr hz
  · show _ = fv_V _ _ _ (up2 h.2.2.1 a k z a) _ j
    rw [up2_s]; exact (fvl_up hty j).symm
theorem A_putR {idx c k : Nat} {ty : FieldType} {fin : Bool} {a n : Nat} {z : Option Nat} (hT : tbl_OK) (hd : decode M.2.1 pc = .ok (.putfield idx, 3)) (hf : fl_OK M.1.cls idx c k ty fin) (hty : (∃ n, ty = .object n) ∨ ∃ n, ty = .array n) (hs : h.1[a]? = some (c + 4, n)) (hfin : fin_OK M c fin) (kk : aw G R M cu su (pc + 3) L st (st_r h a k z) Q) : aw G R M cu su pc L (av_R z :: av_R (some a) :: st) h Q := by
  refine put_W (h' := st_r h a k z) hT hd hf hs hfin (fun _ => fit_r hty _ z) rfl (fun x hx => ⟨rfl, rfl, up2_n hx⟩) (fun _ hr => hr) (fun _ hr => hr) (fun hty2 j => ?_) (fun hty hb0 => hb0) kk
  show _ = fv_V _ _ _ _ (up2 h.2.2.2 a k z a) j
  rw [up2_s]; exact (fvr_up (by rw [hty2]; exact hty) j).symm
/-! arrays -/
theorem ix_in {n : Nat} {i : Int} (hi : i32 i) (h0 : 0 ≤ i) (h1 : i < n) (cI : ClassId) (f : Nat → Value) : ¬ (Int32.ofInt i < 0 ∨ (arrV cI n f).slots.size ≤ (Int32.ofInt i).toNatClampNeg) := by
  rw [arrV_size]
  exact i32_in hi h0 h1
theorem ix_rd {n : Nat} {i : Int} (hi : i32 i) (h0 : 0 ≤ i) (h1 : i < n) (cI : ClassId) (f : Nat → Value) : (arrV cI n f).slots[(Int32.ofInt i).toNatClampNeg]? = some (f i.toNat) := by
  rw [i32_cl hi h0, arrV_read _ _ (by omega)]
theorem A_ialoadN {a n : Nat} {i : Int} (hd : decode M.2.1 pc = .ok (.iaload, 1)) (hs : h.1[a]? = some (0, n)) (h0 : 0 ≤ i) (h1 : i < n) (kk : aw G R M cu su (pc + 1) L (av_I (h.2.1 a i.toNat) :: st) h Q) : aw G R M cu su pc L (av_I i :: av_R (some a) :: st) h Q := by
  intro p e s m args below meth cd H locs ls S hH hO hS hb hL hn
  exact W.iald (v := .int (Int32.ofInt (h.2.1 a i.toNat))) S.1 S.2.1 (hH.2.1 a _ _ hs) ((c_arr_K S.2.2.2.2.2.1 0 _ rfl).1 n _) (fun q => by cases q) (ix_in (nv_h hn) h0 h1 _ _) (ix_rd (nv_h hn) h0 h1 _ _) rfl rfl hd (kk p e s m args below meth cd H locs ls S hH hO hS hb hL (nv_c (hH.2.2.2.1 _ _) (nv_t (nv_t hn))))
theorem A_laloadN {a n : Nat} {i : Int} (hd : decode M.2.1 pc = .ok (.laload, 1)) (hs : h.1[a]? = some (1, n)) (h0 : 0 ≤ i) (h1 : i < n) (kk : aw G R M cu su (pc + 1) L (av_L (h.2.2.1 a i.toNat) :: st) h Q) : aw G R M cu su pc L (av_I i :: av_R (some a) :: st) h Q := by
  intro p e s m args below meth cd H locs ls S hH hO hS hb hL hn
  exact W.lald (v := .long (Int64.ofInt (h.2.2.1 a i.toNat))) S.1 S.2.1 (hH.2.1 a _ _ hs) ((c_arr_K S.2.2.2.2.2.1 1 _ rfl).1 n _) (fun q => by cases q) (ix_in (nv_h hn) h0 h1 _ _) (ix_rd (nv_h hn) h0 h1 _ _) rfl rfl hd (kk p e s m args below meth cd H locs ls S hH hO hS hb hL (nv_c (hH.2.2.2.2 _ _) (nv_t (nv_t hn))))
theorem A_zaloadN {a n : Nat} {i : Int} (hd : decode M.2.1 pc = .ok (.baload, 1)) (hs : h.1[a]? = some (2, n)) (h0 : 0 ≤ i) (h1 : i < n) (kk : (h.2.1 a i.toNat = 0 ∨ h.2.1 a i.toNat = 1) → aw G R M cu su (pc + 1) L (av_I (h.2.1 a i.toNat) :: st) h Q) : aw G R M cu su pc L (av_I i :: av_R (some a) :: st) h Q := by
  intro p e s m args below meth cd H locs ls S hH hO hS hb hL hn
  exact W.zald (v := .int (Int32.ofInt (h.2.1 a i.toNat))) S.1 S.2.1 (hH.2.1 a _ _ hs).1 ((c_arr_K S.2.2.2.2.2.1 2 _ rfl).1 n _) (fun q => by cases q) (ix_in (nv_h hn) h0 h1 _ _) (ix_rd (nv_h hn) h0 h1 _ _) rfl rfl hd (kk ((hH.2.1 a _ _ hs).2 _) p e s m args below meth cd H locs ls S hH hO hS hb hL (nv_c (hH.2.2.2.1 _ _) (nv_t (nv_t hn))))
theorem A_aaloadN {a n : Nat} {i : Int} (hd : decode M.2.1 pc = .ok (.aaload, 1)) (hs : h.1[a]? = some (3, n)) (h0 : 0 ≤ i) (h1 : i < n) (kk : aw G R M cu su (pc + 1) L (av_R (h.2.2.2 a i.toNat) :: st) h Q) : aw G R M cu su pc L (av_I i :: av_R (some a) :: st) h Q := by
  intro p e s m args below meth cd H locs ls S hH hO hS hb hL hn
  exact W.aald (v := va_rf ((h.2.2.2 a i.toNat).map (fun a => cx_b G + a))) (ty := .object RX10) S.1 S.2.1 (hH.2.1 a _ _ hs) ((c_arr_K S.2.2.2.2.2.1 3 _ rfl).1 n _) rfl (fun q => by cases q) (ix_in (nv_h hn) h0 h1 _ _) (ix_rd (nv_h hn) h0 h1 _ _) rfl rfl hd (kk p e s m args below meth cd H locs ls S hH hO hS hb hL (nv_c trivial (nv_t (nv_t hn))))
theorem A_iastoreN {a n : Nat} {i z : Int} (hd : decode M.2.1 pc = .ok (.iastore, 1)) (hs : h.1[a]? = some (0, n)) (h0 : 0 ≤ i) (h1 : i < n) (kk : aw G R M cu su (pc + 1) L st (st_i h a i.toNat z) Q) : aw G R M cu su pc L (av_I z :: av_I i :: av_R (some a) :: st) h Q := by
  intro p e s m args below meth cd H locs ls S hH hO hS hb hL hn
  refine W.iast S.1 S.2.1 (hH.2.1 a _ _ hs) ((c_arr_K S.2.2.2.2.2.1 0 _ rfl).1 n _) (fun q => by cases q) (ix_in (nv_h (nv_t hn)) h0 h1 _ _) rfl rfl hd fun H1 e1 e2 e3 => ?_
  refine kk p e s m args below meth cd H1 _ ls S ?_ hO (hS.put e2 e3 (Nat.le_add_right _ _)) hb hL (nv_t (nv_t (nv_t hn)))
  refine hr_upd hH hs rfl (fun x hx => ⟨up2_n hx, rfl, rfl⟩) ?_ (hH.2.2.2.2 a) e2 e3 ?_
  · show ∀ k', i32 (up2 h.2.1 a i.toNat z a k')
    rw [up2_s]; exact up1_i32 (hH.2.2.2.1 a) (nv_h hn)
  · show H1[_]? = some (arrV _ _ fun j => .int (Int32.ofInt (up2 h.2.1 a i.toNat z a j)))
    rw [e1, arrV_store, up2_s, i32_cl (nv_h (nv_t hn)) h0]
    congr 2
    funext j
    by_cases hj : j = i.toNat <;> simp [updV, up1, hj]
theorem A_lastoreN {a n : Nat} {i z : Int} (hd : decode M.2.1 pc = .ok (.lastore, 1)) (hs : h.1[a]? = some (1, n)) (h0 : 0 ≤ i) (h1 : i < n) (kk : aw G R M cu su (pc + 1) L st (st_l h a i.toNat z) Q) : aw G R M cu su pc L (av_L z :: av_I i :: av_R (some a) :: st) h Q := by
  intro p e s m args below meth cd H locs ls S hH hO hS hb hL hn
  refine W.last S.1 S.2.1 (hH.2.1 a _ _ hs) ((c_arr_K S.2.2.2.2.2.1 1 _ rfl).1 n _) (fun q => by cases q) (ix_in (nv_h (nv_t hn)) h0 h1 _ _) rfl rfl hd fun H1 e1 e2 e3 => ?_
  refine kk p e s m args below meth cd H1 _ ls S ?_ hO (hS.put e2 e3 (Nat.le_add_right _ _)) hb hL (nv_t (nv_t (nv_t hn)))
  refine hr_upd hH hs rfl (fun x hx => ⟨rfl, up2_n hx, rfl⟩) (hH.2.2.2.1 a) ?_ e2 e3 ?_
  · show ∀ k', i64 (up2 h.2.2.1 a i.toNat z a k')
    rw [up2_s]; exact up1_i64 (hH.2.2.2.2 a) (nv_h hn)
  · show H1[_]? = some (arrV _ _ fun j => .long (Int64.ofInt (up2 h.2.2.1 a i.toNat z a j)))
    rw [e1, arrV_store, up2_s, i32_cl (nv_h (nv_t hn)) h0]
    congr 2
    funext j
    by_cases hj : j = i.toNat <;> simp [updV, up1, hj]
theorem A_zastoreN {a n : Nat} {i z : Int} (hd : decode M.2.1 pc = .ok (.bastore, 1)) (hs : h.1[a]? = some (2, n)) (h0 : 0 ≤ i) (h1 : i < n) (h01 : z = 0 ∨ z = 1) (kk : aw G R M cu su (pc + 1) L st (st_i h a i.toNat z) Q) : aw G R M cu su pc L (av_I z :: av_I i :: av_R (some a) :: st) h Q := by
  intro p e s m args below meth cd H locs ls S hH hO hS hb hL hn
  refine W.zast S.1 S.2.1 (hH.2.1 a _ _ hs).1 ((c_arr_K S.2.2.2.2.2.1 2 _ rfl).1 n _) (fun q => by cases q) (ix_in (nv_h (nv_t hn)) h0 h1 _ _) rfl rfl hd fun H1 e1 e2 e3 => ?_
  refine kk p e s m args below meth cd H1 _ ls S ?_ hO (hS.put e2 e3 (Nat.le_add_right _ _)) hb hL (nv_t (nv_t (nv_t hn)))
  refine hr_upd hH hs rfl (fun x hx => ⟨up2_n hx, rfl, rfl⟩) ?_ (hH.2.2.2.2 a) e2 e3 ⟨?_, ?_⟩
  · show ∀ k', i32 (up2 h.2.1 a i.toNat z a k')
    rw [up2_s]; exact up1_i32 (hH.2.2.2.1 a) (nv_h hn)
  · show H1[_]? = some (arrV _ _ fun j => .int (Int32.ofInt (up2 h.2.1 a i.toNat z a j)))
    rw [e1, arrV_store, up2_s, i32_cl (nv_h (nv_t hn)) h0, nar_b h01]
    congr 2
    funext j
    by_cases hj : j = i.toNat <;> simp [updV, up1, hj]
  · show ∀ j, up2 h.2.1 a i.toNat z a j = 0 ∨ up2 h.2.1 a i.toNat z a j = 1
    intro j
    rw [up2_s]
    unfold up1
    split
    · exact h01
    · exact (hH.2.1 a _ _ hs).2 j
theorem A_aastoreN {a n v nn : Nat} {i : Int} (hd : decode M.2.1 pc = .ok (.aastore, 1)) (hs : h.1[a]? = some (3, n)) (hs2 : h.1[v]? = some (10 + 4, nn)) (h0 : 0 ≤ i) (h1 : i < n) (kk : aw G R M cu su (pc + 1) L st (st_r h a i.toNat (some v)) Q) : aw G R M cu su pc L (av_R (some v) :: av_I i :: av_R (some a) :: st) h Q := by
  intro p e s m args below meth cd H locs ls S hH hO hS hb hL hn
  obtain ⟨r, r1, r2, ⟨cellV, g1, g2, g3, -⟩, -⟩ := hH.2.1 v _ _ hs2
  have hr : r = (RX10, TX10, 17) := Option.some.inj (r1.symm.trans rfl)
  subst hr
  have hcls := (S.2.2.2.2.2.1.1.1 10 _ rfl).2
  obtain ⟨kA, comp, k1, k2, k3, -⟩ := (c_arr_K S.2.2.2.2.2.1 3 _ rfl).2
  have hcomp : comp = cx_dC G 10 := Option.some.inj (k3.symm.trans hcls.1)
  subst hcomp
  obtain ⟨kC, hkC, -⟩ := hcls.2
  have hin := i32_in (nv_h (nv_t hn)) h0 h1
  refine W.aast S.1 S.2.1 (hH.2.1 a _ _ hs) (fun q h => by cases h) (fun h => by cases h) k1 k2 rfl hkC ⟨fun q => hin (Or.inl q), by rw [arrV_size]; exact Nat.not_le.mp fun q => hin (Or.inr q)⟩ g1 (fun q h => by rw [g3] at h; cases h) (by rw [g2]; exact hkC) (by rw [g2]; exact va_assign hcls) rfl rfl hd fun H1 e1 e2 e3 => ?_
  refine kk p e s m args below meth cd H1 _ ls S ?_ hO (hS.put e2 e3 (Nat.le_add_right _ _)) hb hL (nv_t (nv_t (nv_t hn)))
  refine hr_upd hH hs rfl (fun x hx => ⟨rfl, rfl, up2_n hx⟩) (hH.2.2.2.1 a) (hH.2.2.2.2 a) e2 e3 ?_
  show H1[_]? = some (arrV _ _ fun j => va_rf ((up2 h.2.2.2 a i.toNat (some v) a j).map _))
  rw [e1, arrV_store, up2_s, i32_cl (nv_h (nv_t hn)) h0]
  congr 2
  funext j
  by_cases hj : j = i.toNat <;> simp [updV, up1, hj, va_rf]
theorem A_alenN {a kd n : Nat} (hd : decode M.2.1 pc = .ok (.arraylength, 1)) (hs : h.1[a]? = some (kd, n)) (hkd : kd < 4) (hnn : n < 2147483648) (kk : aw G R M cu su (pc + 1) L (av_I (n : Int) :: st) h Q) : aw G R M cu su pc L (av_R (some a) :: st) h Q := by
  intro p e s m args below meth cd H locs ls S hH hO hS hb hL hn
  have hc := hH.2.1 a _ _ hs
  have hk := kk p e s m args below meth cd H locs ls S hH hO hS hb hL (nv_c (by show i32 _; unfold i32; omega) (nv_t hn))
  have hI : Int32.ofInt (n : Int) = Int32.ofNat n := rfl
  match kd, hkd, hc with
  | 0, _, hc => exact W.alen (n := Int32.ofInt (n : Int)) S.1 S.2.1 hc ((c_arr_K S.2.2.2.2.2.1 0 _ rfl).1 n _) (by rw [arrV_size]; rfl) rfl rfl hd hk
  | 1, _, hc => exact W.alen (n := Int32.ofInt (n : Int)) S.1 S.2.1 hc ((c_arr_K S.2.2.2.2.2.1 1 _ rfl).1 n _) (by rw [arrV_size]; rfl) rfl rfl hd hk
  | 2, _, hc => exact W.alen (n := Int32.ofInt (n : Int)) S.1 S.2.1 hc.1 ((c_arr_K S.2.2.2.2.2.1 2 _ rfl).1 n _) (by rw [arrV_size]; rfl) rfl rfl hd hk
  | 3, _, hc => exact W.alen (n := Int32.ofInt (n : Int)) S.1 S.2.1 hc ((c_arr_K S.2.2.2.2.2.1 3 _ rfl).1 n _) (by rw [arrV_size]; rfl) rfl rfl hd hk
theorem A_ialoadS {k : Nat} {i : Int} (hd : decode M.2.1 pc = .ok (.iaload, 1)) (hk : k < n_RO) (h0 : 0 ≤ i) (h1 : i < cx_rl G k) (kk : aw G R M cu su (pc + 1) L (av_I (cx_rv G k i.toNat) :: st) h Q) : aw G R M cu su pc L (av_I i :: av_S k :: st) h Q := by
  intro p e s m args below meth cd H locs ls S hH hO hS hb hL hn
  exact va_ti S.1 S.2.1 (hO k hk).1 hS (i32_in (nv_h hn) h0 h1) (v := .int (Int32.ofInt (cx_rv G k i.toNat))) (by rw [i32_cl (nv_h hn) h0]) hd (kk p e s m args below meth cd H locs ls S hH hO hS hb hL (nv_c ((hO k hk).2 _) (nv_t (nv_t hn))))
theorem A_alenS {k : Nat} (hd : decode M.2.1 pc = .ok (.arraylength, 1)) (hk : k < n_RO) (hl : cx_rl G k < 2147483648) (kk : aw G R M cu su (pc + 1) L (av_I (cx_rl G k : Int) :: st) h Q) : aw G R M cu su pc L (av_S k :: st) h Q := by
  intro p e s m args below meth cd H locs ls S hH hO hS hb hL hn
  exact va_tlen S.1 S.2.1 (hO k hk).1 hS (v := Int32.ofInt (cx_rl G k : Int)) rfl hd (kk p e s m args below meth cd H locs ls S hH hO hS hb hL (nv_c (by show i32 _; unfold i32; omega) (nv_t hn)))
end AWH
end
section
/-! ===== rows that make cells, and calls ===== -/
theorem st_n_OK {G : cx_T} {h : ah_T} {H H1 : Heap} (hH : hr_OK G h H) {kd n : Nat} (z : H1.size = H.size + 1) (oq : ∀ q : Nat, q < H.size → H1[q]? = H[q]?) (hc : cell_R G kd n (fun _ => 0) (fun _ => 0) (fun _ => none) H.size H1) : hr_OK G (st_n h kd n) H1 := by
  obtain ⟨h1, h2, h3, h4, h5⟩ := id hH
  refine ⟨by rw [z, h1]; simp [st_n]; omega, fun x kx nx hx => ?_, fun x hx k => ?_, h4, h5⟩
  · show cell_R G kx nx (h.2.1 x) (h.2.2.1 x) (h.2.2.2 x) (cx_b G + x) H1
    by_cases hl : x < h.1.length
    · have hx2 : (h.1 ++ [(kd, n)])[x]? = some (kx, nx) := hx
      rw [List.getElem?_append_left hl] at hx2
      exact (h2 x kx nx hx2).kept (oq _ (by rw [h1]; omega))
    · have hx2 : (h.1 ++ [(kd, n)])[x]? = some (kx, nx) := hx
      rw [List.getElem?_append_right (by omega)] at hx2
      have hz : x - h.1.length < 1 := (List.getElem?_eq_some_iff.mp hx2).1
      have hxe : x = h.1.length := by omega
      subst hxe
      rw [Nat.sub_self] at hx2
      cases hx2
      have e1 : h.2.1 h.1.length = fun _ => 0 := funext fun k => (h3 _ (Nat.le_refl _) k).1
      have e2 : h.2.2.1 h.1.length = fun _ => 0 := funext fun k => (h3 _ (Nat.le_refl _) k).2.1
      have e3 : h.2.2.2 h.1.length = fun _ => none := funext fun k => (h3 _ (Nat.le_refl _) k).2.2
      rw [e1, e2, e3, ← h1]
      exact hc
  · have hx2 : (h.1 ++ [(kd, n)]).length ≤ x := hx
    rw [List.length_append, List.length_singleton] at hx2
    exact h3 x (by omega) k
theorem va_S_new {A : Nat → Prop} {H0 H H1 : Heap} {locs : List Loc} (hS : va_S A H0 H locs) (z : H1.size = H.size + 1) (oq : ∀ q : Nat, q < H.size → H1[q]? = H[q]?) : va_S A H0 H1 locs :=
  ⟨Nat.le_trans hS.1 (by omega), fun x h1 h2 => (oq x (Nat.lt_of_lt_of_le h1 hS.1)).trans (hS.2.1 x h1 h2), hS.2.2⟩
theorem c_arr_0 {G : cx_T} {U : State} (h : kf_OK G U) {cA : ClassId} (hN : U.vm.findClass ("[" ++ (newarray.typeOf .int).toString) = some cA) : cA = cx_cA G 0 := by
  have h2 : U.vm.findClass ("[" ++ (FieldType.int).toString) = some (cx_cA G 0) := (c_arr_K h 0 _ rfl).2
  exact Option.some.inj (hN.symm.trans h2)
theorem c_arr_1 {G : cx_T} {U : State} (h : kf_OK G U) {cA : ClassId} (hN : U.vm.findClass ("[" ++ (newarray.typeOf .long).toString) = some cA) : cA = cx_cA G 1 := by
  have h2 : U.vm.findClass ("[" ++ (FieldType.long).toString) = some (cx_cA G 1) := (c_arr_K h 1 _ rfl).2
  exact Option.some.inj (hN.symm.trans h2)
theorem c_arr_2 {G : cx_T} {U : State} (h : kf_OK G U) {cA : ClassId} (hN : U.vm.findClass ("[" ++ (newarray.typeOf .boolean).toString) = some cA) : cA = cx_cA G 2 := by
  have h2 : U.vm.findClass ("[" ++ (FieldType.boolean).toString) = some (cx_cA G 2) := (c_arr_K h 2 _ rfl).2
  exact Option.some.inj (hN.symm.trans h2)
section AWN
variable {G : cx_T} {R : Room} {M : mr_T} {cu su pc : Nat} {L : List (Option av_T)} {st : List av_T} {h : ah_T} {Q : Option av_T → ah_T → Prop}
theorem A_newI {z : Int} (hd : decode M.2.1 pc = .ok (.newarray .int, 2)) (hac : Cond.arrayClass .int ∈ gw) (h0 : 0 ≤ z) (hz : z ≤ 60000000) (hc : cu + 1 ≤ R.cells) (hsl : su + z.toNat ≤ R.slots) (kk : aw G R M (cu + 1) (su + z.toNat) (pc + 2) L (av_R (some h.1.length) :: st) (st_n h 0 z.toNat) Q) : aw G R M cu su pc L (av_I z :: st) h Q := by
  intro p e s m args below meth cd H locs ls S hH hO hS hb hL hn
  have hcl := i32_cl (nv_h hn) h0
  refine va_newaK (atype := .int) S.1 S.2.1 (S.2.2.2.2.1 _ hac) rfl hd rfl (N := z.toNat) (fun q => by have := (i32_lt (nv_h hn) i32_0).mp q; omega) hcl (by show z.toNat * 4 ≤ _; omega) hc hsl rfl fun H1 cA e1 z1 o1 hAr hNm => ?_
  have hcA : cA = cx_cA G 0 := c_arr_0 S.2.2.2.2.2.1 hNm
  subst hcA
  have hk := kk p e s m args below meth cd H1 locs ls S (st_n_OK hH z1 o1 e1) hO (va_S_new hS z1 o1) hb hL (nv_c trivial (nv_t hn))
  rw [hH.1]
  exact hk
theorem A_newL {z : Int} (hd : decode M.2.1 pc = .ok (.newarray .long, 2)) (hac : Cond.arrayClass .long ∈ gw) (h0 : 0 ≤ z) (hz : z ≤ 60000000) (hc : cu + 1 ≤ R.cells) (hsl : su + z.toNat ≤ R.slots) (kk : aw G R M (cu + 1) (su + z.toNat) (pc + 2) L (av_R (some h.1.length) :: st) (st_n h 1 z.toNat) Q) : aw G R M cu su pc L (av_I z :: st) h Q := by
  intro p e s m args below meth cd H locs ls S hH hO hS hb hL hn
  have hcl := i32_cl (nv_h hn) h0
  refine va_newaK (atype := .long) S.1 S.2.1 (S.2.2.2.2.1 _ hac) rfl hd rfl (N := z.toNat) (fun q => by have := (i32_lt (nv_h hn) i32_0).mp q; omega) hcl (by show z.toNat * 8 ≤ _; omega) hc hsl rfl fun H1 cA e1 z1 o1 hAr hNm => ?_
  have hcA : cA = cx_cA G 1 := c_arr_1 S.2.2.2.2.2.1 hNm
  subst hcA
  have hk := kk p e s m args below meth cd H1 locs ls S (st_n_OK hH z1 o1 e1) hO (va_S_new hS z1 o1) hb hL (nv_c trivial (nv_t hn))
  rw [hH.1]
  exact hk
theorem A_newZ {z : Int} (hd : decode M.2.1 pc = .ok (.newarray .boolean, 2)) (hac : Cond.arrayClass .boolean ∈ gw) (h0 : 0 ≤ z) (hz : z ≤ 60000000) (hc : cu + 1 ≤ R.cells) (hsl : su + z.toNat ≤ R.slots) (kk : aw G R M (cu + 1) (su + z.toNat) (pc + 2) L (av_R (some h.1.length) :: st) (st_n h 2 z.toNat) Q) : aw G R M cu su pc L (av_I z :: st) h Q := by
  intro p e s m args below meth cd H locs ls S hH hO hS hb hL hn
  have hcl := i32_cl (nv_h hn) h0
  refine va_newaK (atype := .boolean) S.1 S.2.1 (S.2.2.2.2.1 _ hac) rfl hd rfl (N := z.toNat) (fun q => by have := (i32_lt (nv_h hn) i32_0).mp q; omega) hcl (by show z.toNat * 1 ≤ _; omega) hc hsl rfl fun H1 cA e1 z1 o1 hAr hNm => ?_
  have hcA : cA = cx_cA G 2 := c_arr_2 S.2.2.2.2.2.1 hNm
  subst hcA
  have hk := kk p e s m args below meth cd H1 locs ls S (st_n_OK hH z1 o1 ⟨e1, fun _ => Or.inl rfl⟩) hO (va_S_new hS z1 o1) hb hL (nv_c trivial (nv_t hn))
  rw [hH.1]
  exact hk
theorem A_newV {z : Int} {idx : Nat} (hd : decode M.2.1 pc = .ok (.anewarray idx, 3)) (hcl : Cond.classLink M.1.cls idx RX10 ∈ gw) (hov : Cond.arrayOver (.object RX10) ∈ lw_tbl) (h0 : 0 ≤ z) (hz : z ≤ 60000000) (hc : cu + 1 ≤ R.cells) (hsl : su + z.toNat ≤ R.slots) (kk : aw G R M (cu + 1) (su + z.toNat) (pc + 3) L (av_R (some h.1.length) :: st) (st_n h 3 z.toNat) Q) : aw G R M cu su pc L (av_I z :: st) h Q := by
  intro p e s m args below meth cd H locs ls S hH hO hS hb hL hn
  have hcl2 := i32_cl (nv_h hn) h0
  refine W.anew S.1 S.2.1 S.2.2.2.1 (S.2.2.2.2.1 _ hcl) (va_AO.use (S.2.2.2.2.2.1.2 _ hov rfl)) rfl hd rfl (fun q => by have := (i32_lt (nv_h hn) i32_0).mp q; omega) (by rw [hcl2]; omega) hc (by rw [hcl2]; exact hsl) fun cA kA comp f1 f2 f3 f4 => ?_
  obtain ⟨kA', comp', k1, k2, k3, k4⟩ := (c_arr_K S.2.2.2.2.2.1 3 _ rfl).2
  have hcA : cA = cx_cA G 3 := Option.some.inj (f1.symm.trans k4)
  subst hcA
  rw [hcl2]
  generalize hH1 : H.push ({ cls := cx_cA G 3, slots := Array.replicate z.toNat .null, vm := .none } : Cell) = H1
  have z1 : H1.size = H.size + 1 := by rw [← hH1, Array.size_push]
  have e1 : H1[H.size]? = some (arrV (cx_cA G 3) z.toNat (fun _ => .null)) := by rw [← hH1, Array.getElem?_push_size, ← arrV_new]
  have o1 : ∀ q : Nat, q < H.size → H1[q]? = H[q]? := fun q hq => by rw [← hH1, Array.getElem?_push, if_neg (Nat.ne_of_lt hq)]
  have hk := kk p e s m args below meth cd H1 locs ls S (st_n_OK hH z1 o1 e1) hO (va_S_new hS z1 o1) hb hL (nv_c trivial (nv_t hn))
  rw [hH.1]
  exact hk
theorem dv_fv (ty : FieldType) (b j : Nat) (h : ty = .int ∨ ty = .boolean ∨ ty = .long ∨ (∃ n, ty = .object n) ∨ ∃ n, ty = .array n) : defaultValue ty = fv_V b ty (fun _ => 0) (fun _ => 0) (fun _ => none) j := by
  rcases h with rfl | rfl | rfl | ⟨n, rfl⟩ | ⟨n, rfl⟩ <;> rfl
def tbl_K : Prop := ∀ c q, classes[c]? = some q → ∀ k, k < q.2.2 → f_ty c k = .int ∨ f_ty c k = .boolean ∨ f_ty c k = .long ∨ (∃ n, f_ty c k = .object n) ∨ ∃ n, f_ty c k = .array n
theorem A_new {idx c : Nat} {q : vw_C} (hT : tbl_OK) (hTK : tbl_K) (hd : decode M.2.1 pc = .ok (.new idx, 3)) (hq : classes[c]? = some q) (hcl : Cond.classLink M.1.cls idx q.1 ∈ gw) (hc : cu + 1 ≤ R.cells) (hsl : su + q.2.2 ≤ R.slots) (kk : aw G R M (cu + 1) (su + q.2.2) (pc + 3) L (av_R (some h.1.length) :: st) (st_n h (c + 4) q.2.2) Q) : aw G R M cu su pc L st h Q := by
  intro p e s m args below meth cd H locs ls S hH hO hS hb hL hn
  obtain ⟨k1, k2, k3, k4, k5, k6⟩ := hT c q hq
  have hKn := S.2.2.2.2.2.1.1.1 c _ hq
  refine W.newcK S.1 S.2.1 S.2.2.2.1 (S.2.2.2.2.1 _ hcl) (S.2.2.2.2.1 _ k4) (S.2.2.2.2.1 _ k5) rfl hd hc hsl hKn.2.1 rfl fun H1 kC hkC e1 z1 o1 => ?_
  have hob := u_born (f_ty c) S.2.2.2.2.1 k1 hKn hkC e1 k2
  have hk := kk p e s m args below meth cd H1 locs ls S (st_n_OK hH z1 o1 ⟨q, hq, rfl, hob.to (fun j hj => dv_fv (f_ty c j) _ j (hTK c q hq j hj)), fun _ _ => Or.inl rfl⟩) hO (va_S_new hS z1 o1) hb hL (nv_c trivial hn)
  rw [hH.1]
  exact hk
theorem A_objInit {idx : Nat} {a : Nat} (hd : decode M.2.1 pc = .ok (.invokespecial idx, 3)) (hl : Cond.methodLink M.1.cls idx Lib.objectInit ∈ gw) (hi : Cond.instanceMethod Lib.objectInit ∈ gw) (hc : Cond.code Lib.objectInit ⟨#[0xb1]⟩ 1 none ∈ gw) (hR : 1 ≤ R.frames ∧ 12 ≤ R.locals) (hst : st = []) (kk : aw G R M cu su (pc + 3) L st h Q) : aw G R M cu su pc L (av_R (some a) :: st) h Q := by
  intro p e s m args below meth cd H locs ls S hH hO hS hb hL hn
  subst hst
  exact W.objInit S.1 S.2.1 S.2.2.2.1 (S.2.2.2.2.1 _ hl) (S.2.2.2.2.1 _ hi) (S.2.2.2.2.1 _ hc) rfl (by show ls.size = _; rw [hL.2.1, S.2.2.1]) rfl hd hR.1 (by simpa [JFrame.monitorRoom] using hR.2) (kk p e s m args below meth cd H locs ls S hH hO hS hb hL (nv_t hn))
/-! calls -/
def rp_R (r : Option av_T) (st : List av_T) : List av_T := match r with
  | none => st
  | some v => v :: st
theorem rp_map (G : cx_T) (r : Option av_T) (st : List av_T) : (rp_R r st).map (cv G) = (r.map (cv G)).toList ++ st.map (cv G) := by
  cases r <;> rfl
def Pc_B (G : cx_T) (h : ah_T) : State → Prop := fun U => hr_OK G h U.heap ∧ ro_OK G U U.heap ∧ kf_OK G U ∧ cx_b G ≤ U.heap.size
theorem nw_same {u U : State} (h : nw_OK u) (hv : u.vm = U.vm) : nw_OK U := by
  intro w hw hn
  have h1 := h w hw hn
  have hal : u.vm.Alike U.vm := by rw [hv]; exact Vm.Alike.refl U.vm
  cases w <;> first | exact va_Nw.same rfl hv h1 | (simp [nestW] at hn; done) | skip
  rename_i ty
  cases ty <;> first | exact va_AO.moved hal h1 | (simp [nestW] at hn; done)
theorem Pc_blind {G : cx_T} {h : ah_T} {As : List Value} : FrameBlind (va_Pc As (Pc_B G h)) := by
  intro a U g mk hp
  obtain ⟨h1, h2, h3, h4, h5⟩ := hp
  exact ⟨h1, h2, fun k hk => ⟨(h3 k hk).1.moved (u := U) (U := U.calling g mk a) (Vm.Alike.refl U.vm), (h3 k hk).2⟩, ⟨va_K.moved (u := U) (U := U.calling g mk a) (Vm.Alike.refl U.vm) h4.1, nw_same h4.2 rfl⟩, h5⟩
theorem Pc_pre {G : cx_T} {h : ah_T} {M : mr_T} {p : Program} {s : State} {m : MethodId} {args : Array Value} {meth : Method} {c : Code} {H : Heap} {locs : List Loc} (S : st_OK G M p s m args meth c) (hH : hr_OK G h H) (hO : ro_OK G s s.heap) (hS : va_S (fr_A G) s.heap H locs) (hb : cx_b G ≤ s.heap.size) (As : List Value) (U : State) (hU : U.heap = H) (hW : s.WarmedH U.vm) : va_Pc As (Pc_B G h) As.toArray U :=
  ⟨rfl, by rw [hU]; exact hH, fun k hk => ⟨by rw [hU]; exact ((hO k hk).1.kept hS.2.1).moved hW.alike, (hO k hk).2⟩, ⟨va_K.moved hW.alike S.2.2.2.2.2.1.1, S.2.2.2.2.2.1.2.moved hW⟩, by rw [hU]; exact Nat.le_trans hb hS.1⟩
abbrev md_OK (y : MethodName) (np : Nat) : Prop := y.cls ≠ "java/lang/invoke/MethodHandle" ∧ y.cls ≠ "java/lang/invoke/VarHandle" ∧ (parseMethodDescriptor y.desc).map (fun d => d.parameters.length) = some np
/-- what the tables say of a method that is called: 0 static, 1 of an object, 2 a constructor -/
def mt_OK (N : mr_T) (np kind : Nat) : Prop := mr_w N ∈ gw ∧ Cond.initialized N.1.cls ∈ gw ∧ md_OK N.1 np ∧ (kind = 0 → Cond.static N.1 ∈ gw) ∧ (kind = 1 → Cond.instanceMethod N.1 ∈ gw ∧ Cond.selects N.1.cls N.1 N.1 ∈ gw) ∧ (kind = 2 → Cond.instanceMethod N.1 ∈ gw ∧ N.1.name = "<init>" ∧ N.2.2.2 = none)
def ml_OK (own : String) (idx : Nat) (y : MethodName) : Prop := Cond.methodLink own idx y ∈ gw ∨ ∃ host, Cond.methodLinkNest own idx y host ∈ lw_tbl
theorem acall {Qa : Option av_T → ah_T → Prop} {mc ms : Nat} {p : Program} {e : Env} {s : State} {m : MethodId} {args : Array Value} {below : List Frame} {meth : Method} {cd : Code} {H : Heap} {locs : List Loc} {ls : Array Slot} {st0 : List Value} {a : Array Value}
    (hr : va_Run p (cx_l G) e R s m args below meth cd H locs cu su mc ms (F0 m pc ls st0) (st.map (cv G)) (qc_Q G Qa a) (fr_A G)) (S : st_OK G M p s m args meth cd) (hO : ro_OK G s s.heap) (hS : va_S (fr_A G) s.heap H locs) (hb : cx_b G ≤ s.heap.size) (hL : lr_OK G M.2.2.1 L ls) (hn : ∀ v ∈ st, nv v)
    (kk : ∀ r h', Qa r h' → aw G R M (cu + mc) (su + ms) (pc + 3) L (rp_R r st) h' Q) : W p (cx_l G) e R s m args below meth cd H locs cu su (MQ below (qc_Q G Q) args s R.cells R.slots (fr_A G)) (F0 m pc ls st0) := by
  intro T hT X
  obtain ⟨v, st₀, t, T', LL, h0, X', hLL, e1, e2, ⟨⟨r, h', hv, hnv, hQ, hH', hO'⟩, hz, hk⟩, stp⟩ := hr T hT X
  have hv2 : v = r.map (cv G) := Outcome.returned.inj hv
  subst hv2
  rw [h0] at hz hk
  have hk2 := kk r h' hQ p e s m args below meth cd T'.heap (locs ++ LL) ls S (by rw [e1]; exact hH') hO
    ⟨Nat.le_trans hS.1 (by rw [e1]; exact hz), fun q h1 h2 => by rw [e1, hk q (Nat.lt_of_lt_of_le h1 hS.1) h2]; exact hS.2.1 q h1 h2, fun q hq => by
      rcases List.mem_append.mp hq with h | h
      · exact hS.2.2 q h
      · exact hLL q h⟩ hb hL (by
      cases r with
      | none => exact hn
      | some w => exact nv_c (hnv w rfl) hn)
  rw [rp_map] at hk2
  obtain ⟨t2, a1, b1⟩ := hk2 T' rfl X'
  exact ⟨t2, stp t2 a1, b1⟩
theorem gi_M {N : mr_T} (h : mr_w N ∈ gw) : GoodIn gw (mr_w N :: gw) := by
  intro w hw
  rcases List.mem_cons.mp hw with rfl | h1
  · exact gw_ok _ h
  · exact gw_ok _ h1
abbrev rm_OK (R : Room) (d : Nat) (N : mr_T) : Prop := d + 1 ≤ R.frames ∧ 8 + (N.2.2.1 + 11) + 48 * d ≤ R.locals
theorem cat_sum (G : cx_T) {st : List av_T} (h : st.length ≤ 4) : ((st.map (cv G)).map fun v => v.category).sum ≤ 8 := by
  have key : ∀ l : List av_T, ((l.map (cv G)).map fun v => v.category).sum ≤ 2 * l.length := by
    intro l
    induction l with
    | nil => simp
    | cons v l ih =>
      have h2 : (cv G v).category ≤ 2 := by
        rcases v with z | z | d | r | k
        · exact (by decide : (1 : Nat) ≤ 2)
        · exact (by decide : (2 : Nat) ≤ 2)
        · exact (by decide : (2 : Nat) ≤ 2)
        · cases r <;> exact (by decide : (1 : Nat) ≤ 2)
        · exact (by decide : (1 : Nat) ≤ 2)
      simp only [List.map_cons, List.sum_cons, List.length_cons]
      omega
  have := key st
  omega
theorem A_callS {Qa : Option av_T → ah_T → Prop} {idx d mc ms np : Nat} {N : mr_T} (As : List av_T) (hd : decode M.2.1 pc = .ok (.invokestatic idx, 3)) (hl : ml_OK M.1.cls idx N.1) (hm : mt_OK N np 0) (hnp : As.length = np) (hR : rm_OK R d N) (hf : cu + mc ≤ R.cells ∧ su + ms ≤ R.slots) (hst : st.length ≤ 4) (hM : con G d mc ms N As h Qa) (stk : List av_T) (hstk : stk = As.reverse ++ st)
    (kk : ∀ r h', Qa r h' → aw G R M (cu + mc) (su + ms) (pc + 3) L (rp_R r st) h' Q) : aw G R M cu su pc L stk h Q := by
  intro p e s m args below meth cd H locs ls S hH hO hS hb hL hn
  subst hstk
  obtain ⟨c1, c2, c3, c4, -, -⟩ := hm
  have hnA : ∀ v ∈ As, nv v := fun v hv => hn v (List.mem_append_left _ (List.mem_reverse.mpr hv))
  have hns : ∀ v ∈ st, nv v := fun v hv => hn v (List.mem_append_right _ hv)
  have hMet := hM hnA
  have hp : PreS s H (va_Pc (As.map (cv G)) (Pc_B G h)) (As.map (cv G)) := ⟨Pc_blind, fun U hU hW => Pc_pre S hH hO hS hb _ U hU hW⟩
  have hstack : (F0 m pc ls ((As.reverse ++ st).map (cv G))).stack = (As.map (cv G)).reverse ++ st.map (cv G) := by simp
  rcases hl with hl | ⟨host, hl⟩
  · exact acall (va_runS ⟨S.1, S.2.1, rfl, S.2.2.2.1, S.2.2.2.2.1⟩ hMet ⟨callB_of (ws' := gw) (index := idx) np S.2.2.2.2.1 (gi_M c1) rfl rfl rfl (S.2.2.2.2.1 _ c2) (S.2.2.2.2.1 _ hl) c3 hR, S.2.2.2.2.1 _ (c4 rfl)⟩ hp rfl (by rw [List.length_map]; exact hnp) (by show ls.size = _; rw [hL.2.1, S.2.2.1]) hstack (lv_room (cat_sum G hst)) hd hf) S hO hS hb hL hns kk
  · exact acall (va_runSN (host := host) ⟨S.1, S.2.1, rfl, S.2.2.2.1, S.2.2.2.2.1⟩ hMet ⟨va_cnB (ws' := gw) (index := idx) np S.2.2.2.2.1 (gi_M c1) rfl rfl rfl (S.2.2.2.2.2.1.2 _ hl rfl) (S.2.2.2.2.1 _ c2) c3 hR, S.2.2.2.2.1 _ (c4 rfl), trivial⟩ hp rfl (by rw [List.length_map]; exact hnp) (by show ls.size = _; rw [hL.2.1, S.2.2.1]) hstack (lv_room (cat_sum G hst)) hd hf) S hO hS hb hL hns kk
theorem A_callV {Qa : Option av_T → ah_T → Prop} {idx d mc ms np c nn a : Nat} {N : mr_T} (As : List av_T) (hT : tbl_OK) (hd : decode M.2.1 pc = .ok (.invokevirtual idx, 3)) (hl : ml_OK M.1.cls idx N.1) (hm : mt_OK N np 1) (hnp : As.length = np) (hs : h.1[a]? = some (c + 4, nn)) (hcl : (classes[c]?).map (fun q => q.1) = some N.1.cls) (hR : rm_OK R d N) (hf : cu + mc ≤ R.cells ∧ su + ms ≤ R.slots) (hst : st.length ≤ 4) (hM : con G d mc ms N (av_R (some a) :: As) h Qa) (stk : List av_T) (hstk : stk = As.reverse ++ av_R (some a) :: st)
    (kk : ∀ r h', Qa r h' → aw G R M (cu + mc) (su + ms) (pc + 3) L (rp_R r st) h' Q) : aw G R M cu su pc L stk h Q := by
  intro p e s m args below meth cd H locs ls S hH hO hS hb hL hn
  subst hstk
  obtain ⟨c1, c2, c3, -, c4, -⟩ := hm
  obtain ⟨c5, c6⟩ := c4 rfl
  have hnA : ∀ v ∈ av_R (some a) :: As, nv v := nv_c trivial (fun v hv => hn v (List.mem_append_left _ (List.mem_reverse.mpr hv)))
  have hns : ∀ v ∈ st, nv v := fun v hv => hn v (List.mem_append_right _ (List.mem_cons_of_mem _ hv))
  have hMet := hM hnA
  obtain ⟨q, g1, g2, ⟨cell, q1, q2, q3, -⟩, -⟩ := hH.2.1 a _ _ hs
  have hqc : q.1 = N.1.cls := by rw [g1] at hcl; exact Option.some.inj hcl
  have hrecv : ∃ cellB : Cell, H[cx_b G + a]? = some cellB ∧ cellB.vm.isStatics = false ∧ s.vm.findClass N.1.cls = some cellB.cls := ⟨cell, q1, by rw [q3]; rfl, by rw [q2, ← hqc]; exact (S.2.2.2.2.2.1.1.1 c _ g1).2.1⟩
  have hp : PreV s H N.1.cls (cx_b G + a) (va_Pc ((av_R (some a) :: As).map (cv G)) (Pc_B G h)) (As.map (cv G)) := ⟨Pc_blind, hrecv, fun U hU hW => Pc_pre S hH hO hS hb _ U hU hW⟩
  have hstack : (F0 m pc ls ((As.reverse ++ av_R (some a) :: st).map (cv G))).stack = (As.map (cv G)).reverse ++ .ref (cx_b G + a) :: st.map (cv G) := by
    show List.map (cv G) (As.reverse ++ av_R (some a) :: st) = _
    rw [List.map_append, List.map_reverse]
    rfl
  rcases hl with hl | ⟨host, hl⟩
  · exact acall (va_runV (b := cx_b G + a) (C := N.1.cls) ⟨S.1, S.2.1, rfl, S.2.2.2.1, S.2.2.2.2.1⟩ hMet ⟨callB_of (ws' := gw) (index := idx) np S.2.2.2.2.1 (gi_M c1) rfl rfl rfl (S.2.2.2.2.1 _ c2) (S.2.2.2.2.1 _ hl) c3 hR, S.2.2.2.2.1 _ c5, S.2.2.2.2.1 _ c6⟩ hp rfl (by rw [List.length_map]; exact hnp) (by show ls.size = _; rw [hL.2.1, S.2.2.1]) hstack (lv_room (cat_sum G hst)) hd hf) S hO hS hb hL hns kk
  · exact acall (va_runVN (b := cx_b G + a) (C := N.1.cls) (host := host) ⟨S.1, S.2.1, rfl, S.2.2.2.1, S.2.2.2.2.1⟩ hMet ⟨va_cnB (ws' := gw) (index := idx) np S.2.2.2.2.1 (gi_M c1) rfl rfl rfl (S.2.2.2.2.2.1.2 _ hl rfl) (S.2.2.2.2.1 _ c2) c3 hR, S.2.2.2.2.1 _ c5, S.2.2.2.2.1 _ c6⟩ hp rfl (by rw [List.length_map]; exact hnp) (by show ls.size = _; rw [hL.2.1, S.2.2.1]) hstack (lv_room (cat_sum G hst)) hd hf) S hO hS hb hL hns kk
theorem A_callI {Qa : Option av_T → ah_T → Prop} {idx d mc ms np a : Nat} {y : MethodName} {by0 : ByteArray} {ml : Nat} (As : List av_T) (hd : decode M.2.1 pc = .ok (.invokespecial idx, 3)) (hl : ml_OK M.1.cls idx y) (hm : mt_OK (y, by0, ml, none) np 2) (hnp : As.length = np) (hR : rm_OK R d (y, by0, ml, none)) (hf : cu + mc ≤ R.cells ∧ su + ms ≤ R.slots) (hst : st.length ≤ 4) (hM : con G d mc ms (y, by0, ml, none) (av_R (some a) :: As) h Qa) (stk : List av_T) (hstk : stk = As.reverse ++ av_R (some a) :: st)
    (kk : ∀ r h', Qa r h' → aw G R M (cu + mc) (su + ms) (pc + 3) L (rp_R r st) h' Q) : aw G R M cu su pc L stk h Q := by
  intro p e s m args below meth cd H locs ls S hH hO hS hb hL hn
  subst hstk
  obtain ⟨c1, c2, c3, -, -, c4⟩ := hm
  obtain ⟨c5, c6, -⟩ := c4 rfl
  have hnA : ∀ v ∈ av_R (some a) :: As, nv v := nv_c trivial (fun v hv => hn v (List.mem_append_left _ (List.mem_reverse.mpr hv)))
  have hns : ∀ v ∈ st, nv v := fun v hv => hn v (List.mem_append_right _ (List.mem_cons_of_mem _ hv))
  have hMet := hM hnA
  have hp : PreS s H (va_Pc ((av_R (some a) :: As).map (cv G)) (Pc_B G h)) (.ref (cx_b G + a) :: As.map (cv G)) := ⟨Pc_blind, fun U hU hW => Pc_pre S hH hO hS hb _ U hU hW⟩
  have hstack : (F0 m pc ls ((As.reverse ++ av_R (some a) :: st).map (cv G))).stack = (As.map (cv G)).reverse ++ .ref (cx_b G + a) :: st.map (cv G) := by
    show List.map (cv G) (As.reverse ++ av_R (some a) :: st) = _
    rw [List.map_append, List.map_reverse]
    rfl
  rcases hl with hl | ⟨host, hl⟩
  · exact acall (va_runI (b := cx_b G + a) ⟨S.1, S.2.1, rfl, S.2.2.2.1, S.2.2.2.2.1⟩ hMet ⟨callB_of (ws' := gw) (index := idx) np S.2.2.2.2.1 (gi_M c1) rfl rfl rfl (S.2.2.2.2.1 _ c2) (S.2.2.2.2.1 _ hl) c3 hR, c6, S.2.2.2.2.1 _ c5⟩ hp rfl (by rw [List.length_map]; exact hnp) (by show ls.size = _; rw [hL.2.1, S.2.2.1]) hstack (lv_room (cat_sum G hst)) hd hf) S hO hS hb hL hns kk
  · exact acall (va_runIN (b := cx_b G + a) (host := host) ⟨S.1, S.2.1, rfl, S.2.2.2.1, S.2.2.2.2.1⟩ hMet ⟨va_cnB (ws' := gw) (index := idx) np S.2.2.2.2.1 (gi_M c1) rfl rfl rfl (S.2.2.2.2.2.1.2 _ hl rfl) (S.2.2.2.2.1 _ c2) c3 hR, c6, S.2.2.2.2.1 _ c5⟩ hp rfl (by rw [List.length_map]; exact hnp) (by show ls.size = _; rw [hL.2.1, S.2.2.1]) hstack (lv_room (cat_sum G hst)) hd hf) S hO hS hb hL hns kk
end AWN
/-! a contract out of a walk -/
def arg_l : List av_T → List (Option av_T)
  | [] => []
  | v :: vs => match cat2 v with
    | true => some v :: none :: arg_l vs
    | false => some v :: arg_l vs
def arg_L (n : Nat) (As : List av_T) : List (Option av_T) := arg_l As ++ List.replicate (n - (arg_l As).length) none
theorem arg_sl (G : cx_T) : ∀ As : List av_T, (lg_sl (As.map (cv G))).length = (arg_l As).length
  | [] => rfl
  | v :: vs => by
    have ih := arg_sl G vs
    have hc := cv_cat (G := G) v
    unfold lg_sl at ih ⊢
    rw [List.map_cons, List.flatMap_cons, List.length_append, ih]
    cases h2 : cat2 v
    · rw [h2] at hc
      have : ¬ (cv G v).category = 2 := by simpa using hc
      simp [arg_l, h2, this]; omega
    · rw [h2] at hc
      have : (cv G v).category = 2 := by simpa using hc
      simp [arg_l, h2, this]; omega
theorem arg_at (G : cx_T) : ∀ (As : List av_T) (i k : Nat) (v : av_T), (arg_l As)[k]? = some (some v) → (i + k, cv G v) ∈ lv_args i (As.map (cv G)) ∧ v ∈ As
  | [], i, k, v, h => by simp [arg_l] at h
  | w :: vs, i, k, v, h => by
    have hc := cv_cat (G := G) w
    cases h2 : cat2 w
    · rw [h2] at hc
      have hc2 : ¬ (cv G w).category = 2 := by simpa using hc
      simp only [arg_l, h2] at h
      rw [List.map_cons]
      cases k with
      | zero =>
        rw [List.getElem?_cons_zero] at h
        cases h
        exact ⟨List.mem_cons_self, List.mem_cons_self⟩
      | succ k =>
        rw [List.getElem?_cons_succ] at h
        obtain ⟨a1, a2⟩ := arg_at G vs (i + 1) k v h
        refine ⟨?_, List.mem_cons_of_mem _ a2⟩
        unfold lv_args
        rw [if_neg hc2]
        refine List.mem_cons_of_mem _ ?_
        rw [show i + (k + 1) = i + 1 + k by omega]
        exact a1
    · rw [h2] at hc
      have hc2 : (cv G w).category = 2 := by simpa using hc
      simp only [arg_l, h2] at h
      rw [List.map_cons]
      match k, h with
      | 0, h =>
        rw [List.getElem?_cons_zero] at h
        cases h
        exact ⟨List.mem_cons_self, List.mem_cons_self⟩
      | 1, h =>
        rw [List.getElem?_cons_succ, List.getElem?_cons_zero] at h
        simp at h
      | k + 2, h =>
        rw [List.getElem?_cons_succ, List.getElem?_cons_succ] at h
        obtain ⟨a1, a2⟩ := arg_at G vs (i + 2) k v h
        refine ⟨?_, List.mem_cons_of_mem _ a2⟩
        unfold lv_args
        rw [if_pos hc2]
        refine List.mem_cons_of_mem _ ?_
        rw [show i + (k + 2) = i + 2 + k by omega]
        exact a1
theorem lr_entry {G : cx_T} {n : Nat} {As : List av_T} (hn : ∀ v ∈ As, nv v) (hl : (arg_l As).length ≤ n) : lr_OK G n (arg_L n As) ((lg_sl (As.map (cv G)) ++ List.replicate (n - (lg_sl (As.map (cv G))).length) Slot.unset).toArray) := by
  have h1 := lv_entry (As.map (cv G)) (n := n) (by rw [arg_sl]; exact hl)
  refine ⟨by simp [arg_L]; omega, h1.1, h1.2.1, fun k v hk => ?_⟩
  unfold arg_L at hk
  by_cases hkl : k < (arg_l As).length
  · rw [List.getElem?_append_left hkl] at hk
    obtain ⟨a1, a2⟩ := arg_at G As 0 k v hk
    rw [Nat.zero_add] at a1
    exact ⟨h1.2.2 _ a1, hn v a2⟩
  · rw [List.getElem?_append_right (by omega), List.getElem?_replicate] at hk
    split at hk <;> simp at hk
theorem con_of {G : cx_T} {d mc ms : Nat} {M : mr_T} {As : List av_T} {h : ah_T} {Q : Option av_T → ah_T → Prop} (hy : plainName M.1.cls = true) (hl : (arg_l As).length ≤ M.2.2.1) {L : List (Option av_T)} (hL : arg_L M.2.2.1 As = L)
    (k : aw G (rm_R d mc ms) M 0 0 0 L [] h Q) : con G d mc ms M As h Q := by
  intro hn
  subst hL
  refine Met.ofW (cc := M.2.1) (maxL := M.2.2.1) (ret := M.2.2.2) hy rfl ?_
  intro p e s m args below meth c s₁ B hml hv
  obtain ⟨rfl, hH, hO, hK, hb⟩ := hv
  have hts := atoms_spec (ws := mr_w M :: gw) B.pre
  rw [lg_entry_eq]
  exact k p e s m _ below meth c s.heap [] _ ⟨B.exec, B.bytes, hml, findClass_of_methodNamed B.named, fun w hw => hts w (List.mem_cons_of_mem _ hw), hK, B.returns, B.notSynchronized, fun hi => ((name_of_methodNamed B.named B.method).1).trans hi⟩ hH hO va_S.rf hb (lr_entry hn hl) (fun v hv => by cases hv)
end
section
/-! ===== rows with the value told, stores that name the heap ===== -/
theorem st_n_len (h : ah_T) (kd n : Nat) : (st_n h kd n).1.length = h.1.length + 1 := by simp [st_n]
theorem st_n_at {h : ah_T} (kd n : Nat) {x : Nat} {y : Nat × Nat} (hx : h.1[x]? = some y) : (st_n h kd n).1[x]? = some y := by
  show (h.1 ++ [(kd, n)])[x]? = some y
  rw [List.getElem?_append_left (List.getElem?_eq_some_iff.mp hx).1]
  exact hx
theorem st_n_last (h : ah_T) (kd n q : Nat) (hq : h.1.length = q) : (st_n h kd n).1[q]? = some (kd, n) := by
  show (h.1 ++ [(kd, n)])[q]? = some (kd, n)
  subst hq
  simp
/-- shapes behind a store -/
theorem sp_i {h h' : ah_T} {a k : Nat} {z : Int} (e : h' = st_i h a k z) {x : Nat} {y : Option (Nat × Nat)} (hx : h.1[x]? = y) : h'.1[x]? = y := by subst e; exact hx
theorem sp_l {h h' : ah_T} {a k : Nat} {z : Int} (e : h' = st_l h a k z) {x : Nat} {y : Option (Nat × Nat)} (hx : h.1[x]? = y) : h'.1[x]? = y := by subst e; exact hx
theorem sp_r {h h' : ah_T} {a k : Nat} {z : Option Nat} (e : h' = st_r h a k z) {x : Nat} {y : Option (Nat × Nat)} (hx : h.1[x]? = y) : h'.1[x]? = y := by subst e; exact hx
theorem sn_i {h h' : ah_T} {a k : Nat} {z : Int} (e : h' = st_i h a k z) {n : Nat} (hx : h.1.length = n) : h'.1.length = n := by subst e; exact hx
theorem sn_l {h h' : ah_T} {a k : Nat} {z : Int} (e : h' = st_l h a k z) {n : Nat} (hx : h.1.length = n) : h'.1.length = n := by subst e; exact hx
theorem sn_r {h h' : ah_T} {a k : Nat} {z : Option Nat} (e : h' = st_r h a k z) {n : Nat} (hx : h.1.length = n) : h'.1.length = n := by subst e; exact hx
/-- ints read behind stores: the same place, another place, another kind -/
theorem ri_s {h h' : ah_T} {a k : Nat} {z : Int} (e : h' = st_i h a k z) : h'.2.1 a k = z := by subst e; exact up2_at
theorem ri_o {h h' : ah_T} {a k x y : Nat} {z v : Int} (e : h' = st_i h a k z) (hn : ¬ (x = a ∧ y = k)) (hv : h.2.1 x y = v) : h'.2.1 x y = v := by subst e; exact (up2_o hn).trans hv
theorem ri_l {h h' : ah_T} {a k x y : Nat} {z v : Int} (e : h' = st_l h a k z) (hv : h.2.1 x y = v) : h'.2.1 x y = v := by subst e; exact hv
theorem ri_r {h h' : ah_T} {a k x y : Nat} {z : Option Nat} {v : Int} (e : h' = st_r h a k z) (hv : h.2.1 x y = v) : h'.2.1 x y = v := by subst e; exact hv
theorem ri_n {h h' : ah_T} {a k x y : Nat} {v : Int} (e : h' = st_n h a k) (hv : h.2.1 x y = v) : h'.2.1 x y = v := by subst e; exact hv
theorem rl_s {h h' : ah_T} {a k : Nat} {z : Int} (e : h' = st_l h a k z) : h'.2.2.1 a k = z := by subst e; exact up2_at
theorem rl_o {h h' : ah_T} {a k x y : Nat} {z v : Int} (e : h' = st_l h a k z) (hn : ¬ (x = a ∧ y = k)) (hv : h.2.2.1 x y = v) : h'.2.2.1 x y = v := by subst e; exact (up2_o hn).trans hv
theorem rl_i {h h' : ah_T} {a k x y : Nat} {z v : Int} (e : h' = st_i h a k z) (hv : h.2.2.1 x y = v) : h'.2.2.1 x y = v := by subst e; exact hv
theorem rl_r {h h' : ah_T} {a k x y : Nat} {z : Option Nat} {v : Int} (e : h' = st_r h a k z) (hv : h.2.2.1 x y = v) : h'.2.2.1 x y = v := by subst e; exact hv
theorem rr_s {h h' : ah_T} {a k : Nat} {z : Option Nat} (e : h' = st_r h a k z) : h'.2.2.2 a k = z := by subst e; exact up2_at
theorem rr_o {h h' : ah_T} {a k x y : Nat} {z v : Option Nat} (e : h' = st_r h a k z) (hn : ¬ (x = a ∧ y = k)) (hv : h.2.2.2 x y = v) : h'.2.2.2 x y = v := by subst e; exact (up2_o hn).trans hv
theorem rr_i {h h' : ah_T} {a k x y : Nat} {z : Int} {v : Option Nat} (e : h' = st_i h a k z) (hv : h.2.2.2 x y = v) : h'.2.2.2 x y = v := by subst e; exact hv
theorem rr_l {h h' : ah_T} {a k x y : Nat} {z : Int} {v : Option Nat} (e : h' = st_l h a k z) (hv : h.2.2.2 x y = v) : h'.2.2.2 x y = v := by subst e; exact hv
theorem rr_n {h h' : ah_T} {a k x y : Nat} {v : Option Nat} (e : h' = st_n h a k) (hv : h.2.2.2 x y = v) : h'.2.2.2 x y = v := by subst e; exact hv
theorem ty_a {t : FieldType} : (∃ n, FieldType.array t = .object n) ∨ ∃ n, FieldType.array t = .array n := Or.inr ⟨_, rfl⟩
theorem ty_o {t : String} : (∃ n, FieldType.object t = .object n) ∨ ∃ n, FieldType.object t = .array n := Or.inl ⟨_, rfl⟩
theorem fin_f {M : mr_T} {c : Nat} : fin_OK M c false := Or.inl rfl
theorem n1_s (h : ah_T) (kd n : Nat) : (st_n h kd n).1 = h.1 ++ [(kd, n)] := rfl
theorem i1_s (h : ah_T) (a k : Nat) (z : Int) : (st_i h a k z).1 = h.1 := rfl
theorem l1_s (h : ah_T) (a k : Nat) (z : Int) : (st_l h a k z).1 = h.1 := rfl
theorem r1_s (h : ah_T) (a k : Nat) (z : Option Nat) : (st_r h a k z).1 = h.1 := rfl
theorem n1_r (h : ah_T) (kd n x y : Nat) : (st_n h kd n).2.2.2 x y = h.2.2.2 x y := rfl
theorem i1_r (h : ah_T) (a k : Nat) (z : Int) (x y : Nat) : (st_i h a k z).2.2.2 x y = h.2.2.2 x y := rfl
theorem l1_r (h : ah_T) (a k : Nat) (z : Int) (x y : Nat) : (st_l h a k z).2.2.2 x y = h.2.2.2 x y := rfl
theorem r1_r {h : ah_T} {a k : Nat} {z : Option Nat} {x y : Nat} (hx : x ≠ a) : (st_r h a k z).2.2.2 x y = h.2.2.2 x y := by
  show up2 h.2.2.2 a k z x y = _
  rw [up2_n hx]
section AWV
variable {G : cx_T} {R : Room} {M : mr_T} {cu su pc : Nat} {L : List (Option av_T)} {st : List av_T} {h : ah_T} {Q : Option av_T → ah_T → Prop}
theorem A_iaddv {x y z : Int} (hd : decode M.2.1 pc = .ok (.iadd, 1)) (hz : w32 (x + y) = z) (k : aw G R M cu su (pc + 1) L (av_I z :: st) h Q) : aw G R M cu su pc L (av_I y :: av_I x :: st) h Q := A_iadd hd (by rw [hz]; exact k)
theorem A_isubv {x y z : Int} (hd : decode M.2.1 pc = .ok (.isub, 1)) (hz : w32 (x - y) = z) (k : aw G R M cu su (pc + 1) L (av_I z :: st) h Q) : aw G R M cu su pc L (av_I y :: av_I x :: st) h Q := A_isub hd (by rw [hz]; exact k)
theorem A_imulv {x y z : Int} (hd : decode M.2.1 pc = .ok (.imul, 1)) (hz : w32 (x * y) = z) (k : aw G R M cu su (pc + 1) L (av_I z :: st) h Q) : aw G R M cu su pc L (av_I y :: av_I x :: st) h Q := A_imul hd (by rw [hz]; exact k)
theorem A_laddv {x y z : Int} (hd : decode M.2.1 pc = .ok (.ladd, 1)) (hz : w64 (x + y) = z) (k : aw G R M cu su (pc + 1) L (av_L z :: st) h Q) : aw G R M cu su pc L (av_L y :: av_L x :: st) h Q := A_ladd hd (by rw [hz]; exact k)
theorem A_lsubv {x y z : Int} (hd : decode M.2.1 pc = .ok (.lsub, 1)) (hz : w64 (x - y) = z) (k : aw G R M cu su (pc + 1) L (av_L z :: st) h Q) : aw G R M cu su pc L (av_L y :: av_L x :: st) h Q := A_lsub hd (by rw [hz]; exact k)
theorem A_lmulv {x y z : Int} (hd : decode M.2.1 pc = .ok (.lmul, 1)) (hz : w64 (x * y) = z) (k : aw G R M cu su (pc + 1) L (av_L z :: st) h Q) : aw G R M cu su pc L (av_L y :: av_L x :: st) h Q := A_lmul hd (by rw [hz]; exact k)
theorem A_inegv {x z : Int} (hd : decode M.2.1 pc = .ok (.ineg, 1)) (hz : w32 (-x) = z) (k : aw G R M cu su (pc + 1) L (av_I z :: st) h Q) : aw G R M cu su pc L (av_I x :: st) h Q := A_ineg hd (by rw [hz]; exact k)
theorem A_lnegv {x z : Int} (hd : decode M.2.1 pc = .ok (.lneg, 1)) (hz : w64 (-x) = z) (k : aw G R M cu su (pc + 1) L (av_L z :: st) h Q) : aw G R M cu su pc L (av_L x :: st) h Q := A_lneg hd (by rw [hz]; exact k)
theorem A_l2iv {x z : Int} (hd : decode M.2.1 pc = .ok (.l2i, 1)) (hz : w32 x = z) (k : aw G R M cu su (pc + 1) L (av_I z :: st) h Q) : aw G R M cu su pc L (av_L x :: st) h Q := A_l2i hd (by rw [hz]; exact k)
theorem A_lcmpv {x y z : Int} (hd : decode M.2.1 pc = .ok (.lcmp, 1)) (hz : cmp_I x y = z) (k : aw G R M cu su (pc + 1) L (av_I z :: st) h Q) : aw G R M cu su pc L (av_L y :: av_L x :: st) h Q := A_lcmp hd (by rw [hz]; exact k)
theorem A_iandv {x y z : Int} (hd : decode M.2.1 pc = .ok (.iand, 1)) (hz : (Int32.ofInt x &&& Int32.ofInt y).toInt = z) (k : aw G R M cu su (pc + 1) L (av_I z :: st) h Q) : aw G R M cu su pc L (av_I y :: av_I x :: st) h Q := A_iand hd (by rw [hz]; exact k)
theorem A_iorv {x y z : Int} (hd : decode M.2.1 pc = .ok (.ior, 1)) (hz : (Int32.ofInt x ||| Int32.ofInt y).toInt = z) (k : aw G R M cu su (pc + 1) L (av_I z :: st) h Q) : aw G R M cu su pc L (av_I y :: av_I x :: st) h Q := A_ior hd (by rw [hz]; exact k)
theorem A_ixorv {x y z : Int} (hd : decode M.2.1 pc = .ok (.ixor, 1)) (hz : (Int32.ofInt x ^^^ Int32.ofInt y).toInt = z) (k : aw G R M cu su (pc + 1) L (av_I z :: st) h Q) : aw G R M cu su pc L (av_I y :: av_I x :: st) h Q := A_ixor hd (by rw [hz]; exact k)
theorem A_ishlv {x y z : Int} (hd : decode M.2.1 pc = .ok (.ishl, 1)) (hz : (Int32.ofInt x <<< (Int32.ofInt y &&& 31)).toInt = z) (k : aw G R M cu su (pc + 1) L (av_I z :: st) h Q) : aw G R M cu su pc L (av_I y :: av_I x :: st) h Q := A_ishl hd (by rw [hz]; exact k)
theorem A_ishrv {x y z : Int} (hd : decode M.2.1 pc = .ok (.ishr, 1)) (hz : (Int32.ofInt x >>> (Int32.ofInt y &&& 31)).toInt = z) (k : aw G R M cu su (pc + 1) L (av_I z :: st) h Q) : aw G R M cu su pc L (av_I y :: av_I x :: st) h Q := A_ishr hd (by rw [hz]; exact k)
theorem A_iincv {i : Nat} {n x z : Int} {L' : List (Option av_T)} (hd : decode M.2.1 pc = .ok (.iinc i n, 3)) (hx : L[i]? = some (some (av_I x))) (hz : w32 (x + n) = z) (hl : lst1 L i (av_I z) = L') (k : aw G R M cu su (pc + 3) L' st h Q) : aw G R M cu su pc L st h Q := A_iinc hd hx (by rw [hz]; exact hl) k
theorem A_getIv {idx c k : Nat} {fin : Bool} {a n : Nat} {z : Int} (hT : tbl_OK) (hd : decode M.2.1 pc = .ok (.getfield idx, 3)) (hf : fl_OK M.1.cls idx c k .int fin) (hs : h.1[a]? = some (c + 4, n)) (hv : h.2.1 a k = z) (kk : aw G R M cu su (pc + 3) L (av_I z :: st) h Q) : aw G R M cu su pc L (av_R (some a) :: st) h Q := A_getI hT hd hf hs (by rw [hv]; exact kk)
theorem A_getZv {idx c k : Nat} {fin : Bool} {a n : Nat} {z : Int} (hT : tbl_OK) (hd : decode M.2.1 pc = .ok (.getfield idx, 3)) (hf : fl_OK M.1.cls idx c k .boolean fin) (hs : h.1[a]? = some (c + 4, n)) (hv : h.2.1 a k = z) (kk : (z = 0 ∨ z = 1) → aw G R M cu su (pc + 3) L (av_I z :: st) h Q) : aw G R M cu su pc L (av_R (some a) :: st) h Q := A_getZ hT hd hf hs (fun q => by rw [hv] at q ⊢; exact kk q)
theorem A_getLv {idx c k : Nat} {fin : Bool} {a n : Nat} {z : Int} (hT : tbl_OK) (hd : decode M.2.1 pc = .ok (.getfield idx, 3)) (hf : fl_OK M.1.cls idx c k .long fin) (hs : h.1[a]? = some (c + 4, n)) (hv : h.2.2.1 a k = z) (kk : aw G R M cu su (pc + 3) L (av_L z :: st) h Q) : aw G R M cu su pc L (av_R (some a) :: st) h Q := A_getL hT hd hf hs (by rw [hv]; exact kk)
theorem A_getAv {idx c k : Nat} {t : FieldType} {fin : Bool} {a n : Nat} {z : Option Nat} (hT : tbl_OK) (hd : decode M.2.1 pc = .ok (.getfield idx, 3)) (hf : fl_OK M.1.cls idx c k (.array t) fin) (hs : h.1[a]? = some (c + 4, n)) (hv : h.2.2.2 a k = z) (kk : aw G R M cu su (pc + 3) L (av_R z :: st) h Q) : aw G R M cu su pc L (av_R (some a) :: st) h Q := A_getA hT hd hf hs (by rw [hv]; exact kk)
theorem A_getOv {idx c k : Nat} {t : String} {fin : Bool} {a n : Nat} {z : Option Nat} (hT : tbl_OK) (hd : decode M.2.1 pc = .ok (.getfield idx, 3)) (hf : fl_OK M.1.cls idx c k (.object t) fin) (hs : h.1[a]? = some (c + 4, n)) (hv : h.2.2.2 a k = z) (kk : aw G R M cu su (pc + 3) L (av_R z :: st) h Q) : aw G R M cu su pc L (av_R (some a) :: st) h Q := A_getO hT hd hf hs (by rw [hv]; exact kk)
theorem A_ialoadv {a n : Nat} {i z : Int} (hd : decode M.2.1 pc = .ok (.iaload, 1)) (hs : h.1[a]? = some (0, n)) (h0 : 0 ≤ i) (h1 : i < n) (hv : h.2.1 a i.toNat = z) (kk : aw G R M cu su (pc + 1) L (av_I z :: st) h Q) : aw G R M cu su pc L (av_I i :: av_R (some a) :: st) h Q := A_ialoadN hd hs h0 h1 (by rw [hv]; exact kk)
theorem A_laloadv {a n : Nat} {i z : Int} (hd : decode M.2.1 pc = .ok (.laload, 1)) (hs : h.1[a]? = some (1, n)) (h0 : 0 ≤ i) (h1 : i < n) (hv : h.2.2.1 a i.toNat = z) (kk : aw G R M cu su (pc + 1) L (av_L z :: st) h Q) : aw G R M cu su pc L (av_I i :: av_R (some a) :: st) h Q := A_laloadN hd hs h0 h1 (by rw [hv]; exact kk)
theorem A_aaloadv {a n : Nat} {i : Int} {z : Option Nat} (hd : decode M.2.1 pc = .ok (.aaload, 1)) (hs : h.1[a]? = some (3, n)) (h0 : 0 ≤ i) (h1 : i < n) (hv : h.2.2.2 a i.toNat = z) (kk : aw G R M cu su (pc + 1) L (av_R z :: st) h Q) : aw G R M cu su pc L (av_I i :: av_R (some a) :: st) h Q := A_aaloadN hd hs h0 h1 (by rw [hv]; exact kk)
theorem A_putIv {idx c k : Nat} {fin : Bool} {a n : Nat} {z : Int} (hT : tbl_OK) (hd : decode M.2.1 pc = .ok (.putfield idx, 3)) (hf : fl_OK M.1.cls idx c k .int fin) (hs : h.1[a]? = some (c + 4, n)) (hfin : fin_OK M c fin) (kk : ∀ h', h' = st_i h a k z → aw G R M cu su (pc + 3) L st h' Q) : aw G R M cu su pc L (av_I z :: av_R (some a) :: st) h Q := A_putI hT hd hf hs hfin (kk _ rfl)
theorem A_putLv {idx c k : Nat} {fin : Bool} {a n : Nat} {z : Int} (hT : tbl_OK) (hd : decode M.2.1 pc = .ok (.putfield idx, 3)) (hf : fl_OK M.1.cls idx c k .long fin) (hs : h.1[a]? = some (c + 4, n)) (hfin : fin_OK M c fin) (kk : ∀ h', h' = st_l h a k z → aw G R M cu su (pc + 3) L st h' Q) : aw G R M cu su pc L (av_L z :: av_R (some a) :: st) h Q := A_putL hT hd hf hs hfin (kk _ rfl)
theorem A_putZv {idx c k : Nat} {fin : Bool} {a n : Nat} {z : Int} (hT : tbl_OK) (hd : decode M.2.1 pc = .ok (.putfield idx, 3)) (hf : fl_OK M.1.cls idx c k .boolean fin) (hs : h.1[a]? = some (c + 4, n)) (hfin : fin_OK M c fin) (h01 : z = 0 ∨ z = 1) (kk : ∀ h', h' = st_i h a k z → aw G R M cu su (pc + 3) L st h' Q) : aw G R M cu su pc L (av_I z :: av_R (some a) :: st) h Q := A_putZ hT hd hf hs hfin h01 (kk _ rfl)
theorem A_putRv {idx c k : Nat} {ty : FieldType} {fin : Bool} {a n : Nat} {z : Option Nat} (hT : tbl_OK) (hd : decode M.2.1 pc = .ok (.putfield idx, 3)) (hf : fl_OK M.1.cls idx c k ty fin) (hty : (∃ n, ty = .object n) ∨ ∃ n, ty = .array n) (hs : h.1[a]? = some (c + 4, n)) (hfin : fin_OK M c fin) (kk : ∀ h', h' = st_r h a k z → aw G R M cu su (pc + 3) L st h' Q) : aw G R M cu su pc L (av_R z :: av_R (some a) :: st) h Q := A_putR hT hd hf hty hs hfin (kk _ rfl)
theorem A_iastorev {a n j : Nat} {i z : Int} (hd : decode M.2.1 pc = .ok (.iastore, 1)) (hs : h.1[a]? = some (0, n)) (h0 : 0 ≤ i) (h1 : i < n) (hj : i.toNat = j) (kk : ∀ h', h' = st_i h a j z → aw G R M cu su (pc + 1) L st h' Q) : aw G R M cu su pc L (av_I z :: av_I i :: av_R (some a) :: st) h Q := A_iastoreN hd hs h0 h1 (by subst hj; exact kk _ rfl)
theorem A_lastorev {a n j : Nat} {i z : Int} (hd : decode M.2.1 pc = .ok (.lastore, 1)) (hs : h.1[a]? = some (1, n)) (h0 : 0 ≤ i) (h1 : i < n) (hj : i.toNat = j) (kk : ∀ h', h' = st_l h a j z → aw G R M cu su (pc + 1) L st h' Q) : aw G R M cu su pc L (av_L z :: av_I i :: av_R (some a) :: st) h Q := A_lastoreN hd hs h0 h1 (by subst hj; exact kk _ rfl)
theorem A_zastorev {a n j : Nat} {i z : Int} (hd : decode M.2.1 pc = .ok (.bastore, 1)) (hs : h.1[a]? = some (2, n)) (h0 : 0 ≤ i) (h1 : i < n) (hj : i.toNat = j) (h01 : z = 0 ∨ z = 1) (kk : ∀ h', h' = st_i h a j z → aw G R M cu su (pc + 1) L st h' Q) : aw G R M cu su pc L (av_I z :: av_I i :: av_R (some a) :: st) h Q := A_zastoreN hd hs h0 h1 h01 (by subst hj; exact kk _ rfl)
theorem A_aastorev {a n v nn j : Nat} {i : Int} (hd : decode M.2.1 pc = .ok (.aastore, 1)) (hs : h.1[a]? = some (3, n)) (hs2 : h.1[v]? = some (10 + 4, nn)) (h0 : 0 ≤ i) (h1 : i < n) (hj : i.toNat = j) (kk : ∀ h', h' = st_r h a j (some v) → aw G R M cu su (pc + 1) L st h' Q) : aw G R M cu su pc L (av_R (some v) :: av_I i :: av_R (some a) :: st) h Q := A_aastoreN hd hs hs2 h0 h1 (by subst hj; exact kk _ rfl)
theorem A_newIv {z : Int} {q N : Nat} (hd : decode M.2.1 pc = .ok (.newarray .int, 2)) (hac : Cond.arrayClass .int ∈ gw) (hz : z = (N : Int)) (hz2 : N ≤ 60000000) (hc : cu + 1 ≤ R.cells) (hsl : su + N ≤ R.slots) (hq : h.1.length = q) (kk : (∀ h', h' = st_n h 0 N → h'.1.length = q + 1 → (∀ (x : Nat) (y : Nat × Nat), h.1[x]? = some y → h'.1[x]? = some y) → aw G R M (cu + 1) (su + N) (pc + 2) L (av_R (some q) :: st) h' Q)) : aw G R M cu su pc L (av_I z :: st) h Q := by
  subst hz; subst hq
  refine A_newI hd hac (by omega) (by omega) hc (by rw [Int.toNat_natCast]; exact hsl) ?_
  rw [Int.toNat_natCast]
  exact kk _ rfl (st_n_len _ _ _) (fun x y hx => st_n_at _ _ hx)
theorem A_newLv {z : Int} {q N : Nat} (hd : decode M.2.1 pc = .ok (.newarray .long, 2)) (hac : Cond.arrayClass .long ∈ gw) (hz : z = (N : Int)) (hz2 : N ≤ 60000000) (hc : cu + 1 ≤ R.cells) (hsl : su + N ≤ R.slots) (hq : h.1.length = q) (kk : (∀ h', h' = st_n h 1 N → h'.1.length = q + 1 → (∀ (x : Nat) (y : Nat × Nat), h.1[x]? = some y → h'.1[x]? = some y) → aw G R M (cu + 1) (su + N) (pc + 2) L (av_R (some q) :: st) h' Q)) : aw G R M cu su pc L (av_I z :: st) h Q := by
  subst hz; subst hq
  refine A_newL hd hac (by omega) (by omega) hc (by rw [Int.toNat_natCast]; exact hsl) ?_
  rw [Int.toNat_natCast]
  exact kk _ rfl (st_n_len _ _ _) (fun x y hx => st_n_at _ _ hx)
theorem A_newZv {z : Int} {q N : Nat} (hd : decode M.2.1 pc = .ok (.newarray .boolean, 2)) (hac : Cond.arrayClass .boolean ∈ gw) (hz : z = (N : Int)) (hz2 : N ≤ 60000000) (hc : cu + 1 ≤ R.cells) (hsl : su + N ≤ R.slots) (hq : h.1.length = q) (kk : (∀ h', h' = st_n h 2 N → h'.1.length = q + 1 → (∀ (x : Nat) (y : Nat × Nat), h.1[x]? = some y → h'.1[x]? = some y) → aw G R M (cu + 1) (su + N) (pc + 2) L (av_R (some q) :: st) h' Q)) : aw G R M cu su pc L (av_I z :: st) h Q := by
  subst hz; subst hq
  refine A_newZ hd hac (by omega) (by omega) hc (by rw [Int.toNat_natCast]; exact hsl) ?_
  rw [Int.toNat_natCast]
  exact kk _ rfl (st_n_len _ _ _) (fun x y hx => st_n_at _ _ hx)
theorem A_newVv {z : Int} {q N idx : Nat} (hd : decode M.2.1 pc = .ok (.anewarray idx, 3)) (hcl : Cond.classLink M.1.cls idx RX10 ∈ gw) (hov : Cond.arrayOver (.object RX10) ∈ lw_tbl) (hz : z = (N : Int)) (hz2 : N ≤ 60000000) (hc : cu + 1 ≤ R.cells) (hsl : su + N ≤ R.slots) (hq : h.1.length = q) (kk : (∀ h', h' = st_n h 3 N → h'.1.length = q + 1 → (∀ (x : Nat) (y : Nat × Nat), h.1[x]? = some y → h'.1[x]? = some y) → aw G R M (cu + 1) (su + N) (pc + 3) L (av_R (some q) :: st) h' Q)) : aw G R M cu su pc L (av_I z :: st) h Q := by
  subst hz; subst hq
  refine A_newV hd hcl hov (by omega) (by omega) hc (by rw [Int.toNat_natCast]; exact hsl) ?_
  rw [Int.toNat_natCast]
  exact kk _ rfl (st_n_len _ _ _) (fun x y hx => st_n_at _ _ hx)
theorem A_newv {idx q c N : Nat} {C : vw_C} (hT : tbl_OK) (hTK : tbl_K) (hd : decode M.2.1 pc = .ok (.new idx, 3)) (hC : classes[c]? = some C) (hN : C.2.2 = N) (hcl : Cond.classLink M.1.cls idx C.1 ∈ gw) (hc : cu + 1 ≤ R.cells) (hsl : su + N ≤ R.slots) (hq : h.1.length = q) (kk : (∀ h', h' = st_n h (c + 4) N → h'.1.length = q + 1 → (∀ (x : Nat) (y : Nat × Nat), h.1[x]? = some y → h'.1[x]? = some y) → aw G R M (cu + 1) (su + N) (pc + 3) L (av_R (some q) :: st) h' Q)) : aw G R M cu su pc L st h Q := by
  subst hN; subst hq
  exact A_new hT hTK hd hC hcl hc hsl (kk _ rfl (st_n_len _ _ _) (fun x y hx => st_n_at _ _ hx))
theorem A_callS0 {Qa : Option av_T → ah_T → Prop} {idx d mc ms : Nat} (N : mr_T) (hd : decode M.2.1 pc = .ok (.invokestatic idx, 3)) (hl : ml_OK M.1.cls idx N.1) (hm : mt_OK N 0 0) (hR : rm_OK R d N) (hf : cu + mc ≤ R.cells ∧ su + ms ≤ R.slots) (hst : st.length ≤ 4) (hM : con G d mc ms N [] h Qa) (kk : ∀ r h', Qa r h' → aw G R M (cu + mc) (su + ms) (pc + 3) L (rp_R r st) h' Q) : aw G R M cu su pc L (st) h Q := A_callS [] hd hl hm rfl hR hf hst hM _ rfl kk
theorem A_callV0 {Qa : Option av_T → ah_T → Prop} {idx d mc ms c nn a : Nat} (N : mr_T) (hT : tbl_OK) (hd : decode M.2.1 pc = .ok (.invokevirtual idx, 3)) (hl : ml_OK M.1.cls idx N.1) (hm : mt_OK N 0 1) (hs : h.1[a]? = some (c + 4, nn)) (hcl : (classes[c]?).map (fun q => q.1) = some N.1.cls) (hR : rm_OK R d N) (hf : cu + mc ≤ R.cells ∧ su + ms ≤ R.slots) (hst : st.length ≤ 4) (hM : con G d mc ms N [av_R (some a)] h Qa) (kk : ∀ r h', Qa r h' → aw G R M (cu + mc) (su + ms) (pc + 3) L (rp_R r st) h' Q) : aw G R M cu su pc L (av_R (some a) :: st) h Q := A_callV [] hT hd hl hm rfl hs hcl hR hf hst hM _ rfl kk
theorem A_callS1 {Qa : Option av_T → ah_T → Prop} {idx d mc ms : Nat} (N : mr_T) {a1 : av_T} (hd : decode M.2.1 pc = .ok (.invokestatic idx, 3)) (hl : ml_OK M.1.cls idx N.1) (hm : mt_OK N 1 0) (hR : rm_OK R d N) (hf : cu + mc ≤ R.cells ∧ su + ms ≤ R.slots) (hst : st.length ≤ 4) (hM : con G d mc ms N [a1] h Qa) (kk : ∀ r h', Qa r h' → aw G R M (cu + mc) (su + ms) (pc + 3) L (rp_R r st) h' Q) : aw G R M cu su pc L (a1 :: st) h Q := A_callS [a1] hd hl hm rfl hR hf hst hM _ rfl kk
theorem A_callV1 {Qa : Option av_T → ah_T → Prop} {idx d mc ms c nn a : Nat} (N : mr_T) {a1 : av_T} (hT : tbl_OK) (hd : decode M.2.1 pc = .ok (.invokevirtual idx, 3)) (hl : ml_OK M.1.cls idx N.1) (hm : mt_OK N 1 1) (hs : h.1[a]? = some (c + 4, nn)) (hcl : (classes[c]?).map (fun q => q.1) = some N.1.cls) (hR : rm_OK R d N) (hf : cu + mc ≤ R.cells ∧ su + ms ≤ R.slots) (hst : st.length ≤ 4) (hM : con G d mc ms N [av_R (some a), a1] h Qa) (kk : ∀ r h', Qa r h' → aw G R M (cu + mc) (su + ms) (pc + 3) L (rp_R r st) h' Q) : aw G R M cu su pc L (a1 :: av_R (some a) :: st) h Q := A_callV [a1] hT hd hl hm rfl hs hcl hR hf hst hM _ rfl kk
theorem A_callS2 {Qa : Option av_T → ah_T → Prop} {idx d mc ms : Nat} (N : mr_T) {a1 a2 : av_T} (hd : decode M.2.1 pc = .ok (.invokestatic idx, 3)) (hl : ml_OK M.1.cls idx N.1) (hm : mt_OK N 2 0) (hR : rm_OK R d N) (hf : cu + mc ≤ R.cells ∧ su + ms ≤ R.slots) (hst : st.length ≤ 4) (hM : con G d mc ms N [a1, a2] h Qa) (kk : ∀ r h', Qa r h' → aw G R M (cu + mc) (su + ms) (pc + 3) L (rp_R r st) h' Q) : aw G R M cu su pc L (a2 :: a1 :: st) h Q := A_callS [a1, a2] hd hl hm rfl hR hf hst hM _ rfl kk
theorem A_callV2 {Qa : Option av_T → ah_T → Prop} {idx d mc ms c nn a : Nat} (N : mr_T) {a1 a2 : av_T} (hT : tbl_OK) (hd : decode M.2.1 pc = .ok (.invokevirtual idx, 3)) (hl : ml_OK M.1.cls idx N.1) (hm : mt_OK N 2 1) (hs : h.1[a]? = some (c + 4, nn)) (hcl : (classes[c]?).map (fun q => q.1) = some N.1.cls) (hR : rm_OK R d N) (hf : cu + mc ≤ R.cells ∧ su + ms ≤ R.slots) (hst : st.length ≤ 4) (hM : con G d mc ms N [av_R (some a), a1, a2] h Qa) (kk : ∀ r h', Qa r h' → aw G R M (cu + mc) (su + ms) (pc + 3) L (rp_R r st) h' Q) : aw G R M cu su pc L (a2 :: a1 :: av_R (some a) :: st) h Q := A_callV [a1, a2] hT hd hl hm rfl hs hcl hR hf hst hM _ rfl kk
theorem A_callS3 {Qa : Option av_T → ah_T → Prop} {idx d mc ms : Nat} (N : mr_T) {a1 a2 a3 : av_T} (hd : decode M.2.1 pc = .ok (.invokestatic idx, 3)) (hl : ml_OK M.1.cls idx N.1) (hm : mt_OK N 3 0) (hR : rm_OK R d N) (hf : cu + mc ≤ R.cells ∧ su + ms ≤ R.slots) (hst : st.length ≤ 4) (hM : con G d mc ms N [a1, a2, a3] h Qa) (kk : ∀ r h', Qa r h' → aw G R M (cu + mc) (su + ms) (pc + 3) L (rp_R r st) h' Q) : aw G R M cu su pc L (a3 :: a2 :: a1 :: st) h Q := A_callS [a1, a2, a3] hd hl hm rfl hR hf hst hM _ rfl kk
theorem A_callV3 {Qa : Option av_T → ah_T → Prop} {idx d mc ms c nn a : Nat} (N : mr_T) {a1 a2 a3 : av_T} (hT : tbl_OK) (hd : decode M.2.1 pc = .ok (.invokevirtual idx, 3)) (hl : ml_OK M.1.cls idx N.1) (hm : mt_OK N 3 1) (hs : h.1[a]? = some (c + 4, nn)) (hcl : (classes[c]?).map (fun q => q.1) = some N.1.cls) (hR : rm_OK R d N) (hf : cu + mc ≤ R.cells ∧ su + ms ≤ R.slots) (hst : st.length ≤ 4) (hM : con G d mc ms N [av_R (some a), a1, a2, a3] h Qa) (kk : ∀ r h', Qa r h' → aw G R M (cu + mc) (su + ms) (pc + 3) L (rp_R r st) h' Q) : aw G R M cu su pc L (a3 :: a2 :: a1 :: av_R (some a) :: st) h Q := A_callV [a1, a2, a3] hT hd hl hm rfl hs hcl hR hf hst hM _ rfl kk
theorem A_callS4 {Qa : Option av_T → ah_T → Prop} {idx d mc ms : Nat} (N : mr_T) {a1 a2 a3 a4 : av_T} (hd : decode M.2.1 pc = .ok (.invokestatic idx, 3)) (hl : ml_OK M.1.cls idx N.1) (hm : mt_OK N 4 0) (hR : rm_OK R d N) (hf : cu + mc ≤ R.cells ∧ su + ms ≤ R.slots) (hst : st.length ≤ 4) (hM : con G d mc ms N [a1, a2, a3, a4] h Qa) (kk : ∀ r h', Qa r h' → aw G R M (cu + mc) (su + ms) (pc + 3) L (rp_R r st) h' Q) : aw G R M cu su pc L (a4 :: a3 :: a2 :: a1 :: st) h Q := A_callS [a1, a2, a3, a4] hd hl hm rfl hR hf hst hM _ rfl kk
theorem A_callV4 {Qa : Option av_T → ah_T → Prop} {idx d mc ms c nn a : Nat} (N : mr_T) {a1 a2 a3 a4 : av_T} (hT : tbl_OK) (hd : decode M.2.1 pc = .ok (.invokevirtual idx, 3)) (hl : ml_OK M.1.cls idx N.1) (hm : mt_OK N 4 1) (hs : h.1[a]? = some (c + 4, nn)) (hcl : (classes[c]?).map (fun q => q.1) = some N.1.cls) (hR : rm_OK R d N) (hf : cu + mc ≤ R.cells ∧ su + ms ≤ R.slots) (hst : st.length ≤ 4) (hM : con G d mc ms N [av_R (some a), a1, a2, a3, a4] h Qa) (kk : ∀ r h', Qa r h' → aw G R M (cu + mc) (su + ms) (pc + 3) L (rp_R r st) h' Q) : aw G R M cu su pc L (a4 :: a3 :: a2 :: a1 :: av_R (some a) :: st) h Q := A_callV [a1, a2, a3, a4] hT hd hl hm rfl hs hcl hR hf hst hM _ rfl kk
theorem A_callS5 {Qa : Option av_T → ah_T → Prop} {idx d mc ms : Nat} (N : mr_T) {a1 a2 a3 a4 a5 : av_T} (hd : decode M.2.1 pc = .ok (.invokestatic idx, 3)) (hl : ml_OK M.1.cls idx N.1) (hm : mt_OK N 5 0) (hR : rm_OK R d N) (hf : cu + mc ≤ R.cells ∧ su + ms ≤ R.slots) (hst : st.length ≤ 4) (hM : con G d mc ms N [a1, a2, a3, a4, a5] h Qa) (kk : ∀ r h', Qa r h' → aw G R M (cu + mc) (su + ms) (pc + 3) L (rp_R r st) h' Q) : aw G R M cu su pc L (a5 :: a4 :: a3 :: a2 :: a1 :: st) h Q := A_callS [a1, a2, a3, a4, a5] hd hl hm rfl hR hf hst hM _ rfl kk
theorem A_callV5 {Qa : Option av_T → ah_T → Prop} {idx d mc ms c nn a : Nat} (N : mr_T) {a1 a2 a3 a4 a5 : av_T} (hT : tbl_OK) (hd : decode M.2.1 pc = .ok (.invokevirtual idx, 3)) (hl : ml_OK M.1.cls idx N.1) (hm : mt_OK N 5 1) (hs : h.1[a]? = some (c + 4, nn)) (hcl : (classes[c]?).map (fun q => q.1) = some N.1.cls) (hR : rm_OK R d N) (hf : cu + mc ≤ R.cells ∧ su + ms ≤ R.slots) (hst : st.length ≤ 4) (hM : con G d mc ms N [av_R (some a), a1, a2, a3, a4, a5] h Qa) (kk : ∀ r h', Qa r h' → aw G R M (cu + mc) (su + ms) (pc + 3) L (rp_R r st) h' Q) : aw G R M cu su pc L (a5 :: a4 :: a3 :: a2 :: a1 :: av_R (some a) :: st) h Q := A_callV [a1, a2, a3, a4, a5] hT hd hl hm rfl hs hcl hR hf hst hM _ rfl kk
theorem A_callS6 {Qa : Option av_T → ah_T → Prop} {idx d mc ms : Nat} (N : mr_T) {a1 a2 a3 a4 a5 a6 : av_T} (hd : decode M.2.1 pc = .ok (.invokestatic idx, 3)) (hl : ml_OK M.1.cls idx N.1) (hm : mt_OK N 6 0) (hR : rm_OK R d N) (hf : cu + mc ≤ R.cells ∧ su + ms ≤ R.slots) (hst : st.length ≤ 4) (hM : con G d mc ms N [a1, a2, a3, a4, a5, a6] h Qa) (kk : ∀ r h', Qa r h' → aw G R M (cu + mc) (su + ms) (pc + 3) L (rp_R r st) h' Q) : aw G R M cu su pc L (a6 :: a5 :: a4 :: a3 :: a2 :: a1 :: st) h Q := A_callS [a1, a2, a3, a4, a5, a6] hd hl hm rfl hR hf hst hM _ rfl kk
theorem A_callV6 {Qa : Option av_T → ah_T → Prop} {idx d mc ms c nn a : Nat} (N : mr_T) {a1 a2 a3 a4 a5 a6 : av_T} (hT : tbl_OK) (hd : decode M.2.1 pc = .ok (.invokevirtual idx, 3)) (hl : ml_OK M.1.cls idx N.1) (hm : mt_OK N 6 1) (hs : h.1[a]? = some (c + 4, nn)) (hcl : (classes[c]?).map (fun q => q.1) = some N.1.cls) (hR : rm_OK R d N) (hf : cu + mc ≤ R.cells ∧ su + ms ≤ R.slots) (hst : st.length ≤ 4) (hM : con G d mc ms N [av_R (some a), a1, a2, a3, a4, a5, a6] h Qa) (kk : ∀ r h', Qa r h' → aw G R M (cu + mc) (su + ms) (pc + 3) L (rp_R r st) h' Q) : aw G R M cu su pc L (a6 :: a5 :: a4 :: a3 :: a2 :: a1 :: av_R (some a) :: st) h Q := A_callV [a1, a2, a3, a4, a5, a6] hT hd hl hm rfl hs hcl hR hf hst hM _ rfl kk
theorem A_callS7 {Qa : Option av_T → ah_T → Prop} {idx d mc ms : Nat} (N : mr_T) {a1 a2 a3 a4 a5 a6 a7 : av_T} (hd : decode M.2.1 pc = .ok (.invokestatic idx, 3)) (hl : ml_OK M.1.cls idx N.1) (hm : mt_OK N 7 0) (hR : rm_OK R d N) (hf : cu + mc ≤ R.cells ∧ su + ms ≤ R.slots) (hst : st.length ≤ 4) (hM : con G d mc ms N [a1, a2, a3, a4, a5, a6, a7] h Qa) (kk : ∀ r h', Qa r h' → aw G R M (cu + mc) (su + ms) (pc + 3) L (rp_R r st) h' Q) : aw G R M cu su pc L (a7 :: a6 :: a5 :: a4 :: a3 :: a2 :: a1 :: st) h Q := A_callS [a1, a2, a3, a4, a5, a6, a7] hd hl hm rfl hR hf hst hM _ rfl kk
theorem A_callV7 {Qa : Option av_T → ah_T → Prop} {idx d mc ms c nn a : Nat} (N : mr_T) {a1 a2 a3 a4 a5 a6 a7 : av_T} (hT : tbl_OK) (hd : decode M.2.1 pc = .ok (.invokevirtual idx, 3)) (hl : ml_OK M.1.cls idx N.1) (hm : mt_OK N 7 1) (hs : h.1[a]? = some (c + 4, nn)) (hcl : (classes[c]?).map (fun q => q.1) = some N.1.cls) (hR : rm_OK R d N) (hf : cu + mc ≤ R.cells ∧ su + ms ≤ R.slots) (hst : st.length ≤ 4) (hM : con G d mc ms N [av_R (some a), a1, a2, a3, a4, a5, a6, a7] h Qa) (kk : ∀ r h', Qa r h' → aw G R M (cu + mc) (su + ms) (pc + 3) L (rp_R r st) h' Q) : aw G R M cu su pc L (a7 :: a6 :: a5 :: a4 :: a3 :: a2 :: a1 :: av_R (some a) :: st) h Q := A_callV [a1, a2, a3, a4, a5, a6, a7] hT hd hl hm rfl hs hcl hR hf hst hM _ rfl kk
theorem A_callI0 {Qa : Option av_T → ah_T → Prop} {idx d mc ms a : Nat} (N : mr_T) (hd : decode M.2.1 pc = .ok (.invokespecial idx, 3)) (hl : ml_OK M.1.cls idx N.1) (hm : mt_OK N 0 2) (hR : rm_OK R d N) (hf : cu + mc ≤ R.cells ∧ su + ms ≤ R.slots) (hst : st.length ≤ 4) (hM : con G d mc ms N [av_R (some a)] h Qa) (kk : ∀ r h', Qa r h' → aw G R M (cu + mc) (su + ms) (pc + 3) L (rp_R r st) h' Q) : aw G R M cu su pc L (av_R (some a) :: st) h Q := by
  obtain ⟨y, by0, ml, rt⟩ := N
  have hrt : rt = none := (hm.2.2.2.2.2 rfl).2.2
  subst hrt
  exact A_callI [] hd hl hm rfl hR hf hst hM _ rfl kk
end AWV
end
section
/-! ===== the classes' tables ===== -/
theorem gw_ws {ws : List Cond} (ps : List Nat) (hp : ws = ps.filterMap (fun i => lw_tbl[i]?)) (h : ws.all goodWord = true) : ∀ w ∈ ws, w ∈ gw := by
  intro w hw
  have h1 := List.all_eq_true.mp h w hw
  rw [hp] at hw
  obtain ⟨i, -, hi⟩ := List.mem_filterMap.mp hw
  exact gw_in i hi h1
theorem sx_n {h h' : ah_T} {kd n q : Nat} (e : h' = st_n h kd n) (hq : h.1.length = q) : h'.1[q]? = some (kd, n) := by subst e; exact st_n_last h kd n q hq
set_option maxRecDepth 20000 in
theorem T_ok_0 : cl_F 0 (RX0, TX0, 4) := ⟨gw_ws [466, 468, 470, 472] (by decide +kernel) (by decide +kernel), by decide +kernel, nmX0, (gw_in 457 (by decide +kernel) (by decide +kernel)), (gw_in 141 (by decide +kernel) (by decide +kernel)), by decide +kernel⟩
set_option maxRecDepth 20000 in
theorem T_ok_1 : cl_F 1 (RX1, TX1, 3) := ⟨gw_ws [449, 451, 453] (by decide +kernel) (by decide +kernel), by decide +kernel, nmX1, (gw_in 441 (by decide +kernel) (by decide +kernel)), (gw_in 140 (by decide +kernel) (by decide +kernel)), by decide +kernel⟩
set_option maxRecDepth 20000 in
theorem T_ok_2 : cl_F 2 (RX2, TX2, 8) := ⟨gw_ws [489, 491, 493, 495, 497, 499, 501, 503] (by decide +kernel) (by decide +kernel), by decide +kernel, nmX2, (gw_in 476 (by decide +kernel) (by decide +kernel)), (gw_in 142 (by decide +kernel) (by decide +kernel)), by decide +kernel⟩
set_option maxRecDepth 20000 in
theorem T_ok_3 : cl_F 3 (RX3, TX3, 8) := ⟨gw_ws [577, 579, 581, 583, 585, 587, 589, 591] (by decide +kernel) (by decide +kernel), by decide +kernel, nmX3, (gw_in 563 (by decide +kernel) (by decide +kernel)), (gw_in 145 (by decide +kernel) (by decide +kernel)), by decide +kernel⟩
set_option maxRecDepth 20000 in
theorem T_ok_4 : cl_F 4 (RX4, TX4, 12) := ⟨gw_ws [240, 242, 244, 246, 248, 250, 252, 254, 256, 258, 260, 262] (by decide +kernel) (by decide +kernel), by decide +kernel, nmX4, (gw_in 222 (by decide +kernel) (by decide +kernel)), (gw_in 137 (by decide +kernel) (by decide +kernel)), by decide +kernel⟩
set_option maxRecDepth 20000 in
theorem T_ok_5 : cl_F 5 (RX5, TX5, 8) := ⟨gw_ws [421, 423, 425, 427, 429, 431, 433, 435] (by decide +kernel) (by decide +kernel), by decide +kernel, nmX5, (gw_in 164 (by decide +kernel) (by decide +kernel)), (gw_in 135 (by decide +kernel) (by decide +kernel)), by decide +kernel⟩
set_option maxRecDepth 20000 in
theorem T_ok_6 : cl_F 6 (RX6, TX6, 13) := ⟨gw_ws [385, 387, 389, 391, 393, 395, 397, 399, 401, 403, 405, 407, 409] (by decide +kernel) (by decide +kernel), by decide +kernel, nmX6, (gw_in 266 (by decide +kernel) (by decide +kernel)), (gw_in 138 (by decide +kernel) (by decide +kernel)), by decide +kernel⟩
set_option maxRecDepth 20000 in
theorem T_ok_7 : cl_F 7 (RX7, TX7, 8) := ⟨gw_ws [520, 522, 524, 526, 528, 530, 532, 534] (by decide +kernel) (by decide +kernel), by decide +kernel, nmX7, (gw_in 507 (by decide +kernel) (by decide +kernel)), (gw_in 143 (by decide +kernel) (by decide +kernel)), by decide +kernel⟩
set_option maxRecDepth 20000 in
theorem T_ok_8 : cl_F 8 (RX8, TX8, 13) := ⟨gw_ws [192, 194, 196, 198, 200, 202, 204, 206, 208, 210, 212, 214, 216] (by decide +kernel) (by decide +kernel), by decide +kernel, nmX8, (gw_in 170 (by decide +kernel) (by decide +kernel)), (gw_in 136 (by decide +kernel) (by decide +kernel)), by decide +kernel⟩
set_option maxRecDepth 20000 in
theorem T_ok_9 : cl_F 9 (RX9, TX9, 6) := ⟨gw_ws [549, 551, 553, 555, 557, 559] (by decide +kernel) (by decide +kernel), by decide +kernel, nmX9, (gw_in 538 (by decide +kernel) (by decide +kernel)), (gw_in 144 (by decide +kernel) (by decide +kernel)), by decide +kernel⟩
set_option maxRecDepth 20000 in
theorem T_ok_10 : cl_F 10 (RX10, TX10, 17) := ⟨gw_ws [314, 316, 318, 320, 322, 324, 326, 328, 330, 332, 334, 336, 338, 340, 342, 344, 346] (by decide +kernel) (by decide +kernel), by decide +kernel, nmX10, (gw_in 273 (by decide +kernel) (by decide +kernel)), (gw_in 139 (by decide +kernel) (by decide +kernel)), by decide +kernel⟩
set_option maxRecDepth 20000 in
theorem T_ok_11 : cl_F 11 (RX11, TX11, 11) := ⟨gw_ws [605, 607, 609, 611, 613, 615, 617, 619, 621, 623, 625] (by decide +kernel) (by decide +kernel), by decide +kernel, nmX11, (gw_in 156 (by decide +kernel) (by decide +kernel)), (gw_in 134 (by decide +kernel) (by decide +kernel)), by decide +kernel⟩
set_option maxRecDepth 20000 in
theorem T_ok_12 : cl_F 12 (RX12, TX12, 111) := ⟨gw_ws [1593, 1595, 1597, 1599, 1601, 1603, 1605, 1607, 1609, 1611, 1613, 1615, 1617, 1619, 1621, 1623, 1625, 1627, 1629, 1631, 1633, 1635, 1637, 1639, 1641, 1643, 1645, 1647, 1649, 1651, 1653, 1655, 1657, 1659, 1661, 1663, 1665, 1667, 1669, 1671, 1673, 1675, 1677, 1679, 1681, 1683, 1685, 1687, 1689, 1691, 1693, 1695, 1697, 1699, 1701, 1703, 1705, 1707, 1709, 1711, 1713, 1715, 1717, 1719, 1721, 1723, 1725, 1727, 1729, 1731, 1733, 1735, 1737, 1739, 1741, 1743, 1745, 1747, 1749, 1751, 1753, 1755, 1757, 1759, 1761, 1763, 1765, 1767, 1769, 1771, 1773, 1775, 1777, 1779, 1781, 1783, 1785, 1787, 1789, 1791, 1793, 1795, 1797, 1799, 1801, 1803, 1805, 1807, 1809, 1811, 1813] (by decide +kernel) (by decide +kernel), by decide +kernel, nmX12, (gw_in 1477 (by decide +kernel) (by decide +kernel)), (gw_in 146 (by decide +kernel) (by decide +kernel)), by decide +kernel⟩
theorem T_ok : tbl_OK := by
  intro c q hq
  match c, hq with
  | 0, hq => cases hq; exact T_ok_0
  | 1, hq => cases hq; exact T_ok_1
  | 2, hq => cases hq; exact T_ok_2
  | 3, hq => cases hq; exact T_ok_3
  | 4, hq => cases hq; exact T_ok_4
  | 5, hq => cases hq; exact T_ok_5
  | 6, hq => cases hq; exact T_ok_6
  | 7, hq => cases hq; exact T_ok_7
  | 8, hq => cases hq; exact T_ok_8
  | 9, hq => cases hq; exact T_ok_9
  | 10, hq => cases hq; exact T_ok_10
  | 11, hq => cases hq; exact T_ok_11
  | 12, hq => cases hq; exact T_ok_12
  | c + 13, hq => simp [classes] at hq
def tk_b : FieldType → Bool
  | .int => true
  | .boolean => true
  | .long => true
  | .object _ => true
  | .array _ => true
  | _ => false
theorem tk_ok {ty : FieldType} (h : tk_b ty = true) : ty = .int ∨ ty = .boolean ∨ ty = .long ∨ (∃ n, ty = .object n) ∨ ∃ n, ty = .array n := by
  cases ty <;> first | (simp [tk_b] at h; done) | simp

theorem T_k : tbl_K := by
  intro c q hq k hk
  refine tk_ok ?_
  match c, hq with
  | 0, hq => cases hq; exact (by decide +kernel : ∀ k, k < 4 → tk_b (f_ty 0 k) = true) k hk
  | 1, hq => cases hq; exact (by decide +kernel : ∀ k, k < 3 → tk_b (f_ty 1 k) = true) k hk
  | 2, hq => cases hq; exact (by decide +kernel : ∀ k, k < 8 → tk_b (f_ty 2 k) = true) k hk
  | 3, hq => cases hq; exact (by decide +kernel : ∀ k, k < 8 → tk_b (f_ty 3 k) = true) k hk
  | 4, hq => cases hq; exact (by decide +kernel : ∀ k, k < 12 → tk_b (f_ty 4 k) = true) k hk
  | 5, hq => cases hq; exact (by decide +kernel : ∀ k, k < 8 → tk_b (f_ty 5 k) = true) k hk
  | 6, hq => cases hq; exact (by decide +kernel : ∀ k, k < 13 → tk_b (f_ty 6 k) = true) k hk
  | 7, hq => cases hq; exact (by decide +kernel : ∀ k, k < 8 → tk_b (f_ty 7 k) = true) k hk
  | 8, hq => cases hq; exact (by decide +kernel : ∀ k, k < 13 → tk_b (f_ty 8 k) = true) k hk
  | 9, hq => cases hq; exact (by decide +kernel : ∀ k, k < 6 → tk_b (f_ty 9 k) = true) k hk
  | 10, hq => cases hq; exact (by decide +kernel : ∀ k, k < 17 → tk_b (f_ty 10 k) = true) k hk
  | 11, hq => cases hq; exact (by decide +kernel : ∀ k, k < 11 → tk_b (f_ty 11 k) = true) k hk
  | 12, hq => cases hq; exact (by decide +kernel : ∀ k, k < 111 → tk_b (f_ty 12 k) = true) k hk
  | c + 13, hq => simp [classes] at hq
end
section
def m_Voice_init : mr_T := (⟨"PlainMusic$Voice", "<init>", "()V"⟩, prog_12_method_1_code, 1, none)
theorem d_Voice_init_0 : decode prog_12_method_1_code 0 = .ok (.aload_n 0, 1) := by decide +kernel
theorem d_Voice_init_1 : decode prog_12_method_1_code 1 = .ok (.invokespecial 3, 3) := by decide +kernel
theorem oi_Voice : Cond.methodLink "PlainMusic$Voice" 3 Lib.objectInit ∈ gw ∧ Cond.instanceMethod Lib.objectInit ∈ gw ∧ Cond.code Lib.objectInit ⟨#[0xb1]⟩ 1 none ∈ gw := ⟨(gw_in 277 (by decide +kernel) (by decide +kernel)), (gw_in 161 (by decide +kernel) (by decide +kernel)), (gw_in 162 (by decide +kernel) (by decide +kernel))⟩
theorem d_Voice_init_4 : decode prog_12_method_1_code 4 = .ok (.aload_n 0, 1) := by decide +kernel
theorem d_Voice_init_5 : decode prog_12_method_1_code 5 = .ok (.sipush 300, 3) := by decide +kernel
theorem d_Voice_init_8 : decode prog_12_method_1_code 8 = .ok (.newarray .int, 2) := by decide +kernel
theorem ac_int : Cond.arrayClass .int ∈ gw := (gw_in 219 (by decide +kernel) (by decide +kernel))
theorem d_Voice_init_10 : decode prog_12_method_1_code 10 = .ok (.putfield 9, 3) := by decide +kernel
theorem f_Voice_9 : fl_OK "PlainMusic$Voice" 9 10 0 (.array .int) true := ⟨_, rfl, by decide, (gw_in 278 (by decide +kernel) (by decide +kernel)), rfl, rfl⟩
theorem d_Voice_init_13 : decode prog_12_method_1_code 13 = .ok (.aload_n 0, 1) := by decide +kernel
theorem d_Voice_init_14 : decode prog_12_method_1_code 14 = .ok (.sipush 300, 3) := by decide +kernel
theorem d_Voice_init_17 : decode prog_12_method_1_code 17 = .ok (.newarray .int, 2) := by decide +kernel
theorem d_Voice_init_19 : decode prog_12_method_1_code 19 = .ok (.putfield 15, 3) := by decide +kernel
theorem f_Voice_15 : fl_OK "PlainMusic$Voice" 15 10 1 (.array .int) true := ⟨_, rfl, by decide, (gw_in 279 (by decide +kernel) (by decide +kernel)), rfl, rfl⟩
theorem d_Voice_init_22 : decode prog_12_method_1_code 22 = .ok (.aload_n 0, 1) := by decide +kernel
theorem d_Voice_init_23 : decode prog_12_method_1_code 23 = .ok (.sipush 301, 3) := by decide +kernel
theorem d_Voice_init_26 : decode prog_12_method_1_code 26 = .ok (.newarray .int, 2) := by decide +kernel
theorem d_Voice_init_28 : decode prog_12_method_1_code 28 = .ok (.putfield 18, 3) := by decide +kernel
theorem f_Voice_18 : fl_OK "PlainMusic$Voice" 18 10 3 (.array .int) true := ⟨_, rfl, by decide, (gw_in 281 (by decide +kernel) (by decide +kernel)), rfl, rfl⟩
theorem d_Voice_init_31 : decode prog_12_method_1_code 31 = .ok (.aload_n 0, 1) := by decide +kernel
theorem d_Voice_init_32 : decode prog_12_method_1_code 32 = .ok (.sipush 300, 3) := by decide +kernel
theorem d_Voice_init_35 : decode prog_12_method_1_code 35 = .ok (.newarray .int, 2) := by decide +kernel
theorem d_Voice_init_37 : decode prog_12_method_1_code 37 = .ok (.putfield 21, 3) := by decide +kernel
theorem f_Voice_21 : fl_OK "PlainMusic$Voice" 21 10 4 (.array .int) true := ⟨_, rfl, by decide, (gw_in 282 (by decide +kernel) (by decide +kernel)), rfl, rfl⟩
theorem d_Voice_init_40 : decode prog_12_method_1_code 40 = .ok (.aload_n 0, 1) := by decide +kernel
theorem d_Voice_init_41 : decode prog_12_method_1_code 41 = .ok (.sipush 300, 3) := by decide +kernel
theorem d_Voice_init_44 : decode prog_12_method_1_code 44 = .ok (.newarray .int, 2) := by decide +kernel
theorem d_Voice_init_46 : decode prog_12_method_1_code 46 = .ok (.putfield 24, 3) := by decide +kernel
theorem f_Voice_24 : fl_OK "PlainMusic$Voice" 24 10 5 (.array .int) true := ⟨_, rfl, by decide, (gw_in 283 (by decide +kernel) (by decide +kernel)), rfl, rfl⟩
theorem d_Voice_init_49 : decode prog_12_method_1_code 49 = .ok (.aload_n 0, 1) := by decide +kernel
theorem d_Voice_init_50 : decode prog_12_method_1_code 50 = .ok (.sipush 300, 3) := by decide +kernel
theorem d_Voice_init_53 : decode prog_12_method_1_code 53 = .ok (.newarray .boolean, 2) := by decide +kernel
theorem ac_boolean : Cond.arrayClass .boolean ∈ gw := (gw_in 349 (by decide +kernel) (by decide +kernel))
theorem d_Voice_init_55 : decode prog_12_method_1_code 55 = .ok (.putfield 27, 3) := by decide +kernel
theorem f_Voice_27 : fl_OK "PlainMusic$Voice" 27 10 6 (.array .boolean) true := ⟨_, rfl, by decide, (gw_in 284 (by decide +kernel) (by decide +kernel)), rfl, rfl⟩
theorem d_Voice_init_58 : decode prog_12_method_1_code 58 = .ok (.aload_n 0, 1) := by decide +kernel
theorem d_Voice_init_59 : decode prog_12_method_1_code 59 = .ok (.sipush 300, 3) := by decide +kernel
theorem d_Voice_init_62 : decode prog_12_method_1_code 62 = .ok (.newarray .int, 2) := by decide +kernel
theorem d_Voice_init_64 : decode prog_12_method_1_code 64 = .ok (.putfield 31, 3) := by decide +kernel
theorem f_Voice_31 : fl_OK "PlainMusic$Voice" 31 10 8 (.array .int) true := ⟨_, rfl, by decide, (gw_in 286 (by decide +kernel) (by decide +kernel)), rfl, rfl⟩
theorem d_Voice_init_67 : decode prog_12_method_1_code 67 = .ok (.aload_n 0, 1) := by decide +kernel
theorem d_Voice_init_68 : decode prog_12_method_1_code 68 = .ok (.sipush 300, 3) := by decide +kernel
theorem d_Voice_init_71 : decode prog_12_method_1_code 71 = .ok (.newarray .int, 2) := by decide +kernel
theorem d_Voice_init_73 : decode prog_12_method_1_code 73 = .ok (.putfield 34, 3) := by decide +kernel
theorem f_Voice_34 : fl_OK "PlainMusic$Voice" 34 10 9 (.array .int) true := ⟨_, rfl, by decide, (gw_in 287 (by decide +kernel) (by decide +kernel)), rfl, rfl⟩
theorem d_Voice_init_76 : decode prog_12_method_1_code 76 = .ok (.aload_n 0, 1) := by decide +kernel
theorem d_Voice_init_77 : decode prog_12_method_1_code 77 = .ok (.sipush 301, 3) := by decide +kernel
theorem d_Voice_init_80 : decode prog_12_method_1_code 80 = .ok (.newarray .long, 2) := by decide +kernel
theorem ac_long : Cond.arrayClass .long ∈ gw := (gw_in 220 (by decide +kernel) (by decide +kernel))
theorem d_Voice_init_82 : decode prog_12_method_1_code 82 = .ok (.putfield 37, 3) := by decide +kernel
theorem f_Voice_37 : fl_OK "PlainMusic$Voice" 37 10 10 (.array .long) true := ⟨_, rfl, by decide, (gw_in 288 (by decide +kernel) (by decide +kernel)), rfl, rfl⟩
theorem d_Voice_init_85 : decode prog_12_method_1_code 85 = .ok (.aload_n 0, 1) := by decide +kernel
theorem d_Voice_init_86 : decode prog_12_method_1_code 86 = .ok (.sipush 301, 3) := by decide +kernel
theorem d_Voice_init_89 : decode prog_12_method_1_code 89 = .ok (.newarray .long, 2) := by decide +kernel
theorem d_Voice_init_91 : decode prog_12_method_1_code 91 = .ok (.putfield 41, 3) := by decide +kernel
theorem f_Voice_41 : fl_OK "PlainMusic$Voice" 41 10 11 (.array .long) true := ⟨_, rfl, by decide, (gw_in 291 (by decide +kernel) (by decide +kernel)), rfl, rfl⟩
theorem d_Voice_init_94 : decode prog_12_method_1_code 94 = .ok (.aload_n 0, 1) := by decide +kernel
theorem d_Voice_init_95 : decode prog_12_method_1_code 95 = .ok (.sipush 300, 3) := by decide +kernel
theorem d_Voice_init_98 : decode prog_12_method_1_code 98 = .ok (.newarray .long, 2) := by decide +kernel
theorem d_Voice_init_100 : decode prog_12_method_1_code 100 = .ok (.putfield 44, 3) := by decide +kernel
theorem f_Voice_44 : fl_OK "PlainMusic$Voice" 44 10 12 (.array .long) true := ⟨_, rfl, by decide, (gw_in 294 (by decide +kernel) (by decide +kernel)), rfl, rfl⟩
theorem d_Voice_init_103 : decode prog_12_method_1_code 103 = .ok (.aload_n 0, 1) := by decide +kernel
theorem d_Voice_init_104 : decode prog_12_method_1_code 104 = .ok (.sipush 300, 3) := by decide +kernel
theorem d_Voice_init_107 : decode prog_12_method_1_code 107 = .ok (.newarray .long, 2) := by decide +kernel
theorem d_Voice_init_109 : decode prog_12_method_1_code 109 = .ok (.putfield 47, 3) := by decide +kernel
theorem f_Voice_47 : fl_OK "PlainMusic$Voice" 47 10 13 (.array .long) true := ⟨_, rfl, by decide, (gw_in 297 (by decide +kernel) (by decide +kernel)), rfl, rfl⟩
theorem d_Voice_init_112 : decode prog_12_method_1_code 112 = .ok (.aload_n 0, 1) := by decide +kernel
theorem d_Voice_init_113 : decode prog_12_method_1_code 113 = .ok (.bipush 102, 2) := by decide +kernel
theorem d_Voice_init_115 : decode prog_12_method_1_code 115 = .ok (.newarray .int, 2) := by decide +kernel
theorem d_Voice_init_117 : decode prog_12_method_1_code 117 = .ok (.putfield 50, 3) := by decide +kernel
theorem f_Voice_50 : fl_OK "PlainMusic$Voice" 50 10 15 (.array .int) true := ⟨_, rfl, by decide, (gw_in 305 (by decide +kernel) (by decide +kernel)), rfl, rfl⟩
theorem d_Voice_init_120 : decode prog_12_method_1_code 120 = .ok (.return_, 1) := by decide +kernel
def m_Score_init : mr_T := (⟨"PlainMusic$Score", "<init>", "()V"⟩, prog_8_method_1_code, 2, none)
theorem d_Score_init_0 : decode prog_8_method_1_code 0 = .ok (.aload_n 0, 1) := by decide +kernel
theorem d_Score_init_1 : decode prog_8_method_1_code 1 = .ok (.invokespecial 3, 3) := by decide +kernel
theorem oi_Score : Cond.methodLink "PlainMusic$Score" 3 Lib.objectInit ∈ gw ∧ Cond.instanceMethod Lib.objectInit ∈ gw ∧ Cond.code Lib.objectInit ⟨#[0xb1]⟩ 1 none ∈ gw := ⟨(gw_in 270 (by decide +kernel) (by decide +kernel)), (gw_in 161 (by decide +kernel) (by decide +kernel)), (gw_in 162 (by decide +kernel) (by decide +kernel))⟩
theorem d_Score_init_4 : decode prog_8_method_1_code 4 = .ok (.aload_n 0, 1) := by decide +kernel
theorem d_Score_init_5 : decode prog_8_method_1_code 5 = .ok (.iconst 4, 1) := by decide +kernel
theorem d_Score_init_6 : decode prog_8_method_1_code 6 = .ok (.anewarray 9, 3) := by decide +kernel
theorem cl_Score_9 : Cond.classLink "PlainMusic$Score" 9 "PlainMusic$Voice" ∈ gw := (gw_in 271 (by decide +kernel) (by decide +kernel))
theorem ao_V : Cond.arrayOver (.object RX10) ∈ lw_tbl := (List.mem_of_getElem? (i := 272) (by decide +kernel))
theorem d_Score_init_9 : decode prog_8_method_1_code 9 = .ok (.putfield 11, 3) := by decide +kernel
theorem f_Score_11 : fl_OK "PlainMusic$Score" 11 6 0 (.array (.object "PlainMusic$Voice")) true := ⟨_, rfl, by decide, (gw_in 350 (by decide +kernel) (by decide +kernel)), rfl, rfl⟩
theorem d_Score_init_12 : decode prog_8_method_1_code 12 = .ok (.aload_n 0, 1) := by decide +kernel
theorem d_Score_init_13 : decode prog_8_method_1_code 13 = .ok (.iconst 4, 1) := by decide +kernel
theorem d_Score_init_14 : decode prog_8_method_1_code 14 = .ok (.putfield 17, 3) := by decide +kernel
theorem f_Score_17 : fl_OK "PlainMusic$Score" 17 6 2 .int false := ⟨_, rfl, by decide, (gw_in 355 (by decide +kernel) (by decide +kernel)), rfl, rfl⟩
theorem d_Score_init_17 : decode prog_8_method_1_code 17 = .ok (.aload_n 0, 1) := by decide +kernel
theorem d_Score_init_18 : decode prog_8_method_1_code 18 = .ok (.iconst 4, 1) := by decide +kernel
theorem d_Score_init_19 : decode prog_8_method_1_code 19 = .ok (.putfield 21, 3) := by decide +kernel
theorem f_Score_21 : fl_OK "PlainMusic$Score" 21 6 3 .int false := ⟨_, rfl, by decide, (gw_in 358 (by decide +kernel) (by decide +kernel)), rfl, rfl⟩
theorem d_Score_init_22 : decode prog_8_method_1_code 22 = .ok (.aload_n 0, 1) := by decide +kernel
theorem d_Score_init_23 : decode prog_8_method_1_code 23 = .ok (.bipush 8, 2) := by decide +kernel
theorem d_Score_init_25 : decode prog_8_method_1_code 25 = .ok (.newarray .int, 2) := by decide +kernel
theorem d_Score_init_27 : decode prog_8_method_1_code 27 = .ok (.putfield 24, 3) := by decide +kernel
theorem f_Score_24 : fl_OK "PlainMusic$Score" 24 6 5 (.array .int) true := ⟨_, rfl, by decide, (gw_in 363 (by decide +kernel) (by decide +kernel)), rfl, rfl⟩
theorem d_Score_init_30 : decode prog_8_method_1_code 30 = .ok (.aload_n 0, 1) := by decide +kernel
theorem d_Score_init_31 : decode prog_8_method_1_code 31 = .ok (.bipush 24, 2) := by decide +kernel
theorem d_Score_init_33 : decode prog_8_method_1_code 33 = .ok (.newarray .int, 2) := by decide +kernel
theorem d_Score_init_35 : decode prog_8_method_1_code 35 = .ok (.putfield 28, 3) := by decide +kernel
theorem f_Score_28 : fl_OK "PlainMusic$Score" 28 6 7 (.array .int) true := ⟨_, rfl, by decide, (gw_in 369 (by decide +kernel) (by decide +kernel)), rfl, rfl⟩
theorem d_Score_init_38 : decode prog_8_method_1_code 38 = .ok (.aload_n 0, 1) := by decide +kernel
theorem d_Score_init_39 : decode prog_8_method_1_code 39 = .ok (.bipush 24, 2) := by decide +kernel
theorem d_Score_init_41 : decode prog_8_method_1_code 41 = .ok (.newarray .int, 2) := by decide +kernel
theorem d_Score_init_43 : decode prog_8_method_1_code 43 = .ok (.putfield 31, 3) := by decide +kernel
theorem f_Score_31 : fl_OK "PlainMusic$Score" 31 6 8 (.array .int) true := ⟨_, rfl, by decide, (gw_in 371 (by decide +kernel) (by decide +kernel)), rfl, rfl⟩
theorem d_Score_init_46 : decode prog_8_method_1_code 46 = .ok (.aload_n 0, 1) := by decide +kernel
theorem d_Score_init_47 : decode prog_8_method_1_code 47 = .ok (.bipush 24, 2) := by decide +kernel
theorem d_Score_init_49 : decode prog_8_method_1_code 49 = .ok (.newarray .int, 2) := by decide +kernel
theorem d_Score_init_51 : decode prog_8_method_1_code 51 = .ok (.putfield 34, 3) := by decide +kernel
theorem f_Score_34 : fl_OK "PlainMusic$Score" 34 6 9 (.array .int) true := ⟨_, rfl, by decide, (gw_in 373 (by decide +kernel) (by decide +kernel)), rfl, rfl⟩
theorem d_Score_init_54 : decode prog_8_method_1_code 54 = .ok (.aload_n 0, 1) := by decide +kernel
theorem d_Score_init_55 : decode prog_8_method_1_code 55 = .ok (.bipush 12, 2) := by decide +kernel
theorem d_Score_init_57 : decode prog_8_method_1_code 57 = .ok (.newarray .int, 2) := by decide +kernel
theorem d_Score_init_59 : decode prog_8_method_1_code 59 = .ok (.putfield 37, 3) := by decide +kernel
theorem f_Score_37 : fl_OK "PlainMusic$Score" 37 6 11 (.array .int) true := ⟨_, rfl, by decide, (gw_in 379 (by decide +kernel) (by decide +kernel)), rfl, rfl⟩
theorem d_Score_init_62 : decode prog_8_method_1_code 62 = .ok (.iconst 0, 1) := by decide +kernel
theorem d_Score_init_63 : decode prog_8_method_1_code 63 = .ok (.istore_n 1, 1) := by decide +kernel
theorem d_Score_init_64 : decode prog_8_method_1_code 64 = .ok (.iload_n 1, 1) := by decide +kernel
theorem d_Score_init_65 : decode prog_8_method_1_code 65 = .ok (.aload_n 0, 1) := by decide +kernel
theorem d_Score_init_66 : decode prog_8_method_1_code 66 = .ok (.getfield 11, 3) := by decide +kernel
theorem d_Score_init_69 : decode prog_8_method_1_code 69 = .ok (.arraylength, 1) := by decide +kernel
theorem d_Score_init_70 : decode prog_8_method_1_code 70 = .ok (.if_icmp .ge 22, 3) := by decide +kernel
theorem d_Score_init_73 : decode prog_8_method_1_code 73 = .ok (.aload_n 0, 1) := by decide +kernel
theorem d_Score_init_74 : decode prog_8_method_1_code 74 = .ok (.getfield 11, 3) := by decide +kernel
theorem d_Score_init_77 : decode prog_8_method_1_code 77 = .ok (.iload_n 1, 1) := by decide +kernel
theorem d_Score_init_78 : decode prog_8_method_1_code 78 = .ok (.new 9, 3) := by decide +kernel
theorem d_Score_init_81 : decode prog_8_method_1_code 81 = .ok (.dup, 1) := by decide +kernel
theorem d_Score_init_82 : decode prog_8_method_1_code 82 = .ok (.invokespecial 40, 3) := by decide +kernel
theorem l_Score_40 : ml_OK "PlainMusic$Score" 40 ⟨"PlainMusic$Voice", "<init>", "()V"⟩ := Or.inr ⟨"PlainMusic", (List.mem_of_getElem? (i := 274) (by decide +kernel))⟩
theorem k_Voice_init : mt_OK m_Voice_init 0 2 := ⟨(gw_in 276 (by decide +kernel) (by decide +kernel)), (gw_in 139 (by decide +kernel) (by decide +kernel)), ⟨by decide +kernel, by decide +kernel, by decide +kernel⟩, fun h => absurd h (by decide), fun h => absurd h (by decide), fun _ => ⟨(gw_in 275 (by decide +kernel) (by decide +kernel)), rfl, rfl⟩⟩
theorem d_Score_init_85 : decode prog_8_method_1_code 85 = .ok (.aastore, 1) := by decide +kernel
theorem d_Score_init_86 : decode prog_8_method_1_code 86 = .ok (.iinc 1 1, 3) := by decide +kernel
theorem d_Score_init_89 : decode prog_8_method_1_code 89 = .ok (.goto (-25), 3) := by decide +kernel
theorem d_Score_init_92 : decode prog_8_method_1_code 92 = .ok (.return_, 1) := by decide +kernel
def m_Tokens_init : mr_T := (⟨"PlainMusic$Tokens", "<init>", "()V"⟩, prog_10_method_1_code, 1, none)
theorem d_Tokens_init_0 : decode prog_10_method_1_code 0 = .ok (.aload_n 0, 1) := by decide +kernel
theorem d_Tokens_init_1 : decode prog_10_method_1_code 1 = .ok (.invokespecial 3, 3) := by decide +kernel
theorem oi_Tokens : Cond.methodLink "PlainMusic$Tokens" 3 Lib.objectInit ∈ gw ∧ Cond.instanceMethod Lib.objectInit ∈ gw ∧ Cond.code Lib.objectInit ⟨#[0xb1]⟩ 1 none ∈ gw := ⟨(gw_in 174 (by decide +kernel) (by decide +kernel)), (gw_in 161 (by decide +kernel) (by decide +kernel)), (gw_in 162 (by decide +kernel) (by decide +kernel))⟩
theorem d_Tokens_init_4 : decode prog_10_method_1_code 4 = .ok (.aload_n 0, 1) := by decide +kernel
theorem d_Tokens_init_5 : decode prog_10_method_1_code 5 = .ok (.sipush 2001, 3) := by decide +kernel
theorem d_Tokens_init_8 : decode prog_10_method_1_code 8 = .ok (.newarray .int, 2) := by decide +kernel
theorem d_Tokens_init_10 : decode prog_10_method_1_code 10 = .ok (.putfield 9, 3) := by decide +kernel
theorem f_Tokens_9 : fl_OK "PlainMusic$Tokens" 9 8 0 (.array .int) true := ⟨_, rfl, by decide, (gw_in 175 (by decide +kernel) (by decide +kernel)), rfl, rfl⟩
theorem d_Tokens_init_13 : decode prog_10_method_1_code 13 = .ok (.aload_n 0, 1) := by decide +kernel
theorem d_Tokens_init_14 : decode prog_10_method_1_code 14 = .ok (.sipush 2001, 3) := by decide +kernel
theorem d_Tokens_init_17 : decode prog_10_method_1_code 17 = .ok (.newarray .int, 2) := by decide +kernel
theorem d_Tokens_init_19 : decode prog_10_method_1_code 19 = .ok (.putfield 15, 3) := by decide +kernel
theorem f_Tokens_15 : fl_OK "PlainMusic$Tokens" 15 8 1 (.array .int) true := ⟨_, rfl, by decide, (gw_in 176 (by decide +kernel) (by decide +kernel)), rfl, rfl⟩
theorem d_Tokens_init_22 : decode prog_10_method_1_code 22 = .ok (.aload_n 0, 1) := by decide +kernel
theorem d_Tokens_init_23 : decode prog_10_method_1_code 23 = .ok (.sipush 2001, 3) := by decide +kernel
theorem d_Tokens_init_26 : decode prog_10_method_1_code 26 = .ok (.newarray .long, 2) := by decide +kernel
theorem d_Tokens_init_28 : decode prog_10_method_1_code 28 = .ok (.putfield 18, 3) := by decide +kernel
theorem f_Tokens_18 : fl_OK "PlainMusic$Tokens" 18 8 2 (.array .long) true := ⟨_, rfl, by decide, (gw_in 177 (by decide +kernel) (by decide +kernel)), rfl, rfl⟩
theorem d_Tokens_init_31 : decode prog_10_method_1_code 31 = .ok (.aload_n 0, 1) := by decide +kernel
theorem d_Tokens_init_32 : decode prog_10_method_1_code 32 = .ok (.sipush 2001, 3) := by decide +kernel
theorem d_Tokens_init_35 : decode prog_10_method_1_code 35 = .ok (.newarray .int, 2) := by decide +kernel
theorem d_Tokens_init_37 : decode prog_10_method_1_code 37 = .ok (.putfield 22, 3) := by decide +kernel
theorem f_Tokens_22 : fl_OK "PlainMusic$Tokens" 22 8 3 (.array .int) true := ⟨_, rfl, by decide, (gw_in 178 (by decide +kernel) (by decide +kernel)), rfl, rfl⟩
theorem d_Tokens_init_40 : decode prog_10_method_1_code 40 = .ok (.aload_n 0, 1) := by decide +kernel
theorem d_Tokens_init_41 : decode prog_10_method_1_code 41 = .ok (.iconst 0, 1) := by decide +kernel
theorem d_Tokens_init_42 : decode prog_10_method_1_code 42 = .ok (.newarray .int, 2) := by decide +kernel
theorem d_Tokens_init_44 : decode prog_10_method_1_code 44 = .ok (.putfield 25, 3) := by decide +kernel
theorem f_Tokens_25 : fl_OK "PlainMusic$Tokens" 25 8 6 (.array .int) false := ⟨_, rfl, by decide, (gw_in 181 (by decide +kernel) (by decide +kernel)), rfl, rfl⟩
theorem d_Tokens_init_47 : decode prog_10_method_1_code 47 = .ok (.return_, 1) := by decide +kernel
def m_Parts_init : mr_T := (⟨"PlainMusic$Parts", "<init>", "()V"⟩, prog_6_method_1_code, 1, none)
theorem d_Parts_init_0 : decode prog_6_method_1_code 0 = .ok (.aload_n 0, 1) := by decide +kernel
theorem d_Parts_init_1 : decode prog_6_method_1_code 1 = .ok (.invokespecial 3, 3) := by decide +kernel
theorem oi_Parts : Cond.methodLink "PlainMusic$Parts" 3 Lib.objectInit ∈ gw ∧ Cond.instanceMethod Lib.objectInit ∈ gw ∧ Cond.code Lib.objectInit ⟨#[0xb1]⟩ 1 none ∈ gw := ⟨(gw_in 226 (by decide +kernel) (by decide +kernel)), (gw_in 161 (by decide +kernel) (by decide +kernel)), (gw_in 162 (by decide +kernel) (by decide +kernel))⟩
theorem d_Parts_init_4 : decode prog_6_method_1_code 4 = .ok (.aload_n 0, 1) := by decide +kernel
theorem d_Parts_init_5 : decode prog_6_method_1_code 5 = .ok (.sipush 2000, 3) := by decide +kernel
theorem d_Parts_init_8 : decode prog_6_method_1_code 8 = .ok (.newarray .int, 2) := by decide +kernel
theorem d_Parts_init_10 : decode prog_6_method_1_code 10 = .ok (.putfield 9, 3) := by decide +kernel
theorem f_Parts_9 : fl_OK "PlainMusic$Parts" 9 4 0 (.array .int) true := ⟨_, rfl, by decide, (gw_in 227 (by decide +kernel) (by decide +kernel)), rfl, rfl⟩
theorem d_Parts_init_13 : decode prog_6_method_1_code 13 = .ok (.aload_n 0, 1) := by decide +kernel
theorem d_Parts_init_14 : decode prog_6_method_1_code 14 = .ok (.sipush 2000, 3) := by decide +kernel
theorem d_Parts_init_17 : decode prog_6_method_1_code 17 = .ok (.newarray .int, 2) := by decide +kernel
theorem d_Parts_init_19 : decode prog_6_method_1_code 19 = .ok (.putfield 15, 3) := by decide +kernel
theorem f_Parts_15 : fl_OK "PlainMusic$Parts" 15 4 1 (.array .int) true := ⟨_, rfl, by decide, (gw_in 228 (by decide +kernel) (by decide +kernel)), rfl, rfl⟩
theorem d_Parts_init_22 : decode prog_6_method_1_code 22 = .ok (.aload_n 0, 1) := by decide +kernel
theorem d_Parts_init_23 : decode prog_6_method_1_code 23 = .ok (.sipush 2000, 3) := by decide +kernel
theorem d_Parts_init_26 : decode prog_6_method_1_code 26 = .ok (.newarray .int, 2) := by decide +kernel
theorem d_Parts_init_28 : decode prog_6_method_1_code 28 = .ok (.putfield 18, 3) := by decide +kernel
theorem f_Parts_18 : fl_OK "PlainMusic$Parts" 18 4 2 (.array .int) true := ⟨_, rfl, by decide, (gw_in 229 (by decide +kernel) (by decide +kernel)), rfl, rfl⟩
theorem d_Parts_init_31 : decode prog_6_method_1_code 31 = .ok (.aload_n 0, 1) := by decide +kernel
theorem d_Parts_init_32 : decode prog_6_method_1_code 32 = .ok (.sipush 2000, 3) := by decide +kernel
theorem d_Parts_init_35 : decode prog_6_method_1_code 35 = .ok (.newarray .int, 2) := by decide +kernel
theorem d_Parts_init_37 : decode prog_6_method_1_code 37 = .ok (.putfield 21, 3) := by decide +kernel
theorem f_Parts_21 : fl_OK "PlainMusic$Parts" 21 4 3 (.array .int) true := ⟨_, rfl, by decide, (gw_in 230 (by decide +kernel) (by decide +kernel)), rfl, rfl⟩
theorem d_Parts_init_40 : decode prog_6_method_1_code 40 = .ok (.aload_n 0, 1) := by decide +kernel
theorem d_Parts_init_41 : decode prog_6_method_1_code 41 = .ok (.bipush 7, 2) := by decide +kernel
theorem d_Parts_init_43 : decode prog_6_method_1_code 43 = .ok (.newarray .int, 2) := by decide +kernel
theorem d_Parts_init_45 : decode prog_6_method_1_code 45 = .ok (.putfield 24, 3) := by decide +kernel
theorem f_Parts_24 : fl_OK "PlainMusic$Parts" 24 4 5 (.array .int) true := ⟨_, rfl, by decide, (gw_in 232 (by decide +kernel) (by decide +kernel)), rfl, rfl⟩
theorem d_Parts_init_48 : decode prog_6_method_1_code 48 = .ok (.aload_n 0, 1) := by decide +kernel
theorem d_Parts_init_49 : decode prog_6_method_1_code 49 = .ok (.bipush 7, 2) := by decide +kernel
theorem d_Parts_init_51 : decode prog_6_method_1_code 51 = .ok (.newarray .int, 2) := by decide +kernel
theorem d_Parts_init_53 : decode prog_6_method_1_code 53 = .ok (.putfield 27, 3) := by decide +kernel
theorem f_Parts_27 : fl_OK "PlainMusic$Parts" 27 4 6 (.array .int) true := ⟨_, rfl, by decide, (gw_in 233 (by decide +kernel) (by decide +kernel)), rfl, rfl⟩
theorem d_Parts_init_56 : decode prog_6_method_1_code 56 = .ok (.return_, 1) := by decide +kernel
def m_Reader_init : mr_T := (⟨"PlainMusic$Reader", "<init>", "()V"⟩, prog_7_method_1_code, 1, none)
theorem d_Reader_init_0 : decode prog_7_method_1_code 0 = .ok (.aload_n 0, 1) := by decide +kernel
theorem d_Reader_init_1 : decode prog_7_method_1_code 1 = .ok (.invokespecial 3, 3) := by decide +kernel
theorem oi_Reader : Cond.methodLink "PlainMusic$Reader" 3 Lib.objectInit ∈ gw ∧ Cond.instanceMethod Lib.objectInit ∈ gw ∧ Cond.code Lib.objectInit ⟨#[0xb1]⟩ 1 none ∈ gw := ⟨(gw_in 168 (by decide +kernel) (by decide +kernel)), (gw_in 161 (by decide +kernel) (by decide +kernel)), (gw_in 162 (by decide +kernel) (by decide +kernel))⟩
theorem d_Reader_init_4 : decode prog_7_method_1_code 4 = .ok (.aload_n 0, 1) := by decide +kernel
theorem d_Reader_init_5 : decode prog_7_method_1_code 5 = .ok (.new 9, 3) := by decide +kernel
theorem cl_Reader_9 : Cond.classLink "PlainMusic$Reader" 9 "PlainMusic$Tokens" ∈ gw := (gw_in 169 (by decide +kernel) (by decide +kernel))
theorem d_Reader_init_8 : decode prog_7_method_1_code 8 = .ok (.dup, 1) := by decide +kernel
theorem d_Reader_init_9 : decode prog_7_method_1_code 9 = .ok (.invokespecial 11, 3) := by decide +kernel
theorem l_Reader_11 : ml_OK "PlainMusic$Reader" 11 ⟨"PlainMusic$Tokens", "<init>", "()V"⟩ := Or.inr ⟨"PlainMusic", (List.mem_of_getElem? (i := 171) (by decide +kernel))⟩
theorem k_Tokens_init : mt_OK m_Tokens_init 0 2 := ⟨(gw_in 173 (by decide +kernel) (by decide +kernel)), (gw_in 136 (by decide +kernel) (by decide +kernel)), ⟨by decide +kernel, by decide +kernel, by decide +kernel⟩, fun h => absurd h (by decide), fun h => absurd h (by decide), fun _ => ⟨(gw_in 172 (by decide +kernel) (by decide +kernel)), rfl, rfl⟩⟩
theorem d_Reader_init_12 : decode prog_7_method_1_code 12 = .ok (.putfield 12, 3) := by decide +kernel
theorem f_Reader_12 : fl_OK "PlainMusic$Reader" 12 5 0 (.object "PlainMusic$Tokens") true := ⟨_, rfl, by decide, (gw_in 412 (by decide +kernel) (by decide +kernel)), rfl, rfl⟩
theorem d_Reader_init_15 : decode prog_7_method_1_code 15 = .ok (.aload_n 0, 1) := by decide +kernel
theorem d_Reader_init_16 : decode prog_7_method_1_code 16 = .ok (.new 18, 3) := by decide +kernel
theorem cl_Reader_18 : Cond.classLink "PlainMusic$Reader" 18 "PlainMusic$Parts" ∈ gw := (gw_in 221 (by decide +kernel) (by decide +kernel))
theorem d_Reader_init_19 : decode prog_7_method_1_code 19 = .ok (.dup, 1) := by decide +kernel
theorem d_Reader_init_20 : decode prog_7_method_1_code 20 = .ok (.invokespecial 20, 3) := by decide +kernel
theorem l_Reader_20 : ml_OK "PlainMusic$Reader" 20 ⟨"PlainMusic$Parts", "<init>", "()V"⟩ := Or.inr ⟨"PlainMusic", (List.mem_of_getElem? (i := 223) (by decide +kernel))⟩
theorem k_Parts_init : mt_OK m_Parts_init 0 2 := ⟨(gw_in 225 (by decide +kernel) (by decide +kernel)), (gw_in 137 (by decide +kernel) (by decide +kernel)), ⟨by decide +kernel, by decide +kernel, by decide +kernel⟩, fun h => absurd h (by decide), fun h => absurd h (by decide), fun _ => ⟨(gw_in 224 (by decide +kernel) (by decide +kernel)), rfl, rfl⟩⟩
theorem d_Reader_init_23 : decode prog_7_method_1_code 23 = .ok (.putfield 21, 3) := by decide +kernel
theorem f_Reader_21 : fl_OK "PlainMusic$Reader" 21 5 1 (.object "PlainMusic$Parts") true := ⟨_, rfl, by decide, (gw_in 413 (by decide +kernel) (by decide +kernel)), rfl, rfl⟩
theorem d_Reader_init_26 : decode prog_7_method_1_code 26 = .ok (.aload_n 0, 1) := by decide +kernel
theorem d_Reader_init_27 : decode prog_7_method_1_code 27 = .ok (.bipush 16, 2) := by decide +kernel
theorem d_Reader_init_29 : decode prog_7_method_1_code 29 = .ok (.newarray .long, 2) := by decide +kernel
theorem d_Reader_init_31 : decode prog_7_method_1_code 31 = .ok (.putfield 25, 3) := by decide +kernel
theorem f_Reader_25 : fl_OK "PlainMusic$Reader" 25 5 2 (.array .long) true := ⟨_, rfl, by decide, (gw_in 414 (by decide +kernel) (by decide +kernel)), rfl, rfl⟩
theorem d_Reader_init_34 : decode prog_7_method_1_code 34 = .ok (.aload_n 0, 1) := by decide +kernel
theorem d_Reader_init_35 : decode prog_7_method_1_code 35 = .ok (.new 29, 3) := by decide +kernel
theorem cl_Reader_29 : Cond.classLink "PlainMusic$Reader" 29 "PlainMusic$Score" ∈ gw := (gw_in 265 (by decide +kernel) (by decide +kernel))
theorem d_Reader_init_38 : decode prog_7_method_1_code 38 = .ok (.dup, 1) := by decide +kernel
theorem d_Reader_init_39 : decode prog_7_method_1_code 39 = .ok (.invokespecial 31, 3) := by decide +kernel
theorem l_Reader_31 : ml_OK "PlainMusic$Reader" 31 ⟨"PlainMusic$Score", "<init>", "()V"⟩ := Or.inl (gw_in 267 (by decide +kernel) (by decide +kernel))
theorem k_Score_init : mt_OK m_Score_init 0 2 := ⟨(gw_in 269 (by decide +kernel) (by decide +kernel)), (gw_in 138 (by decide +kernel) (by decide +kernel)), ⟨by decide +kernel, by decide +kernel, by decide +kernel⟩, fun h => absurd h (by decide), fun h => absurd h (by decide), fun _ => ⟨(gw_in 268 (by decide +kernel) (by decide +kernel)), rfl, rfl⟩⟩
theorem d_Reader_init_42 : decode prog_7_method_1_code 42 = .ok (.putfield 32, 3) := by decide +kernel
theorem f_Reader_32 : fl_OK "PlainMusic$Reader" 32 5 5 (.object "PlainMusic$Score") false := ⟨_, rfl, by decide, (gw_in 417 (by decide +kernel) (by decide +kernel)), rfl, rfl⟩
theorem d_Reader_init_45 : decode prog_7_method_1_code 45 = .ok (.return_, 1) := by decide +kernel
def m_Judge_init : mr_T := (⟨"PlainMusic$Judge", "<init>", "()V"⟩, prog_3_method_1_code, 1, none)
theorem d_Judge_init_0 : decode prog_3_method_1_code 0 = .ok (.aload_n 0, 1) := by decide +kernel
theorem d_Judge_init_1 : decode prog_3_method_1_code 1 = .ok (.invokespecial 3, 3) := by decide +kernel
theorem oi_Judge : Cond.methodLink "PlainMusic$Judge" 3 Lib.objectInit ∈ gw ∧ Cond.instanceMethod Lib.objectInit ∈ gw ∧ Cond.code Lib.objectInit ⟨#[0xb1]⟩ 1 none ∈ gw := ⟨(gw_in 445 (by decide +kernel) (by decide +kernel)), (gw_in 161 (by decide +kernel) (by decide +kernel)), (gw_in 162 (by decide +kernel) (by decide +kernel))⟩
theorem d_Judge_init_4 : decode prog_3_method_1_code 4 = .ok (.aload_n 0, 1) := by decide +kernel
theorem d_Judge_init_5 : decode prog_3_method_1_code 5 = .ok (.sipush 6404, 3) := by decide +kernel
theorem d_Judge_init_8 : decode prog_3_method_1_code 8 = .ok (.newarray .int, 2) := by decide +kernel
theorem d_Judge_init_10 : decode prog_3_method_1_code 10 = .ok (.putfield 11, 3) := by decide +kernel
theorem f_Judge_11 : fl_OK "PlainMusic$Judge" 11 1 0 (.array .int) true := ⟨_, rfl, by decide, (gw_in 446 (by decide +kernel) (by decide +kernel)), rfl, rfl⟩
theorem d_Judge_init_13 : decode prog_3_method_1_code 13 = .ok (.aload_n 0, 1) := by decide +kernel
theorem d_Judge_init_14 : decode prog_3_method_1_code 14 = .ok (.iconst 4, 1) := by decide +kernel
theorem d_Judge_init_15 : decode prog_3_method_1_code 15 = .ok (.newarray .int, 2) := by decide +kernel
theorem d_Judge_init_17 : decode prog_3_method_1_code 17 = .ok (.putfield 15, 3) := by decide +kernel
theorem f_Judge_15 : fl_OK "PlainMusic$Judge" 15 1 2 (.array .int) true := ⟨_, rfl, by decide, (gw_in 448 (by decide +kernel) (by decide +kernel)), rfl, rfl⟩
theorem d_Judge_init_20 : decode prog_3_method_1_code 20 = .ok (.return_, 1) := by decide +kernel
def m_Beams_init : mr_T := (⟨"PlainMusic$Beams", "<init>", "()V"⟩, prog_2_method_1_code, 1, none)
theorem d_Beams_init_0 : decode prog_2_method_1_code 0 = .ok (.aload_n 0, 1) := by decide +kernel
theorem d_Beams_init_1 : decode prog_2_method_1_code 1 = .ok (.invokespecial 3, 3) := by decide +kernel
theorem oi_Beams : Cond.methodLink "PlainMusic$Beams" 3 Lib.objectInit ∈ gw ∧ Cond.instanceMethod Lib.objectInit ∈ gw ∧ Cond.code Lib.objectInit ⟨#[0xb1]⟩ 1 none ∈ gw := ⟨(gw_in 461 (by decide +kernel) (by decide +kernel)), (gw_in 161 (by decide +kernel) (by decide +kernel)), (gw_in 162 (by decide +kernel) (by decide +kernel))⟩
theorem d_Beams_init_4 : decode prog_2_method_1_code 4 = .ok (.aload_n 0, 1) := by decide +kernel
theorem d_Beams_init_5 : decode prog_2_method_1_code 5 = .ok (.bipush 14, 2) := by decide +kernel
theorem d_Beams_init_7 : decode prog_2_method_1_code 7 = .ok (.newarray .int, 2) := by decide +kernel
theorem d_Beams_init_9 : decode prog_2_method_1_code 9 = .ok (.putfield 11, 3) := by decide +kernel
theorem f_Beams_11 : fl_OK "PlainMusic$Beams" 11 0 0 (.array .int) true := ⟨_, rfl, by decide, (gw_in 462 (by decide +kernel) (by decide +kernel)), rfl, rfl⟩
theorem d_Beams_init_12 : decode prog_2_method_1_code 12 = .ok (.aload_n 0, 1) := by decide +kernel
theorem d_Beams_init_13 : decode prog_2_method_1_code 13 = .ok (.bipush 15, 2) := by decide +kernel
theorem d_Beams_init_15 : decode prog_2_method_1_code 15 = .ok (.newarray .int, 2) := by decide +kernel
theorem d_Beams_init_17 : decode prog_2_method_1_code 17 = .ok (.putfield 15, 3) := by decide +kernel
theorem f_Beams_15 : fl_OK "PlainMusic$Beams" 15 0 2 (.array .int) true := ⟨_, rfl, by decide, (gw_in 464 (by decide +kernel) (by decide +kernel)), rfl, rfl⟩
theorem d_Beams_init_20 : decode prog_2_method_1_code 20 = .ok (.aload_n 0, 1) := by decide +kernel
theorem d_Beams_init_21 : decode prog_2_method_1_code 21 = .ok (.bipush 15, 2) := by decide +kernel
theorem d_Beams_init_23 : decode prog_2_method_1_code 23 = .ok (.newarray .int, 2) := by decide +kernel
theorem d_Beams_init_25 : decode prog_2_method_1_code 25 = .ok (.putfield 18, 3) := by decide +kernel
theorem f_Beams_18 : fl_OK "PlainMusic$Beams" 18 0 3 (.array .int) true := ⟨_, rfl, by decide, (gw_in 465 (by decide +kernel) (by decide +kernel)), rfl, rfl⟩
theorem d_Beams_init_28 : decode prog_2_method_1_code 28 = .ok (.return_, 1) := by decide +kernel
def m_Page_init : mr_T := (⟨"PlainMusic$Page", "<init>", "()V"⟩, prog_4_method_1_code, 1, none)
theorem d_Page_init_0 : decode prog_4_method_1_code 0 = .ok (.aload_n 0, 1) := by decide +kernel
theorem d_Page_init_1 : decode prog_4_method_1_code 1 = .ok (.invokespecial 3, 3) := by decide +kernel
theorem oi_Page : Cond.methodLink "PlainMusic$Page" 3 Lib.objectInit ∈ gw ∧ Cond.instanceMethod Lib.objectInit ∈ gw ∧ Cond.code Lib.objectInit ⟨#[0xb1]⟩ 1 none ∈ gw := ⟨(gw_in 480 (by decide +kernel) (by decide +kernel)), (gw_in 161 (by decide +kernel) (by decide +kernel)), (gw_in 162 (by decide +kernel) (by decide +kernel))⟩
theorem d_Page_init_4 : decode prog_4_method_1_code 4 = .ok (.aload_n 0, 1) := by decide +kernel
theorem d_Page_init_5 : decode prog_4_method_1_code 5 = .ok (.bipush 14, 2) := by decide +kernel
theorem d_Page_init_7 : decode prog_4_method_1_code 7 = .ok (.newarray .int, 2) := by decide +kernel
theorem d_Page_init_9 : decode prog_4_method_1_code 9 = .ok (.putfield 11, 3) := by decide +kernel
theorem f_Page_11 : fl_OK "PlainMusic$Page" 11 2 0 (.array .int) true := ⟨_, rfl, by decide, (gw_in 481 (by decide +kernel) (by decide +kernel)), rfl, rfl⟩
theorem d_Page_init_12 : decode prog_4_method_1_code 12 = .ok (.aload_n 0, 1) := by decide +kernel
theorem d_Page_init_13 : decode prog_4_method_1_code 13 = .ok (.bipush 14, 2) := by decide +kernel
theorem d_Page_init_15 : decode prog_4_method_1_code 15 = .ok (.newarray .int, 2) := by decide +kernel
theorem d_Page_init_17 : decode prog_4_method_1_code 17 = .ok (.putfield 15, 3) := by decide +kernel
theorem f_Page_15 : fl_OK "PlainMusic$Page" 15 2 2 (.array .int) true := ⟨_, rfl, by decide, (gw_in 483 (by decide +kernel) (by decide +kernel)), rfl, rfl⟩
theorem d_Page_init_20 : decode prog_4_method_1_code 20 = .ok (.aload_n 0, 1) := by decide +kernel
theorem d_Page_init_21 : decode prog_4_method_1_code 21 = .ok (.bipush 15, 2) := by decide +kernel
theorem d_Page_init_23 : decode prog_4_method_1_code 23 = .ok (.newarray .long, 2) := by decide +kernel
theorem d_Page_init_25 : decode prog_4_method_1_code 25 = .ok (.putfield 18, 3) := by decide +kernel
theorem f_Page_18 : fl_OK "PlainMusic$Page" 18 2 3 (.array .long) true := ⟨_, rfl, by decide, (gw_in 484 (by decide +kernel) (by decide +kernel)), rfl, rfl⟩
theorem d_Page_init_28 : decode prog_4_method_1_code 28 = .ok (.aload_n 0, 1) := by decide +kernel
theorem d_Page_init_29 : decode prog_4_method_1_code 29 = .ok (.bipush 15, 2) := by decide +kernel
theorem d_Page_init_31 : decode prog_4_method_1_code 31 = .ok (.newarray .int, 2) := by decide +kernel
theorem d_Page_init_33 : decode prog_4_method_1_code 33 = .ok (.putfield 22, 3) := by decide +kernel
theorem f_Page_22 : fl_OK "PlainMusic$Page" 22 2 4 (.array .int) true := ⟨_, rfl, by decide, (gw_in 485 (by decide +kernel) (by decide +kernel)), rfl, rfl⟩
theorem d_Page_init_36 : decode prog_4_method_1_code 36 = .ok (.aload_n 0, 1) := by decide +kernel
theorem d_Page_init_37 : decode prog_4_method_1_code 37 = .ok (.iconst 4, 1) := by decide +kernel
theorem d_Page_init_38 : decode prog_4_method_1_code 38 = .ok (.newarray .int, 2) := by decide +kernel
theorem d_Page_init_40 : decode prog_4_method_1_code 40 = .ok (.putfield 25, 3) := by decide +kernel
theorem f_Page_25 : fl_OK "PlainMusic$Page" 25 2 5 (.array .int) true := ⟨_, rfl, by decide, (gw_in 486 (by decide +kernel) (by decide +kernel)), rfl, rfl⟩
theorem d_Page_init_43 : decode prog_4_method_1_code 43 = .ok (.aload_n 0, 1) := by decide +kernel
theorem d_Page_init_44 : decode prog_4_method_1_code 44 = .ok (.iconst 4, 1) := by decide +kernel
theorem d_Page_init_45 : decode prog_4_method_1_code 45 = .ok (.newarray .long, 2) := by decide +kernel
theorem d_Page_init_47 : decode prog_4_method_1_code 47 = .ok (.putfield 28, 3) := by decide +kernel
theorem f_Page_28 : fl_OK "PlainMusic$Page" 28 2 6 (.array .long) true := ⟨_, rfl, by decide, (gw_in 487 (by decide +kernel) (by decide +kernel)), rfl, rfl⟩
theorem d_Page_init_50 : decode prog_4_method_1_code 50 = .ok (.aload_n 0, 1) := by decide +kernel
theorem d_Page_init_51 : decode prog_4_method_1_code 51 = .ok (.iconst 4, 1) := by decide +kernel
theorem d_Page_init_52 : decode prog_4_method_1_code 52 = .ok (.newarray .long, 2) := by decide +kernel
theorem d_Page_init_54 : decode prog_4_method_1_code 54 = .ok (.putfield 31, 3) := by decide +kernel
theorem f_Page_31 : fl_OK "PlainMusic$Page" 31 2 7 (.array .long) true := ⟨_, rfl, by decide, (gw_in 488 (by decide +kernel) (by decide +kernel)), rfl, rfl⟩
theorem d_Page_init_57 : decode prog_4_method_1_code 57 = .ok (.return_, 1) := by decide +kernel
def m_Seconds_init : mr_T := (⟨"PlainMusic$Seconds", "<init>", "()V"⟩, prog_9_method_1_code, 1, none)
theorem d_Seconds_init_0 : decode prog_9_method_1_code 0 = .ok (.aload_n 0, 1) := by decide +kernel
theorem d_Seconds_init_1 : decode prog_9_method_1_code 1 = .ok (.invokespecial 3, 3) := by decide +kernel
theorem oi_Seconds : Cond.methodLink "PlainMusic$Seconds" 3 Lib.objectInit ∈ gw ∧ Cond.instanceMethod Lib.objectInit ∈ gw ∧ Cond.code Lib.objectInit ⟨#[0xb1]⟩ 1 none ∈ gw := ⟨(gw_in 511 (by decide +kernel) (by decide +kernel)), (gw_in 161 (by decide +kernel) (by decide +kernel)), (gw_in 162 (by decide +kernel) (by decide +kernel))⟩
theorem d_Seconds_init_4 : decode prog_9_method_1_code 4 = .ok (.aload_n 0, 1) := by decide +kernel
theorem d_Seconds_init_5 : decode prog_9_method_1_code 5 = .ok (.sipush 1563, 3) := by decide +kernel
theorem d_Seconds_init_8 : decode prog_9_method_1_code 8 = .ok (.newarray .long, 2) := by decide +kernel
theorem d_Seconds_init_10 : decode prog_9_method_1_code 10 = .ok (.putfield 11, 3) := by decide +kernel
theorem f_Seconds_11 : fl_OK "PlainMusic$Seconds" 11 7 0 (.array .long) true := ⟨_, rfl, by decide, (gw_in 512 (by decide +kernel) (by decide +kernel)), rfl, rfl⟩
theorem d_Seconds_init_13 : decode prog_9_method_1_code 13 = .ok (.aload_n 0, 1) := by decide +kernel
theorem d_Seconds_init_14 : decode prog_9_method_1_code 14 = .ok (.bipush 8, 2) := by decide +kernel
theorem d_Seconds_init_16 : decode prog_9_method_1_code 16 = .ok (.newarray .int, 2) := by decide +kernel
theorem d_Seconds_init_18 : decode prog_9_method_1_code 18 = .ok (.putfield 15, 3) := by decide +kernel
theorem f_Seconds_15 : fl_OK "PlainMusic$Seconds" 15 7 6 (.array .int) true := ⟨_, rfl, by decide, (gw_in 518 (by decide +kernel) (by decide +kernel)), rfl, rfl⟩
theorem d_Seconds_init_21 : decode prog_9_method_1_code 21 = .ok (.aload_n 0, 1) := by decide +kernel
theorem d_Seconds_init_22 : decode prog_9_method_1_code 22 = .ok (.bipush 8, 2) := by decide +kernel
theorem d_Seconds_init_24 : decode prog_9_method_1_code 24 = .ok (.newarray .int, 2) := by decide +kernel
theorem d_Seconds_init_26 : decode prog_9_method_1_code 26 = .ok (.putfield 19, 3) := by decide +kernel
theorem f_Seconds_19 : fl_OK "PlainMusic$Seconds" 19 7 7 (.array .int) true := ⟨_, rfl, by decide, (gw_in 519 (by decide +kernel) (by decide +kernel)), rfl, rfl⟩
theorem d_Seconds_init_29 : decode prog_9_method_1_code 29 = .ok (.return_, 1) := by decide +kernel
def m_Trees_init : mr_T := (⟨"PlainMusic$Trees", "<init>", "()V"⟩, prog_11_method_1_code, 1, none)
theorem d_Trees_init_0 : decode prog_11_method_1_code 0 = .ok (.aload_n 0, 1) := by decide +kernel
theorem d_Trees_init_1 : decode prog_11_method_1_code 1 = .ok (.invokespecial 3, 3) := by decide +kernel
theorem oi_Trees : Cond.methodLink "PlainMusic$Trees" 3 Lib.objectInit ∈ gw ∧ Cond.instanceMethod Lib.objectInit ∈ gw ∧ Cond.code Lib.objectInit ⟨#[0xb1]⟩ 1 none ∈ gw := ⟨(gw_in 542 (by decide +kernel) (by decide +kernel)), (gw_in 161 (by decide +kernel) (by decide +kernel)), (gw_in 162 (by decide +kernel) (by decide +kernel))⟩
theorem d_Trees_init_4 : decode prog_11_method_1_code 4 = .ok (.aload_n 0, 1) := by decide +kernel
theorem d_Trees_init_5 : decode prog_11_method_1_code 5 = .ok (.sipush 2704, 3) := by decide +kernel
theorem d_Trees_init_8 : decode prog_11_method_1_code 8 = .ok (.newarray .int, 2) := by decide +kernel
theorem d_Trees_init_10 : decode prog_11_method_1_code 10 = .ok (.putfield 11, 3) := by decide +kernel
theorem f_Trees_11 : fl_OK "PlainMusic$Trees" 11 9 0 (.array .int) true := ⟨_, rfl, by decide, (gw_in 543 (by decide +kernel) (by decide +kernel)), rfl, rfl⟩
theorem d_Trees_init_13 : decode prog_11_method_1_code 13 = .ok (.return_, 1) := by decide +kernel
def m_Pairing_init : mr_T := (⟨"PlainMusic$Pairing", "<init>", "()V"⟩, prog_5_method_1_code, 1, none)
theorem d_Pairing_init_0 : decode prog_5_method_1_code 0 = .ok (.aload_n 0, 1) := by decide +kernel
theorem d_Pairing_init_1 : decode prog_5_method_1_code 1 = .ok (.invokespecial 5, 3) := by decide +kernel
theorem oi_Pairing : Cond.methodLink "PlainMusic$Pairing" 5 Lib.objectInit ∈ gw ∧ Cond.instanceMethod Lib.objectInit ∈ gw ∧ Cond.code Lib.objectInit ⟨#[0xb1]⟩ 1 none ∈ gw := ⟨(gw_in 567 (by decide +kernel) (by decide +kernel)), (gw_in 161 (by decide +kernel) (by decide +kernel)), (gw_in 162 (by decide +kernel) (by decide +kernel))⟩
theorem d_Pairing_init_4 : decode prog_5_method_1_code 4 = .ok (.aload_n 0, 1) := by decide +kernel
theorem d_Pairing_init_5 : decode prog_5_method_1_code 5 = .ok (.bipush 80, 2) := by decide +kernel
theorem d_Pairing_init_7 : decode prog_5_method_1_code 7 = .ok (.newarray .int, 2) := by decide +kernel
theorem d_Pairing_init_9 : decode prog_5_method_1_code 9 = .ok (.putfield 11, 3) := by decide +kernel
theorem f_Pairing_11 : fl_OK "PlainMusic$Pairing" 11 3 0 (.array .int) true := ⟨_, rfl, by decide, (gw_in 568 (by decide +kernel) (by decide +kernel)), rfl, rfl⟩
theorem d_Pairing_init_12 : decode prog_5_method_1_code 12 = .ok (.aload_n 0, 1) := by decide +kernel
theorem d_Pairing_init_13 : decode prog_5_method_1_code 13 = .ok (.bipush 80, 2) := by decide +kernel
theorem d_Pairing_init_15 : decode prog_5_method_1_code 15 = .ok (.newarray .int, 2) := by decide +kernel
theorem d_Pairing_init_17 : decode prog_5_method_1_code 17 = .ok (.putfield 15, 3) := by decide +kernel
theorem f_Pairing_15 : fl_OK "PlainMusic$Pairing" 15 3 1 (.array .int) true := ⟨_, rfl, by decide, (gw_in 569 (by decide +kernel) (by decide +kernel)), rfl, rfl⟩
theorem d_Pairing_init_20 : decode prog_5_method_1_code 20 = .ok (.aload_n 0, 1) := by decide +kernel
theorem d_Pairing_init_21 : decode prog_5_method_1_code 21 = .ok (.sipush 1681, 3) := by decide +kernel
theorem d_Pairing_init_24 : decode prog_5_method_1_code 24 = .ok (.newarray .int, 2) := by decide +kernel
theorem d_Pairing_init_26 : decode prog_5_method_1_code 26 = .ok (.putfield 18, 3) := by decide +kernel
theorem f_Pairing_18 : fl_OK "PlainMusic$Pairing" 18 3 2 (.array .int) true := ⟨_, rfl, by decide, (gw_in 570 (by decide +kernel) (by decide +kernel)), rfl, rfl⟩
theorem d_Pairing_init_29 : decode prog_5_method_1_code 29 = .ok (.aload_n 0, 1) := by decide +kernel
theorem d_Pairing_init_30 : decode prog_5_method_1_code 30 = .ok (.sipush 1681, 3) := by decide +kernel
theorem d_Pairing_init_33 : decode prog_5_method_1_code 33 = .ok (.newarray .int, 2) := by decide +kernel
theorem d_Pairing_init_35 : decode prog_5_method_1_code 35 = .ok (.putfield 21, 3) := by decide +kernel
theorem f_Pairing_21 : fl_OK "PlainMusic$Pairing" 21 3 3 (.array .int) true := ⟨_, rfl, by decide, (gw_in 571 (by decide +kernel) (by decide +kernel)), rfl, rfl⟩
theorem d_Pairing_init_38 : decode prog_5_method_1_code 38 = .ok (.aload_n 0, 1) := by decide +kernel
theorem d_Pairing_init_39 : decode prog_5_method_1_code 39 = .ok (.bipush 80, 2) := by decide +kernel
theorem d_Pairing_init_41 : decode prog_5_method_1_code 41 = .ok (.newarray .int, 2) := by decide +kernel
theorem d_Pairing_init_43 : decode prog_5_method_1_code 43 = .ok (.putfield 24, 3) := by decide +kernel
theorem f_Pairing_24 : fl_OK "PlainMusic$Pairing" 24 3 4 (.array .int) true := ⟨_, rfl, by decide, (gw_in 572 (by decide +kernel) (by decide +kernel)), rfl, rfl⟩
theorem d_Pairing_init_46 : decode prog_5_method_1_code 46 = .ok (.return_, 1) := by decide +kernel
def m_PM_init : mr_T := (⟨"PlainMusic", "<init>", "()V"⟩, prog_1_method_1_code, 1, none)
theorem d_PM_init_0 : decode prog_1_method_1_code 0 = .ok (.aload_n 0, 1) := by decide +kernel
theorem d_PM_init_1 : decode prog_1_method_1_code 1 = .ok (.invokespecial 1, 3) := by decide +kernel
theorem oi_PM : Cond.methodLink "PlainMusic" 1 Lib.objectInit ∈ gw ∧ Cond.instanceMethod Lib.objectInit ∈ gw ∧ Cond.code Lib.objectInit ⟨#[0xb1]⟩ 1 none ∈ gw := ⟨(gw_in 160 (by decide +kernel) (by decide +kernel)), (gw_in 161 (by decide +kernel) (by decide +kernel)), (gw_in 162 (by decide +kernel) (by decide +kernel))⟩
theorem d_PM_init_4 : decode prog_1_method_1_code 4 = .ok (.aload_n 0, 1) := by decide +kernel
theorem d_PM_init_5 : decode prog_1_method_1_code 5 = .ok (.sipush 2000, 3) := by decide +kernel
theorem d_PM_init_8 : decode prog_1_method_1_code 8 = .ok (.newarray .int, 2) := by decide +kernel
theorem d_PM_init_10 : decode prog_1_method_1_code 10 = .ok (.putfield 9, 3) := by decide +kernel
theorem f_PM_9 : fl_OK "PlainMusic" 9 11 0 (.array .int) true := ⟨_, rfl, by decide, (gw_in 594 (by decide +kernel) (by decide +kernel)), rfl, rfl⟩
theorem d_PM_init_13 : decode prog_1_method_1_code 13 = .ok (.aload_n 0, 1) := by decide +kernel
theorem d_PM_init_14 : decode prog_1_method_1_code 14 = .ok (.iconst 0, 1) := by decide +kernel
theorem d_PM_init_15 : decode prog_1_method_1_code 15 = .ok (.putfield 13, 3) := by decide +kernel
theorem f_PM_13 : fl_OK "PlainMusic" 13 11 1 .int false := ⟨_, rfl, by decide, (gw_in 595 (by decide +kernel) (by decide +kernel)), rfl, rfl⟩
theorem d_PM_init_18 : decode prog_1_method_1_code 18 = .ok (.aload_n 0, 1) := by decide +kernel
theorem d_PM_init_19 : decode prog_1_method_1_code 19 = .ok (.new 17, 3) := by decide +kernel
theorem cl_PM_17 : Cond.classLink "PlainMusic" 17 "PlainMusic$Reader" ∈ gw := (gw_in 163 (by decide +kernel) (by decide +kernel))
theorem d_PM_init_22 : decode prog_1_method_1_code 22 = .ok (.dup, 1) := by decide +kernel
theorem d_PM_init_23 : decode prog_1_method_1_code 23 = .ok (.invokespecial 19, 3) := by decide +kernel
theorem l_PM_19 : ml_OK "PlainMusic" 19 ⟨"PlainMusic$Reader", "<init>", "()V"⟩ := Or.inr ⟨"PlainMusic", (List.mem_of_getElem? (i := 165) (by decide +kernel))⟩
theorem k_Reader_init : mt_OK m_Reader_init 0 2 := ⟨(gw_in 167 (by decide +kernel) (by decide +kernel)), (gw_in 135 (by decide +kernel) (by decide +kernel)), ⟨by decide +kernel, by decide +kernel, by decide +kernel⟩, fun h => absurd h (by decide), fun h => absurd h (by decide), fun _ => ⟨(gw_in 166 (by decide +kernel) (by decide +kernel)), rfl, rfl⟩⟩
theorem d_PM_init_26 : decode prog_1_method_1_code 26 = .ok (.putfield 20, 3) := by decide +kernel
theorem f_PM_20 : fl_OK "PlainMusic" 20 11 2 (.object "PlainMusic$Reader") true := ⟨_, rfl, by decide, (gw_in 596 (by decide +kernel) (by decide +kernel)), rfl, rfl⟩
theorem d_PM_init_29 : decode prog_1_method_1_code 29 = .ok (.aload_n 0, 1) := by decide +kernel
theorem d_PM_init_30 : decode prog_1_method_1_code 30 = .ok (.new 24, 3) := by decide +kernel
theorem cl_PM_24 : Cond.classLink "PlainMusic" 24 "PlainMusic$Score" ∈ gw := (gw_in 438 (by decide +kernel) (by decide +kernel))
theorem d_PM_init_33 : decode prog_1_method_1_code 33 = .ok (.dup, 1) := by decide +kernel
theorem d_PM_init_34 : decode prog_1_method_1_code 34 = .ok (.invokespecial 26, 3) := by decide +kernel
theorem l_PM_26 : ml_OK "PlainMusic" 26 ⟨"PlainMusic$Score", "<init>", "()V"⟩ := Or.inl (gw_in 439 (by decide +kernel) (by decide +kernel))
theorem d_PM_init_37 : decode prog_1_method_1_code 37 = .ok (.putfield 27, 3) := by decide +kernel
theorem f_PM_27 : fl_OK "PlainMusic" 27 11 3 (.object "PlainMusic$Score") false := ⟨_, rfl, by decide, (gw_in 597 (by decide +kernel) (by decide +kernel)), rfl, rfl⟩
theorem d_PM_init_40 : decode prog_1_method_1_code 40 = .ok (.aload_n 0, 1) := by decide +kernel
theorem d_PM_init_41 : decode prog_1_method_1_code 41 = .ok (.bipush (-2), 2) := by decide +kernel
theorem d_PM_init_43 : decode prog_1_method_1_code 43 = .ok (.putfield 31, 3) := by decide +kernel
theorem f_PM_31 : fl_OK "PlainMusic" 31 11 4 .int false := ⟨_, rfl, by decide, (gw_in 598 (by decide +kernel) (by decide +kernel)), rfl, rfl⟩
theorem d_PM_init_46 : decode prog_1_method_1_code 46 = .ok (.aload_n 0, 1) := by decide +kernel
theorem d_PM_init_47 : decode prog_1_method_1_code 47 = .ok (.new 34, 3) := by decide +kernel
theorem cl_PM_34 : Cond.classLink "PlainMusic" 34 "PlainMusic$Judge" ∈ gw := (gw_in 440 (by decide +kernel) (by decide +kernel))
theorem d_PM_init_50 : decode prog_1_method_1_code 50 = .ok (.dup, 1) := by decide +kernel
theorem d_PM_init_51 : decode prog_1_method_1_code 51 = .ok (.invokespecial 36, 3) := by decide +kernel
theorem l_PM_36 : ml_OK "PlainMusic" 36 ⟨"PlainMusic$Judge", "<init>", "()V"⟩ := Or.inr ⟨"PlainMusic", (List.mem_of_getElem? (i := 442) (by decide +kernel))⟩
theorem k_Judge_init : mt_OK m_Judge_init 0 2 := ⟨(gw_in 444 (by decide +kernel) (by decide +kernel)), (gw_in 140 (by decide +kernel) (by decide +kernel)), ⟨by decide +kernel, by decide +kernel, by decide +kernel⟩, fun h => absurd h (by decide), fun h => absurd h (by decide), fun _ => ⟨(gw_in 443 (by decide +kernel) (by decide +kernel)), rfl, rfl⟩⟩
theorem d_PM_init_54 : decode prog_1_method_1_code 54 = .ok (.putfield 37, 3) := by decide +kernel
theorem f_PM_37 : fl_OK "PlainMusic" 37 11 5 (.object "PlainMusic$Judge") true := ⟨_, rfl, by decide, (gw_in 599 (by decide +kernel) (by decide +kernel)), rfl, rfl⟩
theorem d_PM_init_57 : decode prog_1_method_1_code 57 = .ok (.aload_n 0, 1) := by decide +kernel
theorem d_PM_init_58 : decode prog_1_method_1_code 58 = .ok (.new 41, 3) := by decide +kernel
theorem cl_PM_41 : Cond.classLink "PlainMusic" 41 "PlainMusic$Beams" ∈ gw := (gw_in 456 (by decide +kernel) (by decide +kernel))
theorem d_PM_init_61 : decode prog_1_method_1_code 61 = .ok (.dup, 1) := by decide +kernel
theorem d_PM_init_62 : decode prog_1_method_1_code 62 = .ok (.invokespecial 43, 3) := by decide +kernel
theorem l_PM_43 : ml_OK "PlainMusic" 43 ⟨"PlainMusic$Beams", "<init>", "()V"⟩ := Or.inr ⟨"PlainMusic", (List.mem_of_getElem? (i := 458) (by decide +kernel))⟩
theorem k_Beams_init : mt_OK m_Beams_init 0 2 := ⟨(gw_in 460 (by decide +kernel) (by decide +kernel)), (gw_in 141 (by decide +kernel) (by decide +kernel)), ⟨by decide +kernel, by decide +kernel, by decide +kernel⟩, fun h => absurd h (by decide), fun h => absurd h (by decide), fun _ => ⟨(gw_in 459 (by decide +kernel) (by decide +kernel)), rfl, rfl⟩⟩
theorem d_PM_init_65 : decode prog_1_method_1_code 65 = .ok (.putfield 44, 3) := by decide +kernel
theorem f_PM_44 : fl_OK "PlainMusic" 44 11 6 (.object "PlainMusic$Beams") true := ⟨_, rfl, by decide, (gw_in 600 (by decide +kernel) (by decide +kernel)), rfl, rfl⟩
theorem d_PM_init_68 : decode prog_1_method_1_code 68 = .ok (.aload_n 0, 1) := by decide +kernel
theorem d_PM_init_69 : decode prog_1_method_1_code 69 = .ok (.new 48, 3) := by decide +kernel
theorem cl_PM_48 : Cond.classLink "PlainMusic" 48 "PlainMusic$Page" ∈ gw := (gw_in 475 (by decide +kernel) (by decide +kernel))
theorem d_PM_init_72 : decode prog_1_method_1_code 72 = .ok (.dup, 1) := by decide +kernel
theorem d_PM_init_73 : decode prog_1_method_1_code 73 = .ok (.invokespecial 50, 3) := by decide +kernel
theorem l_PM_50 : ml_OK "PlainMusic" 50 ⟨"PlainMusic$Page", "<init>", "()V"⟩ := Or.inr ⟨"PlainMusic", (List.mem_of_getElem? (i := 477) (by decide +kernel))⟩
theorem k_Page_init : mt_OK m_Page_init 0 2 := ⟨(gw_in 479 (by decide +kernel) (by decide +kernel)), (gw_in 142 (by decide +kernel) (by decide +kernel)), ⟨by decide +kernel, by decide +kernel, by decide +kernel⟩, fun h => absurd h (by decide), fun h => absurd h (by decide), fun _ => ⟨(gw_in 478 (by decide +kernel) (by decide +kernel)), rfl, rfl⟩⟩
theorem d_PM_init_76 : decode prog_1_method_1_code 76 = .ok (.putfield 51, 3) := by decide +kernel
theorem f_PM_51 : fl_OK "PlainMusic" 51 11 7 (.object "PlainMusic$Page") true := ⟨_, rfl, by decide, (gw_in 601 (by decide +kernel) (by decide +kernel)), rfl, rfl⟩
theorem d_PM_init_79 : decode prog_1_method_1_code 79 = .ok (.aload_n 0, 1) := by decide +kernel
theorem d_PM_init_80 : decode prog_1_method_1_code 80 = .ok (.new 55, 3) := by decide +kernel
theorem cl_PM_55 : Cond.classLink "PlainMusic" 55 "PlainMusic$Seconds" ∈ gw := (gw_in 506 (by decide +kernel) (by decide +kernel))
theorem d_PM_init_83 : decode prog_1_method_1_code 83 = .ok (.dup, 1) := by decide +kernel
theorem d_PM_init_84 : decode prog_1_method_1_code 84 = .ok (.invokespecial 57, 3) := by decide +kernel
theorem l_PM_57 : ml_OK "PlainMusic" 57 ⟨"PlainMusic$Seconds", "<init>", "()V"⟩ := Or.inr ⟨"PlainMusic", (List.mem_of_getElem? (i := 508) (by decide +kernel))⟩
theorem k_Seconds_init : mt_OK m_Seconds_init 0 2 := ⟨(gw_in 510 (by decide +kernel) (by decide +kernel)), (gw_in 143 (by decide +kernel) (by decide +kernel)), ⟨by decide +kernel, by decide +kernel, by decide +kernel⟩, fun h => absurd h (by decide), fun h => absurd h (by decide), fun _ => ⟨(gw_in 509 (by decide +kernel) (by decide +kernel)), rfl, rfl⟩⟩
theorem d_PM_init_87 : decode prog_1_method_1_code 87 = .ok (.putfield 58, 3) := by decide +kernel
theorem f_PM_58 : fl_OK "PlainMusic" 58 11 8 (.object "PlainMusic$Seconds") true := ⟨_, rfl, by decide, (gw_in 602 (by decide +kernel) (by decide +kernel)), rfl, rfl⟩
theorem d_PM_init_90 : decode prog_1_method_1_code 90 = .ok (.aload_n 0, 1) := by decide +kernel
theorem d_PM_init_91 : decode prog_1_method_1_code 91 = .ok (.new 62, 3) := by decide +kernel
theorem cl_PM_62 : Cond.classLink "PlainMusic" 62 "PlainMusic$Trees" ∈ gw := (gw_in 537 (by decide +kernel) (by decide +kernel))
theorem d_PM_init_94 : decode prog_1_method_1_code 94 = .ok (.dup, 1) := by decide +kernel
theorem d_PM_init_95 : decode prog_1_method_1_code 95 = .ok (.invokespecial 64, 3) := by decide +kernel
theorem l_PM_64 : ml_OK "PlainMusic" 64 ⟨"PlainMusic$Trees", "<init>", "()V"⟩ := Or.inr ⟨"PlainMusic", (List.mem_of_getElem? (i := 539) (by decide +kernel))⟩
theorem k_Trees_init : mt_OK m_Trees_init 0 2 := ⟨(gw_in 541 (by decide +kernel) (by decide +kernel)), (gw_in 144 (by decide +kernel) (by decide +kernel)), ⟨by decide +kernel, by decide +kernel, by decide +kernel⟩, fun h => absurd h (by decide), fun h => absurd h (by decide), fun _ => ⟨(gw_in 540 (by decide +kernel) (by decide +kernel)), rfl, rfl⟩⟩
theorem d_PM_init_98 : decode prog_1_method_1_code 98 = .ok (.putfield 65, 3) := by decide +kernel
theorem f_PM_65 : fl_OK "PlainMusic" 65 11 9 (.object "PlainMusic$Trees") true := ⟨_, rfl, by decide, (gw_in 603 (by decide +kernel) (by decide +kernel)), rfl, rfl⟩
theorem d_PM_init_101 : decode prog_1_method_1_code 101 = .ok (.aload_n 0, 1) := by decide +kernel
theorem d_PM_init_102 : decode prog_1_method_1_code 102 = .ok (.new 69, 3) := by decide +kernel
theorem cl_PM_69 : Cond.classLink "PlainMusic" 69 "PlainMusic$Pairing" ∈ gw := (gw_in 562 (by decide +kernel) (by decide +kernel))
theorem d_PM_init_105 : decode prog_1_method_1_code 105 = .ok (.dup, 1) := by decide +kernel
theorem d_PM_init_106 : decode prog_1_method_1_code 106 = .ok (.invokespecial 71, 3) := by decide +kernel
theorem l_PM_71 : ml_OK "PlainMusic" 71 ⟨"PlainMusic$Pairing", "<init>", "()V"⟩ := Or.inr ⟨"PlainMusic", (List.mem_of_getElem? (i := 564) (by decide +kernel))⟩
theorem k_Pairing_init : mt_OK m_Pairing_init 0 2 := ⟨(gw_in 566 (by decide +kernel) (by decide +kernel)), (gw_in 145 (by decide +kernel) (by decide +kernel)), ⟨by decide +kernel, by decide +kernel, by decide +kernel⟩, fun h => absurd h (by decide), fun h => absurd h (by decide), fun _ => ⟨(gw_in 565 (by decide +kernel) (by decide +kernel)), rfl, rfl⟩⟩
theorem d_PM_init_109 : decode prog_1_method_1_code 109 = .ok (.putfield 72, 3) := by decide +kernel
theorem f_PM_72 : fl_OK "PlainMusic" 72 11 10 (.object "PlainMusic$Pairing") true := ⟨_, rfl, by decide, (gw_in 604 (by decide +kernel) (by decide +kernel)), rfl, rfl⟩
theorem d_PM_init_112 : decode prog_1_method_1_code 112 = .ok (.return_, 1) := by decide +kernel
def m_MD_init : mr_T := (⟨"PlainMusicModel", "<init>", "()V"⟩, prog_14_method_1_code, 1, none)
theorem d_MD_init_0 : decode prog_14_method_1_code 0 = .ok (.aload_n 0, 1) := by decide +kernel
theorem d_MD_init_1 : decode prog_14_method_1_code 1 = .ok (.invokespecial 1, 3) := by decide +kernel
theorem oi_MD : Cond.methodLink "PlainMusicModel" 1 Lib.objectInit ∈ gw ∧ Cond.instanceMethod Lib.objectInit ∈ gw ∧ Cond.code Lib.objectInit ⟨#[0xb1]⟩ 1 none ∈ gw := ⟨(gw_in 1481 (by decide +kernel) (by decide +kernel)), (gw_in 161 (by decide +kernel) (by decide +kernel)), (gw_in 162 (by decide +kernel) (by decide +kernel))⟩
theorem d_MD_init_4 : decode prog_14_method_1_code 4 = .ok (.aload_n 0, 1) := by decide +kernel
theorem d_MD_init_5 : decode prog_14_method_1_code 5 = .ok (.sipush 2000, 3) := by decide +kernel
theorem d_MD_init_8 : decode prog_14_method_1_code 8 = .ok (.newarray .int, 2) := by decide +kernel
theorem d_MD_init_10 : decode prog_14_method_1_code 10 = .ok (.putfield 7, 3) := by decide +kernel
theorem f_MD_7 : fl_OK "PlainMusicModel" 7 12 0 (.array .int) true := ⟨_, rfl, by decide, (gw_in 1482 (by decide +kernel) (by decide +kernel)), rfl, rfl⟩
theorem d_MD_init_13 : decode prog_14_method_1_code 13 = .ok (.aload_n 0, 1) := by decide +kernel
theorem d_MD_init_14 : decode prog_14_method_1_code 14 = .ok (.bipush (-2), 2) := by decide +kernel
theorem d_MD_init_16 : decode prog_14_method_1_code 16 = .ok (.putfield 13, 3) := by decide +kernel
theorem f_MD_13 : fl_OK "PlainMusicModel" 13 12 13 .int false := ⟨_, rfl, by decide, (gw_in 1495 (by decide +kernel) (by decide +kernel)), rfl, rfl⟩
theorem d_MD_init_19 : decode prog_14_method_1_code 19 = .ok (.aload_n 0, 1) := by decide +kernel
theorem d_MD_init_20 : decode prog_14_method_1_code 20 = .ok (.iconst 2, 1) := by decide +kernel
theorem d_MD_init_21 : decode prog_14_method_1_code 21 = .ok (.newarray .int, 2) := by decide +kernel
theorem d_MD_init_23 : decode prog_14_method_1_code 23 = .ok (.putfield 17, 3) := by decide +kernel
theorem f_MD_17 : fl_OK "PlainMusicModel" 17 12 14 (.array .int) true := ⟨_, rfl, by decide, (gw_in 1496 (by decide +kernel) (by decide +kernel)), rfl, rfl⟩
theorem d_MD_init_26 : decode prog_14_method_1_code 26 = .ok (.aload_n 0, 1) := by decide +kernel
theorem d_MD_init_27 : decode prog_14_method_1_code 27 = .ok (.iconst 2, 1) := by decide +kernel
theorem d_MD_init_28 : decode prog_14_method_1_code 28 = .ok (.newarray .int, 2) := by decide +kernel
theorem d_MD_init_30 : decode prog_14_method_1_code 30 = .ok (.putfield 20, 3) := by decide +kernel
theorem f_MD_20 : fl_OK "PlainMusicModel" 20 12 15 (.array .int) true := ⟨_, rfl, by decide, (gw_in 1497 (by decide +kernel) (by decide +kernel)), rfl, rfl⟩
theorem d_MD_init_33 : decode prog_14_method_1_code 33 = .ok (.aload_n 0, 1) := by decide +kernel
theorem d_MD_init_34 : decode prog_14_method_1_code 34 = .ok (.iconst 2, 1) := by decide +kernel
theorem d_MD_init_35 : decode prog_14_method_1_code 35 = .ok (.newarray .int, 2) := by decide +kernel
theorem d_MD_init_37 : decode prog_14_method_1_code 37 = .ok (.putfield 23, 3) := by decide +kernel
theorem f_MD_23 : fl_OK "PlainMusicModel" 23 12 16 (.array .int) true := ⟨_, rfl, by decide, (gw_in 1498 (by decide +kernel) (by decide +kernel)), rfl, rfl⟩
theorem d_MD_init_40 : decode prog_14_method_1_code 40 = .ok (.aload_n 0, 1) := by decide +kernel
theorem d_MD_init_41 : decode prog_14_method_1_code 41 = .ok (.iconst 2, 1) := by decide +kernel
theorem d_MD_init_42 : decode prog_14_method_1_code 42 = .ok (.newarray .int, 2) := by decide +kernel
theorem d_MD_init_44 : decode prog_14_method_1_code 44 = .ok (.putfield 26, 3) := by decide +kernel
theorem f_MD_26 : fl_OK "PlainMusicModel" 26 12 17 (.array .int) true := ⟨_, rfl, by decide, (gw_in 1499 (by decide +kernel) (by decide +kernel)), rfl, rfl⟩
theorem d_MD_init_47 : decode prog_14_method_1_code 47 = .ok (.aload_n 0, 1) := by decide +kernel
theorem d_MD_init_48 : decode prog_14_method_1_code 48 = .ok (.bipush 16, 2) := by decide +kernel
theorem d_MD_init_50 : decode prog_14_method_1_code 50 = .ok (.newarray .int, 2) := by decide +kernel
theorem d_MD_init_52 : decode prog_14_method_1_code 52 = .ok (.putfield 29, 3) := by decide +kernel
theorem f_MD_29 : fl_OK "PlainMusicModel" 29 12 18 (.array .int) true := ⟨_, rfl, by decide, (gw_in 1500 (by decide +kernel) (by decide +kernel)), rfl, rfl⟩
theorem d_MD_init_55 : decode prog_14_method_1_code 55 = .ok (.aload_n 0, 1) := by decide +kernel
theorem d_MD_init_56 : decode prog_14_method_1_code 56 = .ok (.iconst 2, 1) := by decide +kernel
theorem d_MD_init_57 : decode prog_14_method_1_code 57 = .ok (.newarray .int, 2) := by decide +kernel
theorem d_MD_init_59 : decode prog_14_method_1_code 59 = .ok (.putfield 32, 3) := by decide +kernel
theorem f_MD_32 : fl_OK "PlainMusicModel" 32 12 19 (.array .int) true := ⟨_, rfl, by decide, (gw_in 1501 (by decide +kernel) (by decide +kernel)), rfl, rfl⟩
theorem d_MD_init_62 : decode prog_14_method_1_code 62 = .ok (.aload_n 0, 1) := by decide +kernel
theorem d_MD_init_63 : decode prog_14_method_1_code 63 = .ok (.bipush 48, 2) := by decide +kernel
theorem d_MD_init_65 : decode prog_14_method_1_code 65 = .ok (.newarray .int, 2) := by decide +kernel
theorem d_MD_init_67 : decode prog_14_method_1_code 67 = .ok (.putfield 35, 3) := by decide +kernel
theorem f_MD_35 : fl_OK "PlainMusicModel" 35 12 20 (.array .int) true := ⟨_, rfl, by decide, (gw_in 1502 (by decide +kernel) (by decide +kernel)), rfl, rfl⟩
theorem d_MD_init_70 : decode prog_14_method_1_code 70 = .ok (.aload_n 0, 1) := by decide +kernel
theorem d_MD_init_71 : decode prog_14_method_1_code 71 = .ok (.bipush 48, 2) := by decide +kernel
theorem d_MD_init_73 : decode prog_14_method_1_code 73 = .ok (.newarray .int, 2) := by decide +kernel
theorem d_MD_init_75 : decode prog_14_method_1_code 75 = .ok (.putfield 38, 3) := by decide +kernel
theorem f_MD_38 : fl_OK "PlainMusicModel" 38 12 21 (.array .int) true := ⟨_, rfl, by decide, (gw_in 1503 (by decide +kernel) (by decide +kernel)), rfl, rfl⟩
theorem d_MD_init_78 : decode prog_14_method_1_code 78 = .ok (.aload_n 0, 1) := by decide +kernel
theorem d_MD_init_79 : decode prog_14_method_1_code 79 = .ok (.bipush 48, 2) := by decide +kernel
theorem d_MD_init_81 : decode prog_14_method_1_code 81 = .ok (.newarray .int, 2) := by decide +kernel
theorem d_MD_init_83 : decode prog_14_method_1_code 83 = .ok (.putfield 41, 3) := by decide +kernel
theorem f_MD_41 : fl_OK "PlainMusicModel" 41 12 22 (.array .int) true := ⟨_, rfl, by decide, (gw_in 1504 (by decide +kernel) (by decide +kernel)), rfl, rfl⟩
theorem d_MD_init_86 : decode prog_14_method_1_code 86 = .ok (.aload_n 0, 1) := by decide +kernel
theorem d_MD_init_87 : decode prog_14_method_1_code 87 = .ok (.iconst 2, 1) := by decide +kernel
theorem d_MD_init_88 : decode prog_14_method_1_code 88 = .ok (.newarray .int, 2) := by decide +kernel
theorem d_MD_init_90 : decode prog_14_method_1_code 90 = .ok (.putfield 44, 3) := by decide +kernel
theorem f_MD_44 : fl_OK "PlainMusicModel" 44 12 23 (.array .int) true := ⟨_, rfl, by decide, (gw_in 1505 (by decide +kernel) (by decide +kernel)), rfl, rfl⟩
theorem d_MD_init_93 : decode prog_14_method_1_code 93 = .ok (.aload_n 0, 1) := by decide +kernel
theorem d_MD_init_94 : decode prog_14_method_1_code 94 = .ok (.bipush 24, 2) := by decide +kernel
theorem d_MD_init_96 : decode prog_14_method_1_code 96 = .ok (.newarray .int, 2) := by decide +kernel
theorem d_MD_init_98 : decode prog_14_method_1_code 98 = .ok (.putfield 47, 3) := by decide +kernel
theorem f_MD_47 : fl_OK "PlainMusicModel" 47 12 24 (.array .int) true := ⟨_, rfl, by decide, (gw_in 1506 (by decide +kernel) (by decide +kernel)), rfl, rfl⟩
theorem d_MD_init_101 : decode prog_14_method_1_code 101 = .ok (.aload_n 0, 1) := by decide +kernel
theorem d_MD_init_102 : decode prog_14_method_1_code 102 = .ok (.iconst 2, 1) := by decide +kernel
theorem d_MD_init_103 : decode prog_14_method_1_code 103 = .ok (.newarray .int, 2) := by decide +kernel
theorem d_MD_init_105 : decode prog_14_method_1_code 105 = .ok (.putfield 50, 3) := by decide +kernel
theorem f_MD_50 : fl_OK "PlainMusicModel" 50 12 25 (.array .int) true := ⟨_, rfl, by decide, (gw_in 1507 (by decide +kernel) (by decide +kernel)), rfl, rfl⟩
theorem d_MD_init_108 : decode prog_14_method_1_code 108 = .ok (.aload_n 0, 1) := by decide +kernel
theorem d_MD_init_109 : decode prog_14_method_1_code 109 = .ok (.bipush 32, 2) := by decide +kernel
theorem d_MD_init_111 : decode prog_14_method_1_code 111 = .ok (.newarray .long, 2) := by decide +kernel
theorem d_MD_init_113 : decode prog_14_method_1_code 113 = .ok (.putfield 53, 3) := by decide +kernel
theorem f_MD_53 : fl_OK "PlainMusicModel" 53 12 26 (.array .long) true := ⟨_, rfl, by decide, (gw_in 1508 (by decide +kernel) (by decide +kernel)), rfl, rfl⟩
theorem d_MD_init_116 : decode prog_14_method_1_code 116 = .ok (.aload_n 0, 1) := by decide +kernel
theorem d_MD_init_117 : decode prog_14_method_1_code 117 = .ok (.bipush 8, 2) := by decide +kernel
theorem d_MD_init_119 : decode prog_14_method_1_code 119 = .ok (.newarray .int, 2) := by decide +kernel
theorem d_MD_init_121 : decode prog_14_method_1_code 121 = .ok (.putfield 57, 3) := by decide +kernel
theorem f_MD_57 : fl_OK "PlainMusicModel" 57 12 27 (.array .int) true := ⟨_, rfl, by decide, (gw_in 1509 (by decide +kernel) (by decide +kernel)), rfl, rfl⟩
theorem d_MD_init_124 : decode prog_14_method_1_code 124 = .ok (.aload_n 0, 1) := by decide +kernel
theorem d_MD_init_125 : decode prog_14_method_1_code 125 = .ok (.bipush 8, 2) := by decide +kernel
theorem d_MD_init_127 : decode prog_14_method_1_code 127 = .ok (.newarray .int, 2) := by decide +kernel
theorem d_MD_init_129 : decode prog_14_method_1_code 129 = .ok (.putfield 60, 3) := by decide +kernel
theorem f_MD_60 : fl_OK "PlainMusicModel" 60 12 28 (.array .int) true := ⟨_, rfl, by decide, (gw_in 1510 (by decide +kernel) (by decide +kernel)), rfl, rfl⟩
theorem d_MD_init_132 : decode prog_14_method_1_code 132 = .ok (.aload_n 0, 1) := by decide +kernel
theorem d_MD_init_133 : decode prog_14_method_1_code 133 = .ok (.sipush 2400, 3) := by decide +kernel
theorem d_MD_init_136 : decode prog_14_method_1_code 136 = .ok (.newarray .long, 2) := by decide +kernel
theorem d_MD_init_138 : decode prog_14_method_1_code 138 = .ok (.putfield 63, 3) := by decide +kernel
theorem f_MD_63 : fl_OK "PlainMusicModel" 63 12 29 (.array .long) true := ⟨_, rfl, by decide, (gw_in 1511 (by decide +kernel) (by decide +kernel)), rfl, rfl⟩
theorem d_MD_init_141 : decode prog_14_method_1_code 141 = .ok (.aload_n 0, 1) := by decide +kernel
theorem d_MD_init_142 : decode prog_14_method_1_code 142 = .ok (.sipush 2400, 3) := by decide +kernel
theorem d_MD_init_145 : decode prog_14_method_1_code 145 = .ok (.newarray .long, 2) := by decide +kernel
theorem d_MD_init_147 : decode prog_14_method_1_code 147 = .ok (.putfield 66, 3) := by decide +kernel
theorem f_MD_66 : fl_OK "PlainMusicModel" 66 12 30 (.array .long) true := ⟨_, rfl, by decide, (gw_in 1512 (by decide +kernel) (by decide +kernel)), rfl, rfl⟩
theorem d_MD_init_150 : decode prog_14_method_1_code 150 = .ok (.aload_n 0, 1) := by decide +kernel
theorem d_MD_init_151 : decode prog_14_method_1_code 151 = .ok (.sipush 2400, 3) := by decide +kernel
theorem d_MD_init_154 : decode prog_14_method_1_code 154 = .ok (.newarray .long, 2) := by decide +kernel
theorem d_MD_init_156 : decode prog_14_method_1_code 156 = .ok (.putfield 69, 3) := by decide +kernel
theorem f_MD_69 : fl_OK "PlainMusicModel" 69 12 31 (.array .long) true := ⟨_, rfl, by decide, (gw_in 1513 (by decide +kernel) (by decide +kernel)), rfl, rfl⟩
theorem d_MD_init_159 : decode prog_14_method_1_code 159 = .ok (.aload_n 0, 1) := by decide +kernel
theorem d_MD_init_160 : decode prog_14_method_1_code 160 = .ok (.sipush 2400, 3) := by decide +kernel
theorem d_MD_init_163 : decode prog_14_method_1_code 163 = .ok (.newarray .long, 2) := by decide +kernel
theorem d_MD_init_165 : decode prog_14_method_1_code 165 = .ok (.putfield 72, 3) := by decide +kernel
theorem f_MD_72 : fl_OK "PlainMusicModel" 72 12 32 (.array .long) true := ⟨_, rfl, by decide, (gw_in 1514 (by decide +kernel) (by decide +kernel)), rfl, rfl⟩
theorem d_MD_init_168 : decode prog_14_method_1_code 168 = .ok (.aload_n 0, 1) := by decide +kernel
theorem d_MD_init_169 : decode prog_14_method_1_code 169 = .ok (.sipush 2400, 3) := by decide +kernel
theorem d_MD_init_172 : decode prog_14_method_1_code 172 = .ok (.newarray .int, 2) := by decide +kernel
theorem d_MD_init_174 : decode prog_14_method_1_code 174 = .ok (.putfield 75, 3) := by decide +kernel
theorem f_MD_75 : fl_OK "PlainMusicModel" 75 12 33 (.array .int) true := ⟨_, rfl, by decide, (gw_in 1515 (by decide +kernel) (by decide +kernel)), rfl, rfl⟩
theorem d_MD_init_177 : decode prog_14_method_1_code 177 = .ok (.aload_n 0, 1) := by decide +kernel
theorem d_MD_init_178 : decode prog_14_method_1_code 178 = .ok (.sipush 9600, 3) := by decide +kernel
theorem d_MD_init_181 : decode prog_14_method_1_code 181 = .ok (.newarray .int, 2) := by decide +kernel
theorem d_MD_init_183 : decode prog_14_method_1_code 183 = .ok (.putfield 78, 3) := by decide +kernel
theorem f_MD_78 : fl_OK "PlainMusicModel" 78 12 34 (.array .int) true := ⟨_, rfl, by decide, (gw_in 1516 (by decide +kernel) (by decide +kernel)), rfl, rfl⟩
theorem d_MD_init_186 : decode prog_14_method_1_code 186 = .ok (.aload_n 0, 1) := by decide +kernel
theorem d_MD_init_187 : decode prog_14_method_1_code 187 = .ok (.sipush 9600, 3) := by decide +kernel
theorem d_MD_init_190 : decode prog_14_method_1_code 190 = .ok (.newarray .int, 2) := by decide +kernel
theorem d_MD_init_192 : decode prog_14_method_1_code 192 = .ok (.putfield 81, 3) := by decide +kernel
theorem f_MD_81 : fl_OK "PlainMusicModel" 81 12 35 (.array .int) true := ⟨_, rfl, by decide, (gw_in 1517 (by decide +kernel) (by decide +kernel)), rfl, rfl⟩
theorem d_MD_init_195 : decode prog_14_method_1_code 195 = .ok (.aload_n 0, 1) := by decide +kernel
theorem d_MD_init_196 : decode prog_14_method_1_code 196 = .ok (.sipush 2400, 3) := by decide +kernel
theorem d_MD_init_199 : decode prog_14_method_1_code 199 = .ok (.newarray .int, 2) := by decide +kernel
theorem d_MD_init_201 : decode prog_14_method_1_code 201 = .ok (.putfield 84, 3) := by decide +kernel
theorem f_MD_84 : fl_OK "PlainMusicModel" 84 12 36 (.array .int) true := ⟨_, rfl, by decide, (gw_in 1518 (by decide +kernel) (by decide +kernel)), rfl, rfl⟩
theorem d_MD_init_204 : decode prog_14_method_1_code 204 = .ok (.aload_n 0, 1) := by decide +kernel
theorem d_MD_init_205 : decode prog_14_method_1_code 205 = .ok (.sipush 2400, 3) := by decide +kernel
theorem d_MD_init_208 : decode prog_14_method_1_code 208 = .ok (.newarray .boolean, 2) := by decide +kernel
theorem d_MD_init_210 : decode prog_14_method_1_code 210 = .ok (.putfield 87, 3) := by decide +kernel
theorem f_MD_87 : fl_OK "PlainMusicModel" 87 12 37 (.array .boolean) true := ⟨_, rfl, by decide, (gw_in 1519 (by decide +kernel) (by decide +kernel)), rfl, rfl⟩
theorem d_MD_init_213 : decode prog_14_method_1_code 213 = .ok (.aload_n 0, 1) := by decide +kernel
theorem d_MD_init_214 : decode prog_14_method_1_code 214 = .ok (.sipush 2400, 3) := by decide +kernel
theorem d_MD_init_217 : decode prog_14_method_1_code 217 = .ok (.newarray .int, 2) := by decide +kernel
theorem d_MD_init_219 : decode prog_14_method_1_code 219 = .ok (.putfield 91, 3) := by decide +kernel
theorem f_MD_91 : fl_OK "PlainMusicModel" 91 12 38 (.array .int) true := ⟨_, rfl, by decide, (gw_in 1520 (by decide +kernel) (by decide +kernel)), rfl, rfl⟩
theorem d_MD_init_222 : decode prog_14_method_1_code 222 = .ok (.aload_n 0, 1) := by decide +kernel
theorem d_MD_init_223 : decode prog_14_method_1_code 223 = .ok (.sipush 2400, 3) := by decide +kernel
theorem d_MD_init_226 : decode prog_14_method_1_code 226 = .ok (.newarray .int, 2) := by decide +kernel
theorem d_MD_init_228 : decode prog_14_method_1_code 228 = .ok (.putfield 94, 3) := by decide +kernel
theorem f_MD_94 : fl_OK "PlainMusicModel" 94 12 39 (.array .int) true := ⟨_, rfl, by decide, (gw_in 1521 (by decide +kernel) (by decide +kernel)), rfl, rfl⟩
theorem d_MD_init_231 : decode prog_14_method_1_code 231 = .ok (.aload_n 0, 1) := by decide +kernel
theorem d_MD_init_232 : decode prog_14_method_1_code 232 = .ok (.sipush 2400, 3) := by decide +kernel
theorem d_MD_init_235 : decode prog_14_method_1_code 235 = .ok (.newarray .int, 2) := by decide +kernel
theorem d_MD_init_237 : decode prog_14_method_1_code 237 = .ok (.putfield 97, 3) := by decide +kernel
theorem f_MD_97 : fl_OK "PlainMusicModel" 97 12 40 (.array .int) true := ⟨_, rfl, by decide, (gw_in 1522 (by decide +kernel) (by decide +kernel)), rfl, rfl⟩
theorem d_MD_init_240 : decode prog_14_method_1_code 240 = .ok (.aload_n 0, 1) := by decide +kernel
theorem d_MD_init_241 : decode prog_14_method_1_code 241 = .ok (.sipush 816, 3) := by decide +kernel
theorem d_MD_init_244 : decode prog_14_method_1_code 244 = .ok (.newarray .long, 2) := by decide +kernel
theorem d_MD_init_246 : decode prog_14_method_1_code 246 = .ok (.putfield 100, 3) := by decide +kernel
theorem f_MD_100 : fl_OK "PlainMusicModel" 100 12 41 (.array .long) true := ⟨_, rfl, by decide, (gw_in 1523 (by decide +kernel) (by decide +kernel)), rfl, rfl⟩
theorem d_MD_init_249 : decode prog_14_method_1_code 249 = .ok (.aload_n 0, 1) := by decide +kernel
theorem d_MD_init_250 : decode prog_14_method_1_code 250 = .ok (.sipush 816, 3) := by decide +kernel
theorem d_MD_init_253 : decode prog_14_method_1_code 253 = .ok (.newarray .long, 2) := by decide +kernel
theorem d_MD_init_255 : decode prog_14_method_1_code 255 = .ok (.putfield 103, 3) := by decide +kernel
theorem f_MD_103 : fl_OK "PlainMusicModel" 103 12 42 (.array .long) true := ⟨_, rfl, by decide, (gw_in 1524 (by decide +kernel) (by decide +kernel)), rfl, rfl⟩
theorem d_MD_init_258 : decode prog_14_method_1_code 258 = .ok (.aload_n 0, 1) := by decide +kernel
theorem d_MD_init_259 : decode prog_14_method_1_code 259 = .ok (.sipush 2100, 3) := by decide +kernel
theorem d_MD_init_262 : decode prog_14_method_1_code 262 = .ok (.newarray .int, 2) := by decide +kernel
theorem d_MD_init_264 : decode prog_14_method_1_code 264 = .ok (.putfield 106, 3) := by decide +kernel
theorem f_MD_106 : fl_OK "PlainMusicModel" 106 12 44 (.array .int) true := ⟨_, rfl, by decide, (gw_in 1526 (by decide +kernel) (by decide +kernel)), rfl, rfl⟩
theorem d_MD_init_267 : decode prog_14_method_1_code 267 = .ok (.aload_n 0, 1) := by decide +kernel
theorem d_MD_init_268 : decode prog_14_method_1_code 268 = .ok (.sipush 2100, 3) := by decide +kernel
theorem d_MD_init_271 : decode prog_14_method_1_code 271 = .ok (.newarray .int, 2) := by decide +kernel
theorem d_MD_init_273 : decode prog_14_method_1_code 273 = .ok (.putfield 109, 3) := by decide +kernel
theorem f_MD_109 : fl_OK "PlainMusicModel" 109 12 45 (.array .int) true := ⟨_, rfl, by decide, (gw_in 1527 (by decide +kernel) (by decide +kernel)), rfl, rfl⟩
theorem d_MD_init_276 : decode prog_14_method_1_code 276 = .ok (.aload_n 0, 1) := by decide +kernel
theorem d_MD_init_277 : decode prog_14_method_1_code 277 = .ok (.sipush 2100, 3) := by decide +kernel
theorem d_MD_init_280 : decode prog_14_method_1_code 280 = .ok (.newarray .int, 2) := by decide +kernel
theorem d_MD_init_282 : decode prog_14_method_1_code 282 = .ok (.putfield 112, 3) := by decide +kernel
theorem f_MD_112 : fl_OK "PlainMusicModel" 112 12 46 (.array .int) true := ⟨_, rfl, by decide, (gw_in 1528 (by decide +kernel) (by decide +kernel)), rfl, rfl⟩
theorem d_MD_init_285 : decode prog_14_method_1_code 285 = .ok (.aload_n 0, 1) := by decide +kernel
theorem d_MD_init_286 : decode prog_14_method_1_code 286 = .ok (.sipush 2100, 3) := by decide +kernel
theorem d_MD_init_289 : decode prog_14_method_1_code 289 = .ok (.newarray .int, 2) := by decide +kernel
theorem d_MD_init_291 : decode prog_14_method_1_code 291 = .ok (.putfield 115, 3) := by decide +kernel
theorem f_MD_115 : fl_OK "PlainMusicModel" 115 12 47 (.array .int) true := ⟨_, rfl, by decide, (gw_in 1529 (by decide +kernel) (by decide +kernel)), rfl, rfl⟩
theorem d_MD_init_294 : decode prog_14_method_1_code 294 = .ok (.aload_n 0, 1) := by decide +kernel
theorem d_MD_init_295 : decode prog_14_method_1_code 295 = .ok (.sipush 8400, 3) := by decide +kernel
theorem d_MD_init_298 : decode prog_14_method_1_code 298 = .ok (.newarray .int, 2) := by decide +kernel
theorem d_MD_init_300 : decode prog_14_method_1_code 300 = .ok (.putfield 118, 3) := by decide +kernel
theorem f_MD_118 : fl_OK "PlainMusicModel" 118 12 48 (.array .int) true := ⟨_, rfl, by decide, (gw_in 1530 (by decide +kernel) (by decide +kernel)), rfl, rfl⟩
theorem d_MD_init_303 : decode prog_14_method_1_code 303 = .ok (.aload_n 0, 1) := by decide +kernel
theorem d_MD_init_304 : decode prog_14_method_1_code 304 = .ok (.sipush 8400, 3) := by decide +kernel
theorem d_MD_init_307 : decode prog_14_method_1_code 307 = .ok (.newarray .int, 2) := by decide +kernel
theorem d_MD_init_309 : decode prog_14_method_1_code 309 = .ok (.putfield 121, 3) := by decide +kernel
theorem f_MD_121 : fl_OK "PlainMusicModel" 121 12 49 (.array .int) true := ⟨_, rfl, by decide, (gw_in 1531 (by decide +kernel) (by decide +kernel)), rfl, rfl⟩
theorem d_MD_init_312 : decode prog_14_method_1_code 312 = .ok (.aload_n 0, 1) := by decide +kernel
theorem d_MD_init_313 : decode prog_14_method_1_code 313 = .ok (.sipush 2100, 3) := by decide +kernel
theorem d_MD_init_316 : decode prog_14_method_1_code 316 = .ok (.newarray .int, 2) := by decide +kernel
theorem d_MD_init_318 : decode prog_14_method_1_code 318 = .ok (.putfield 124, 3) := by decide +kernel
theorem f_MD_124 : fl_OK "PlainMusicModel" 124 12 50 (.array .int) true := ⟨_, rfl, by decide, (gw_in 1532 (by decide +kernel) (by decide +kernel)), rfl, rfl⟩
theorem d_MD_init_321 : decode prog_14_method_1_code 321 = .ok (.aload_n 0, 1) := by decide +kernel
theorem d_MD_init_322 : decode prog_14_method_1_code 322 = .ok (.sipush 2100, 3) := by decide +kernel
theorem d_MD_init_325 : decode prog_14_method_1_code 325 = .ok (.newarray .boolean, 2) := by decide +kernel
theorem d_MD_init_327 : decode prog_14_method_1_code 327 = .ok (.putfield 127, 3) := by decide +kernel
theorem f_MD_127 : fl_OK "PlainMusicModel" 127 12 51 (.array .boolean) true := ⟨_, rfl, by decide, (gw_in 1533 (by decide +kernel) (by decide +kernel)), rfl, rfl⟩
theorem d_MD_init_330 : decode prog_14_method_1_code 330 = .ok (.aload_n 0, 1) := by decide +kernel
theorem d_MD_init_331 : decode prog_14_method_1_code 331 = .ok (.sipush 2100, 3) := by decide +kernel
theorem d_MD_init_334 : decode prog_14_method_1_code 334 = .ok (.newarray .int, 2) := by decide +kernel
theorem d_MD_init_336 : decode prog_14_method_1_code 336 = .ok (.putfield 130, 3) := by decide +kernel
theorem f_MD_130 : fl_OK "PlainMusicModel" 130 12 52 (.array .int) true := ⟨_, rfl, by decide, (gw_in 1534 (by decide +kernel) (by decide +kernel)), rfl, rfl⟩
theorem d_MD_init_339 : decode prog_14_method_1_code 339 = .ok (.aload_n 0, 1) := by decide +kernel
theorem d_MD_init_340 : decode prog_14_method_1_code 340 = .ok (.sipush 2100, 3) := by decide +kernel
theorem d_MD_init_343 : decode prog_14_method_1_code 343 = .ok (.newarray .int, 2) := by decide +kernel
theorem d_MD_init_345 : decode prog_14_method_1_code 345 = .ok (.putfield 133, 3) := by decide +kernel
theorem f_MD_133 : fl_OK "PlainMusicModel" 133 12 53 (.array .int) true := ⟨_, rfl, by decide, (gw_in 1535 (by decide +kernel) (by decide +kernel)), rfl, rfl⟩
theorem d_MD_init_348 : decode prog_14_method_1_code 348 = .ok (.aload_n 0, 1) := by decide +kernel
theorem d_MD_init_349 : decode prog_14_method_1_code 349 = .ok (.sipush 2100, 3) := by decide +kernel
theorem d_MD_init_352 : decode prog_14_method_1_code 352 = .ok (.newarray .int, 2) := by decide +kernel
theorem d_MD_init_354 : decode prog_14_method_1_code 354 = .ok (.putfield 136, 3) := by decide +kernel
theorem f_MD_136 : fl_OK "PlainMusicModel" 136 12 54 (.array .int) true := ⟨_, rfl, by decide, (gw_in 1536 (by decide +kernel) (by decide +kernel)), rfl, rfl⟩
theorem d_MD_init_357 : decode prog_14_method_1_code 357 = .ok (.aload_n 0, 1) := by decide +kernel
theorem d_MD_init_358 : decode prog_14_method_1_code 358 = .ok (.sipush 2100, 3) := by decide +kernel
theorem d_MD_init_361 : decode prog_14_method_1_code 361 = .ok (.newarray .int, 2) := by decide +kernel
theorem d_MD_init_363 : decode prog_14_method_1_code 363 = .ok (.putfield 139, 3) := by decide +kernel
theorem f_MD_139 : fl_OK "PlainMusicModel" 139 12 55 (.array .int) true := ⟨_, rfl, by decide, (gw_in 1537 (by decide +kernel) (by decide +kernel)), rfl, rfl⟩
theorem d_MD_init_366 : decode prog_14_method_1_code 366 = .ok (.aload_n 0, 1) := by decide +kernel
theorem d_MD_init_367 : decode prog_14_method_1_code 367 = .ok (.sipush 2100, 3) := by decide +kernel
theorem d_MD_init_370 : decode prog_14_method_1_code 370 = .ok (.newarray .int, 2) := by decide +kernel
theorem d_MD_init_372 : decode prog_14_method_1_code 372 = .ok (.putfield 142, 3) := by decide +kernel
theorem f_MD_142 : fl_OK "PlainMusicModel" 142 12 56 (.array .int) true := ⟨_, rfl, by decide, (gw_in 1538 (by decide +kernel) (by decide +kernel)), rfl, rfl⟩
theorem d_MD_init_375 : decode prog_14_method_1_code 375 = .ok (.aload_n 0, 1) := by decide +kernel
theorem d_MD_init_376 : decode prog_14_method_1_code 376 = .ok (.sipush 2100, 3) := by decide +kernel
theorem d_MD_init_379 : decode prog_14_method_1_code 379 = .ok (.newarray .int, 2) := by decide +kernel
theorem d_MD_init_381 : decode prog_14_method_1_code 381 = .ok (.putfield 145, 3) := by decide +kernel
theorem f_MD_145 : fl_OK "PlainMusicModel" 145 12 57 (.array .int) true := ⟨_, rfl, by decide, (gw_in 1539 (by decide +kernel) (by decide +kernel)), rfl, rfl⟩
theorem d_MD_init_384 : decode prog_14_method_1_code 384 = .ok (.aload_n 0, 1) := by decide +kernel
theorem d_MD_init_385 : decode prog_14_method_1_code 385 = .ok (.bipush 8, 2) := by decide +kernel
theorem d_MD_init_387 : decode prog_14_method_1_code 387 = .ok (.newarray .int, 2) := by decide +kernel
theorem d_MD_init_389 : decode prog_14_method_1_code 389 = .ok (.putfield 148, 3) := by decide +kernel
theorem f_MD_148 : fl_OK "PlainMusicModel" 148 12 58 (.array .int) true := ⟨_, rfl, by decide, (gw_in 1540 (by decide +kernel) (by decide +kernel)), rfl, rfl⟩
theorem d_MD_init_392 : decode prog_14_method_1_code 392 = .ok (.aload_n 0, 1) := by decide +kernel
theorem d_MD_init_393 : decode prog_14_method_1_code 393 = .ok (.bipush 8, 2) := by decide +kernel
theorem d_MD_init_395 : decode prog_14_method_1_code 395 = .ok (.newarray .int, 2) := by decide +kernel
theorem d_MD_init_397 : decode prog_14_method_1_code 397 = .ok (.putfield 151, 3) := by decide +kernel
theorem f_MD_151 : fl_OK "PlainMusicModel" 151 12 62 (.array .int) true := ⟨_, rfl, by decide, (gw_in 1544 (by decide +kernel) (by decide +kernel)), rfl, rfl⟩
theorem d_MD_init_400 : decode prog_14_method_1_code 400 = .ok (.aload_n 0, 1) := by decide +kernel
theorem d_MD_init_401 : decode prog_14_method_1_code 401 = .ok (.bipush 10, 2) := by decide +kernel
theorem d_MD_init_403 : decode prog_14_method_1_code 403 = .ok (.newarray .int, 2) := by decide +kernel
theorem d_MD_init_405 : decode prog_14_method_1_code 405 = .ok (.putfield 154, 3) := by decide +kernel
theorem f_MD_154 : fl_OK "PlainMusicModel" 154 12 67 (.array .int) true := ⟨_, rfl, by decide, (gw_in 1549 (by decide +kernel) (by decide +kernel)), rfl, rfl⟩
theorem d_MD_init_408 : decode prog_14_method_1_code 408 = .ok (.aload_n 0, 1) := by decide +kernel
theorem d_MD_init_409 : decode prog_14_method_1_code 409 = .ok (.bipush 10, 2) := by decide +kernel
theorem d_MD_init_411 : decode prog_14_method_1_code 411 = .ok (.newarray .int, 2) := by decide +kernel
theorem d_MD_init_413 : decode prog_14_method_1_code 413 = .ok (.putfield 157, 3) := by decide +kernel
theorem f_MD_157 : fl_OK "PlainMusicModel" 157 12 68 (.array .int) true := ⟨_, rfl, by decide, (gw_in 1550 (by decide +kernel) (by decide +kernel)), rfl, rfl⟩
theorem d_MD_init_416 : decode prog_14_method_1_code 416 = .ok (.aload_n 0, 1) := by decide +kernel
theorem d_MD_init_417 : decode prog_14_method_1_code 417 = .ok (.bipush 10, 2) := by decide +kernel
theorem d_MD_init_419 : decode prog_14_method_1_code 419 = .ok (.newarray .int, 2) := by decide +kernel
theorem d_MD_init_421 : decode prog_14_method_1_code 421 = .ok (.putfield 160, 3) := by decide +kernel
theorem f_MD_160 : fl_OK "PlainMusicModel" 160 12 69 (.array .int) true := ⟨_, rfl, by decide, (gw_in 1551 (by decide +kernel) (by decide +kernel)), rfl, rfl⟩
theorem d_MD_init_424 : decode prog_14_method_1_code 424 = .ok (.aload_n 0, 1) := by decide +kernel
theorem d_MD_init_425 : decode prog_14_method_1_code 425 = .ok (.bipush 10, 2) := by decide +kernel
theorem d_MD_init_427 : decode prog_14_method_1_code 427 = .ok (.newarray .boolean, 2) := by decide +kernel
theorem d_MD_init_429 : decode prog_14_method_1_code 429 = .ok (.putfield 163, 3) := by decide +kernel
theorem f_MD_163 : fl_OK "PlainMusicModel" 163 12 79 (.array .boolean) true := ⟨_, rfl, by decide, (gw_in 1561 (by decide +kernel) (by decide +kernel)), rfl, rfl⟩
theorem d_MD_init_432 : decode prog_14_method_1_code 432 = .ok (.aload_n 0, 1) := by decide +kernel
theorem d_MD_init_433 : decode prog_14_method_1_code 433 = .ok (.sipush 8000, 3) := by decide +kernel
theorem d_MD_init_436 : decode prog_14_method_1_code 436 = .ok (.newarray .int, 2) := by decide +kernel
theorem d_MD_init_438 : decode prog_14_method_1_code 438 = .ok (.putfield 166, 3) := by decide +kernel
theorem f_MD_166 : fl_OK "PlainMusicModel" 166 12 81 (.array .int) true := ⟨_, rfl, by decide, (gw_in 1563 (by decide +kernel) (by decide +kernel)), rfl, rfl⟩
theorem d_MD_init_441 : decode prog_14_method_1_code 441 = .ok (.aload_n 0, 1) := by decide +kernel
theorem d_MD_init_442 : decode prog_14_method_1_code 442 = .ok (.sipush 8000, 3) := by decide +kernel
theorem d_MD_init_445 : decode prog_14_method_1_code 445 = .ok (.newarray .int, 2) := by decide +kernel
theorem d_MD_init_447 : decode prog_14_method_1_code 447 = .ok (.putfield 169, 3) := by decide +kernel
theorem f_MD_169 : fl_OK "PlainMusicModel" 169 12 82 (.array .int) true := ⟨_, rfl, by decide, (gw_in 1564 (by decide +kernel) (by decide +kernel)), rfl, rfl⟩
theorem d_MD_init_450 : decode prog_14_method_1_code 450 = .ok (.aload_n 0, 1) := by decide +kernel
theorem d_MD_init_451 : decode prog_14_method_1_code 451 = .ok (.sipush 8000, 3) := by decide +kernel
theorem d_MD_init_454 : decode prog_14_method_1_code 454 = .ok (.newarray .int, 2) := by decide +kernel
theorem d_MD_init_456 : decode prog_14_method_1_code 456 = .ok (.putfield 172, 3) := by decide +kernel
theorem f_MD_172 : fl_OK "PlainMusicModel" 172 12 83 (.array .int) true := ⟨_, rfl, by decide, (gw_in 1565 (by decide +kernel) (by decide +kernel)), rfl, rfl⟩
theorem d_MD_init_459 : decode prog_14_method_1_code 459 = .ok (.aload_n 0, 1) := by decide +kernel
theorem d_MD_init_460 : decode prog_14_method_1_code 460 = .ok (.sipush 8000, 3) := by decide +kernel
theorem d_MD_init_463 : decode prog_14_method_1_code 463 = .ok (.newarray .int, 2) := by decide +kernel
theorem d_MD_init_465 : decode prog_14_method_1_code 465 = .ok (.putfield 175, 3) := by decide +kernel
theorem f_MD_175 : fl_OK "PlainMusicModel" 175 12 84 (.array .int) true := ⟨_, rfl, by decide, (gw_in 1566 (by decide +kernel) (by decide +kernel)), rfl, rfl⟩
theorem d_MD_init_468 : decode prog_14_method_1_code 468 = .ok (.aload_n 0, 1) := by decide +kernel
theorem d_MD_init_469 : decode prog_14_method_1_code 469 = .ok (.bipush 16, 2) := by decide +kernel
theorem d_MD_init_471 : decode prog_14_method_1_code 471 = .ok (.newarray .int, 2) := by decide +kernel
theorem d_MD_init_473 : decode prog_14_method_1_code 473 = .ok (.putfield 178, 3) := by decide +kernel
theorem f_MD_178 : fl_OK "PlainMusicModel" 178 12 86 (.array .int) true := ⟨_, rfl, by decide, (gw_in 1568 (by decide +kernel) (by decide +kernel)), rfl, rfl⟩
theorem d_MD_init_476 : decode prog_14_method_1_code 476 = .ok (.aload_n 0, 1) := by decide +kernel
theorem d_MD_init_477 : decode prog_14_method_1_code 477 = .ok (.sipush 340, 3) := by decide +kernel
theorem d_MD_init_480 : decode prog_14_method_1_code 480 = .ok (.newarray .int, 2) := by decide +kernel
theorem d_MD_init_482 : decode prog_14_method_1_code 482 = .ok (.putfield 181, 3) := by decide +kernel
theorem f_MD_181 : fl_OK "PlainMusicModel" 181 12 87 (.array .int) true := ⟨_, rfl, by decide, (gw_in 1569 (by decide +kernel) (by decide +kernel)), rfl, rfl⟩
theorem d_MD_init_485 : decode prog_14_method_1_code 485 = .ok (.aload_n 0, 1) := by decide +kernel
theorem d_MD_init_486 : decode prog_14_method_1_code 486 = .ok (.sipush 340, 3) := by decide +kernel
theorem d_MD_init_489 : decode prog_14_method_1_code 489 = .ok (.newarray .int, 2) := by decide +kernel
theorem d_MD_init_491 : decode prog_14_method_1_code 491 = .ok (.putfield 184, 3) := by decide +kernel
theorem f_MD_184 : fl_OK "PlainMusicModel" 184 12 88 (.array .int) true := ⟨_, rfl, by decide, (gw_in 1570 (by decide +kernel) (by decide +kernel)), rfl, rfl⟩
theorem d_MD_init_494 : decode prog_14_method_1_code 494 = .ok (.aload_n 0, 1) := by decide +kernel
theorem d_MD_init_495 : decode prog_14_method_1_code 495 = .ok (.bipush 16, 2) := by decide +kernel
theorem d_MD_init_497 : decode prog_14_method_1_code 497 = .ok (.newarray .int, 2) := by decide +kernel
theorem d_MD_init_499 : decode prog_14_method_1_code 499 = .ok (.putfield 187, 3) := by decide +kernel
theorem f_MD_187 : fl_OK "PlainMusicModel" 187 12 90 (.array .int) true := ⟨_, rfl, by decide, (gw_in 1572 (by decide +kernel) (by decide +kernel)), rfl, rfl⟩
theorem d_MD_init_502 : decode prog_14_method_1_code 502 = .ok (.aload_n 0, 1) := by decide +kernel
theorem d_MD_init_503 : decode prog_14_method_1_code 503 = .ok (.bipush 8, 2) := by decide +kernel
theorem d_MD_init_505 : decode prog_14_method_1_code 505 = .ok (.newarray .int, 2) := by decide +kernel
theorem d_MD_init_507 : decode prog_14_method_1_code 507 = .ok (.putfield 190, 3) := by decide +kernel
theorem f_MD_190 : fl_OK "PlainMusicModel" 190 12 92 (.array .int) true := ⟨_, rfl, by decide, (gw_in 1574 (by decide +kernel) (by decide +kernel)), rfl, rfl⟩
theorem d_MD_init_510 : decode prog_14_method_1_code 510 = .ok (.aload_n 0, 1) := by decide +kernel
theorem d_MD_init_511 : decode prog_14_method_1_code 511 = .ok (.bipush 8, 2) := by decide +kernel
theorem d_MD_init_513 : decode prog_14_method_1_code 513 = .ok (.newarray .int, 2) := by decide +kernel
theorem d_MD_init_515 : decode prog_14_method_1_code 515 = .ok (.putfield 193, 3) := by decide +kernel
theorem f_MD_193 : fl_OK "PlainMusicModel" 193 12 97 (.array .int) true := ⟨_, rfl, by decide, (gw_in 1579 (by decide +kernel) (by decide +kernel)), rfl, rfl⟩
theorem d_MD_init_518 : decode prog_14_method_1_code 518 = .ok (.aload_n 0, 1) := by decide +kernel
theorem d_MD_init_519 : decode prog_14_method_1_code 519 = .ok (.sipush 2704, 3) := by decide +kernel
theorem d_MD_init_522 : decode prog_14_method_1_code 522 = .ok (.newarray .long, 2) := by decide +kernel
theorem d_MD_init_524 : decode prog_14_method_1_code 524 = .ok (.putfield 196, 3) := by decide +kernel
theorem f_MD_196 : fl_OK "PlainMusicModel" 196 12 99 (.array .long) true := ⟨_, rfl, by decide, (gw_in 1581 (by decide +kernel) (by decide +kernel)), rfl, rfl⟩
theorem d_MD_init_527 : decode prog_14_method_1_code 527 = .ok (.aload_n 0, 1) := by decide +kernel
theorem d_MD_init_528 : decode prog_14_method_1_code 528 = .ok (.bipush 32, 2) := by decide +kernel
theorem d_MD_init_530 : decode prog_14_method_1_code 530 = .ok (.newarray .int, 2) := by decide +kernel
theorem d_MD_init_532 : decode prog_14_method_1_code 532 = .ok (.putfield 199, 3) := by decide +kernel
theorem f_MD_199 : fl_OK "PlainMusicModel" 199 12 100 (.array .int) true := ⟨_, rfl, by decide, (gw_in 1582 (by decide +kernel) (by decide +kernel)), rfl, rfl⟩
theorem d_MD_init_535 : decode prog_14_method_1_code 535 = .ok (.aload_n 0, 1) := by decide +kernel
theorem d_MD_init_536 : decode prog_14_method_1_code 536 = .ok (.bipush 32, 2) := by decide +kernel
theorem d_MD_init_538 : decode prog_14_method_1_code 538 = .ok (.newarray .int, 2) := by decide +kernel
theorem d_MD_init_540 : decode prog_14_method_1_code 540 = .ok (.putfield 202, 3) := by decide +kernel
theorem f_MD_202 : fl_OK "PlainMusicModel" 202 12 101 (.array .int) true := ⟨_, rfl, by decide, (gw_in 1583 (by decide +kernel) (by decide +kernel)), rfl, rfl⟩
theorem d_MD_init_543 : decode prog_14_method_1_code 543 = .ok (.aload_n 0, 1) := by decide +kernel
theorem d_MD_init_544 : decode prog_14_method_1_code 544 = .ok (.bipush 32, 2) := by decide +kernel
theorem d_MD_init_546 : decode prog_14_method_1_code 546 = .ok (.newarray .int, 2) := by decide +kernel
theorem d_MD_init_548 : decode prog_14_method_1_code 548 = .ok (.putfield 205, 3) := by decide +kernel
theorem f_MD_205 : fl_OK "PlainMusicModel" 205 12 102 (.array .int) true := ⟨_, rfl, by decide, (gw_in 1584 (by decide +kernel) (by decide +kernel)), rfl, rfl⟩
theorem d_MD_init_551 : decode prog_14_method_1_code 551 = .ok (.aload_n 0, 1) := by decide +kernel
theorem d_MD_init_552 : decode prog_14_method_1_code 552 = .ok (.bipush 32, 2) := by decide +kernel
theorem d_MD_init_554 : decode prog_14_method_1_code 554 = .ok (.newarray .long, 2) := by decide +kernel
theorem d_MD_init_556 : decode prog_14_method_1_code 556 = .ok (.putfield 208, 3) := by decide +kernel
theorem f_MD_208 : fl_OK "PlainMusicModel" 208 12 103 (.array .long) true := ⟨_, rfl, by decide, (gw_in 1585 (by decide +kernel) (by decide +kernel)), rfl, rfl⟩
theorem d_MD_init_559 : decode prog_14_method_1_code 559 = .ok (.aload_n 0, 1) := by decide +kernel
theorem d_MD_init_560 : decode prog_14_method_1_code 560 = .ok (.bipush 80, 2) := by decide +kernel
theorem d_MD_init_562 : decode prog_14_method_1_code 562 = .ok (.newarray .int, 2) := by decide +kernel
theorem d_MD_init_564 : decode prog_14_method_1_code 564 = .ok (.putfield 211, 3) := by decide +kernel
theorem f_MD_211 : fl_OK "PlainMusicModel" 211 12 106 (.array .int) true := ⟨_, rfl, by decide, (gw_in 1588 (by decide +kernel) (by decide +kernel)), rfl, rfl⟩
theorem d_MD_init_567 : decode prog_14_method_1_code 567 = .ok (.aload_n 0, 1) := by decide +kernel
theorem d_MD_init_568 : decode prog_14_method_1_code 568 = .ok (.bipush 80, 2) := by decide +kernel
theorem d_MD_init_570 : decode prog_14_method_1_code 570 = .ok (.newarray .int, 2) := by decide +kernel
theorem d_MD_init_572 : decode prog_14_method_1_code 572 = .ok (.putfield 214, 3) := by decide +kernel
theorem f_MD_214 : fl_OK "PlainMusicModel" 214 12 107 (.array .int) true := ⟨_, rfl, by decide, (gw_in 1589 (by decide +kernel) (by decide +kernel)), rfl, rfl⟩
theorem d_MD_init_575 : decode prog_14_method_1_code 575 = .ok (.aload_n 0, 1) := by decide +kernel
theorem d_MD_init_576 : decode prog_14_method_1_code 576 = .ok (.bipush 80, 2) := by decide +kernel
theorem d_MD_init_578 : decode prog_14_method_1_code 578 = .ok (.newarray .int, 2) := by decide +kernel
theorem d_MD_init_580 : decode prog_14_method_1_code 580 = .ok (.putfield 217, 3) := by decide +kernel
theorem f_MD_217 : fl_OK "PlainMusicModel" 217 12 108 (.array .int) true := ⟨_, rfl, by decide, (gw_in 1590 (by decide +kernel) (by decide +kernel)), rfl, rfl⟩
theorem d_MD_init_583 : decode prog_14_method_1_code 583 = .ok (.aload_n 0, 1) := by decide +kernel
theorem d_MD_init_584 : decode prog_14_method_1_code 584 = .ok (.sipush 6561, 3) := by decide +kernel
theorem d_MD_init_587 : decode prog_14_method_1_code 587 = .ok (.newarray .int, 2) := by decide +kernel
theorem d_MD_init_589 : decode prog_14_method_1_code 589 = .ok (.putfield 220, 3) := by decide +kernel
theorem f_MD_220 : fl_OK "PlainMusicModel" 220 12 109 (.array .int) true := ⟨_, rfl, by decide, (gw_in 1591 (by decide +kernel) (by decide +kernel)), rfl, rfl⟩
theorem d_MD_init_592 : decode prog_14_method_1_code 592 = .ok (.aload_n 0, 1) := by decide +kernel
theorem d_MD_init_593 : decode prog_14_method_1_code 593 = .ok (.sipush 6561, 3) := by decide +kernel
theorem d_MD_init_596 : decode prog_14_method_1_code 596 = .ok (.newarray .long, 2) := by decide +kernel
theorem d_MD_init_598 : decode prog_14_method_1_code 598 = .ok (.putfield 223, 3) := by decide +kernel
theorem f_MD_223 : fl_OK "PlainMusicModel" 223 12 110 (.array .long) true := ⟨_, rfl, by decide, (gw_in 1592 (by decide +kernel) (by decide +kernel)), rfl, rfl⟩
theorem d_MD_init_601 : decode prog_14_method_1_code 601 = .ok (.return_, 1) := by decide +kernel
end
section
def i_Voice (h : ah_T) (t n : Nat) : ah_T := (st_r (st_n (st_r (st_n (st_r (st_n (st_r (st_n (st_r (st_n (st_r (st_n (st_r (st_n (st_r (st_n (st_r (st_n (st_r (st_n (st_r (st_n (st_r (st_n (st_r (st_n h 0 300) t 0 (some n)) 0 300) t 1 (some (n + 1))) 0 301) t 3 (some (n + 2))) 0 300) t 4 (some (n + 3))) 0 300) t 5 (some (n + 4))) 2 300) t 6 (some (n + 5))) 0 300) t 8 (some (n + 6))) 0 300) t 9 (some (n + 7))) 1 301) t 10 (some (n + 8))) 1 301) t 11 (some (n + 9))) 1 300) t 12 (some (n + 10))) 1 300) t 13 (some (n + 11))) 0 102) t 15 (some (n + 12)))
set_option maxRecDepth 100000 in
theorem i_Voice_sh (h : ah_T) (t n : Nat) : (i_Voice h t n).1 = h.1 ++ [(0, 300), (0, 300), (0, 301), (0, 300), (0, 300), (2, 300), (0, 300), (0, 300), (1, 301), (1, 301), (1, 300), (1, 300), (0, 102)] := by
  simp only [i_Voice, n1_s, i1_s, l1_s, r1_s, List.append_assoc, List.cons_append, List.nil_append]
theorem i_Voice_len {h : ah_T} {t n q : Nat} (hq : h.1.length = q) : (i_Voice h t n).1.length = q + 13 := by rw [i_Voice_sh, List.length_append, hq]; rfl
theorem i_Voice_at {h : ah_T} {t n x : Nat} {y : Nat × Nat} (hx : h.1[x]? = some y) : (i_Voice h t n).1[x]? = some y := by rw [i_Voice_sh, List.getElem?_append_left (List.getElem?_eq_some_iff.mp hx).1]; exact hx
theorem i_Voice_atE {h h' : ah_T} {t n x : Nat} {y : Nat × Nat} (e : h' = i_Voice h t n) (hx : h.1[x]? = some y) : h'.1[x]? = some y := by subst e; exact i_Voice_at hx
theorem i_Voice_lenE {h h' : ah_T} {t n q : Nat} (e : h' = i_Voice h t n) (hq : h.1.length = q) : h'.1.length = q + 13 := by subst e; exact i_Voice_len hq
theorem i_Voice_roE {h h' : ah_T} {t n x y : Nat} {v : Option Nat} (e : h' = i_Voice h t n) (hx : x ≠ t) (hv : h.2.2.2 x y = v) : h'.2.2.2 x y = v := by subst e; rw [← hv]; simp only [i_Voice, n1_r, i1_r, l1_r, r1_r hx]
theorem i_Voice_ro {h : ah_T} {t n x y : Nat} (hx : x ≠ t) : (i_Voice h t n).2.2.2 x y = h.2.2.2 x y := by
  simp only [i_Voice, n1_r, i1_r, l1_r, r1_r hx]
set_option maxRecDepth 100000 in
set_option maxHeartbeats 8000000 in
theorem c_Voice_init {G : cx_T} (h : ah_T) (t n : Nat) (hn : h.1.length = n) (hs : h.1[t]? = some (10 + 4, 17)) (d : Nat) (hd : d = 1 := by rfl) : con G d 13 3705 m_Voice_init [av_R (some t)] h (fun r h' => r = none ∧ h' = i_Voice h t n) := by
  subst hd
  have htn : t < n := by rw [← hn]; exact (List.getElem?_eq_some_iff.mp hs).1
  refine con_of (L := [some (av_R (some t))]) (by decide +kernel) (Nat.le_of_ble_eq_true rfl) rfl ?_
  refine A_aload_n 0 d_Voice_init_0 rfl rfl ?_
  refine A_objInit d_Voice_init_1 oi_Voice.1 oi_Voice.2.1 oi_Voice.2.2 (by decide) rfl ?_
  refine A_aload_n 0 d_Voice_init_4 rfl rfl ?_
  refine A_sipush d_Voice_init_5 rfl ?_
  refine A_newIv (q := n) (N := 300) d_Voice_init_8 ac_int rfl (by decide) (by decide) (by decide) hn (fun h1 eh1 nh1 gh1 => ?_)
  have oh1 := hn
  replace hn := nh1
  replace hs := gh1 _ _ hs
  refine A_pc (pc' := 10) rfl ?_
  refine A_putRv T_ok d_Voice_init_10 f_Voice_9 ty_a hs (Or.inr ⟨rfl, fun q hq => by cases hq; rfl⟩) (fun h2 eh2 => ?_)
  replace hn := sn_r eh2 hn
  replace hs := sp_r eh2 hs
  refine A_aload_n 0 d_Voice_init_13 rfl rfl ?_
  refine A_sipush d_Voice_init_14 rfl ?_
  refine A_newIv (q := (n + 1)) (N := 300) d_Voice_init_17 ac_int rfl (by decide) (by decide) (by decide) hn (fun h3 eh3 nh3 gh3 => ?_)
  have oh3 := hn
  replace hn := nh3
  replace hs := gh3 _ _ hs
  refine A_putRv T_ok d_Voice_init_19 f_Voice_15 ty_a hs (Or.inr ⟨rfl, fun q hq => by cases hq; rfl⟩) (fun h4 eh4 => ?_)
  replace hn := sn_r eh4 hn
  replace hs := sp_r eh4 hs
  refine A_aload_n 0 d_Voice_init_22 rfl rfl ?_
  refine A_pc (pc' := 23) rfl ?_
  refine A_sipush d_Voice_init_23 rfl ?_
  refine A_newIv (q := (n + 2)) (N := 301) d_Voice_init_26 ac_int rfl (by decide) (by decide) (by decide) hn (fun h5 eh5 nh5 gh5 => ?_)
  have oh5 := hn
  replace hn := nh5
  replace hs := gh5 _ _ hs
  refine A_putRv T_ok d_Voice_init_28 f_Voice_18 ty_a hs (Or.inr ⟨rfl, fun q hq => by cases hq; rfl⟩) (fun h6 eh6 => ?_)
  replace hn := sn_r eh6 hn
  replace hs := sp_r eh6 hs
  refine A_aload_n 0 d_Voice_init_31 rfl rfl ?_
  refine A_sipush d_Voice_init_32 rfl ?_
  refine A_newIv (q := (n + 3)) (N := 300) d_Voice_init_35 ac_int rfl (by decide) (by decide) (by decide) hn (fun h7 eh7 nh7 gh7 => ?_)
  have oh7 := hn
  replace hn := nh7
  replace hs := gh7 _ _ hs
  refine A_pc (pc' := 37) rfl ?_
  refine A_putRv T_ok d_Voice_init_37 f_Voice_21 ty_a hs (Or.inr ⟨rfl, fun q hq => by cases hq; rfl⟩) (fun h8 eh8 => ?_)
  replace hn := sn_r eh8 hn
  replace hs := sp_r eh8 hs
  refine A_aload_n 0 d_Voice_init_40 rfl rfl ?_
  refine A_sipush d_Voice_init_41 rfl ?_
  refine A_newIv (q := (n + 4)) (N := 300) d_Voice_init_44 ac_int rfl (by decide) (by decide) (by decide) hn (fun h9 eh9 nh9 gh9 => ?_)
  have oh9 := hn
  replace hn := nh9
  replace hs := gh9 _ _ hs
  refine A_putRv T_ok d_Voice_init_46 f_Voice_24 ty_a hs (Or.inr ⟨rfl, fun q hq => by cases hq; rfl⟩) (fun h10 eh10 => ?_)
  replace hn := sn_r eh10 hn
  replace hs := sp_r eh10 hs
  refine A_aload_n 0 d_Voice_init_49 rfl rfl ?_
  refine A_pc (pc' := 50) rfl ?_
  refine A_sipush d_Voice_init_50 rfl ?_
  refine A_newZv (q := (n + 5)) (N := 300) d_Voice_init_53 ac_boolean rfl (by decide) (by decide) (by decide) hn (fun h11 eh11 nh11 gh11 => ?_)
  have oh11 := hn
  replace hn := nh11
  replace hs := gh11 _ _ hs
  refine A_putRv T_ok d_Voice_init_55 f_Voice_27 ty_a hs (Or.inr ⟨rfl, fun q hq => by cases hq; rfl⟩) (fun h12 eh12 => ?_)
  replace hn := sn_r eh12 hn
  replace hs := sp_r eh12 hs
  refine A_aload_n 0 d_Voice_init_58 rfl rfl ?_
  refine A_sipush d_Voice_init_59 rfl ?_
  refine A_newIv (q := (n + 6)) (N := 300) d_Voice_init_62 ac_int rfl (by decide) (by decide) (by decide) hn (fun h13 eh13 nh13 gh13 => ?_)
  have oh13 := hn
  replace hn := nh13
  replace hs := gh13 _ _ hs
  refine A_pc (pc' := 64) rfl ?_
  refine A_putRv T_ok d_Voice_init_64 f_Voice_31 ty_a hs (Or.inr ⟨rfl, fun q hq => by cases hq; rfl⟩) (fun h14 eh14 => ?_)
  replace hn := sn_r eh14 hn
  replace hs := sp_r eh14 hs
  refine A_aload_n 0 d_Voice_init_67 rfl rfl ?_
  refine A_sipush d_Voice_init_68 rfl ?_
  refine A_newIv (q := (n + 7)) (N := 300) d_Voice_init_71 ac_int rfl (by decide) (by decide) (by decide) hn (fun h15 eh15 nh15 gh15 => ?_)
  have oh15 := hn
  replace hn := nh15
  replace hs := gh15 _ _ hs
  refine A_putRv T_ok d_Voice_init_73 f_Voice_34 ty_a hs (Or.inr ⟨rfl, fun q hq => by cases hq; rfl⟩) (fun h16 eh16 => ?_)
  replace hn := sn_r eh16 hn
  replace hs := sp_r eh16 hs
  refine A_aload_n 0 d_Voice_init_76 rfl rfl ?_
  refine A_pc (pc' := 77) rfl ?_
  refine A_sipush d_Voice_init_77 rfl ?_
  refine A_newLv (q := (n + 8)) (N := 301) d_Voice_init_80 ac_long rfl (by decide) (by decide) (by decide) hn (fun h17 eh17 nh17 gh17 => ?_)
  have oh17 := hn
  replace hn := nh17
  replace hs := gh17 _ _ hs
  refine A_putRv T_ok d_Voice_init_82 f_Voice_37 ty_a hs (Or.inr ⟨rfl, fun q hq => by cases hq; rfl⟩) (fun h18 eh18 => ?_)
  replace hn := sn_r eh18 hn
  replace hs := sp_r eh18 hs
  refine A_aload_n 0 d_Voice_init_85 rfl rfl ?_
  refine A_sipush d_Voice_init_86 rfl ?_
  refine A_newLv (q := (n + 9)) (N := 301) d_Voice_init_89 ac_long rfl (by decide) (by decide) (by decide) hn (fun h19 eh19 nh19 gh19 => ?_)
  have oh19 := hn
  replace hn := nh19
  replace hs := gh19 _ _ hs
  refine A_pc (pc' := 91) rfl ?_
  refine A_putRv T_ok d_Voice_init_91 f_Voice_41 ty_a hs (Or.inr ⟨rfl, fun q hq => by cases hq; rfl⟩) (fun h20 eh20 => ?_)
  replace hn := sn_r eh20 hn
  replace hs := sp_r eh20 hs
  refine A_aload_n 0 d_Voice_init_94 rfl rfl ?_
  refine A_sipush d_Voice_init_95 rfl ?_
  refine A_newLv (q := (n + 10)) (N := 300) d_Voice_init_98 ac_long rfl (by decide) (by decide) (by decide) hn (fun h21 eh21 nh21 gh21 => ?_)
  have oh21 := hn
  replace hn := nh21
  replace hs := gh21 _ _ hs
  refine A_putRv T_ok d_Voice_init_100 f_Voice_44 ty_a hs (Or.inr ⟨rfl, fun q hq => by cases hq; rfl⟩) (fun h22 eh22 => ?_)
  replace hn := sn_r eh22 hn
  replace hs := sp_r eh22 hs
  refine A_aload_n 0 d_Voice_init_103 rfl rfl ?_
  refine A_pc (pc' := 104) rfl ?_
  refine A_sipush d_Voice_init_104 rfl ?_
  refine A_newLv (q := (n + 11)) (N := 300) d_Voice_init_107 ac_long rfl (by decide) (by decide) (by decide) hn (fun h23 eh23 nh23 gh23 => ?_)
  have oh23 := hn
  replace hn := nh23
  replace hs := gh23 _ _ hs
  refine A_putRv T_ok d_Voice_init_109 f_Voice_47 ty_a hs (Or.inr ⟨rfl, fun q hq => by cases hq; rfl⟩) (fun h24 eh24 => ?_)
  replace hn := sn_r eh24 hn
  replace hs := sp_r eh24 hs
  refine A_aload_n 0 d_Voice_init_112 rfl rfl ?_
  refine A_bipush d_Voice_init_113 rfl ?_
  refine A_newIv (q := (n + 12)) (N := 102) d_Voice_init_115 ac_int rfl (by decide) (by decide) (by decide) hn (fun h25 eh25 nh25 gh25 => ?_)
  have oh25 := hn
  replace hn := nh25
  replace hs := gh25 _ _ hs
  refine A_pc (pc' := 117) rfl ?_
  refine A_putRv T_ok d_Voice_init_117 f_Voice_50 ty_a hs (Or.inr ⟨rfl, fun q hq => by cases hq; rfl⟩) (fun h26 eh26 => ?_)
  replace hn := sn_r eh26 hn
  replace hs := sp_r eh26 hs
  exact A_vret d_Voice_init_120 (by decide) rfl ⟨rfl, by rw [eh26, eh25, eh24, eh23, eh22, eh21, eh20, eh19, eh18, eh17, eh16, eh15, eh14, eh13, eh12, eh11, eh10, eh9, eh8, eh7, eh6, eh5, eh4, eh3, eh2, eh1] <;> rfl⟩
def i_Score (h : ah_T) (t n : Nat) : ah_T := (st_r (i_Voice (st_n (st_r (i_Voice (st_n (st_r (i_Voice (st_n (st_r (i_Voice (st_n (st_r (st_n (st_r (st_n (st_r (st_n (st_r (st_n (st_r (st_n (st_i (st_i (st_r (st_n h 3 4) t 0 (some n)) t 2 4) t 3 4) 0 8) t 5 (some (n + 1))) 0 24) t 7 (some (n + 2))) 0 24) t 8 (some (n + 3))) 0 24) t 9 (some (n + 4))) 0 12) t 11 (some (n + 5))) 14 17) (n + 6) (n + 7)) n 0 (some (n + 6))) 14 17) (n + 20) (n + 21)) n 1 (some (n + 20))) 14 17) (n + 34) (n + 35)) n 2 (some (n + 34))) 14 17) (n + 48) (n + 49)) n 3 (some (n + 48)))
set_option maxRecDepth 100000 in
theorem i_Score_sh (h : ah_T) (t n : Nat) : (i_Score h t n).1 = h.1 ++ [(3, 4), (0, 8), (0, 24), (0, 24), (0, 24), (0, 12), (14, 17), (0, 300), (0, 300), (0, 301), (0, 300), (0, 300), (2, 300), (0, 300), (0, 300), (1, 301), (1, 301), (1, 300), (1, 300), (0, 102), (14, 17), (0, 300), (0, 300), (0, 301), (0, 300), (0, 300), (2, 300), (0, 300), (0, 300), (1, 301), (1, 301), (1, 300), (1, 300), (0, 102), (14, 17), (0, 300), (0, 300), (0, 301), (0, 300), (0, 300), (2, 300), (0, 300), (0, 300), (1, 301), (1, 301), (1, 300), (1, 300), (0, 102), (14, 17), (0, 300), (0, 300), (0, 301), (0, 300), (0, 300), (2, 300), (0, 300), (0, 300), (1, 301), (1, 301), (1, 300), (1, 300), (0, 102)] := by
  simp only [i_Score, n1_s, i1_s, l1_s, r1_s, i_Voice_sh, List.append_assoc, List.cons_append, List.nil_append]
theorem i_Score_len {h : ah_T} {t n q : Nat} (hq : h.1.length = q) : (i_Score h t n).1.length = q + 62 := by rw [i_Score_sh, List.length_append, hq]; rfl
theorem i_Score_at {h : ah_T} {t n x : Nat} {y : Nat × Nat} (hx : h.1[x]? = some y) : (i_Score h t n).1[x]? = some y := by rw [i_Score_sh, List.getElem?_append_left (List.getElem?_eq_some_iff.mp hx).1]; exact hx
theorem i_Score_atE {h h' : ah_T} {t n x : Nat} {y : Nat × Nat} (e : h' = i_Score h t n) (hx : h.1[x]? = some y) : h'.1[x]? = some y := by subst e; exact i_Score_at hx
theorem i_Score_lenE {h h' : ah_T} {t n q : Nat} (e : h' = i_Score h t n) (hq : h.1.length = q) : h'.1.length = q + 62 := by subst e; exact i_Score_len hq
set_option maxRecDepth 100000 in
set_option maxHeartbeats 8000000 in
theorem c_Score_init {G : cx_T} (h : ah_T) (t n : Nat) (hn : h.1.length = n) (hs : h.1[t]? = some (6 + 4, 13)) (d : Nat) (hd : d = 2 := by rfl) : con G d 62 14984 m_Score_init [av_R (some t)] h (fun r h' => r = none ∧ h' = i_Score h t n) := by
  subst hd
  have htn : t < n := by rw [← hn]; exact (List.getElem?_eq_some_iff.mp hs).1
  refine con_of (L := [some (av_R (some t)), none]) (by decide +kernel) (Nat.le_of_ble_eq_true rfl) rfl ?_
  refine A_aload_n 0 d_Score_init_0 rfl rfl ?_
  refine A_objInit d_Score_init_1 oi_Score.1 oi_Score.2.1 oi_Score.2.2 (by decide) rfl ?_
  refine A_aload_n 0 d_Score_init_4 rfl rfl ?_
  refine A_iconst d_Score_init_5 rfl ?_
  refine A_newVv (q := n) (N := 4) d_Score_init_6 cl_Score_9 ao_V rfl (by decide) (by decide) (by decide) hn (fun h1 eh1 nh1 gh1 => ?_)
  have oh1 := hn
  replace hn := nh1
  replace hs := gh1 _ _ hs
  refine A_pc (pc' := 9) rfl ?_
  refine A_putRv T_ok d_Score_init_9 f_Score_11 ty_a hs (Or.inr ⟨rfl, fun q hq => by cases hq; rfl⟩) (fun h2 eh2 => ?_)
  replace hn := sn_r eh2 hn
  replace hs := sp_r eh2 hs
  refine A_aload_n 0 d_Score_init_12 rfl rfl ?_
  refine A_iconst d_Score_init_13 rfl ?_
  refine A_putIv T_ok d_Score_init_14 f_Score_17 hs fin_f (fun h3 eh3 => ?_)
  replace hn := sn_i eh3 hn
  replace hs := sp_i eh3 hs
  refine A_aload_n 0 d_Score_init_17 rfl rfl ?_
  refine A_iconst d_Score_init_18 rfl ?_
  refine A_pc (pc' := 19) rfl ?_
  refine A_putIv T_ok d_Score_init_19 f_Score_21 hs fin_f (fun h4 eh4 => ?_)
  replace hn := sn_i eh4 hn
  replace hs := sp_i eh4 hs
  refine A_aload_n 0 d_Score_init_22 rfl rfl ?_
  refine A_bipush d_Score_init_23 rfl ?_
  refine A_newIv (q := (n + 1)) (N := 8) d_Score_init_25 ac_int rfl (by decide) (by decide) (by decide) hn (fun h5 eh5 nh5 gh5 => ?_)
  have oh5 := hn
  replace hn := nh5
  replace hs := gh5 _ _ hs
  refine A_putRv T_ok d_Score_init_27 f_Score_24 ty_a hs (Or.inr ⟨rfl, fun q hq => by cases hq; rfl⟩) (fun h6 eh6 => ?_)
  replace hn := sn_r eh6 hn
  replace hs := sp_r eh6 hs
  refine A_aload_n 0 d_Score_init_30 rfl rfl ?_
  refine A_pc (pc' := 31) rfl ?_
  refine A_bipush d_Score_init_31 rfl ?_
  refine A_newIv (q := (n + 2)) (N := 24) d_Score_init_33 ac_int rfl (by decide) (by decide) (by decide) hn (fun h7 eh7 nh7 gh7 => ?_)
  have oh7 := hn
  replace hn := nh7
  replace hs := gh7 _ _ hs
  refine A_putRv T_ok d_Score_init_35 f_Score_28 ty_a hs (Or.inr ⟨rfl, fun q hq => by cases hq; rfl⟩) (fun h8 eh8 => ?_)
  replace hn := sn_r eh8 hn
  replace hs := sp_r eh8 hs
  refine A_aload_n 0 d_Score_init_38 rfl rfl ?_
  refine A_bipush d_Score_init_39 rfl ?_
  refine A_newIv (q := (n + 3)) (N := 24) d_Score_init_41 ac_int rfl (by decide) (by decide) (by decide) hn (fun h9 eh9 nh9 gh9 => ?_)
  have oh9 := hn
  replace hn := nh9
  replace hs := gh9 _ _ hs
  refine A_pc (pc' := 43) rfl ?_
  refine A_putRv T_ok d_Score_init_43 f_Score_31 ty_a hs (Or.inr ⟨rfl, fun q hq => by cases hq; rfl⟩) (fun h10 eh10 => ?_)
  replace hn := sn_r eh10 hn
  replace hs := sp_r eh10 hs
  refine A_aload_n 0 d_Score_init_46 rfl rfl ?_
  refine A_bipush d_Score_init_47 rfl ?_
  refine A_newIv (q := (n + 4)) (N := 24) d_Score_init_49 ac_int rfl (by decide) (by decide) (by decide) hn (fun h11 eh11 nh11 gh11 => ?_)
  have oh11 := hn
  replace hn := nh11
  replace hs := gh11 _ _ hs
  refine A_putRv T_ok d_Score_init_51 f_Score_34 ty_a hs (Or.inr ⟨rfl, fun q hq => by cases hq; rfl⟩) (fun h12 eh12 => ?_)
  replace hn := sn_r eh12 hn
  replace hs := sp_r eh12 hs
  refine A_aload_n 0 d_Score_init_54 rfl rfl ?_
  refine A_pc (pc' := 55) rfl ?_
  refine A_bipush d_Score_init_55 rfl ?_
  refine A_newIv (q := (n + 5)) (N := 12) d_Score_init_57 ac_int rfl (by decide) (by decide) (by decide) hn (fun h13 eh13 nh13 gh13 => ?_)
  have oh13 := hn
  replace hn := nh13
  replace hs := gh13 _ _ hs
  refine A_putRv T_ok d_Score_init_59 f_Score_37 ty_a hs (Or.inr ⟨rfl, fun q hq => by cases hq; rfl⟩) (fun h14 eh14 => ?_)
  replace hn := sn_r eh14 hn
  replace hs := sp_r eh14 hs
  refine A_iconst d_Score_init_62 rfl ?_
  refine A_istore_n 1 (L' := [some (av_R (some t)), some (av_I 0)]) d_Score_init_63 rfl (Nat.le_of_ble_eq_true rfl) rfl ?_
  refine A_iload_n 1 d_Score_init_64 rfl rfl ?_
  refine A_pc (pc' := 65) rfl ?_
  refine A_aload_n 0 d_Score_init_65 rfl rfl ?_
  refine A_getAv (z := (some n)) T_ok d_Score_init_66 f_Score_11 hs (rr_o eh14 (fun q => absurd q.2 (by decide)) (rr_n eh13 (rr_o eh12 (fun q => absurd q.2 (by decide)) (rr_n eh11 (rr_o eh10 (fun q => absurd q.2 (by decide)) (rr_n eh9 (rr_o eh8 (fun q => absurd q.2 (by decide)) (rr_n eh7 (rr_o eh6 (fun q => absurd q.2 (by decide)) (rr_n eh5 (rr_i eh4 (rr_i eh3 (rr_s eh2))))))))))))) ?_
  refine A_alenN d_Score_init_69 (sp_r eh14 (gh13 _ _ (sp_r eh12 (gh11 _ _ (sp_r eh10 (gh9 _ _ (sp_r eh8 (gh7 _ _ (sp_r eh6 (gh5 _ _ (sp_i eh4 (sp_i eh3 (sp_r eh2 (sx_n eh1 oh1)))))))))))))) (by decide) (by decide) ?_
  refine A_icmp_ge (tgt := 92) d_Score_init_70 (by decide) (fun c15 => absurd c15 (by decide)) (fun c15 => ?_)
  refine A_aload_n 0 d_Score_init_73 rfl rfl ?_
  refine A_getAv (z := (some n)) T_ok d_Score_init_74 f_Score_11 hs (rr_o eh14 (fun q => absurd q.2 (by decide)) (rr_n eh13 (rr_o eh12 (fun q => absurd q.2 (by decide)) (rr_n eh11 (rr_o eh10 (fun q => absurd q.2 (by decide)) (rr_n eh9 (rr_o eh8 (fun q => absurd q.2 (by decide)) (rr_n eh7 (rr_o eh6 (fun q => absurd q.2 (by decide)) (rr_n eh5 (rr_i eh4 (rr_i eh3 (rr_s eh2))))))))))))) ?_
  refine A_iload_n 1 d_Score_init_77 rfl rfl ?_
  refine A_newv (c := 10) (q := (n + 6)) (N := 17) T_ok T_k d_Score_init_78 rfl rfl cl_Score_9 (by decide) (by decide) hn (fun h16 eh16 nh16 gh16 => ?_)
  have oh16 := hn
  replace hn := nh16
  replace hs := gh16 _ _ hs
  refine A_dupR d_Score_init_81 ?_
  refine A_pc (pc' := 82) rfl ?_
  refine A_callI0 m_Voice_init d_Score_init_82 l_Score_40 k_Voice_init (by decide) (by decide) (Nat.le_of_ble_eq_true rfl) (c_Voice_init h16 (n + 6) (n + 7) hn (sx_n eh16 oh16) 1) (fun r h17 hq => ?_)
  obtain ⟨rfl, eh17⟩ := hq
  replace hn := i_Voice_lenE eh17 hn
  replace hs := i_Voice_atE eh17 hs
  refine A_aastorev (j := 0) d_Score_init_85 (i_Voice_atE eh17 (gh16 _ _ (sp_r eh14 (gh13 _ _ (sp_r eh12 (gh11 _ _ (sp_r eh10 (gh9 _ _ (sp_r eh8 (gh7 _ _ (sp_r eh6 (gh5 _ _ (sp_i eh4 (sp_i eh3 (sp_r eh2 (sx_n eh1 oh1)))))))))))))))) (i_Voice_atE eh17 (sx_n eh16 oh16)) (by decide) (by decide) rfl (fun h18 eh18 => ?_)
  replace hn := sn_r eh18 hn
  replace hs := sp_r eh18 hs
  refine A_iincv (z := 1) (L' := [some (av_R (some t)), some (av_I 1)]) d_Score_init_86 rfl (by decide +kernel) rfl ?_
  refine A_goto (tgt := 64) d_Score_init_89 (by decide) ?_
  refine A_iload_n 1 d_Score_init_64 rfl rfl ?_
  refine A_aload_n 0 d_Score_init_65 rfl rfl ?_
  refine A_getAv (z := (some n)) T_ok d_Score_init_66 f_Score_11 hs (rr_o eh18 (fun q => (Nat.ne_of_lt htn) q.1) (i_Voice_roE eh17 (Nat.ne_of_lt (Nat.lt_add_right 6 htn)) (rr_n eh16 (rr_o eh14 (fun q => absurd q.2 (by decide)) (rr_n eh13 (rr_o eh12 (fun q => absurd q.2 (by decide)) (rr_n eh11 (rr_o eh10 (fun q => absurd q.2 (by decide)) (rr_n eh9 (rr_o eh8 (fun q => absurd q.2 (by decide)) (rr_n eh7 (rr_o eh6 (fun q => absurd q.2 (by decide)) (rr_n eh5 (rr_i eh4 (rr_i eh3 (rr_s eh2)))))))))))))))) ?_
  refine A_alenN d_Score_init_69 (sp_r eh18 (i_Voice_atE eh17 (gh16 _ _ (sp_r eh14 (gh13 _ _ (sp_r eh12 (gh11 _ _ (sp_r eh10 (gh9 _ _ (sp_r eh8 (gh7 _ _ (sp_r eh6 (gh5 _ _ (sp_i eh4 (sp_i eh3 (sp_r eh2 (sx_n eh1 oh1))))))))))))))))) (by decide) (by decide) ?_
  refine A_icmp_ge (tgt := 92) d_Score_init_70 (by decide) (fun c19 => absurd c19 (by decide)) (fun c19 => ?_)
  refine A_aload_n 0 d_Score_init_73 rfl rfl ?_
  refine A_getAv (z := (some n)) T_ok d_Score_init_74 f_Score_11 hs (rr_o eh18 (fun q => (Nat.ne_of_lt htn) q.1) (i_Voice_roE eh17 (Nat.ne_of_lt (Nat.lt_add_right 6 htn)) (rr_n eh16 (rr_o eh14 (fun q => absurd q.2 (by decide)) (rr_n eh13 (rr_o eh12 (fun q => absurd q.2 (by decide)) (rr_n eh11 (rr_o eh10 (fun q => absurd q.2 (by decide)) (rr_n eh9 (rr_o eh8 (fun q => absurd q.2 (by decide)) (rr_n eh7 (rr_o eh6 (fun q => absurd q.2 (by decide)) (rr_n eh5 (rr_i eh4 (rr_i eh3 (rr_s eh2)))))))))))))))) ?_
  refine A_iload_n 1 d_Score_init_77 rfl rfl ?_
  refine A_newv (c := 10) (q := (n + 20)) (N := 17) T_ok T_k d_Score_init_78 rfl rfl cl_Score_9 (by decide) (by decide) hn (fun h20 eh20 nh20 gh20 => ?_)
  have oh20 := hn
  replace hn := nh20
  replace hs := gh20 _ _ hs
  refine A_dupR d_Score_init_81 ?_
  refine A_pc (pc' := 82) rfl ?_
  refine A_callI0 m_Voice_init d_Score_init_82 l_Score_40 k_Voice_init (by decide) (by decide) (Nat.le_of_ble_eq_true rfl) (c_Voice_init h20 (n + 20) (n + 21) hn (sx_n eh20 oh20) 1) (fun r h21 hq => ?_)
  obtain ⟨rfl, eh21⟩ := hq
  replace hn := i_Voice_lenE eh21 hn
  replace hs := i_Voice_atE eh21 hs
  refine A_aastorev (j := 1) d_Score_init_85 (i_Voice_atE eh21 (gh20 _ _ (sp_r eh18 (i_Voice_atE eh17 (gh16 _ _ (sp_r eh14 (gh13 _ _ (sp_r eh12 (gh11 _ _ (sp_r eh10 (gh9 _ _ (sp_r eh8 (gh7 _ _ (sp_r eh6 (gh5 _ _ (sp_i eh4 (sp_i eh3 (sp_r eh2 (sx_n eh1 oh1))))))))))))))))))) (i_Voice_atE eh21 (sx_n eh20 oh20)) (by decide) (by decide) rfl (fun h22 eh22 => ?_)
  replace hn := sn_r eh22 hn
  replace hs := sp_r eh22 hs
  refine A_iincv (z := 2) (L' := [some (av_R (some t)), some (av_I 2)]) d_Score_init_86 rfl (by decide +kernel) rfl ?_
  refine A_goto (tgt := 64) d_Score_init_89 (by decide) ?_
  refine A_iload_n 1 d_Score_init_64 rfl rfl ?_
  refine A_aload_n 0 d_Score_init_65 rfl rfl ?_
  refine A_getAv (z := (some n)) T_ok d_Score_init_66 f_Score_11 hs (rr_o eh22 (fun q => (Nat.ne_of_lt htn) q.1) (i_Voice_roE eh21 (Nat.ne_of_lt (Nat.lt_add_right 20 htn)) (rr_n eh20 (rr_o eh18 (fun q => (Nat.ne_of_lt htn) q.1) (i_Voice_roE eh17 (Nat.ne_of_lt (Nat.lt_add_right 6 htn)) (rr_n eh16 (rr_o eh14 (fun q => absurd q.2 (by decide)) (rr_n eh13 (rr_o eh12 (fun q => absurd q.2 (by decide)) (rr_n eh11 (rr_o eh10 (fun q => absurd q.2 (by decide)) (rr_n eh9 (rr_o eh8 (fun q => absurd q.2 (by decide)) (rr_n eh7 (rr_o eh6 (fun q => absurd q.2 (by decide)) (rr_n eh5 (rr_i eh4 (rr_i eh3 (rr_s eh2))))))))))))))))))) ?_
  refine A_alenN d_Score_init_69 (sp_r eh22 (i_Voice_atE eh21 (gh20 _ _ (sp_r eh18 (i_Voice_atE eh17 (gh16 _ _ (sp_r eh14 (gh13 _ _ (sp_r eh12 (gh11 _ _ (sp_r eh10 (gh9 _ _ (sp_r eh8 (gh7 _ _ (sp_r eh6 (gh5 _ _ (sp_i eh4 (sp_i eh3 (sp_r eh2 (sx_n eh1 oh1)))))))))))))))))))) (by decide) (by decide) ?_
  refine A_icmp_ge (tgt := 92) d_Score_init_70 (by decide) (fun c23 => absurd c23 (by decide)) (fun c23 => ?_)
  refine A_aload_n 0 d_Score_init_73 rfl rfl ?_
  refine A_getAv (z := (some n)) T_ok d_Score_init_74 f_Score_11 hs (rr_o eh22 (fun q => (Nat.ne_of_lt htn) q.1) (i_Voice_roE eh21 (Nat.ne_of_lt (Nat.lt_add_right 20 htn)) (rr_n eh20 (rr_o eh18 (fun q => (Nat.ne_of_lt htn) q.1) (i_Voice_roE eh17 (Nat.ne_of_lt (Nat.lt_add_right 6 htn)) (rr_n eh16 (rr_o eh14 (fun q => absurd q.2 (by decide)) (rr_n eh13 (rr_o eh12 (fun q => absurd q.2 (by decide)) (rr_n eh11 (rr_o eh10 (fun q => absurd q.2 (by decide)) (rr_n eh9 (rr_o eh8 (fun q => absurd q.2 (by decide)) (rr_n eh7 (rr_o eh6 (fun q => absurd q.2 (by decide)) (rr_n eh5 (rr_i eh4 (rr_i eh3 (rr_s eh2))))))))))))))))))) ?_
  refine A_iload_n 1 d_Score_init_77 rfl rfl ?_
  refine A_newv (c := 10) (q := (n + 34)) (N := 17) T_ok T_k d_Score_init_78 rfl rfl cl_Score_9 (by decide) (by decide) hn (fun h24 eh24 nh24 gh24 => ?_)
  have oh24 := hn
  replace hn := nh24
  replace hs := gh24 _ _ hs
  refine A_dupR d_Score_init_81 ?_
  refine A_pc (pc' := 82) rfl ?_
  refine A_callI0 m_Voice_init d_Score_init_82 l_Score_40 k_Voice_init (by decide) (by decide) (Nat.le_of_ble_eq_true rfl) (c_Voice_init h24 (n + 34) (n + 35) hn (sx_n eh24 oh24) 1) (fun r h25 hq => ?_)
  obtain ⟨rfl, eh25⟩ := hq
  replace hn := i_Voice_lenE eh25 hn
  replace hs := i_Voice_atE eh25 hs
  refine A_aastorev (j := 2) d_Score_init_85 (i_Voice_atE eh25 (gh24 _ _ (sp_r eh22 (i_Voice_atE eh21 (gh20 _ _ (sp_r eh18 (i_Voice_atE eh17 (gh16 _ _ (sp_r eh14 (gh13 _ _ (sp_r eh12 (gh11 _ _ (sp_r eh10 (gh9 _ _ (sp_r eh8 (gh7 _ _ (sp_r eh6 (gh5 _ _ (sp_i eh4 (sp_i eh3 (sp_r eh2 (sx_n eh1 oh1)))))))))))))))))))))) (i_Voice_atE eh25 (sx_n eh24 oh24)) (by decide) (by decide) rfl (fun h26 eh26 => ?_)
  replace hn := sn_r eh26 hn
  replace hs := sp_r eh26 hs
  refine A_iincv (z := 3) (L' := [some (av_R (some t)), some (av_I 3)]) d_Score_init_86 rfl (by decide +kernel) rfl ?_
  refine A_goto (tgt := 64) d_Score_init_89 (by decide) ?_
  refine A_iload_n 1 d_Score_init_64 rfl rfl ?_
  refine A_aload_n 0 d_Score_init_65 rfl rfl ?_
  refine A_getAv (z := (some n)) T_ok d_Score_init_66 f_Score_11 hs (rr_o eh26 (fun q => (Nat.ne_of_lt htn) q.1) (i_Voice_roE eh25 (Nat.ne_of_lt (Nat.lt_add_right 34 htn)) (rr_n eh24 (rr_o eh22 (fun q => (Nat.ne_of_lt htn) q.1) (i_Voice_roE eh21 (Nat.ne_of_lt (Nat.lt_add_right 20 htn)) (rr_n eh20 (rr_o eh18 (fun q => (Nat.ne_of_lt htn) q.1) (i_Voice_roE eh17 (Nat.ne_of_lt (Nat.lt_add_right 6 htn)) (rr_n eh16 (rr_o eh14 (fun q => absurd q.2 (by decide)) (rr_n eh13 (rr_o eh12 (fun q => absurd q.2 (by decide)) (rr_n eh11 (rr_o eh10 (fun q => absurd q.2 (by decide)) (rr_n eh9 (rr_o eh8 (fun q => absurd q.2 (by decide)) (rr_n eh7 (rr_o eh6 (fun q => absurd q.2 (by decide)) (rr_n eh5 (rr_i eh4 (rr_i eh3 (rr_s eh2)))))))))))))))))))))) ?_
  refine A_alenN d_Score_init_69 (sp_r eh26 (i_Voice_atE eh25 (gh24 _ _ (sp_r eh22 (i_Voice_atE eh21 (gh20 _ _ (sp_r eh18 (i_Voice_atE eh17 (gh16 _ _ (sp_r eh14 (gh13 _ _ (sp_r eh12 (gh11 _ _ (sp_r eh10 (gh9 _ _ (sp_r eh8 (gh7 _ _ (sp_r eh6 (gh5 _ _ (sp_i eh4 (sp_i eh3 (sp_r eh2 (sx_n eh1 oh1))))))))))))))))))))))) (by decide) (by decide) ?_
  refine A_icmp_ge (tgt := 92) d_Score_init_70 (by decide) (fun c27 => absurd c27 (by decide)) (fun c27 => ?_)
  refine A_aload_n 0 d_Score_init_73 rfl rfl ?_
  refine A_getAv (z := (some n)) T_ok d_Score_init_74 f_Score_11 hs (rr_o eh26 (fun q => (Nat.ne_of_lt htn) q.1) (i_Voice_roE eh25 (Nat.ne_of_lt (Nat.lt_add_right 34 htn)) (rr_n eh24 (rr_o eh22 (fun q => (Nat.ne_of_lt htn) q.1) (i_Voice_roE eh21 (Nat.ne_of_lt (Nat.lt_add_right 20 htn)) (rr_n eh20 (rr_o eh18 (fun q => (Nat.ne_of_lt htn) q.1) (i_Voice_roE eh17 (Nat.ne_of_lt (Nat.lt_add_right 6 htn)) (rr_n eh16 (rr_o eh14 (fun q => absurd q.2 (by decide)) (rr_n eh13 (rr_o eh12 (fun q => absurd q.2 (by decide)) (rr_n eh11 (rr_o eh10 (fun q => absurd q.2 (by decide)) (rr_n eh9 (rr_o eh8 (fun q => absurd q.2 (by decide)) (rr_n eh7 (rr_o eh6 (fun q => absurd q.2 (by decide)) (rr_n eh5 (rr_i eh4 (rr_i eh3 (rr_s eh2)))))))))))))))))))))) ?_
  refine A_iload_n 1 d_Score_init_77 rfl rfl ?_
  refine A_newv (c := 10) (q := (n + 48)) (N := 17) T_ok T_k d_Score_init_78 rfl rfl cl_Score_9 (by decide) (by decide) hn (fun h28 eh28 nh28 gh28 => ?_)
  have oh28 := hn
  replace hn := nh28
  replace hs := gh28 _ _ hs
  refine A_dupR d_Score_init_81 ?_
  refine A_pc (pc' := 82) rfl ?_
  refine A_callI0 m_Voice_init d_Score_init_82 l_Score_40 k_Voice_init (by decide) (by decide) (Nat.le_of_ble_eq_true rfl) (c_Voice_init h28 (n + 48) (n + 49) hn (sx_n eh28 oh28) 1) (fun r h29 hq => ?_)
  obtain ⟨rfl, eh29⟩ := hq
  replace hn := i_Voice_lenE eh29 hn
  replace hs := i_Voice_atE eh29 hs
  refine A_aastorev (j := 3) d_Score_init_85 (i_Voice_atE eh29 (gh28 _ _ (sp_r eh26 (i_Voice_atE eh25 (gh24 _ _ (sp_r eh22 (i_Voice_atE eh21 (gh20 _ _ (sp_r eh18 (i_Voice_atE eh17 (gh16 _ _ (sp_r eh14 (gh13 _ _ (sp_r eh12 (gh11 _ _ (sp_r eh10 (gh9 _ _ (sp_r eh8 (gh7 _ _ (sp_r eh6 (gh5 _ _ (sp_i eh4 (sp_i eh3 (sp_r eh2 (sx_n eh1 oh1))))))))))))))))))))))))) (i_Voice_atE eh29 (sx_n eh28 oh28)) (by decide) (by decide) rfl (fun h30 eh30 => ?_)
  replace hn := sn_r eh30 hn
  replace hs := sp_r eh30 hs
  refine A_iincv (z := 4) (L' := [some (av_R (some t)), some (av_I 4)]) d_Score_init_86 rfl (by decide +kernel) rfl ?_
  refine A_goto (tgt := 64) d_Score_init_89 (by decide) ?_
  refine A_iload_n 1 d_Score_init_64 rfl rfl ?_
  refine A_aload_n 0 d_Score_init_65 rfl rfl ?_
  refine A_getAv (z := (some n)) T_ok d_Score_init_66 f_Score_11 hs (rr_o eh30 (fun q => (Nat.ne_of_lt htn) q.1) (i_Voice_roE eh29 (Nat.ne_of_lt (Nat.lt_add_right 48 htn)) (rr_n eh28 (rr_o eh26 (fun q => (Nat.ne_of_lt htn) q.1) (i_Voice_roE eh25 (Nat.ne_of_lt (Nat.lt_add_right 34 htn)) (rr_n eh24 (rr_o eh22 (fun q => (Nat.ne_of_lt htn) q.1) (i_Voice_roE eh21 (Nat.ne_of_lt (Nat.lt_add_right 20 htn)) (rr_n eh20 (rr_o eh18 (fun q => (Nat.ne_of_lt htn) q.1) (i_Voice_roE eh17 (Nat.ne_of_lt (Nat.lt_add_right 6 htn)) (rr_n eh16 (rr_o eh14 (fun q => absurd q.2 (by decide)) (rr_n eh13 (rr_o eh12 (fun q => absurd q.2 (by decide)) (rr_n eh11 (rr_o eh10 (fun q => absurd q.2 (by decide)) (rr_n eh9 (rr_o eh8 (fun q => absurd q.2 (by decide)) (rr_n eh7 (rr_o eh6 (fun q => absurd q.2 (by decide)) (rr_n eh5 (rr_i eh4 (rr_i eh3 (rr_s eh2))))))))))))))))))))))))) ?_
  refine A_alenN d_Score_init_69 (sp_r eh30 (i_Voice_atE eh29 (gh28 _ _ (sp_r eh26 (i_Voice_atE eh25 (gh24 _ _ (sp_r eh22 (i_Voice_atE eh21 (gh20 _ _ (sp_r eh18 (i_Voice_atE eh17 (gh16 _ _ (sp_r eh14 (gh13 _ _ (sp_r eh12 (gh11 _ _ (sp_r eh10 (gh9 _ _ (sp_r eh8 (gh7 _ _ (sp_r eh6 (gh5 _ _ (sp_i eh4 (sp_i eh3 (sp_r eh2 (sx_n eh1 oh1)))))))))))))))))))))))))) (by decide) (by decide) ?_
  refine A_icmp_ge (tgt := 92) d_Score_init_70 (by decide) (fun c31 => ?_) (fun c31 => absurd c31 (by decide))
  exact A_vret d_Score_init_92 (by decide) rfl ⟨rfl, by rw [eh30, eh29, eh28, eh26, eh25, eh24, eh22, eh21, eh20, eh18, eh17, eh16, eh14, eh13, eh12, eh11, eh10, eh9, eh8, eh7, eh6, eh5, eh4, eh3, eh2, eh1] <;> rfl⟩
def i_Tokens (h : ah_T) (t n : Nat) : ah_T := (st_r (st_n (st_r (st_n (st_r (st_n (st_r (st_n (st_r (st_n h 0 2001) t 0 (some n)) 0 2001) t 1 (some (n + 1))) 1 2001) t 2 (some (n + 2))) 0 2001) t 3 (some (n + 3))) 0 0) t 6 (some (n + 4)))
set_option maxRecDepth 100000 in
theorem i_Tokens_sh (h : ah_T) (t n : Nat) : (i_Tokens h t n).1 = h.1 ++ [(0, 2001), (0, 2001), (1, 2001), (0, 2001), (0, 0)] := by
  simp only [i_Tokens, n1_s, i1_s, l1_s, r1_s, List.append_assoc, List.cons_append, List.nil_append]
theorem i_Tokens_len {h : ah_T} {t n q : Nat} (hq : h.1.length = q) : (i_Tokens h t n).1.length = q + 5 := by rw [i_Tokens_sh, List.length_append, hq]; rfl
theorem i_Tokens_at {h : ah_T} {t n x : Nat} {y : Nat × Nat} (hx : h.1[x]? = some y) : (i_Tokens h t n).1[x]? = some y := by rw [i_Tokens_sh, List.getElem?_append_left (List.getElem?_eq_some_iff.mp hx).1]; exact hx
theorem i_Tokens_atE {h h' : ah_T} {t n x : Nat} {y : Nat × Nat} (e : h' = i_Tokens h t n) (hx : h.1[x]? = some y) : h'.1[x]? = some y := by subst e; exact i_Tokens_at hx
theorem i_Tokens_lenE {h h' : ah_T} {t n q : Nat} (e : h' = i_Tokens h t n) (hq : h.1.length = q) : h'.1.length = q + 5 := by subst e; exact i_Tokens_len hq
set_option maxRecDepth 100000 in
set_option maxHeartbeats 8000000 in
theorem c_Tokens_init {G : cx_T} (h : ah_T) (t n : Nat) (hn : h.1.length = n) (hs : h.1[t]? = some (8 + 4, 13)) (d : Nat) (hd : d = 1 := by rfl) : con G d 5 8004 m_Tokens_init [av_R (some t)] h (fun r h' => r = none ∧ h' = i_Tokens h t n) := by
  subst hd
  have htn : t < n := by rw [← hn]; exact (List.getElem?_eq_some_iff.mp hs).1
  refine con_of (L := [some (av_R (some t))]) (by decide +kernel) (Nat.le_of_ble_eq_true rfl) rfl ?_
  refine A_aload_n 0 d_Tokens_init_0 rfl rfl ?_
  refine A_objInit d_Tokens_init_1 oi_Tokens.1 oi_Tokens.2.1 oi_Tokens.2.2 (by decide) rfl ?_
  refine A_aload_n 0 d_Tokens_init_4 rfl rfl ?_
  refine A_sipush d_Tokens_init_5 rfl ?_
  refine A_newIv (q := n) (N := 2001) d_Tokens_init_8 ac_int rfl (by decide) (by decide) (by decide) hn (fun h1 eh1 nh1 gh1 => ?_)
  have oh1 := hn
  replace hn := nh1
  replace hs := gh1 _ _ hs
  refine A_pc (pc' := 10) rfl ?_
  refine A_putRv T_ok d_Tokens_init_10 f_Tokens_9 ty_a hs (Or.inr ⟨rfl, fun q hq => by cases hq; rfl⟩) (fun h2 eh2 => ?_)
  replace hn := sn_r eh2 hn
  replace hs := sp_r eh2 hs
  refine A_aload_n 0 d_Tokens_init_13 rfl rfl ?_
  refine A_sipush d_Tokens_init_14 rfl ?_
  refine A_newIv (q := (n + 1)) (N := 2001) d_Tokens_init_17 ac_int rfl (by decide) (by decide) (by decide) hn (fun h3 eh3 nh3 gh3 => ?_)
  have oh3 := hn
  replace hn := nh3
  replace hs := gh3 _ _ hs
  refine A_putRv T_ok d_Tokens_init_19 f_Tokens_15 ty_a hs (Or.inr ⟨rfl, fun q hq => by cases hq; rfl⟩) (fun h4 eh4 => ?_)
  replace hn := sn_r eh4 hn
  replace hs := sp_r eh4 hs
  refine A_aload_n 0 d_Tokens_init_22 rfl rfl ?_
  refine A_pc (pc' := 23) rfl ?_
  refine A_sipush d_Tokens_init_23 rfl ?_
  refine A_newLv (q := (n + 2)) (N := 2001) d_Tokens_init_26 ac_long rfl (by decide) (by decide) (by decide) hn (fun h5 eh5 nh5 gh5 => ?_)
  have oh5 := hn
  replace hn := nh5
  replace hs := gh5 _ _ hs
  refine A_putRv T_ok d_Tokens_init_28 f_Tokens_18 ty_a hs (Or.inr ⟨rfl, fun q hq => by cases hq; rfl⟩) (fun h6 eh6 => ?_)
  replace hn := sn_r eh6 hn
  replace hs := sp_r eh6 hs
  refine A_aload_n 0 d_Tokens_init_31 rfl rfl ?_
  refine A_sipush d_Tokens_init_32 rfl ?_
  refine A_newIv (q := (n + 3)) (N := 2001) d_Tokens_init_35 ac_int rfl (by decide) (by decide) (by decide) hn (fun h7 eh7 nh7 gh7 => ?_)
  have oh7 := hn
  replace hn := nh7
  replace hs := gh7 _ _ hs
  refine A_pc (pc' := 37) rfl ?_
  refine A_putRv T_ok d_Tokens_init_37 f_Tokens_22 ty_a hs (Or.inr ⟨rfl, fun q hq => by cases hq; rfl⟩) (fun h8 eh8 => ?_)
  replace hn := sn_r eh8 hn
  replace hs := sp_r eh8 hs
  refine A_aload_n 0 d_Tokens_init_40 rfl rfl ?_
  refine A_iconst d_Tokens_init_41 rfl ?_
  refine A_newIv (q := (n + 4)) (N := 0) d_Tokens_init_42 ac_int rfl (by decide) (by decide) (by decide) hn (fun h9 eh9 nh9 gh9 => ?_)
  have oh9 := hn
  replace hn := nh9
  replace hs := gh9 _ _ hs
  refine A_putRv T_ok d_Tokens_init_44 f_Tokens_25 ty_a hs fin_f (fun h10 eh10 => ?_)
  replace hn := sn_r eh10 hn
  replace hs := sp_r eh10 hs
  exact A_vret d_Tokens_init_47 (by decide) rfl ⟨rfl, by rw [eh10, eh9, eh8, eh7, eh6, eh5, eh4, eh3, eh2, eh1] <;> rfl⟩
def i_Parts (h : ah_T) (t n : Nat) : ah_T := (st_r (st_n (st_r (st_n (st_r (st_n (st_r (st_n (st_r (st_n (st_r (st_n h 0 2000) t 0 (some n)) 0 2000) t 1 (some (n + 1))) 0 2000) t 2 (some (n + 2))) 0 2000) t 3 (some (n + 3))) 0 7) t 5 (some (n + 4))) 0 7) t 6 (some (n + 5)))
set_option maxRecDepth 100000 in
theorem i_Parts_sh (h : ah_T) (t n : Nat) : (i_Parts h t n).1 = h.1 ++ [(0, 2000), (0, 2000), (0, 2000), (0, 2000), (0, 7), (0, 7)] := by
  simp only [i_Parts, n1_s, i1_s, l1_s, r1_s, List.append_assoc, List.cons_append, List.nil_append]
theorem i_Parts_len {h : ah_T} {t n q : Nat} (hq : h.1.length = q) : (i_Parts h t n).1.length = q + 6 := by rw [i_Parts_sh, List.length_append, hq]; rfl
theorem i_Parts_at {h : ah_T} {t n x : Nat} {y : Nat × Nat} (hx : h.1[x]? = some y) : (i_Parts h t n).1[x]? = some y := by rw [i_Parts_sh, List.getElem?_append_left (List.getElem?_eq_some_iff.mp hx).1]; exact hx
theorem i_Parts_atE {h h' : ah_T} {t n x : Nat} {y : Nat × Nat} (e : h' = i_Parts h t n) (hx : h.1[x]? = some y) : h'.1[x]? = some y := by subst e; exact i_Parts_at hx
theorem i_Parts_lenE {h h' : ah_T} {t n q : Nat} (e : h' = i_Parts h t n) (hq : h.1.length = q) : h'.1.length = q + 6 := by subst e; exact i_Parts_len hq
set_option maxRecDepth 100000 in
set_option maxHeartbeats 8000000 in
theorem c_Parts_init {G : cx_T} (h : ah_T) (t n : Nat) (hn : h.1.length = n) (hs : h.1[t]? = some (4 + 4, 12)) (d : Nat) (hd : d = 1 := by rfl) : con G d 6 8014 m_Parts_init [av_R (some t)] h (fun r h' => r = none ∧ h' = i_Parts h t n) := by
  subst hd
  have htn : t < n := by rw [← hn]; exact (List.getElem?_eq_some_iff.mp hs).1
  refine con_of (L := [some (av_R (some t))]) (by decide +kernel) (Nat.le_of_ble_eq_true rfl) rfl ?_
  refine A_aload_n 0 d_Parts_init_0 rfl rfl ?_
  refine A_objInit d_Parts_init_1 oi_Parts.1 oi_Parts.2.1 oi_Parts.2.2 (by decide) rfl ?_
  refine A_aload_n 0 d_Parts_init_4 rfl rfl ?_
  refine A_sipush d_Parts_init_5 rfl ?_
  refine A_newIv (q := n) (N := 2000) d_Parts_init_8 ac_int rfl (by decide) (by decide) (by decide) hn (fun h1 eh1 nh1 gh1 => ?_)
  have oh1 := hn
  replace hn := nh1
  replace hs := gh1 _ _ hs
  refine A_pc (pc' := 10) rfl ?_
  refine A_putRv T_ok d_Parts_init_10 f_Parts_9 ty_a hs (Or.inr ⟨rfl, fun q hq => by cases hq; rfl⟩) (fun h2 eh2 => ?_)
  replace hn := sn_r eh2 hn
  replace hs := sp_r eh2 hs
  refine A_aload_n 0 d_Parts_init_13 rfl rfl ?_
  refine A_sipush d_Parts_init_14 rfl ?_
  refine A_newIv (q := (n + 1)) (N := 2000) d_Parts_init_17 ac_int rfl (by decide) (by decide) (by decide) hn (fun h3 eh3 nh3 gh3 => ?_)
  have oh3 := hn
  replace hn := nh3
  replace hs := gh3 _ _ hs
  refine A_putRv T_ok d_Parts_init_19 f_Parts_15 ty_a hs (Or.inr ⟨rfl, fun q hq => by cases hq; rfl⟩) (fun h4 eh4 => ?_)
  replace hn := sn_r eh4 hn
  replace hs := sp_r eh4 hs
  refine A_aload_n 0 d_Parts_init_22 rfl rfl ?_
  refine A_pc (pc' := 23) rfl ?_
  refine A_sipush d_Parts_init_23 rfl ?_
  refine A_newIv (q := (n + 2)) (N := 2000) d_Parts_init_26 ac_int rfl (by decide) (by decide) (by decide) hn (fun h5 eh5 nh5 gh5 => ?_)
  have oh5 := hn
  replace hn := nh5
  replace hs := gh5 _ _ hs
  refine A_putRv T_ok d_Parts_init_28 f_Parts_18 ty_a hs (Or.inr ⟨rfl, fun q hq => by cases hq; rfl⟩) (fun h6 eh6 => ?_)
  replace hn := sn_r eh6 hn
  replace hs := sp_r eh6 hs
  refine A_aload_n 0 d_Parts_init_31 rfl rfl ?_
  refine A_sipush d_Parts_init_32 rfl ?_
  refine A_newIv (q := (n + 3)) (N := 2000) d_Parts_init_35 ac_int rfl (by decide) (by decide) (by decide) hn (fun h7 eh7 nh7 gh7 => ?_)
  have oh7 := hn
  replace hn := nh7
  replace hs := gh7 _ _ hs
  refine A_pc (pc' := 37) rfl ?_
  refine A_putRv T_ok d_Parts_init_37 f_Parts_21 ty_a hs (Or.inr ⟨rfl, fun q hq => by cases hq; rfl⟩) (fun h8 eh8 => ?_)
  replace hn := sn_r eh8 hn
  replace hs := sp_r eh8 hs
  refine A_aload_n 0 d_Parts_init_40 rfl rfl ?_
  refine A_bipush d_Parts_init_41 rfl ?_
  refine A_newIv (q := (n + 4)) (N := 7) d_Parts_init_43 ac_int rfl (by decide) (by decide) (by decide) hn (fun h9 eh9 nh9 gh9 => ?_)
  have oh9 := hn
  replace hn := nh9
  replace hs := gh9 _ _ hs
  refine A_putRv T_ok d_Parts_init_45 f_Parts_24 ty_a hs (Or.inr ⟨rfl, fun q hq => by cases hq; rfl⟩) (fun h10 eh10 => ?_)
  replace hn := sn_r eh10 hn
  replace hs := sp_r eh10 hs
  refine A_aload_n 0 d_Parts_init_48 rfl rfl ?_
  refine A_pc (pc' := 49) rfl ?_
  refine A_bipush d_Parts_init_49 rfl ?_
  refine A_newIv (q := (n + 5)) (N := 7) d_Parts_init_51 ac_int rfl (by decide) (by decide) (by decide) hn (fun h11 eh11 nh11 gh11 => ?_)
  have oh11 := hn
  replace hn := nh11
  replace hs := gh11 _ _ hs
  refine A_putRv T_ok d_Parts_init_53 f_Parts_27 ty_a hs (Or.inr ⟨rfl, fun q hq => by cases hq; rfl⟩) (fun h12 eh12 => ?_)
  replace hn := sn_r eh12 hn
  replace hs := sp_r eh12 hs
  exact A_vret d_Parts_init_56 (by decide) rfl ⟨rfl, by rw [eh12, eh11, eh10, eh9, eh8, eh7, eh6, eh5, eh4, eh3, eh2, eh1] <;> rfl⟩
def i_Reader (h : ah_T) (t n : Nat) : ah_T := (st_r (i_Score (st_n (st_r (st_n (st_r (i_Parts (st_n (st_r (i_Tokens (st_n h 12 13) n (n + 1)) t 0 (some n)) 8 12) (n + 6) (n + 7)) t 1 (some (n + 6))) 1 16) t 2 (some (n + 13))) 10 13) (n + 14) (n + 15)) t 5 (some (n + 14)))
set_option maxRecDepth 100000 in
theorem i_Reader_sh (h : ah_T) (t n : Nat) : (i_Reader h t n).1 = h.1 ++ [(12, 13), (0, 2001), (0, 2001), (1, 2001), (0, 2001), (0, 0), (8, 12), (0, 2000), (0, 2000), (0, 2000), (0, 2000), (0, 7), (0, 7), (1, 16), (10, 13), (3, 4), (0, 8), (0, 24), (0, 24), (0, 24), (0, 12), (14, 17), (0, 300), (0, 300), (0, 301), (0, 300), (0, 300), (2, 300), (0, 300), (0, 300), (1, 301), (1, 301), (1, 300), (1, 300), (0, 102), (14, 17), (0, 300), (0, 300), (0, 301), (0, 300), (0, 300), (2, 300), (0, 300), (0, 300), (1, 301), (1, 301), (1, 300), (1, 300), (0, 102), (14, 17), (0, 300), (0, 300), (0, 301), (0, 300), (0, 300), (2, 300), (0, 300), (0, 300), (1, 301), (1, 301), (1, 300), (1, 300), (0, 102), (14, 17), (0, 300), (0, 300), (0, 301), (0, 300), (0, 300), (2, 300), (0, 300), (0, 300), (1, 301), (1, 301), (1, 300), (1, 300), (0, 102)] := by
  simp only [i_Reader, n1_s, i1_s, l1_s, r1_s, i_Parts_sh, i_Score_sh, i_Tokens_sh, List.append_assoc, List.cons_append, List.nil_append]
theorem i_Reader_len {h : ah_T} {t n q : Nat} (hq : h.1.length = q) : (i_Reader h t n).1.length = q + 77 := by rw [i_Reader_sh, List.length_append, hq]; rfl
theorem i_Reader_at {h : ah_T} {t n x : Nat} {y : Nat × Nat} (hx : h.1[x]? = some y) : (i_Reader h t n).1[x]? = some y := by rw [i_Reader_sh, List.getElem?_append_left (List.getElem?_eq_some_iff.mp hx).1]; exact hx
theorem i_Reader_atE {h h' : ah_T} {t n x : Nat} {y : Nat × Nat} (e : h' = i_Reader h t n) (hx : h.1[x]? = some y) : h'.1[x]? = some y := by subst e; exact i_Reader_at hx
theorem i_Reader_lenE {h h' : ah_T} {t n q : Nat} (e : h' = i_Reader h t n) (hq : h.1.length = q) : h'.1.length = q + 77 := by subst e; exact i_Reader_len hq
set_option maxRecDepth 100000 in
set_option maxHeartbeats 8000000 in
theorem c_Reader_init {G : cx_T} (h : ah_T) (t n : Nat) (hn : h.1.length = n) (hs : h.1[t]? = some (5 + 4, 8)) (d : Nat) (hd : d = 3 := by rfl) : con G d 77 31056 m_Reader_init [av_R (some t)] h (fun r h' => r = none ∧ h' = i_Reader h t n) := by
  subst hd
  have htn : t < n := by rw [← hn]; exact (List.getElem?_eq_some_iff.mp hs).1
  refine con_of (L := [some (av_R (some t))]) (by decide +kernel) (Nat.le_of_ble_eq_true rfl) rfl ?_
  refine A_aload_n 0 d_Reader_init_0 rfl rfl ?_
  refine A_objInit d_Reader_init_1 oi_Reader.1 oi_Reader.2.1 oi_Reader.2.2 (by decide) rfl ?_
  refine A_aload_n 0 d_Reader_init_4 rfl rfl ?_
  refine A_newv (c := 8) (q := n) (N := 13) T_ok T_k d_Reader_init_5 rfl rfl cl_Reader_9 (by decide) (by decide) hn (fun h1 eh1 nh1 gh1 => ?_)
  have oh1 := hn
  replace hn := nh1
  replace hs := gh1 _ _ hs
  refine A_dupR d_Reader_init_8 ?_
  refine A_pc (pc' := 9) rfl ?_
  refine A_callI0 m_Tokens_init d_Reader_init_9 l_Reader_11 k_Tokens_init (by decide) (by decide) (Nat.le_of_ble_eq_true rfl) (c_Tokens_init h1 n (n + 1) hn (sx_n eh1 oh1) 1) (fun r h2 hq => ?_)
  obtain ⟨rfl, eh2⟩ := hq
  replace hn := i_Tokens_lenE eh2 hn
  replace hs := i_Tokens_atE eh2 hs
  refine A_putRv T_ok d_Reader_init_12 f_Reader_12 ty_o hs (Or.inr ⟨rfl, fun q hq => by cases hq; rfl⟩) (fun h3 eh3 => ?_)
  replace hn := sn_r eh3 hn
  replace hs := sp_r eh3 hs
  refine A_aload_n 0 d_Reader_init_15 rfl rfl ?_
  refine A_newv (c := 4) (q := (n + 6)) (N := 12) T_ok T_k d_Reader_init_16 rfl rfl cl_Reader_18 (by decide) (by decide) hn (fun h4 eh4 nh4 gh4 => ?_)
  have oh4 := hn
  replace hn := nh4
  replace hs := gh4 _ _ hs
  refine A_dupR d_Reader_init_19 ?_
  refine A_callI0 m_Parts_init d_Reader_init_20 l_Reader_20 k_Parts_init (by decide) (by decide) (Nat.le_of_ble_eq_true rfl) (c_Parts_init h4 (n + 6) (n + 7) hn (sx_n eh4 oh4) 1) (fun r h5 hq => ?_)
  obtain ⟨rfl, eh5⟩ := hq
  replace hn := i_Parts_lenE eh5 hn
  replace hs := i_Parts_atE eh5 hs
  refine A_pc (pc' := 23) rfl ?_
  refine A_putRv T_ok d_Reader_init_23 f_Reader_21 ty_o hs (Or.inr ⟨rfl, fun q hq => by cases hq; rfl⟩) (fun h6 eh6 => ?_)
  replace hn := sn_r eh6 hn
  replace hs := sp_r eh6 hs
  refine A_aload_n 0 d_Reader_init_26 rfl rfl ?_
  refine A_bipush d_Reader_init_27 rfl ?_
  refine A_newLv (q := (n + 13)) (N := 16) d_Reader_init_29 ac_long rfl (by decide) (by decide) (by decide) hn (fun h7 eh7 nh7 gh7 => ?_)
  have oh7 := hn
  replace hn := nh7
  replace hs := gh7 _ _ hs
  refine A_putRv T_ok d_Reader_init_31 f_Reader_25 ty_a hs (Or.inr ⟨rfl, fun q hq => by cases hq; rfl⟩) (fun h8 eh8 => ?_)
  replace hn := sn_r eh8 hn
  replace hs := sp_r eh8 hs
  refine A_aload_n 0 d_Reader_init_34 rfl rfl ?_
  refine A_pc (pc' := 35) rfl ?_
  refine A_newv (c := 6) (q := (n + 14)) (N := 13) T_ok T_k d_Reader_init_35 rfl rfl cl_Reader_29 (by decide) (by decide) hn (fun h9 eh9 nh9 gh9 => ?_)
  have oh9 := hn
  replace hn := nh9
  replace hs := gh9 _ _ hs
  refine A_dupR d_Reader_init_38 ?_
  refine A_callI0 m_Score_init d_Reader_init_39 l_Reader_31 k_Score_init (by decide) (by decide) (Nat.le_of_ble_eq_true rfl) (c_Score_init h9 (n + 14) (n + 15) hn (sx_n eh9 oh9) 2) (fun r h10 hq => ?_)
  obtain ⟨rfl, eh10⟩ := hq
  replace hn := i_Score_lenE eh10 hn
  replace hs := i_Score_atE eh10 hs
  refine A_putRv T_ok d_Reader_init_42 f_Reader_32 ty_o hs fin_f (fun h11 eh11 => ?_)
  replace hn := sn_r eh11 hn
  replace hs := sp_r eh11 hs
  exact A_vret d_Reader_init_45 (by decide) rfl ⟨rfl, by rw [eh11, eh10, eh9, eh8, eh7, eh6, eh5, eh4, eh3, eh2, eh1] <;> rfl⟩
def i_Judge (h : ah_T) (t n : Nat) : ah_T := (st_r (st_n (st_r (st_n h 0 6404) t 0 (some n)) 0 4) t 2 (some (n + 1)))
set_option maxRecDepth 100000 in
theorem i_Judge_sh (h : ah_T) (t n : Nat) : (i_Judge h t n).1 = h.1 ++ [(0, 6404), (0, 4)] := by
  simp only [i_Judge, n1_s, i1_s, l1_s, r1_s, List.append_assoc, List.cons_append, List.nil_append]
theorem i_Judge_len {h : ah_T} {t n q : Nat} (hq : h.1.length = q) : (i_Judge h t n).1.length = q + 2 := by rw [i_Judge_sh, List.length_append, hq]; rfl
theorem i_Judge_at {h : ah_T} {t n x : Nat} {y : Nat × Nat} (hx : h.1[x]? = some y) : (i_Judge h t n).1[x]? = some y := by rw [i_Judge_sh, List.getElem?_append_left (List.getElem?_eq_some_iff.mp hx).1]; exact hx
theorem i_Judge_atE {h h' : ah_T} {t n x : Nat} {y : Nat × Nat} (e : h' = i_Judge h t n) (hx : h.1[x]? = some y) : h'.1[x]? = some y := by subst e; exact i_Judge_at hx
theorem i_Judge_lenE {h h' : ah_T} {t n q : Nat} (e : h' = i_Judge h t n) (hq : h.1.length = q) : h'.1.length = q + 2 := by subst e; exact i_Judge_len hq
set_option maxRecDepth 100000 in
set_option maxHeartbeats 8000000 in
theorem c_Judge_init {G : cx_T} (h : ah_T) (t n : Nat) (hn : h.1.length = n) (hs : h.1[t]? = some (1 + 4, 3)) (d : Nat) (hd : d = 1 := by rfl) : con G d 2 6408 m_Judge_init [av_R (some t)] h (fun r h' => r = none ∧ h' = i_Judge h t n) := by
  subst hd
  have htn : t < n := by rw [← hn]; exact (List.getElem?_eq_some_iff.mp hs).1
  refine con_of (L := [some (av_R (some t))]) (by decide +kernel) (Nat.le_of_ble_eq_true rfl) rfl ?_
  refine A_aload_n 0 d_Judge_init_0 rfl rfl ?_
  refine A_objInit d_Judge_init_1 oi_Judge.1 oi_Judge.2.1 oi_Judge.2.2 (by decide) rfl ?_
  refine A_aload_n 0 d_Judge_init_4 rfl rfl ?_
  refine A_sipush d_Judge_init_5 rfl ?_
  refine A_newIv (q := n) (N := 6404) d_Judge_init_8 ac_int rfl (by decide) (by decide) (by decide) hn (fun h1 eh1 nh1 gh1 => ?_)
  have oh1 := hn
  replace hn := nh1
  replace hs := gh1 _ _ hs
  refine A_pc (pc' := 10) rfl ?_
  refine A_putRv T_ok d_Judge_init_10 f_Judge_11 ty_a hs (Or.inr ⟨rfl, fun q hq => by cases hq; rfl⟩) (fun h2 eh2 => ?_)
  replace hn := sn_r eh2 hn
  replace hs := sp_r eh2 hs
  refine A_aload_n 0 d_Judge_init_13 rfl rfl ?_
  refine A_iconst d_Judge_init_14 rfl ?_
  refine A_newIv (q := (n + 1)) (N := 4) d_Judge_init_15 ac_int rfl (by decide) (by decide) (by decide) hn (fun h3 eh3 nh3 gh3 => ?_)
  have oh3 := hn
  replace hn := nh3
  replace hs := gh3 _ _ hs
  refine A_putRv T_ok d_Judge_init_17 f_Judge_15 ty_a hs (Or.inr ⟨rfl, fun q hq => by cases hq; rfl⟩) (fun h4 eh4 => ?_)
  replace hn := sn_r eh4 hn
  replace hs := sp_r eh4 hs
  exact A_vret d_Judge_init_20 (by decide) rfl ⟨rfl, by rw [eh4, eh3, eh2, eh1] <;> rfl⟩
def i_Beams (h : ah_T) (t n : Nat) : ah_T := (st_r (st_n (st_r (st_n (st_r (st_n h 0 14) t 0 (some n)) 0 15) t 2 (some (n + 1))) 0 15) t 3 (some (n + 2)))
set_option maxRecDepth 100000 in
theorem i_Beams_sh (h : ah_T) (t n : Nat) : (i_Beams h t n).1 = h.1 ++ [(0, 14), (0, 15), (0, 15)] := by
  simp only [i_Beams, n1_s, i1_s, l1_s, r1_s, List.append_assoc, List.cons_append, List.nil_append]
theorem i_Beams_len {h : ah_T} {t n q : Nat} (hq : h.1.length = q) : (i_Beams h t n).1.length = q + 3 := by rw [i_Beams_sh, List.length_append, hq]; rfl
theorem i_Beams_at {h : ah_T} {t n x : Nat} {y : Nat × Nat} (hx : h.1[x]? = some y) : (i_Beams h t n).1[x]? = some y := by rw [i_Beams_sh, List.getElem?_append_left (List.getElem?_eq_some_iff.mp hx).1]; exact hx
theorem i_Beams_atE {h h' : ah_T} {t n x : Nat} {y : Nat × Nat} (e : h' = i_Beams h t n) (hx : h.1[x]? = some y) : h'.1[x]? = some y := by subst e; exact i_Beams_at hx
theorem i_Beams_lenE {h h' : ah_T} {t n q : Nat} (e : h' = i_Beams h t n) (hq : h.1.length = q) : h'.1.length = q + 3 := by subst e; exact i_Beams_len hq
set_option maxRecDepth 100000 in
set_option maxHeartbeats 8000000 in
theorem c_Beams_init {G : cx_T} (h : ah_T) (t n : Nat) (hn : h.1.length = n) (hs : h.1[t]? = some (0 + 4, 4)) (d : Nat) (hd : d = 1 := by rfl) : con G d 3 44 m_Beams_init [av_R (some t)] h (fun r h' => r = none ∧ h' = i_Beams h t n) := by
  subst hd
  have htn : t < n := by rw [← hn]; exact (List.getElem?_eq_some_iff.mp hs).1
  refine con_of (L := [some (av_R (some t))]) (by decide +kernel) (Nat.le_of_ble_eq_true rfl) rfl ?_
  refine A_aload_n 0 d_Beams_init_0 rfl rfl ?_
  refine A_objInit d_Beams_init_1 oi_Beams.1 oi_Beams.2.1 oi_Beams.2.2 (by decide) rfl ?_
  refine A_aload_n 0 d_Beams_init_4 rfl rfl ?_
  refine A_bipush d_Beams_init_5 rfl ?_
  refine A_newIv (q := n) (N := 14) d_Beams_init_7 ac_int rfl (by decide) (by decide) (by decide) hn (fun h1 eh1 nh1 gh1 => ?_)
  have oh1 := hn
  replace hn := nh1
  replace hs := gh1 _ _ hs
  refine A_pc (pc' := 9) rfl ?_
  refine A_putRv T_ok d_Beams_init_9 f_Beams_11 ty_a hs (Or.inr ⟨rfl, fun q hq => by cases hq; rfl⟩) (fun h2 eh2 => ?_)
  replace hn := sn_r eh2 hn
  replace hs := sp_r eh2 hs
  refine A_aload_n 0 d_Beams_init_12 rfl rfl ?_
  refine A_bipush d_Beams_init_13 rfl ?_
  refine A_newIv (q := (n + 1)) (N := 15) d_Beams_init_15 ac_int rfl (by decide) (by decide) (by decide) hn (fun h3 eh3 nh3 gh3 => ?_)
  have oh3 := hn
  replace hn := nh3
  replace hs := gh3 _ _ hs
  refine A_putRv T_ok d_Beams_init_17 f_Beams_15 ty_a hs (Or.inr ⟨rfl, fun q hq => by cases hq; rfl⟩) (fun h4 eh4 => ?_)
  replace hn := sn_r eh4 hn
  replace hs := sp_r eh4 hs
  refine A_aload_n 0 d_Beams_init_20 rfl rfl ?_
  refine A_pc (pc' := 21) rfl ?_
  refine A_bipush d_Beams_init_21 rfl ?_
  refine A_newIv (q := (n + 2)) (N := 15) d_Beams_init_23 ac_int rfl (by decide) (by decide) (by decide) hn (fun h5 eh5 nh5 gh5 => ?_)
  have oh5 := hn
  replace hn := nh5
  replace hs := gh5 _ _ hs
  refine A_putRv T_ok d_Beams_init_25 f_Beams_18 ty_a hs (Or.inr ⟨rfl, fun q hq => by cases hq; rfl⟩) (fun h6 eh6 => ?_)
  replace hn := sn_r eh6 hn
  replace hs := sp_r eh6 hs
  exact A_vret d_Beams_init_28 (by decide) rfl ⟨rfl, by rw [eh6, eh5, eh4, eh3, eh2, eh1] <;> rfl⟩
def i_Page (h : ah_T) (t n : Nat) : ah_T := (st_r (st_n (st_r (st_n (st_r (st_n (st_r (st_n (st_r (st_n (st_r (st_n (st_r (st_n h 0 14) t 0 (some n)) 0 14) t 2 (some (n + 1))) 1 15) t 3 (some (n + 2))) 0 15) t 4 (some (n + 3))) 0 4) t 5 (some (n + 4))) 1 4) t 6 (some (n + 5))) 1 4) t 7 (some (n + 6)))
set_option maxRecDepth 100000 in
theorem i_Page_sh (h : ah_T) (t n : Nat) : (i_Page h t n).1 = h.1 ++ [(0, 14), (0, 14), (1, 15), (0, 15), (0, 4), (1, 4), (1, 4)] := by
  simp only [i_Page, n1_s, i1_s, l1_s, r1_s, List.append_assoc, List.cons_append, List.nil_append]
theorem i_Page_len {h : ah_T} {t n q : Nat} (hq : h.1.length = q) : (i_Page h t n).1.length = q + 7 := by rw [i_Page_sh, List.length_append, hq]; rfl
theorem i_Page_at {h : ah_T} {t n x : Nat} {y : Nat × Nat} (hx : h.1[x]? = some y) : (i_Page h t n).1[x]? = some y := by rw [i_Page_sh, List.getElem?_append_left (List.getElem?_eq_some_iff.mp hx).1]; exact hx
theorem i_Page_atE {h h' : ah_T} {t n x : Nat} {y : Nat × Nat} (e : h' = i_Page h t n) (hx : h.1[x]? = some y) : h'.1[x]? = some y := by subst e; exact i_Page_at hx
theorem i_Page_lenE {h h' : ah_T} {t n q : Nat} (e : h' = i_Page h t n) (hq : h.1.length = q) : h'.1.length = q + 7 := by subst e; exact i_Page_len hq
set_option maxRecDepth 100000 in
set_option maxHeartbeats 8000000 in
theorem c_Page_init {G : cx_T} (h : ah_T) (t n : Nat) (hn : h.1.length = n) (hs : h.1[t]? = some (2 + 4, 8)) (d : Nat) (hd : d = 1 := by rfl) : con G d 7 70 m_Page_init [av_R (some t)] h (fun r h' => r = none ∧ h' = i_Page h t n) := by
  subst hd
  have htn : t < n := by rw [← hn]; exact (List.getElem?_eq_some_iff.mp hs).1
  refine con_of (L := [some (av_R (some t))]) (by decide +kernel) (Nat.le_of_ble_eq_true rfl) rfl ?_
  refine A_aload_n 0 d_Page_init_0 rfl rfl ?_
  refine A_objInit d_Page_init_1 oi_Page.1 oi_Page.2.1 oi_Page.2.2 (by decide) rfl ?_
  refine A_aload_n 0 d_Page_init_4 rfl rfl ?_
  refine A_bipush d_Page_init_5 rfl ?_
  refine A_newIv (q := n) (N := 14) d_Page_init_7 ac_int rfl (by decide) (by decide) (by decide) hn (fun h1 eh1 nh1 gh1 => ?_)
  have oh1 := hn
  replace hn := nh1
  replace hs := gh1 _ _ hs
  refine A_pc (pc' := 9) rfl ?_
  refine A_putRv T_ok d_Page_init_9 f_Page_11 ty_a hs (Or.inr ⟨rfl, fun q hq => by cases hq; rfl⟩) (fun h2 eh2 => ?_)
  replace hn := sn_r eh2 hn
  replace hs := sp_r eh2 hs
  refine A_aload_n 0 d_Page_init_12 rfl rfl ?_
  refine A_bipush d_Page_init_13 rfl ?_
  refine A_newIv (q := (n + 1)) (N := 14) d_Page_init_15 ac_int rfl (by decide) (by decide) (by decide) hn (fun h3 eh3 nh3 gh3 => ?_)
  have oh3 := hn
  replace hn := nh3
  replace hs := gh3 _ _ hs
  refine A_putRv T_ok d_Page_init_17 f_Page_15 ty_a hs (Or.inr ⟨rfl, fun q hq => by cases hq; rfl⟩) (fun h4 eh4 => ?_)
  replace hn := sn_r eh4 hn
  replace hs := sp_r eh4 hs
  refine A_aload_n 0 d_Page_init_20 rfl rfl ?_
  refine A_pc (pc' := 21) rfl ?_
  refine A_bipush d_Page_init_21 rfl ?_
  refine A_newLv (q := (n + 2)) (N := 15) d_Page_init_23 ac_long rfl (by decide) (by decide) (by decide) hn (fun h5 eh5 nh5 gh5 => ?_)
  have oh5 := hn
  replace hn := nh5
  replace hs := gh5 _ _ hs
  refine A_putRv T_ok d_Page_init_25 f_Page_18 ty_a hs (Or.inr ⟨rfl, fun q hq => by cases hq; rfl⟩) (fun h6 eh6 => ?_)
  replace hn := sn_r eh6 hn
  replace hs := sp_r eh6 hs
  refine A_aload_n 0 d_Page_init_28 rfl rfl ?_
  refine A_bipush d_Page_init_29 rfl ?_
  refine A_newIv (q := (n + 3)) (N := 15) d_Page_init_31 ac_int rfl (by decide) (by decide) (by decide) hn (fun h7 eh7 nh7 gh7 => ?_)
  have oh7 := hn
  replace hn := nh7
  replace hs := gh7 _ _ hs
  refine A_pc (pc' := 33) rfl ?_
  refine A_putRv T_ok d_Page_init_33 f_Page_22 ty_a hs (Or.inr ⟨rfl, fun q hq => by cases hq; rfl⟩) (fun h8 eh8 => ?_)
  replace hn := sn_r eh8 hn
  replace hs := sp_r eh8 hs
  refine A_aload_n 0 d_Page_init_36 rfl rfl ?_
  refine A_iconst d_Page_init_37 rfl ?_
  refine A_newIv (q := (n + 4)) (N := 4) d_Page_init_38 ac_int rfl (by decide) (by decide) (by decide) hn (fun h9 eh9 nh9 gh9 => ?_)
  have oh9 := hn
  replace hn := nh9
  replace hs := gh9 _ _ hs
  refine A_putRv T_ok d_Page_init_40 f_Page_25 ty_a hs (Or.inr ⟨rfl, fun q hq => by cases hq; rfl⟩) (fun h10 eh10 => ?_)
  replace hn := sn_r eh10 hn
  replace hs := sp_r eh10 hs
  refine A_aload_n 0 d_Page_init_43 rfl rfl ?_
  refine A_pc (pc' := 44) rfl ?_
  refine A_iconst d_Page_init_44 rfl ?_
  refine A_newLv (q := (n + 5)) (N := 4) d_Page_init_45 ac_long rfl (by decide) (by decide) (by decide) hn (fun h11 eh11 nh11 gh11 => ?_)
  have oh11 := hn
  replace hn := nh11
  replace hs := gh11 _ _ hs
  refine A_putRv T_ok d_Page_init_47 f_Page_28 ty_a hs (Or.inr ⟨rfl, fun q hq => by cases hq; rfl⟩) (fun h12 eh12 => ?_)
  replace hn := sn_r eh12 hn
  replace hs := sp_r eh12 hs
  refine A_aload_n 0 d_Page_init_50 rfl rfl ?_
  refine A_iconst d_Page_init_51 rfl ?_
  refine A_newLv (q := (n + 6)) (N := 4) d_Page_init_52 ac_long rfl (by decide) (by decide) (by decide) hn (fun h13 eh13 nh13 gh13 => ?_)
  have oh13 := hn
  replace hn := nh13
  replace hs := gh13 _ _ hs
  refine A_pc (pc' := 54) rfl ?_
  refine A_putRv T_ok d_Page_init_54 f_Page_31 ty_a hs (Or.inr ⟨rfl, fun q hq => by cases hq; rfl⟩) (fun h14 eh14 => ?_)
  replace hn := sn_r eh14 hn
  replace hs := sp_r eh14 hs
  exact A_vret d_Page_init_57 (by decide) rfl ⟨rfl, by rw [eh14, eh13, eh12, eh11, eh10, eh9, eh8, eh7, eh6, eh5, eh4, eh3, eh2, eh1] <;> rfl⟩
def i_Seconds (h : ah_T) (t n : Nat) : ah_T := (st_r (st_n (st_r (st_n (st_r (st_n h 1 1563) t 0 (some n)) 0 8) t 6 (some (n + 1))) 0 8) t 7 (some (n + 2)))
set_option maxRecDepth 100000 in
theorem i_Seconds_sh (h : ah_T) (t n : Nat) : (i_Seconds h t n).1 = h.1 ++ [(1, 1563), (0, 8), (0, 8)] := by
  simp only [i_Seconds, n1_s, i1_s, l1_s, r1_s, List.append_assoc, List.cons_append, List.nil_append]
theorem i_Seconds_len {h : ah_T} {t n q : Nat} (hq : h.1.length = q) : (i_Seconds h t n).1.length = q + 3 := by rw [i_Seconds_sh, List.length_append, hq]; rfl
theorem i_Seconds_at {h : ah_T} {t n x : Nat} {y : Nat × Nat} (hx : h.1[x]? = some y) : (i_Seconds h t n).1[x]? = some y := by rw [i_Seconds_sh, List.getElem?_append_left (List.getElem?_eq_some_iff.mp hx).1]; exact hx
theorem i_Seconds_atE {h h' : ah_T} {t n x : Nat} {y : Nat × Nat} (e : h' = i_Seconds h t n) (hx : h.1[x]? = some y) : h'.1[x]? = some y := by subst e; exact i_Seconds_at hx
theorem i_Seconds_lenE {h h' : ah_T} {t n q : Nat} (e : h' = i_Seconds h t n) (hq : h.1.length = q) : h'.1.length = q + 3 := by subst e; exact i_Seconds_len hq
set_option maxRecDepth 100000 in
set_option maxHeartbeats 8000000 in
theorem c_Seconds_init {G : cx_T} (h : ah_T) (t n : Nat) (hn : h.1.length = n) (hs : h.1[t]? = some (7 + 4, 8)) (d : Nat) (hd : d = 1 := by rfl) : con G d 3 1579 m_Seconds_init [av_R (some t)] h (fun r h' => r = none ∧ h' = i_Seconds h t n) := by
  subst hd
  have htn : t < n := by rw [← hn]; exact (List.getElem?_eq_some_iff.mp hs).1
  refine con_of (L := [some (av_R (some t))]) (by decide +kernel) (Nat.le_of_ble_eq_true rfl) rfl ?_
  refine A_aload_n 0 d_Seconds_init_0 rfl rfl ?_
  refine A_objInit d_Seconds_init_1 oi_Seconds.1 oi_Seconds.2.1 oi_Seconds.2.2 (by decide) rfl ?_
  refine A_aload_n 0 d_Seconds_init_4 rfl rfl ?_
  refine A_sipush d_Seconds_init_5 rfl ?_
  refine A_newLv (q := n) (N := 1563) d_Seconds_init_8 ac_long rfl (by decide) (by decide) (by decide) hn (fun h1 eh1 nh1 gh1 => ?_)
  have oh1 := hn
  replace hn := nh1
  replace hs := gh1 _ _ hs
  refine A_pc (pc' := 10) rfl ?_
  refine A_putRv T_ok d_Seconds_init_10 f_Seconds_11 ty_a hs (Or.inr ⟨rfl, fun q hq => by cases hq; rfl⟩) (fun h2 eh2 => ?_)
  replace hn := sn_r eh2 hn
  replace hs := sp_r eh2 hs
  refine A_aload_n 0 d_Seconds_init_13 rfl rfl ?_
  refine A_bipush d_Seconds_init_14 rfl ?_
  refine A_newIv (q := (n + 1)) (N := 8) d_Seconds_init_16 ac_int rfl (by decide) (by decide) (by decide) hn (fun h3 eh3 nh3 gh3 => ?_)
  have oh3 := hn
  replace hn := nh3
  replace hs := gh3 _ _ hs
  refine A_putRv T_ok d_Seconds_init_18 f_Seconds_15 ty_a hs (Or.inr ⟨rfl, fun q hq => by cases hq; rfl⟩) (fun h4 eh4 => ?_)
  replace hn := sn_r eh4 hn
  replace hs := sp_r eh4 hs
  refine A_aload_n 0 d_Seconds_init_21 rfl rfl ?_
  refine A_pc (pc' := 22) rfl ?_
  refine A_bipush d_Seconds_init_22 rfl ?_
  refine A_newIv (q := (n + 2)) (N := 8) d_Seconds_init_24 ac_int rfl (by decide) (by decide) (by decide) hn (fun h5 eh5 nh5 gh5 => ?_)
  have oh5 := hn
  replace hn := nh5
  replace hs := gh5 _ _ hs
  refine A_putRv T_ok d_Seconds_init_26 f_Seconds_19 ty_a hs (Or.inr ⟨rfl, fun q hq => by cases hq; rfl⟩) (fun h6 eh6 => ?_)
  replace hn := sn_r eh6 hn
  replace hs := sp_r eh6 hs
  exact A_vret d_Seconds_init_29 (by decide) rfl ⟨rfl, by rw [eh6, eh5, eh4, eh3, eh2, eh1] <;> rfl⟩
def i_Trees (h : ah_T) (t n : Nat) : ah_T := (st_r (st_n h 0 2704) t 0 (some n))
set_option maxRecDepth 100000 in
theorem i_Trees_sh (h : ah_T) (t n : Nat) : (i_Trees h t n).1 = h.1 ++ [(0, 2704)] := by
  simp only [i_Trees, n1_s, i1_s, l1_s, r1_s, List.append_assoc, List.cons_append, List.nil_append]
theorem i_Trees_len {h : ah_T} {t n q : Nat} (hq : h.1.length = q) : (i_Trees h t n).1.length = q + 1 := by rw [i_Trees_sh, List.length_append, hq]; rfl
theorem i_Trees_at {h : ah_T} {t n x : Nat} {y : Nat × Nat} (hx : h.1[x]? = some y) : (i_Trees h t n).1[x]? = some y := by rw [i_Trees_sh, List.getElem?_append_left (List.getElem?_eq_some_iff.mp hx).1]; exact hx
theorem i_Trees_atE {h h' : ah_T} {t n x : Nat} {y : Nat × Nat} (e : h' = i_Trees h t n) (hx : h.1[x]? = some y) : h'.1[x]? = some y := by subst e; exact i_Trees_at hx
theorem i_Trees_lenE {h h' : ah_T} {t n q : Nat} (e : h' = i_Trees h t n) (hq : h.1.length = q) : h'.1.length = q + 1 := by subst e; exact i_Trees_len hq
set_option maxRecDepth 100000 in
set_option maxHeartbeats 8000000 in
theorem c_Trees_init {G : cx_T} (h : ah_T) (t n : Nat) (hn : h.1.length = n) (hs : h.1[t]? = some (9 + 4, 6)) (d : Nat) (hd : d = 1 := by rfl) : con G d 1 2704 m_Trees_init [av_R (some t)] h (fun r h' => r = none ∧ h' = i_Trees h t n) := by
  subst hd
  have htn : t < n := by rw [← hn]; exact (List.getElem?_eq_some_iff.mp hs).1
  refine con_of (L := [some (av_R (some t))]) (by decide +kernel) (Nat.le_of_ble_eq_true rfl) rfl ?_
  refine A_aload_n 0 d_Trees_init_0 rfl rfl ?_
  refine A_objInit d_Trees_init_1 oi_Trees.1 oi_Trees.2.1 oi_Trees.2.2 (by decide) rfl ?_
  refine A_aload_n 0 d_Trees_init_4 rfl rfl ?_
  refine A_sipush d_Trees_init_5 rfl ?_
  refine A_newIv (q := n) (N := 2704) d_Trees_init_8 ac_int rfl (by decide) (by decide) (by decide) hn (fun h1 eh1 nh1 gh1 => ?_)
  have oh1 := hn
  replace hn := nh1
  replace hs := gh1 _ _ hs
  refine A_pc (pc' := 10) rfl ?_
  refine A_putRv T_ok d_Trees_init_10 f_Trees_11 ty_a hs (Or.inr ⟨rfl, fun q hq => by cases hq; rfl⟩) (fun h2 eh2 => ?_)
  replace hn := sn_r eh2 hn
  replace hs := sp_r eh2 hs
  exact A_vret d_Trees_init_13 (by decide) rfl ⟨rfl, by rw [eh2, eh1] <;> rfl⟩
def i_Pairing (h : ah_T) (t n : Nat) : ah_T := (st_r (st_n (st_r (st_n (st_r (st_n (st_r (st_n (st_r (st_n h 0 80) t 0 (some n)) 0 80) t 1 (some (n + 1))) 0 1681) t 2 (some (n + 2))) 0 1681) t 3 (some (n + 3))) 0 80) t 4 (some (n + 4)))
set_option maxRecDepth 100000 in
theorem i_Pairing_sh (h : ah_T) (t n : Nat) : (i_Pairing h t n).1 = h.1 ++ [(0, 80), (0, 80), (0, 1681), (0, 1681), (0, 80)] := by
  simp only [i_Pairing, n1_s, i1_s, l1_s, r1_s, List.append_assoc, List.cons_append, List.nil_append]
theorem i_Pairing_len {h : ah_T} {t n q : Nat} (hq : h.1.length = q) : (i_Pairing h t n).1.length = q + 5 := by rw [i_Pairing_sh, List.length_append, hq]; rfl
theorem i_Pairing_at {h : ah_T} {t n x : Nat} {y : Nat × Nat} (hx : h.1[x]? = some y) : (i_Pairing h t n).1[x]? = some y := by rw [i_Pairing_sh, List.getElem?_append_left (List.getElem?_eq_some_iff.mp hx).1]; exact hx
theorem i_Pairing_atE {h h' : ah_T} {t n x : Nat} {y : Nat × Nat} (e : h' = i_Pairing h t n) (hx : h.1[x]? = some y) : h'.1[x]? = some y := by subst e; exact i_Pairing_at hx
theorem i_Pairing_lenE {h h' : ah_T} {t n q : Nat} (e : h' = i_Pairing h t n) (hq : h.1.length = q) : h'.1.length = q + 5 := by subst e; exact i_Pairing_len hq
set_option maxRecDepth 100000 in
set_option maxHeartbeats 8000000 in
theorem c_Pairing_init {G : cx_T} (h : ah_T) (t n : Nat) (hn : h.1.length = n) (hs : h.1[t]? = some (3 + 4, 8)) (d : Nat) (hd : d = 1 := by rfl) : con G d 5 3602 m_Pairing_init [av_R (some t)] h (fun r h' => r = none ∧ h' = i_Pairing h t n) := by
  subst hd
  have htn : t < n := by rw [← hn]; exact (List.getElem?_eq_some_iff.mp hs).1
  refine con_of (L := [some (av_R (some t))]) (by decide +kernel) (Nat.le_of_ble_eq_true rfl) rfl ?_
  refine A_aload_n 0 d_Pairing_init_0 rfl rfl ?_
  refine A_objInit d_Pairing_init_1 oi_Pairing.1 oi_Pairing.2.1 oi_Pairing.2.2 (by decide) rfl ?_
  refine A_aload_n 0 d_Pairing_init_4 rfl rfl ?_
  refine A_bipush d_Pairing_init_5 rfl ?_
  refine A_newIv (q := n) (N := 80) d_Pairing_init_7 ac_int rfl (by decide) (by decide) (by decide) hn (fun h1 eh1 nh1 gh1 => ?_)
  have oh1 := hn
  replace hn := nh1
  replace hs := gh1 _ _ hs
  refine A_pc (pc' := 9) rfl ?_
  refine A_putRv T_ok d_Pairing_init_9 f_Pairing_11 ty_a hs (Or.inr ⟨rfl, fun q hq => by cases hq; rfl⟩) (fun h2 eh2 => ?_)
  replace hn := sn_r eh2 hn
  replace hs := sp_r eh2 hs
  refine A_aload_n 0 d_Pairing_init_12 rfl rfl ?_
  refine A_bipush d_Pairing_init_13 rfl ?_
  refine A_newIv (q := (n + 1)) (N := 80) d_Pairing_init_15 ac_int rfl (by decide) (by decide) (by decide) hn (fun h3 eh3 nh3 gh3 => ?_)
  have oh3 := hn
  replace hn := nh3
  replace hs := gh3 _ _ hs
  refine A_putRv T_ok d_Pairing_init_17 f_Pairing_15 ty_a hs (Or.inr ⟨rfl, fun q hq => by cases hq; rfl⟩) (fun h4 eh4 => ?_)
  replace hn := sn_r eh4 hn
  replace hs := sp_r eh4 hs
  refine A_aload_n 0 d_Pairing_init_20 rfl rfl ?_
  refine A_pc (pc' := 21) rfl ?_
  refine A_sipush d_Pairing_init_21 rfl ?_
  refine A_newIv (q := (n + 2)) (N := 1681) d_Pairing_init_24 ac_int rfl (by decide) (by decide) (by decide) hn (fun h5 eh5 nh5 gh5 => ?_)
  have oh5 := hn
  replace hn := nh5
  replace hs := gh5 _ _ hs
  refine A_putRv T_ok d_Pairing_init_26 f_Pairing_18 ty_a hs (Or.inr ⟨rfl, fun q hq => by cases hq; rfl⟩) (fun h6 eh6 => ?_)
  replace hn := sn_r eh6 hn
  replace hs := sp_r eh6 hs
  refine A_aload_n 0 d_Pairing_init_29 rfl rfl ?_
  refine A_sipush d_Pairing_init_30 rfl ?_
  refine A_newIv (q := (n + 3)) (N := 1681) d_Pairing_init_33 ac_int rfl (by decide) (by decide) (by decide) hn (fun h7 eh7 nh7 gh7 => ?_)
  have oh7 := hn
  replace hn := nh7
  replace hs := gh7 _ _ hs
  refine A_pc (pc' := 35) rfl ?_
  refine A_putRv T_ok d_Pairing_init_35 f_Pairing_21 ty_a hs (Or.inr ⟨rfl, fun q hq => by cases hq; rfl⟩) (fun h8 eh8 => ?_)
  replace hn := sn_r eh8 hn
  replace hs := sp_r eh8 hs
  refine A_aload_n 0 d_Pairing_init_38 rfl rfl ?_
  refine A_bipush d_Pairing_init_39 rfl ?_
  refine A_newIv (q := (n + 4)) (N := 80) d_Pairing_init_41 ac_int rfl (by decide) (by decide) (by decide) hn (fun h9 eh9 nh9 gh9 => ?_)
  have oh9 := hn
  replace hn := nh9
  replace hs := gh9 _ _ hs
  refine A_putRv T_ok d_Pairing_init_43 f_Pairing_24 ty_a hs (Or.inr ⟨rfl, fun q hq => by cases hq; rfl⟩) (fun h10 eh10 => ?_)
  replace hn := sn_r eh10 hn
  replace hs := sp_r eh10 hs
  exact A_vret d_Pairing_init_46 (by decide) rfl ⟨rfl, by rw [eh10, eh9, eh8, eh7, eh6, eh5, eh4, eh3, eh2, eh1] <;> rfl⟩
end
section
def i_PM (h : ah_T) (t n : Nat) : ah_T := (st_r (i_Pairing (st_n (st_r (i_Trees (st_n (st_r (i_Seconds (st_n (st_r (i_Page (st_n (st_r (i_Beams (st_n (st_r (i_Judge (st_n (st_i (st_r (i_Score (st_n (st_r (i_Reader (st_n (st_i (st_r (st_n h 0 2000) t 0 (some n)) t 1 0) 9 8) (n + 1) (n + 2)) t 2 (some (n + 1))) 10 13) (n + 79) (n + 80)) t 3 (some (n + 79))) t 4 (-2)) 5 3) (n + 142) (n + 143)) t 5 (some (n + 142))) 4 4) (n + 145) (n + 146)) t 6 (some (n + 145))) 6 8) (n + 149) (n + 150)) t 7 (some (n + 149))) 11 8) (n + 157) (n + 158)) t 8 (some (n + 157))) 13 6) (n + 161) (n + 162)) t 9 (some (n + 161))) 7 8) (n + 163) (n + 164)) t 10 (some (n + 163)))
set_option maxRecDepth 100000 in
theorem i_PM_sh (h : ah_T) (t n : Nat) : (i_PM h t n).1 = h.1 ++ [(0, 2000), (9, 8), (12, 13), (0, 2001), (0, 2001), (1, 2001), (0, 2001), (0, 0), (8, 12), (0, 2000), (0, 2000), (0, 2000), (0, 2000), (0, 7), (0, 7), (1, 16), (10, 13), (3, 4), (0, 8), (0, 24), (0, 24), (0, 24), (0, 12), (14, 17), (0, 300), (0, 300), (0, 301), (0, 300), (0, 300), (2, 300), (0, 300), (0, 300), (1, 301), (1, 301), (1, 300), (1, 300), (0, 102), (14, 17), (0, 300), (0, 300), (0, 301), (0, 300), (0, 300), (2, 300), (0, 300), (0, 300), (1, 301), (1, 301), (1, 300), (1, 300), (0, 102), (14, 17), (0, 300), (0, 300), (0, 301), (0, 300), (0, 300), (2, 300), (0, 300), (0, 300), (1, 301), (1, 301), (1, 300), (1, 300), (0, 102), (14, 17), (0, 300), (0, 300), (0, 301), (0, 300), (0, 300), (2, 300), (0, 300), (0, 300), (1, 301), (1, 301), (1, 300), (1, 300), (0, 102), (10, 13), (3, 4), (0, 8), (0, 24), (0, 24), (0, 24), (0, 12), (14, 17), (0, 300), (0, 300), (0, 301), (0, 300), (0, 300), (2, 300), (0, 300), (0, 300), (1, 301), (1, 301), (1, 300), (1, 300), (0, 102), (14, 17), (0, 300), (0, 300), (0, 301), (0, 300), (0, 300), (2, 300), (0, 300), (0, 300), (1, 301), (1, 301), (1, 300), (1, 300), (0, 102), (14, 17), (0, 300), (0, 300), (0, 301), (0, 300), (0, 300), (2, 300), (0, 300), (0, 300), (1, 301), (1, 301), (1, 300), (1, 300), (0, 102), (14, 17), (0, 300), (0, 300), (0, 301), (0, 300), (0, 300), (2, 300), (0, 300), (0, 300), (1, 301), (1, 301), (1, 300), (1, 300), (0, 102), (5, 3), (0, 6404), (0, 4), (4, 4), (0, 14), (0, 15), (0, 15), (6, 8), (0, 14), (0, 14), (1, 15), (0, 15), (0, 4), (1, 4), (1, 4), (11, 8), (1, 1563), (0, 8), (0, 8), (13, 6), (0, 2704), (7, 8), (0, 80), (0, 80), (0, 1681), (0, 1681), (0, 80)] := by
  simp only [i_PM, n1_s, i1_s, l1_s, r1_s, i_Beams_sh, i_Judge_sh, i_Page_sh, i_Pairing_sh, i_Reader_sh, i_Score_sh, i_Seconds_sh, i_Trees_sh, List.append_assoc, List.cons_append, List.nil_append]
theorem i_PM_len {h : ah_T} {t n q : Nat} (hq : h.1.length = q) : (i_PM h t n).1.length = q + 169 := by rw [i_PM_sh, List.length_append, hq]; rfl
theorem i_PM_at {h : ah_T} {t n x : Nat} {y : Nat × Nat} (hx : h.1[x]? = some y) : (i_PM h t n).1[x]? = some y := by rw [i_PM_sh, List.getElem?_append_left (List.getElem?_eq_some_iff.mp hx).1]; exact hx
theorem i_PM_atE {h h' : ah_T} {t n x : Nat} {y : Nat × Nat} (e : h' = i_PM h t n) (hx : h.1[x]? = some y) : h'.1[x]? = some y := by subst e; exact i_PM_at hx
theorem i_PM_lenE {h h' : ah_T} {t n q : Nat} (e : h' = i_PM h t n) (hq : h.1.length = q) : h'.1.length = q + 169 := by subst e; exact i_PM_len hq
set_option maxRecDepth 100000 in
set_option maxHeartbeats 8000000 in
theorem c_PM_init {G : cx_T} (h : ah_T) (t n : Nat) (hn : h.1.length = n) (hs : h.1[t]? = some (11 + 4, 11)) (d : Nat) (hd : d = 4 := by rfl) : con G d 169 62505 m_PM_init [av_R (some t)] h (fun r h' => r = none ∧ h' = i_PM h t n) := by
  subst hd
  have htn : t < n := by rw [← hn]; exact (List.getElem?_eq_some_iff.mp hs).1
  refine con_of (L := [some (av_R (some t))]) (by decide +kernel) (Nat.le_of_ble_eq_true rfl) rfl ?_
  refine A_aload_n 0 d_PM_init_0 rfl rfl ?_
  refine A_objInit d_PM_init_1 oi_PM.1 oi_PM.2.1 oi_PM.2.2 (by decide) rfl ?_
  refine A_aload_n 0 d_PM_init_4 rfl rfl ?_
  refine A_sipush d_PM_init_5 rfl ?_
  refine A_newIv (q := n) (N := 2000) d_PM_init_8 ac_int rfl (by decide) (by decide) (by decide) hn (fun h1 eh1 nh1 gh1 => ?_)
  have oh1 := hn
  replace hn := nh1
  replace hs := gh1 _ _ hs
  refine A_pc (pc' := 10) rfl ?_
  refine A_putRv T_ok d_PM_init_10 f_PM_9 ty_a hs (Or.inr ⟨rfl, fun q hq => by cases hq; rfl⟩) (fun h2 eh2 => ?_)
  replace hn := sn_r eh2 hn
  replace hs := sp_r eh2 hs
  refine A_aload_n 0 d_PM_init_13 rfl rfl ?_
  refine A_iconst d_PM_init_14 rfl ?_
  refine A_putIv T_ok d_PM_init_15 f_PM_13 hs fin_f (fun h3 eh3 => ?_)
  replace hn := sn_i eh3 hn
  replace hs := sp_i eh3 hs
  refine A_aload_n 0 d_PM_init_18 rfl rfl ?_
  refine A_newv (c := 5) (q := (n + 1)) (N := 8) T_ok T_k d_PM_init_19 rfl rfl cl_PM_17 (by decide) (by decide) hn (fun h4 eh4 nh4 gh4 => ?_)
  have oh4 := hn
  replace hn := nh4
  replace hs := gh4 _ _ hs
  refine A_pc (pc' := 22) rfl ?_
  refine A_dupR d_PM_init_22 ?_
  refine A_callI0 m_Reader_init d_PM_init_23 l_PM_19 k_Reader_init (by decide) (by decide) (Nat.le_of_ble_eq_true rfl) (c_Reader_init h4 (n + 1) (n + 2) hn (sx_n eh4 oh4) 3) (fun r h5 hq => ?_)
  obtain ⟨rfl, eh5⟩ := hq
  replace hn := i_Reader_lenE eh5 hn
  replace hs := i_Reader_atE eh5 hs
  refine A_putRv T_ok d_PM_init_26 f_PM_20 ty_o hs (Or.inr ⟨rfl, fun q hq => by cases hq; rfl⟩) (fun h6 eh6 => ?_)
  replace hn := sn_r eh6 hn
  replace hs := sp_r eh6 hs
  refine A_aload_n 0 d_PM_init_29 rfl rfl ?_
  refine A_newv (c := 6) (q := (n + 79)) (N := 13) T_ok T_k d_PM_init_30 rfl rfl cl_PM_24 (by decide) (by decide) hn (fun h7 eh7 nh7 gh7 => ?_)
  have oh7 := hn
  replace hn := nh7
  replace hs := gh7 _ _ hs
  refine A_dupR d_PM_init_33 ?_
  refine A_pc (pc' := 34) rfl ?_
  refine A_callI0 m_Score_init d_PM_init_34 l_PM_26 k_Score_init (by decide) (by decide) (Nat.le_of_ble_eq_true rfl) (c_Score_init h7 (n + 79) (n + 80) hn (sx_n eh7 oh7) 2) (fun r h8 hq => ?_)
  obtain ⟨rfl, eh8⟩ := hq
  replace hn := i_Score_lenE eh8 hn
  replace hs := i_Score_atE eh8 hs
  refine A_putRv T_ok d_PM_init_37 f_PM_27 ty_o hs fin_f (fun h9 eh9 => ?_)
  replace hn := sn_r eh9 hn
  replace hs := sp_r eh9 hs
  refine A_aload_n 0 d_PM_init_40 rfl rfl ?_
  refine A_bipush d_PM_init_41 rfl ?_
  refine A_putIv T_ok d_PM_init_43 f_PM_31 hs fin_f (fun h10 eh10 => ?_)
  replace hn := sn_i eh10 hn
  replace hs := sp_i eh10 hs
  refine A_aload_n 0 d_PM_init_46 rfl rfl ?_
  refine A_pc (pc' := 47) rfl ?_
  refine A_newv (c := 1) (q := (n + 142)) (N := 3) T_ok T_k d_PM_init_47 rfl rfl cl_PM_34 (by decide) (by decide) hn (fun h11 eh11 nh11 gh11 => ?_)
  have oh11 := hn
  replace hn := nh11
  replace hs := gh11 _ _ hs
  refine A_dupR d_PM_init_50 ?_
  refine A_callI0 m_Judge_init d_PM_init_51 l_PM_36 k_Judge_init (by decide) (by decide) (Nat.le_of_ble_eq_true rfl) (c_Judge_init h11 (n + 142) (n + 143) hn (sx_n eh11 oh11) 1) (fun r h12 hq => ?_)
  obtain ⟨rfl, eh12⟩ := hq
  replace hn := i_Judge_lenE eh12 hn
  replace hs := i_Judge_atE eh12 hs
  refine A_putRv T_ok d_PM_init_54 f_PM_37 ty_o hs (Or.inr ⟨rfl, fun q hq => by cases hq; rfl⟩) (fun h13 eh13 => ?_)
  replace hn := sn_r eh13 hn
  replace hs := sp_r eh13 hs
  refine A_aload_n 0 d_PM_init_57 rfl rfl ?_
  refine A_newv (c := 0) (q := (n + 145)) (N := 4) T_ok T_k d_PM_init_58 rfl rfl cl_PM_41 (by decide) (by decide) hn (fun h14 eh14 nh14 gh14 => ?_)
  have oh14 := hn
  replace hn := nh14
  replace hs := gh14 _ _ hs
  refine A_pc (pc' := 61) rfl ?_
  refine A_dupR d_PM_init_61 ?_
  refine A_callI0 m_Beams_init d_PM_init_62 l_PM_43 k_Beams_init (by decide) (by decide) (Nat.le_of_ble_eq_true rfl) (c_Beams_init h14 (n + 145) (n + 146) hn (sx_n eh14 oh14) 1) (fun r h15 hq => ?_)
  obtain ⟨rfl, eh15⟩ := hq
  replace hn := i_Beams_lenE eh15 hn
  replace hs := i_Beams_atE eh15 hs
  refine A_putRv T_ok d_PM_init_65 f_PM_44 ty_o hs (Or.inr ⟨rfl, fun q hq => by cases hq; rfl⟩) (fun h16 eh16 => ?_)
  replace hn := sn_r eh16 hn
  replace hs := sp_r eh16 hs
  refine A_aload_n 0 d_PM_init_68 rfl rfl ?_
  refine A_newv (c := 2) (q := (n + 149)) (N := 8) T_ok T_k d_PM_init_69 rfl rfl cl_PM_48 (by decide) (by decide) hn (fun h17 eh17 nh17 gh17 => ?_)
  have oh17 := hn
  replace hn := nh17
  replace hs := gh17 _ _ hs
  refine A_dupR d_PM_init_72 ?_
  refine A_pc (pc' := 73) rfl ?_
  refine A_callI0 m_Page_init d_PM_init_73 l_PM_50 k_Page_init (by decide) (by decide) (Nat.le_of_ble_eq_true rfl) (c_Page_init h17 (n + 149) (n + 150) hn (sx_n eh17 oh17) 1) (fun r h18 hq => ?_)
  obtain ⟨rfl, eh18⟩ := hq
  replace hn := i_Page_lenE eh18 hn
  replace hs := i_Page_atE eh18 hs
  refine A_putRv T_ok d_PM_init_76 f_PM_51 ty_o hs (Or.inr ⟨rfl, fun q hq => by cases hq; rfl⟩) (fun h19 eh19 => ?_)
  replace hn := sn_r eh19 hn
  replace hs := sp_r eh19 hs
  refine A_aload_n 0 d_PM_init_79 rfl rfl ?_
  refine A_newv (c := 7) (q := (n + 157)) (N := 8) T_ok T_k d_PM_init_80 rfl rfl cl_PM_55 (by decide) (by decide) hn (fun h20 eh20 nh20 gh20 => ?_)
  have oh20 := hn
  replace hn := nh20
  replace hs := gh20 _ _ hs
  refine A_dupR d_PM_init_83 ?_
  refine A_callI0 m_Seconds_init d_PM_init_84 l_PM_57 k_Seconds_init (by decide) (by decide) (Nat.le_of_ble_eq_true rfl) (c_Seconds_init h20 (n + 157) (n + 158) hn (sx_n eh20 oh20) 1) (fun r h21 hq => ?_)
  obtain ⟨rfl, eh21⟩ := hq
  replace hn := i_Seconds_lenE eh21 hn
  replace hs := i_Seconds_atE eh21 hs
  refine A_pc (pc' := 87) rfl ?_
  refine A_putRv T_ok d_PM_init_87 f_PM_58 ty_o hs (Or.inr ⟨rfl, fun q hq => by cases hq; rfl⟩) (fun h22 eh22 => ?_)
  replace hn := sn_r eh22 hn
  replace hs := sp_r eh22 hs
  refine A_aload_n 0 d_PM_init_90 rfl rfl ?_
  refine A_newv (c := 9) (q := (n + 161)) (N := 6) T_ok T_k d_PM_init_91 rfl rfl cl_PM_62 (by decide) (by decide) hn (fun h23 eh23 nh23 gh23 => ?_)
  have oh23 := hn
  replace hn := nh23
  replace hs := gh23 _ _ hs
  refine A_dupR d_PM_init_94 ?_
  refine A_callI0 m_Trees_init d_PM_init_95 l_PM_64 k_Trees_init (by decide) (by decide) (Nat.le_of_ble_eq_true rfl) (c_Trees_init h23 (n + 161) (n + 162) hn (sx_n eh23 oh23) 1) (fun r h24 hq => ?_)
  obtain ⟨rfl, eh24⟩ := hq
  replace hn := i_Trees_lenE eh24 hn
  replace hs := i_Trees_atE eh24 hs
  refine A_putRv T_ok d_PM_init_98 f_PM_65 ty_o hs (Or.inr ⟨rfl, fun q hq => by cases hq; rfl⟩) (fun h25 eh25 => ?_)
  replace hn := sn_r eh25 hn
  replace hs := sp_r eh25 hs
  refine A_pc (pc' := 101) rfl ?_
  refine A_aload_n 0 d_PM_init_101 rfl rfl ?_
  refine A_newv (c := 3) (q := (n + 163)) (N := 8) T_ok T_k d_PM_init_102 rfl rfl cl_PM_69 (by decide) (by decide) hn (fun h26 eh26 nh26 gh26 => ?_)
  have oh26 := hn
  replace hn := nh26
  replace hs := gh26 _ _ hs
  refine A_dupR d_PM_init_105 ?_
  refine A_callI0 m_Pairing_init d_PM_init_106 l_PM_71 k_Pairing_init (by decide) (by decide) (Nat.le_of_ble_eq_true rfl) (c_Pairing_init h26 (n + 163) (n + 164) hn (sx_n eh26 oh26) 1) (fun r h27 hq => ?_)
  obtain ⟨rfl, eh27⟩ := hq
  replace hn := i_Pairing_lenE eh27 hn
  replace hs := i_Pairing_atE eh27 hs
  refine A_putRv T_ok d_PM_init_109 f_PM_72 ty_o hs (Or.inr ⟨rfl, fun q hq => by cases hq; rfl⟩) (fun h28 eh28 => ?_)
  replace hn := sn_r eh28 hn
  replace hs := sp_r eh28 hs
  exact A_vret d_PM_init_112 (by decide) rfl ⟨rfl, by rw [eh28, eh27, eh26, eh25, eh24, eh23, eh22, eh21, eh20, eh19, eh18, eh17, eh16, eh15, eh14, eh13, eh12, eh11, eh10, eh9, eh8, eh7, eh6, eh5, eh4, eh3, eh2, eh1] <;> rfl⟩
end
section
def i_MD (h : ah_T) (t n : Nat) : ah_T := (st_r (st_n (st_r (st_n (st_r (st_n (st_r (st_n (st_r (st_n (st_r (st_n (st_r (st_n (st_r (st_n (st_r (st_n (st_r (st_n (st_r (st_n (st_r (st_n (st_r (st_n (st_r (st_n (st_r (st_n (st_r (st_n (st_r (st_n (st_r (st_n (st_r (st_n (st_r (st_n (st_r (st_n (st_r (st_n (st_r (st_n (st_r (st_n (st_r (st_n (st_r (st_n (st_r (st_n (st_r (st_n (st_r (st_n (st_r (st_n (st_r (st_n (st_r (st_n (st_r (st_n (st_r (st_n (st_r (st_n (st_r (st_n (st_r (st_n (st_r (st_n (st_r (st_n (st_r (st_n (st_r (st_n (st_r (st_n (st_r (st_n (st_r (st_n (st_r (st_n (st_r (st_n (st_r (st_n (st_r (st_n (st_r (st_n (st_r (st_n (st_r (st_n (st_r (st_n (st_r (st_n (st_r (st_n (st_r (st_n (st_r (st_n (st_r (st_n (st_r (st_n (st_r (st_n (st_r (st_n (st_r (st_n (st_r (st_n (st_r (st_n (st_r (st_n (st_r (st_n (st_r (st_n (st_r (st_n (st_r (st_n (st_r (st_n (st_i (st_r (st_n h 0 2000) t 0 (some n)) t 13 (-2)) 0 2) t 14 (some (n + 1))) 0 2) t 15 (some (n + 2))) 0 2) t 16 (some (n + 3))) 0 2) t 17 (some (n + 4))) 0 16) t 18 (some (n + 5))) 0 2) t 19 (some (n + 6))) 0 48) t 20 (some (n + 7))) 0 48) t 21 (some (n + 8))) 0 48) t 22 (some (n + 9))) 0 2) t 23 (some (n + 10))) 0 24) t 24 (some (n + 11))) 0 2) t 25 (some (n + 12))) 1 32) t 26 (some (n + 13))) 0 8) t 27 (some (n + 14))) 0 8) t 28 (some (n + 15))) 1 2400) t 29 (some (n + 16))) 1 2400) t 30 (some (n + 17))) 1 2400) t 31 (some (n + 18))) 1 2400) t 32 (some (n + 19))) 0 2400) t 33 (some (n + 20))) 0 9600) t 34 (some (n + 21))) 0 9600) t 35 (some (n + 22))) 0 2400) t 36 (some (n + 23))) 2 2400) t 37 (some (n + 24))) 0 2400) t 38 (some (n + 25))) 0 2400) t 39 (some (n + 26))) 0 2400) t 40 (some (n + 27))) 1 816) t 41 (some (n + 28))) 1 816) t 42 (some (n + 29))) 0 2100) t 44 (some (n + 30))) 0 2100) t 45 (some (n + 31))) 0 2100) t 46 (some (n + 32))) 0 2100) t 47 (some (n + 33))) 0 8400) t 48 (some (n + 34))) 0 8400) t 49 (some (n + 35))) 0 2100) t 50 (some (n + 36))) 2 2100) t 51 (some (n + 37))) 0 2100) t 52 (some (n + 38))) 0 2100) t 53 (some (n + 39))) 0 2100) t 54 (some (n + 40))) 0 2100) t 55 (some (n + 41))) 0 2100) t 56 (some (n + 42))) 0 2100) t 57 (some (n + 43))) 0 8) t 58 (some (n + 44))) 0 8) t 62 (some (n + 45))) 0 10) t 67 (some (n + 46))) 0 10) t 68 (some (n + 47))) 0 10) t 69 (some (n + 48))) 2 10) t 79 (some (n + 49))) 0 8000) t 81 (some (n + 50))) 0 8000) t 82 (some (n + 51))) 0 8000) t 83 (some (n + 52))) 0 8000) t 84 (some (n + 53))) 0 16) t 86 (some (n + 54))) 0 340) t 87 (some (n + 55))) 0 340) t 88 (some (n + 56))) 0 16) t 90 (some (n + 57))) 0 8) t 92 (some (n + 58))) 0 8) t 97 (some (n + 59))) 1 2704) t 99 (some (n + 60))) 0 32) t 100 (some (n + 61))) 0 32) t 101 (some (n + 62))) 0 32) t 102 (some (n + 63))) 1 32) t 103 (some (n + 64))) 0 80) t 106 (some (n + 65))) 0 80) t 107 (some (n + 66))) 0 80) t 108 (some (n + 67))) 0 6561) t 109 (some (n + 68))) 1 6561) t 110 (some (n + 69)))
set_option maxRecDepth 100000 in
theorem i_MD_sh (h : ah_T) (t n : Nat) : (i_MD h t n).1 = h.1 ++ [(0, 2000), (0, 2), (0, 2), (0, 2), (0, 2), (0, 16), (0, 2), (0, 48), (0, 48), (0, 48), (0, 2), (0, 24), (0, 2), (1, 32), (0, 8), (0, 8), (1, 2400), (1, 2400), (1, 2400), (1, 2400), (0, 2400), (0, 9600), (0, 9600), (0, 2400), (2, 2400), (0, 2400), (0, 2400), (0, 2400), (1, 816), (1, 816), (0, 2100), (0, 2100), (0, 2100), (0, 2100), (0, 8400), (0, 8400), (0, 2100), (2, 2100), (0, 2100), (0, 2100), (0, 2100), (0, 2100), (0, 2100), (0, 2100), (0, 8), (0, 8), (0, 10), (0, 10), (0, 10), (2, 10), (0, 8000), (0, 8000), (0, 8000), (0, 8000), (0, 16), (0, 340), (0, 340), (0, 16), (0, 8), (0, 8), (1, 2704), (0, 32), (0, 32), (0, 32), (1, 32), (0, 80), (0, 80), (0, 80), (0, 6561), (1, 6561)] := by
  simp only [i_MD, n1_s, i1_s, l1_s, r1_s, List.append_assoc, List.cons_append, List.nil_append]
theorem i_MD_len {h : ah_T} {t n q : Nat} (hq : h.1.length = q) : (i_MD h t n).1.length = q + 70 := by rw [i_MD_sh, List.length_append, hq]; rfl
theorem i_MD_at {h : ah_T} {t n x : Nat} {y : Nat × Nat} (hx : h.1[x]? = some y) : (i_MD h t n).1[x]? = some y := by rw [i_MD_sh, List.getElem?_append_left (List.getElem?_eq_some_iff.mp hx).1]; exact hx
theorem i_MD_atE {h h' : ah_T} {t n x : Nat} {y : Nat × Nat} (e : h' = i_MD h t n) (hx : h.1[x]? = some y) : h'.1[x]? = some y := by subst e; exact i_MD_at hx
theorem i_MD_lenE {h h' : ah_T} {t n q : Nat} (e : h' = i_MD h t n) (hq : h.1.length = q) : h'.1.length = q + 70 := by subst e; exact i_MD_len hq
set_option maxRecDepth 100000 in
set_option maxHeartbeats 8000000 in
theorem c_MD_init {G : cx_T} (h : ah_T) (t n : Nat) (hn : h.1.length = n) (hs : h.1[t]? = some (12 + 4, 111)) (d : Nat) (hd : d = 1 := by rfl) : con G d 70 138056 m_MD_init [av_R (some t)] h (fun r h' => r = none ∧ h' = i_MD h t n) := by
  subst hd
  have htn : t < n := by rw [← hn]; exact (List.getElem?_eq_some_iff.mp hs).1
  refine con_of (L := [some (av_R (some t))]) (by decide +kernel) (Nat.le_of_ble_eq_true rfl) rfl ?_
  refine A_aload_n 0 d_MD_init_0 rfl rfl ?_
  refine A_objInit d_MD_init_1 oi_MD.1 oi_MD.2.1 oi_MD.2.2 (by decide) rfl ?_
  refine A_aload_n 0 d_MD_init_4 rfl rfl ?_
  refine A_sipush d_MD_init_5 rfl ?_
  refine A_newIv (q := n) (N := 2000) d_MD_init_8 ac_int rfl (by decide) (by decide) (by decide) hn (fun h1 eh1 nh1 gh1 => ?_)
  have oh1 := hn
  replace hn := nh1
  replace hs := gh1 _ _ hs
  refine A_pc (pc' := 10) rfl ?_
  refine A_putRv T_ok d_MD_init_10 f_MD_7 ty_a hs (Or.inr ⟨rfl, fun q hq => by cases hq; rfl⟩) (fun h2 eh2 => ?_)
  replace hn := sn_r eh2 hn
  replace hs := sp_r eh2 hs
  refine A_aload_n 0 d_MD_init_13 rfl rfl ?_
  refine A_bipush d_MD_init_14 rfl ?_
  refine A_putIv T_ok d_MD_init_16 f_MD_13 hs fin_f (fun h3 eh3 => ?_)
  replace hn := sn_i eh3 hn
  replace hs := sp_i eh3 hs
  refine A_aload_n 0 d_MD_init_19 rfl rfl ?_
  refine A_iconst d_MD_init_20 rfl ?_
  refine A_pc (pc' := 21) rfl ?_
  refine A_newIv (q := (n + 1)) (N := 2) d_MD_init_21 ac_int rfl (by decide) (by decide) (by decide) hn (fun h4 eh4 nh4 gh4 => ?_)
  have oh4 := hn
  replace hn := nh4
  replace hs := gh4 _ _ hs
  refine A_putRv T_ok d_MD_init_23 f_MD_17 ty_a hs (Or.inr ⟨rfl, fun q hq => by cases hq; rfl⟩) (fun h5 eh5 => ?_)
  replace hn := sn_r eh5 hn
  replace hs := sp_r eh5 hs
  refine A_aload_n 0 d_MD_init_26 rfl rfl ?_
  refine A_iconst d_MD_init_27 rfl ?_
  refine A_newIv (q := (n + 2)) (N := 2) d_MD_init_28 ac_int rfl (by decide) (by decide) (by decide) hn (fun h6 eh6 nh6 gh6 => ?_)
  have oh6 := hn
  replace hn := nh6
  replace hs := gh6 _ _ hs
  refine A_putRv T_ok d_MD_init_30 f_MD_20 ty_a hs (Or.inr ⟨rfl, fun q hq => by cases hq; rfl⟩) (fun h7 eh7 => ?_)
  replace hn := sn_r eh7 hn
  replace hs := sp_r eh7 hs
  refine A_pc (pc' := 33) rfl ?_
  refine A_aload_n 0 d_MD_init_33 rfl rfl ?_
  refine A_iconst d_MD_init_34 rfl ?_
  refine A_newIv (q := (n + 3)) (N := 2) d_MD_init_35 ac_int rfl (by decide) (by decide) (by decide) hn (fun h8 eh8 nh8 gh8 => ?_)
  have oh8 := hn
  replace hn := nh8
  replace hs := gh8 _ _ hs
  refine A_putRv T_ok d_MD_init_37 f_MD_23 ty_a hs (Or.inr ⟨rfl, fun q hq => by cases hq; rfl⟩) (fun h9 eh9 => ?_)
  replace hn := sn_r eh9 hn
  replace hs := sp_r eh9 hs
  refine A_aload_n 0 d_MD_init_40 rfl rfl ?_
  refine A_iconst d_MD_init_41 rfl ?_
  refine A_pc (pc' := 42) rfl ?_
  refine A_newIv (q := (n + 4)) (N := 2) d_MD_init_42 ac_int rfl (by decide) (by decide) (by decide) hn (fun h10 eh10 nh10 gh10 => ?_)
  have oh10 := hn
  replace hn := nh10
  replace hs := gh10 _ _ hs
  refine A_putRv T_ok d_MD_init_44 f_MD_26 ty_a hs (Or.inr ⟨rfl, fun q hq => by cases hq; rfl⟩) (fun h11 eh11 => ?_)
  replace hn := sn_r eh11 hn
  replace hs := sp_r eh11 hs
  refine A_aload_n 0 d_MD_init_47 rfl rfl ?_
  refine A_bipush d_MD_init_48 rfl ?_
  refine A_newIv (q := (n + 5)) (N := 16) d_MD_init_50 ac_int rfl (by decide) (by decide) (by decide) hn (fun h12 eh12 nh12 gh12 => ?_)
  have oh12 := hn
  replace hn := nh12
  replace hs := gh12 _ _ hs
  refine A_putRv T_ok d_MD_init_52 f_MD_29 ty_a hs (Or.inr ⟨rfl, fun q hq => by cases hq; rfl⟩) (fun h13 eh13 => ?_)
  replace hn := sn_r eh13 hn
  replace hs := sp_r eh13 hs
  refine A_pc (pc' := 55) rfl ?_
  refine A_aload_n 0 d_MD_init_55 rfl rfl ?_
  refine A_iconst d_MD_init_56 rfl ?_
  refine A_newIv (q := (n + 6)) (N := 2) d_MD_init_57 ac_int rfl (by decide) (by decide) (by decide) hn (fun h14 eh14 nh14 gh14 => ?_)
  have oh14 := hn
  replace hn := nh14
  replace hs := gh14 _ _ hs
  refine A_putRv T_ok d_MD_init_59 f_MD_32 ty_a hs (Or.inr ⟨rfl, fun q hq => by cases hq; rfl⟩) (fun h15 eh15 => ?_)
  replace hn := sn_r eh15 hn
  replace hs := sp_r eh15 hs
  refine A_aload_n 0 d_MD_init_62 rfl rfl ?_
  refine A_bipush d_MD_init_63 rfl ?_
  refine A_pc (pc' := 65) rfl ?_
  refine A_newIv (q := (n + 7)) (N := 48) d_MD_init_65 ac_int rfl (by decide) (by decide) (by decide) hn (fun h16 eh16 nh16 gh16 => ?_)
  have oh16 := hn
  replace hn := nh16
  replace hs := gh16 _ _ hs
  refine A_putRv T_ok d_MD_init_67 f_MD_35 ty_a hs (Or.inr ⟨rfl, fun q hq => by cases hq; rfl⟩) (fun h17 eh17 => ?_)
  replace hn := sn_r eh17 hn
  replace hs := sp_r eh17 hs
  refine A_aload_n 0 d_MD_init_70 rfl rfl ?_
  refine A_bipush d_MD_init_71 rfl ?_
  refine A_newIv (q := (n + 8)) (N := 48) d_MD_init_73 ac_int rfl (by decide) (by decide) (by decide) hn (fun h18 eh18 nh18 gh18 => ?_)
  have oh18 := hn
  replace hn := nh18
  replace hs := gh18 _ _ hs
  refine A_putRv T_ok d_MD_init_75 f_MD_38 ty_a hs (Or.inr ⟨rfl, fun q hq => by cases hq; rfl⟩) (fun h19 eh19 => ?_)
  replace hn := sn_r eh19 hn
  replace hs := sp_r eh19 hs
  refine A_pc (pc' := 78) rfl ?_
  refine A_aload_n 0 d_MD_init_78 rfl rfl ?_
  refine A_bipush d_MD_init_79 rfl ?_
  refine A_newIv (q := (n + 9)) (N := 48) d_MD_init_81 ac_int rfl (by decide) (by decide) (by decide) hn (fun h20 eh20 nh20 gh20 => ?_)
  have oh20 := hn
  replace hn := nh20
  replace hs := gh20 _ _ hs
  refine A_putRv T_ok d_MD_init_83 f_MD_41 ty_a hs (Or.inr ⟨rfl, fun q hq => by cases hq; rfl⟩) (fun h21 eh21 => ?_)
  replace hn := sn_r eh21 hn
  replace hs := sp_r eh21 hs
  refine A_aload_n 0 d_MD_init_86 rfl rfl ?_
  refine A_iconst d_MD_init_87 rfl ?_
  refine A_pc (pc' := 88) rfl ?_
  refine A_newIv (q := (n + 10)) (N := 2) d_MD_init_88 ac_int rfl (by decide) (by decide) (by decide) hn (fun h22 eh22 nh22 gh22 => ?_)
  have oh22 := hn
  replace hn := nh22
  replace hs := gh22 _ _ hs
  refine A_putRv T_ok d_MD_init_90 f_MD_44 ty_a hs (Or.inr ⟨rfl, fun q hq => by cases hq; rfl⟩) (fun h23 eh23 => ?_)
  replace hn := sn_r eh23 hn
  replace hs := sp_r eh23 hs
  refine A_aload_n 0 d_MD_init_93 rfl rfl ?_
  refine A_bipush d_MD_init_94 rfl ?_
  refine A_newIv (q := (n + 11)) (N := 24) d_MD_init_96 ac_int rfl (by decide) (by decide) (by decide) hn (fun h24 eh24 nh24 gh24 => ?_)
  have oh24 := hn
  replace hn := nh24
  replace hs := gh24 _ _ hs
  refine A_putRv T_ok d_MD_init_98 f_MD_47 ty_a hs (Or.inr ⟨rfl, fun q hq => by cases hq; rfl⟩) (fun h25 eh25 => ?_)
  replace hn := sn_r eh25 hn
  replace hs := sp_r eh25 hs
  refine A_pc (pc' := 101) rfl ?_
  refine A_aload_n 0 d_MD_init_101 rfl rfl ?_
  refine A_iconst d_MD_init_102 rfl ?_
  refine A_newIv (q := (n + 12)) (N := 2) d_MD_init_103 ac_int rfl (by decide) (by decide) (by decide) hn (fun h26 eh26 nh26 gh26 => ?_)
  have oh26 := hn
  replace hn := nh26
  replace hs := gh26 _ _ hs
  refine A_putRv T_ok d_MD_init_105 f_MD_50 ty_a hs (Or.inr ⟨rfl, fun q hq => by cases hq; rfl⟩) (fun h27 eh27 => ?_)
  replace hn := sn_r eh27 hn
  replace hs := sp_r eh27 hs
  refine A_aload_n 0 d_MD_init_108 rfl rfl ?_
  refine A_bipush d_MD_init_109 rfl ?_
  refine A_pc (pc' := 111) rfl ?_
  refine A_newLv (q := (n + 13)) (N := 32) d_MD_init_111 ac_long rfl (by decide) (by decide) (by decide) hn (fun h28 eh28 nh28 gh28 => ?_)
  have oh28 := hn
  replace hn := nh28
  replace hs := gh28 _ _ hs
  refine A_putRv T_ok d_MD_init_113 f_MD_53 ty_a hs (Or.inr ⟨rfl, fun q hq => by cases hq; rfl⟩) (fun h29 eh29 => ?_)
  replace hn := sn_r eh29 hn
  replace hs := sp_r eh29 hs
  refine A_aload_n 0 d_MD_init_116 rfl rfl ?_
  refine A_bipush d_MD_init_117 rfl ?_
  refine A_newIv (q := (n + 14)) (N := 8) d_MD_init_119 ac_int rfl (by decide) (by decide) (by decide) hn (fun h30 eh30 nh30 gh30 => ?_)
  have oh30 := hn
  replace hn := nh30
  replace hs := gh30 _ _ hs
  refine A_putRv T_ok d_MD_init_121 f_MD_57 ty_a hs (Or.inr ⟨rfl, fun q hq => by cases hq; rfl⟩) (fun h31 eh31 => ?_)
  replace hn := sn_r eh31 hn
  replace hs := sp_r eh31 hs
  refine A_pc (pc' := 124) rfl ?_
  refine A_aload_n 0 d_MD_init_124 rfl rfl ?_
  refine A_bipush d_MD_init_125 rfl ?_
  refine A_newIv (q := (n + 15)) (N := 8) d_MD_init_127 ac_int rfl (by decide) (by decide) (by decide) hn (fun h32 eh32 nh32 gh32 => ?_)
  have oh32 := hn
  replace hn := nh32
  replace hs := gh32 _ _ hs
  refine A_putRv T_ok d_MD_init_129 f_MD_60 ty_a hs (Or.inr ⟨rfl, fun q hq => by cases hq; rfl⟩) (fun h33 eh33 => ?_)
  replace hn := sn_r eh33 hn
  replace hs := sp_r eh33 hs
  refine A_aload_n 0 d_MD_init_132 rfl rfl ?_
  refine A_sipush d_MD_init_133 rfl ?_
  refine A_pc (pc' := 136) rfl ?_
  refine A_newLv (q := (n + 16)) (N := 2400) d_MD_init_136 ac_long rfl (by decide) (by decide) (by decide) hn (fun h34 eh34 nh34 gh34 => ?_)
  have oh34 := hn
  replace hn := nh34
  replace hs := gh34 _ _ hs
  refine A_putRv T_ok d_MD_init_138 f_MD_63 ty_a hs (Or.inr ⟨rfl, fun q hq => by cases hq; rfl⟩) (fun h35 eh35 => ?_)
  replace hn := sn_r eh35 hn
  replace hs := sp_r eh35 hs
  refine A_aload_n 0 d_MD_init_141 rfl rfl ?_
  refine A_sipush d_MD_init_142 rfl ?_
  refine A_newLv (q := (n + 17)) (N := 2400) d_MD_init_145 ac_long rfl (by decide) (by decide) (by decide) hn (fun h36 eh36 nh36 gh36 => ?_)
  have oh36 := hn
  replace hn := nh36
  replace hs := gh36 _ _ hs
  refine A_putRv T_ok d_MD_init_147 f_MD_66 ty_a hs (Or.inr ⟨rfl, fun q hq => by cases hq; rfl⟩) (fun h37 eh37 => ?_)
  replace hn := sn_r eh37 hn
  replace hs := sp_r eh37 hs
  refine A_pc (pc' := 150) rfl ?_
  refine A_aload_n 0 d_MD_init_150 rfl rfl ?_
  refine A_sipush d_MD_init_151 rfl ?_
  refine A_newLv (q := (n + 18)) (N := 2400) d_MD_init_154 ac_long rfl (by decide) (by decide) (by decide) hn (fun h38 eh38 nh38 gh38 => ?_)
  have oh38 := hn
  replace hn := nh38
  replace hs := gh38 _ _ hs
  refine A_putRv T_ok d_MD_init_156 f_MD_69 ty_a hs (Or.inr ⟨rfl, fun q hq => by cases hq; rfl⟩) (fun h39 eh39 => ?_)
  replace hn := sn_r eh39 hn
  replace hs := sp_r eh39 hs
  refine A_aload_n 0 d_MD_init_159 rfl rfl ?_
  refine A_sipush d_MD_init_160 rfl ?_
  refine A_pc (pc' := 163) rfl ?_
  refine A_newLv (q := (n + 19)) (N := 2400) d_MD_init_163 ac_long rfl (by decide) (by decide) (by decide) hn (fun h40 eh40 nh40 gh40 => ?_)
  have oh40 := hn
  replace hn := nh40
  replace hs := gh40 _ _ hs
  refine A_putRv T_ok d_MD_init_165 f_MD_72 ty_a hs (Or.inr ⟨rfl, fun q hq => by cases hq; rfl⟩) (fun h41 eh41 => ?_)
  replace hn := sn_r eh41 hn
  replace hs := sp_r eh41 hs
  refine A_aload_n 0 d_MD_init_168 rfl rfl ?_
  refine A_sipush d_MD_init_169 rfl ?_
  refine A_newIv (q := (n + 20)) (N := 2400) d_MD_init_172 ac_int rfl (by decide) (by decide) (by decide) hn (fun h42 eh42 nh42 gh42 => ?_)
  have oh42 := hn
  replace hn := nh42
  replace hs := gh42 _ _ hs
  refine A_putRv T_ok d_MD_init_174 f_MD_75 ty_a hs (Or.inr ⟨rfl, fun q hq => by cases hq; rfl⟩) (fun h43 eh43 => ?_)
  replace hn := sn_r eh43 hn
  replace hs := sp_r eh43 hs
  refine A_pc (pc' := 177) rfl ?_
  refine A_aload_n 0 d_MD_init_177 rfl rfl ?_
  refine A_sipush d_MD_init_178 rfl ?_
  refine A_newIv (q := (n + 21)) (N := 9600) d_MD_init_181 ac_int rfl (by decide) (by decide) (by decide) hn (fun h44 eh44 nh44 gh44 => ?_)
  have oh44 := hn
  replace hn := nh44
  replace hs := gh44 _ _ hs
  refine A_putRv T_ok d_MD_init_183 f_MD_78 ty_a hs (Or.inr ⟨rfl, fun q hq => by cases hq; rfl⟩) (fun h45 eh45 => ?_)
  replace hn := sn_r eh45 hn
  replace hs := sp_r eh45 hs
  refine A_aload_n 0 d_MD_init_186 rfl rfl ?_
  refine A_sipush d_MD_init_187 rfl ?_
  refine A_pc (pc' := 190) rfl ?_
  refine A_newIv (q := (n + 22)) (N := 9600) d_MD_init_190 ac_int rfl (by decide) (by decide) (by decide) hn (fun h46 eh46 nh46 gh46 => ?_)
  have oh46 := hn
  replace hn := nh46
  replace hs := gh46 _ _ hs
  refine A_putRv T_ok d_MD_init_192 f_MD_81 ty_a hs (Or.inr ⟨rfl, fun q hq => by cases hq; rfl⟩) (fun h47 eh47 => ?_)
  replace hn := sn_r eh47 hn
  replace hs := sp_r eh47 hs
  refine A_aload_n 0 d_MD_init_195 rfl rfl ?_
  refine A_sipush d_MD_init_196 rfl ?_
  refine A_newIv (q := (n + 23)) (N := 2400) d_MD_init_199 ac_int rfl (by decide) (by decide) (by decide) hn (fun h48 eh48 nh48 gh48 => ?_)
  have oh48 := hn
  replace hn := nh48
  replace hs := gh48 _ _ hs
  refine A_putRv T_ok d_MD_init_201 f_MD_84 ty_a hs (Or.inr ⟨rfl, fun q hq => by cases hq; rfl⟩) (fun h49 eh49 => ?_)
  replace hn := sn_r eh49 hn
  replace hs := sp_r eh49 hs
  refine A_pc (pc' := 204) rfl ?_
  refine A_aload_n 0 d_MD_init_204 rfl rfl ?_
  refine A_sipush d_MD_init_205 rfl ?_
  refine A_newZv (q := (n + 24)) (N := 2400) d_MD_init_208 ac_boolean rfl (by decide) (by decide) (by decide) hn (fun h50 eh50 nh50 gh50 => ?_)
  have oh50 := hn
  replace hn := nh50
  replace hs := gh50 _ _ hs
  refine A_putRv T_ok d_MD_init_210 f_MD_87 ty_a hs (Or.inr ⟨rfl, fun q hq => by cases hq; rfl⟩) (fun h51 eh51 => ?_)
  replace hn := sn_r eh51 hn
  replace hs := sp_r eh51 hs
  refine A_aload_n 0 d_MD_init_213 rfl rfl ?_
  refine A_sipush d_MD_init_214 rfl ?_
  refine A_pc (pc' := 217) rfl ?_
  refine A_newIv (q := (n + 25)) (N := 2400) d_MD_init_217 ac_int rfl (by decide) (by decide) (by decide) hn (fun h52 eh52 nh52 gh52 => ?_)
  have oh52 := hn
  replace hn := nh52
  replace hs := gh52 _ _ hs
  refine A_putRv T_ok d_MD_init_219 f_MD_91 ty_a hs (Or.inr ⟨rfl, fun q hq => by cases hq; rfl⟩) (fun h53 eh53 => ?_)
  replace hn := sn_r eh53 hn
  replace hs := sp_r eh53 hs
  refine A_aload_n 0 d_MD_init_222 rfl rfl ?_
  refine A_sipush d_MD_init_223 rfl ?_
  refine A_newIv (q := (n + 26)) (N := 2400) d_MD_init_226 ac_int rfl (by decide) (by decide) (by decide) hn (fun h54 eh54 nh54 gh54 => ?_)
  have oh54 := hn
  replace hn := nh54
  replace hs := gh54 _ _ hs
  refine A_putRv T_ok d_MD_init_228 f_MD_94 ty_a hs (Or.inr ⟨rfl, fun q hq => by cases hq; rfl⟩) (fun h55 eh55 => ?_)
  replace hn := sn_r eh55 hn
  replace hs := sp_r eh55 hs
  refine A_pc (pc' := 231) rfl ?_
  refine A_aload_n 0 d_MD_init_231 rfl rfl ?_
  refine A_sipush d_MD_init_232 rfl ?_
  refine A_newIv (q := (n + 27)) (N := 2400) d_MD_init_235 ac_int rfl (by decide) (by decide) (by decide) hn (fun h56 eh56 nh56 gh56 => ?_)
  have oh56 := hn
  replace hn := nh56
  replace hs := gh56 _ _ hs
  refine A_putRv T_ok d_MD_init_237 f_MD_97 ty_a hs (Or.inr ⟨rfl, fun q hq => by cases hq; rfl⟩) (fun h57 eh57 => ?_)
  replace hn := sn_r eh57 hn
  replace hs := sp_r eh57 hs
  refine A_aload_n 0 d_MD_init_240 rfl rfl ?_
  refine A_sipush d_MD_init_241 rfl ?_
  refine A_pc (pc' := 244) rfl ?_
  refine A_newLv (q := (n + 28)) (N := 816) d_MD_init_244 ac_long rfl (by decide) (by decide) (by decide) hn (fun h58 eh58 nh58 gh58 => ?_)
  have oh58 := hn
  replace hn := nh58
  replace hs := gh58 _ _ hs
  refine A_putRv T_ok d_MD_init_246 f_MD_100 ty_a hs (Or.inr ⟨rfl, fun q hq => by cases hq; rfl⟩) (fun h59 eh59 => ?_)
  replace hn := sn_r eh59 hn
  replace hs := sp_r eh59 hs
  refine A_aload_n 0 d_MD_init_249 rfl rfl ?_
  refine A_sipush d_MD_init_250 rfl ?_
  refine A_newLv (q := (n + 29)) (N := 816) d_MD_init_253 ac_long rfl (by decide) (by decide) (by decide) hn (fun h60 eh60 nh60 gh60 => ?_)
  have oh60 := hn
  replace hn := nh60
  replace hs := gh60 _ _ hs
  refine A_putRv T_ok d_MD_init_255 f_MD_103 ty_a hs (Or.inr ⟨rfl, fun q hq => by cases hq; rfl⟩) (fun h61 eh61 => ?_)
  replace hn := sn_r eh61 hn
  replace hs := sp_r eh61 hs
  refine A_pc (pc' := 258) rfl ?_
  refine A_aload_n 0 d_MD_init_258 rfl rfl ?_
  refine A_sipush d_MD_init_259 rfl ?_
  refine A_newIv (q := (n + 30)) (N := 2100) d_MD_init_262 ac_int rfl (by decide) (by decide) (by decide) hn (fun h62 eh62 nh62 gh62 => ?_)
  have oh62 := hn
  replace hn := nh62
  replace hs := gh62 _ _ hs
  refine A_putRv T_ok d_MD_init_264 f_MD_106 ty_a hs (Or.inr ⟨rfl, fun q hq => by cases hq; rfl⟩) (fun h63 eh63 => ?_)
  replace hn := sn_r eh63 hn
  replace hs := sp_r eh63 hs
  refine A_aload_n 0 d_MD_init_267 rfl rfl ?_
  refine A_sipush d_MD_init_268 rfl ?_
  refine A_pc (pc' := 271) rfl ?_
  refine A_newIv (q := (n + 31)) (N := 2100) d_MD_init_271 ac_int rfl (by decide) (by decide) (by decide) hn (fun h64 eh64 nh64 gh64 => ?_)
  have oh64 := hn
  replace hn := nh64
  replace hs := gh64 _ _ hs
  refine A_putRv T_ok d_MD_init_273 f_MD_109 ty_a hs (Or.inr ⟨rfl, fun q hq => by cases hq; rfl⟩) (fun h65 eh65 => ?_)
  replace hn := sn_r eh65 hn
  replace hs := sp_r eh65 hs
  refine A_aload_n 0 d_MD_init_276 rfl rfl ?_
  refine A_sipush d_MD_init_277 rfl ?_
  refine A_newIv (q := (n + 32)) (N := 2100) d_MD_init_280 ac_int rfl (by decide) (by decide) (by decide) hn (fun h66 eh66 nh66 gh66 => ?_)
  have oh66 := hn
  replace hn := nh66
  replace hs := gh66 _ _ hs
  refine A_putRv T_ok d_MD_init_282 f_MD_112 ty_a hs (Or.inr ⟨rfl, fun q hq => by cases hq; rfl⟩) (fun h67 eh67 => ?_)
  replace hn := sn_r eh67 hn
  replace hs := sp_r eh67 hs
  refine A_pc (pc' := 285) rfl ?_
  refine A_aload_n 0 d_MD_init_285 rfl rfl ?_
  refine A_sipush d_MD_init_286 rfl ?_
  refine A_newIv (q := (n + 33)) (N := 2100) d_MD_init_289 ac_int rfl (by decide) (by decide) (by decide) hn (fun h68 eh68 nh68 gh68 => ?_)
  have oh68 := hn
  replace hn := nh68
  replace hs := gh68 _ _ hs
  refine A_putRv T_ok d_MD_init_291 f_MD_115 ty_a hs (Or.inr ⟨rfl, fun q hq => by cases hq; rfl⟩) (fun h69 eh69 => ?_)
  replace hn := sn_r eh69 hn
  replace hs := sp_r eh69 hs
  refine A_aload_n 0 d_MD_init_294 rfl rfl ?_
  refine A_sipush d_MD_init_295 rfl ?_
  refine A_pc (pc' := 298) rfl ?_
  refine A_newIv (q := (n + 34)) (N := 8400) d_MD_init_298 ac_int rfl (by decide) (by decide) (by decide) hn (fun h70 eh70 nh70 gh70 => ?_)
  have oh70 := hn
  replace hn := nh70
  replace hs := gh70 _ _ hs
  refine A_putRv T_ok d_MD_init_300 f_MD_118 ty_a hs (Or.inr ⟨rfl, fun q hq => by cases hq; rfl⟩) (fun h71 eh71 => ?_)
  replace hn := sn_r eh71 hn
  replace hs := sp_r eh71 hs
  refine A_aload_n 0 d_MD_init_303 rfl rfl ?_
  refine A_sipush d_MD_init_304 rfl ?_
  refine A_newIv (q := (n + 35)) (N := 8400) d_MD_init_307 ac_int rfl (by decide) (by decide) (by decide) hn (fun h72 eh72 nh72 gh72 => ?_)
  have oh72 := hn
  replace hn := nh72
  replace hs := gh72 _ _ hs
  refine A_putRv T_ok d_MD_init_309 f_MD_121 ty_a hs (Or.inr ⟨rfl, fun q hq => by cases hq; rfl⟩) (fun h73 eh73 => ?_)
  replace hn := sn_r eh73 hn
  replace hs := sp_r eh73 hs
  refine A_pc (pc' := 312) rfl ?_
  refine A_aload_n 0 d_MD_init_312 rfl rfl ?_
  refine A_sipush d_MD_init_313 rfl ?_
  refine A_newIv (q := (n + 36)) (N := 2100) d_MD_init_316 ac_int rfl (by decide) (by decide) (by decide) hn (fun h74 eh74 nh74 gh74 => ?_)
  have oh74 := hn
  replace hn := nh74
  replace hs := gh74 _ _ hs
  refine A_putRv T_ok d_MD_init_318 f_MD_124 ty_a hs (Or.inr ⟨rfl, fun q hq => by cases hq; rfl⟩) (fun h75 eh75 => ?_)
  replace hn := sn_r eh75 hn
  replace hs := sp_r eh75 hs
  refine A_aload_n 0 d_MD_init_321 rfl rfl ?_
  refine A_sipush d_MD_init_322 rfl ?_
  refine A_pc (pc' := 325) rfl ?_
  refine A_newZv (q := (n + 37)) (N := 2100) d_MD_init_325 ac_boolean rfl (by decide) (by decide) (by decide) hn (fun h76 eh76 nh76 gh76 => ?_)
  have oh76 := hn
  replace hn := nh76
  replace hs := gh76 _ _ hs
  refine A_putRv T_ok d_MD_init_327 f_MD_127 ty_a hs (Or.inr ⟨rfl, fun q hq => by cases hq; rfl⟩) (fun h77 eh77 => ?_)
  replace hn := sn_r eh77 hn
  replace hs := sp_r eh77 hs
  refine A_aload_n 0 d_MD_init_330 rfl rfl ?_
  refine A_sipush d_MD_init_331 rfl ?_
  refine A_newIv (q := (n + 38)) (N := 2100) d_MD_init_334 ac_int rfl (by decide) (by decide) (by decide) hn (fun h78 eh78 nh78 gh78 => ?_)
  have oh78 := hn
  replace hn := nh78
  replace hs := gh78 _ _ hs
  refine A_putRv T_ok d_MD_init_336 f_MD_130 ty_a hs (Or.inr ⟨rfl, fun q hq => by cases hq; rfl⟩) (fun h79 eh79 => ?_)
  replace hn := sn_r eh79 hn
  replace hs := sp_r eh79 hs
  refine A_pc (pc' := 339) rfl ?_
  refine A_aload_n 0 d_MD_init_339 rfl rfl ?_
  refine A_sipush d_MD_init_340 rfl ?_
  refine A_newIv (q := (n + 39)) (N := 2100) d_MD_init_343 ac_int rfl (by decide) (by decide) (by decide) hn (fun h80 eh80 nh80 gh80 => ?_)
  have oh80 := hn
  replace hn := nh80
  replace hs := gh80 _ _ hs
  refine A_putRv T_ok d_MD_init_345 f_MD_133 ty_a hs (Or.inr ⟨rfl, fun q hq => by cases hq; rfl⟩) (fun h81 eh81 => ?_)
  replace hn := sn_r eh81 hn
  replace hs := sp_r eh81 hs
  refine A_aload_n 0 d_MD_init_348 rfl rfl ?_
  refine A_sipush d_MD_init_349 rfl ?_
  refine A_pc (pc' := 352) rfl ?_
  refine A_newIv (q := (n + 40)) (N := 2100) d_MD_init_352 ac_int rfl (by decide) (by decide) (by decide) hn (fun h82 eh82 nh82 gh82 => ?_)
  have oh82 := hn
  replace hn := nh82
  replace hs := gh82 _ _ hs
  refine A_putRv T_ok d_MD_init_354 f_MD_136 ty_a hs (Or.inr ⟨rfl, fun q hq => by cases hq; rfl⟩) (fun h83 eh83 => ?_)
  replace hn := sn_r eh83 hn
  replace hs := sp_r eh83 hs
  refine A_aload_n 0 d_MD_init_357 rfl rfl ?_
  refine A_sipush d_MD_init_358 rfl ?_
  refine A_newIv (q := (n + 41)) (N := 2100) d_MD_init_361 ac_int rfl (by decide) (by decide) (by decide) hn (fun h84 eh84 nh84 gh84 => ?_)
  have oh84 := hn
  replace hn := nh84
  replace hs := gh84 _ _ hs
  refine A_putRv T_ok d_MD_init_363 f_MD_139 ty_a hs (Or.inr ⟨rfl, fun q hq => by cases hq; rfl⟩) (fun h85 eh85 => ?_)
  replace hn := sn_r eh85 hn
  replace hs := sp_r eh85 hs
  refine A_pc (pc' := 366) rfl ?_
  refine A_aload_n 0 d_MD_init_366 rfl rfl ?_
  refine A_sipush d_MD_init_367 rfl ?_
  refine A_newIv (q := (n + 42)) (N := 2100) d_MD_init_370 ac_int rfl (by decide) (by decide) (by decide) hn (fun h86 eh86 nh86 gh86 => ?_)
  have oh86 := hn
  replace hn := nh86
  replace hs := gh86 _ _ hs
  refine A_putRv T_ok d_MD_init_372 f_MD_142 ty_a hs (Or.inr ⟨rfl, fun q hq => by cases hq; rfl⟩) (fun h87 eh87 => ?_)
  replace hn := sn_r eh87 hn
  replace hs := sp_r eh87 hs
  refine A_aload_n 0 d_MD_init_375 rfl rfl ?_
  refine A_sipush d_MD_init_376 rfl ?_
  refine A_pc (pc' := 379) rfl ?_
  refine A_newIv (q := (n + 43)) (N := 2100) d_MD_init_379 ac_int rfl (by decide) (by decide) (by decide) hn (fun h88 eh88 nh88 gh88 => ?_)
  have oh88 := hn
  replace hn := nh88
  replace hs := gh88 _ _ hs
  refine A_putRv T_ok d_MD_init_381 f_MD_145 ty_a hs (Or.inr ⟨rfl, fun q hq => by cases hq; rfl⟩) (fun h89 eh89 => ?_)
  replace hn := sn_r eh89 hn
  replace hs := sp_r eh89 hs
  refine A_aload_n 0 d_MD_init_384 rfl rfl ?_
  refine A_bipush d_MD_init_385 rfl ?_
  refine A_newIv (q := (n + 44)) (N := 8) d_MD_init_387 ac_int rfl (by decide) (by decide) (by decide) hn (fun h90 eh90 nh90 gh90 => ?_)
  have oh90 := hn
  replace hn := nh90
  replace hs := gh90 _ _ hs
  refine A_putRv T_ok d_MD_init_389 f_MD_148 ty_a hs (Or.inr ⟨rfl, fun q hq => by cases hq; rfl⟩) (fun h91 eh91 => ?_)
  replace hn := sn_r eh91 hn
  replace hs := sp_r eh91 hs
  refine A_pc (pc' := 392) rfl ?_
  refine A_aload_n 0 d_MD_init_392 rfl rfl ?_
  refine A_bipush d_MD_init_393 rfl ?_
  refine A_newIv (q := (n + 45)) (N := 8) d_MD_init_395 ac_int rfl (by decide) (by decide) (by decide) hn (fun h92 eh92 nh92 gh92 => ?_)
  have oh92 := hn
  replace hn := nh92
  replace hs := gh92 _ _ hs
  refine A_putRv T_ok d_MD_init_397 f_MD_151 ty_a hs (Or.inr ⟨rfl, fun q hq => by cases hq; rfl⟩) (fun h93 eh93 => ?_)
  replace hn := sn_r eh93 hn
  replace hs := sp_r eh93 hs
  refine A_aload_n 0 d_MD_init_400 rfl rfl ?_
  refine A_bipush d_MD_init_401 rfl ?_
  refine A_pc (pc' := 403) rfl ?_
  refine A_newIv (q := (n + 46)) (N := 10) d_MD_init_403 ac_int rfl (by decide) (by decide) (by decide) hn (fun h94 eh94 nh94 gh94 => ?_)
  have oh94 := hn
  replace hn := nh94
  replace hs := gh94 _ _ hs
  refine A_putRv T_ok d_MD_init_405 f_MD_154 ty_a hs (Or.inr ⟨rfl, fun q hq => by cases hq; rfl⟩) (fun h95 eh95 => ?_)
  replace hn := sn_r eh95 hn
  replace hs := sp_r eh95 hs
  refine A_aload_n 0 d_MD_init_408 rfl rfl ?_
  refine A_bipush d_MD_init_409 rfl ?_
  refine A_newIv (q := (n + 47)) (N := 10) d_MD_init_411 ac_int rfl (by decide) (by decide) (by decide) hn (fun h96 eh96 nh96 gh96 => ?_)
  have oh96 := hn
  replace hn := nh96
  replace hs := gh96 _ _ hs
  refine A_putRv T_ok d_MD_init_413 f_MD_157 ty_a hs (Or.inr ⟨rfl, fun q hq => by cases hq; rfl⟩) (fun h97 eh97 => ?_)
  replace hn := sn_r eh97 hn
  replace hs := sp_r eh97 hs
  refine A_pc (pc' := 416) rfl ?_
  refine A_aload_n 0 d_MD_init_416 rfl rfl ?_
  refine A_bipush d_MD_init_417 rfl ?_
  refine A_newIv (q := (n + 48)) (N := 10) d_MD_init_419 ac_int rfl (by decide) (by decide) (by decide) hn (fun h98 eh98 nh98 gh98 => ?_)
  have oh98 := hn
  replace hn := nh98
  replace hs := gh98 _ _ hs
  refine A_putRv T_ok d_MD_init_421 f_MD_160 ty_a hs (Or.inr ⟨rfl, fun q hq => by cases hq; rfl⟩) (fun h99 eh99 => ?_)
  replace hn := sn_r eh99 hn
  replace hs := sp_r eh99 hs
  refine A_aload_n 0 d_MD_init_424 rfl rfl ?_
  refine A_bipush d_MD_init_425 rfl ?_
  refine A_pc (pc' := 427) rfl ?_
  refine A_newZv (q := (n + 49)) (N := 10) d_MD_init_427 ac_boolean rfl (by decide) (by decide) (by decide) hn (fun h100 eh100 nh100 gh100 => ?_)
  have oh100 := hn
  replace hn := nh100
  replace hs := gh100 _ _ hs
  refine A_putRv T_ok d_MD_init_429 f_MD_163 ty_a hs (Or.inr ⟨rfl, fun q hq => by cases hq; rfl⟩) (fun h101 eh101 => ?_)
  replace hn := sn_r eh101 hn
  replace hs := sp_r eh101 hs
  refine A_aload_n 0 d_MD_init_432 rfl rfl ?_
  refine A_sipush d_MD_init_433 rfl ?_
  refine A_newIv (q := (n + 50)) (N := 8000) d_MD_init_436 ac_int rfl (by decide) (by decide) (by decide) hn (fun h102 eh102 nh102 gh102 => ?_)
  have oh102 := hn
  replace hn := nh102
  replace hs := gh102 _ _ hs
  refine A_putRv T_ok d_MD_init_438 f_MD_166 ty_a hs (Or.inr ⟨rfl, fun q hq => by cases hq; rfl⟩) (fun h103 eh103 => ?_)
  replace hn := sn_r eh103 hn
  replace hs := sp_r eh103 hs
  refine A_pc (pc' := 441) rfl ?_
  refine A_aload_n 0 d_MD_init_441 rfl rfl ?_
  refine A_sipush d_MD_init_442 rfl ?_
  refine A_newIv (q := (n + 51)) (N := 8000) d_MD_init_445 ac_int rfl (by decide) (by decide) (by decide) hn (fun h104 eh104 nh104 gh104 => ?_)
  have oh104 := hn
  replace hn := nh104
  replace hs := gh104 _ _ hs
  refine A_putRv T_ok d_MD_init_447 f_MD_169 ty_a hs (Or.inr ⟨rfl, fun q hq => by cases hq; rfl⟩) (fun h105 eh105 => ?_)
  replace hn := sn_r eh105 hn
  replace hs := sp_r eh105 hs
  refine A_aload_n 0 d_MD_init_450 rfl rfl ?_
  refine A_sipush d_MD_init_451 rfl ?_
  refine A_pc (pc' := 454) rfl ?_
  refine A_newIv (q := (n + 52)) (N := 8000) d_MD_init_454 ac_int rfl (by decide) (by decide) (by decide) hn (fun h106 eh106 nh106 gh106 => ?_)
  have oh106 := hn
  replace hn := nh106
  replace hs := gh106 _ _ hs
  refine A_putRv T_ok d_MD_init_456 f_MD_172 ty_a hs (Or.inr ⟨rfl, fun q hq => by cases hq; rfl⟩) (fun h107 eh107 => ?_)
  replace hn := sn_r eh107 hn
  replace hs := sp_r eh107 hs
  refine A_aload_n 0 d_MD_init_459 rfl rfl ?_
  refine A_sipush d_MD_init_460 rfl ?_
  refine A_newIv (q := (n + 53)) (N := 8000) d_MD_init_463 ac_int rfl (by decide) (by decide) (by decide) hn (fun h108 eh108 nh108 gh108 => ?_)
  have oh108 := hn
  replace hn := nh108
  replace hs := gh108 _ _ hs
  refine A_putRv T_ok d_MD_init_465 f_MD_175 ty_a hs (Or.inr ⟨rfl, fun q hq => by cases hq; rfl⟩) (fun h109 eh109 => ?_)
  replace hn := sn_r eh109 hn
  replace hs := sp_r eh109 hs
  refine A_pc (pc' := 468) rfl ?_
  refine A_aload_n 0 d_MD_init_468 rfl rfl ?_
  refine A_bipush d_MD_init_469 rfl ?_
  refine A_newIv (q := (n + 54)) (N := 16) d_MD_init_471 ac_int rfl (by decide) (by decide) (by decide) hn (fun h110 eh110 nh110 gh110 => ?_)
  have oh110 := hn
  replace hn := nh110
  replace hs := gh110 _ _ hs
  refine A_putRv T_ok d_MD_init_473 f_MD_178 ty_a hs (Or.inr ⟨rfl, fun q hq => by cases hq; rfl⟩) (fun h111 eh111 => ?_)
  replace hn := sn_r eh111 hn
  replace hs := sp_r eh111 hs
  refine A_aload_n 0 d_MD_init_476 rfl rfl ?_
  refine A_sipush d_MD_init_477 rfl ?_
  refine A_pc (pc' := 480) rfl ?_
  refine A_newIv (q := (n + 55)) (N := 340) d_MD_init_480 ac_int rfl (by decide) (by decide) (by decide) hn (fun h112 eh112 nh112 gh112 => ?_)
  have oh112 := hn
  replace hn := nh112
  replace hs := gh112 _ _ hs
  refine A_putRv T_ok d_MD_init_482 f_MD_181 ty_a hs (Or.inr ⟨rfl, fun q hq => by cases hq; rfl⟩) (fun h113 eh113 => ?_)
  replace hn := sn_r eh113 hn
  replace hs := sp_r eh113 hs
  refine A_aload_n 0 d_MD_init_485 rfl rfl ?_
  refine A_sipush d_MD_init_486 rfl ?_
  refine A_newIv (q := (n + 56)) (N := 340) d_MD_init_489 ac_int rfl (by decide) (by decide) (by decide) hn (fun h114 eh114 nh114 gh114 => ?_)
  have oh114 := hn
  replace hn := nh114
  replace hs := gh114 _ _ hs
  refine A_putRv T_ok d_MD_init_491 f_MD_184 ty_a hs (Or.inr ⟨rfl, fun q hq => by cases hq; rfl⟩) (fun h115 eh115 => ?_)
  replace hn := sn_r eh115 hn
  replace hs := sp_r eh115 hs
  refine A_pc (pc' := 494) rfl ?_
  refine A_aload_n 0 d_MD_init_494 rfl rfl ?_
  refine A_bipush d_MD_init_495 rfl ?_
  refine A_newIv (q := (n + 57)) (N := 16) d_MD_init_497 ac_int rfl (by decide) (by decide) (by decide) hn (fun h116 eh116 nh116 gh116 => ?_)
  have oh116 := hn
  replace hn := nh116
  replace hs := gh116 _ _ hs
  refine A_putRv T_ok d_MD_init_499 f_MD_187 ty_a hs (Or.inr ⟨rfl, fun q hq => by cases hq; rfl⟩) (fun h117 eh117 => ?_)
  replace hn := sn_r eh117 hn
  replace hs := sp_r eh117 hs
  refine A_aload_n 0 d_MD_init_502 rfl rfl ?_
  refine A_bipush d_MD_init_503 rfl ?_
  refine A_pc (pc' := 505) rfl ?_
  refine A_newIv (q := (n + 58)) (N := 8) d_MD_init_505 ac_int rfl (by decide) (by decide) (by decide) hn (fun h118 eh118 nh118 gh118 => ?_)
  have oh118 := hn
  replace hn := nh118
  replace hs := gh118 _ _ hs
  refine A_putRv T_ok d_MD_init_507 f_MD_190 ty_a hs (Or.inr ⟨rfl, fun q hq => by cases hq; rfl⟩) (fun h119 eh119 => ?_)
  replace hn := sn_r eh119 hn
  replace hs := sp_r eh119 hs
  refine A_aload_n 0 d_MD_init_510 rfl rfl ?_
  refine A_bipush d_MD_init_511 rfl ?_
  refine A_newIv (q := (n + 59)) (N := 8) d_MD_init_513 ac_int rfl (by decide) (by decide) (by decide) hn (fun h120 eh120 nh120 gh120 => ?_)
  have oh120 := hn
  replace hn := nh120
  replace hs := gh120 _ _ hs
  refine A_putRv T_ok d_MD_init_515 f_MD_193 ty_a hs (Or.inr ⟨rfl, fun q hq => by cases hq; rfl⟩) (fun h121 eh121 => ?_)
  replace hn := sn_r eh121 hn
  replace hs := sp_r eh121 hs
  refine A_pc (pc' := 518) rfl ?_
  refine A_aload_n 0 d_MD_init_518 rfl rfl ?_
  refine A_sipush d_MD_init_519 rfl ?_
  refine A_newLv (q := (n + 60)) (N := 2704) d_MD_init_522 ac_long rfl (by decide) (by decide) (by decide) hn (fun h122 eh122 nh122 gh122 => ?_)
  have oh122 := hn
  replace hn := nh122
  replace hs := gh122 _ _ hs
  refine A_putRv T_ok d_MD_init_524 f_MD_196 ty_a hs (Or.inr ⟨rfl, fun q hq => by cases hq; rfl⟩) (fun h123 eh123 => ?_)
  replace hn := sn_r eh123 hn
  replace hs := sp_r eh123 hs
  refine A_aload_n 0 d_MD_init_527 rfl rfl ?_
  refine A_bipush d_MD_init_528 rfl ?_
  refine A_pc (pc' := 530) rfl ?_
  refine A_newIv (q := (n + 61)) (N := 32) d_MD_init_530 ac_int rfl (by decide) (by decide) (by decide) hn (fun h124 eh124 nh124 gh124 => ?_)
  have oh124 := hn
  replace hn := nh124
  replace hs := gh124 _ _ hs
  refine A_putRv T_ok d_MD_init_532 f_MD_199 ty_a hs (Or.inr ⟨rfl, fun q hq => by cases hq; rfl⟩) (fun h125 eh125 => ?_)
  replace hn := sn_r eh125 hn
  replace hs := sp_r eh125 hs
  refine A_aload_n 0 d_MD_init_535 rfl rfl ?_
  refine A_bipush d_MD_init_536 rfl ?_
  refine A_newIv (q := (n + 62)) (N := 32) d_MD_init_538 ac_int rfl (by decide) (by decide) (by decide) hn (fun h126 eh126 nh126 gh126 => ?_)
  have oh126 := hn
  replace hn := nh126
  replace hs := gh126 _ _ hs
  refine A_putRv T_ok d_MD_init_540 f_MD_202 ty_a hs (Or.inr ⟨rfl, fun q hq => by cases hq; rfl⟩) (fun h127 eh127 => ?_)
  replace hn := sn_r eh127 hn
  replace hs := sp_r eh127 hs
  refine A_pc (pc' := 543) rfl ?_
  refine A_aload_n 0 d_MD_init_543 rfl rfl ?_
  refine A_bipush d_MD_init_544 rfl ?_
  refine A_newIv (q := (n + 63)) (N := 32) d_MD_init_546 ac_int rfl (by decide) (by decide) (by decide) hn (fun h128 eh128 nh128 gh128 => ?_)
  have oh128 := hn
  replace hn := nh128
  replace hs := gh128 _ _ hs
  refine A_putRv T_ok d_MD_init_548 f_MD_205 ty_a hs (Or.inr ⟨rfl, fun q hq => by cases hq; rfl⟩) (fun h129 eh129 => ?_)
  replace hn := sn_r eh129 hn
  replace hs := sp_r eh129 hs
  refine A_aload_n 0 d_MD_init_551 rfl rfl ?_
  refine A_bipush d_MD_init_552 rfl ?_
  refine A_pc (pc' := 554) rfl ?_
  refine A_newLv (q := (n + 64)) (N := 32) d_MD_init_554 ac_long rfl (by decide) (by decide) (by decide) hn (fun h130 eh130 nh130 gh130 => ?_)
  have oh130 := hn
  replace hn := nh130
  replace hs := gh130 _ _ hs
  refine A_putRv T_ok d_MD_init_556 f_MD_208 ty_a hs (Or.inr ⟨rfl, fun q hq => by cases hq; rfl⟩) (fun h131 eh131 => ?_)
  replace hn := sn_r eh131 hn
  replace hs := sp_r eh131 hs
  refine A_aload_n 0 d_MD_init_559 rfl rfl ?_
  refine A_bipush d_MD_init_560 rfl ?_
  refine A_newIv (q := (n + 65)) (N := 80) d_MD_init_562 ac_int rfl (by decide) (by decide) (by decide) hn (fun h132 eh132 nh132 gh132 => ?_)
  have oh132 := hn
  replace hn := nh132
  replace hs := gh132 _ _ hs
  refine A_putRv T_ok d_MD_init_564 f_MD_211 ty_a hs (Or.inr ⟨rfl, fun q hq => by cases hq; rfl⟩) (fun h133 eh133 => ?_)
  replace hn := sn_r eh133 hn
  replace hs := sp_r eh133 hs
  refine A_pc (pc' := 567) rfl ?_
  refine A_aload_n 0 d_MD_init_567 rfl rfl ?_
  refine A_bipush d_MD_init_568 rfl ?_
  refine A_newIv (q := (n + 66)) (N := 80) d_MD_init_570 ac_int rfl (by decide) (by decide) (by decide) hn (fun h134 eh134 nh134 gh134 => ?_)
  have oh134 := hn
  replace hn := nh134
  replace hs := gh134 _ _ hs
  refine A_putRv T_ok d_MD_init_572 f_MD_214 ty_a hs (Or.inr ⟨rfl, fun q hq => by cases hq; rfl⟩) (fun h135 eh135 => ?_)
  replace hn := sn_r eh135 hn
  replace hs := sp_r eh135 hs
  refine A_aload_n 0 d_MD_init_575 rfl rfl ?_
  refine A_bipush d_MD_init_576 rfl ?_
  refine A_pc (pc' := 578) rfl ?_
  refine A_newIv (q := (n + 67)) (N := 80) d_MD_init_578 ac_int rfl (by decide) (by decide) (by decide) hn (fun h136 eh136 nh136 gh136 => ?_)
  have oh136 := hn
  replace hn := nh136
  replace hs := gh136 _ _ hs
  refine A_putRv T_ok d_MD_init_580 f_MD_217 ty_a hs (Or.inr ⟨rfl, fun q hq => by cases hq; rfl⟩) (fun h137 eh137 => ?_)
  replace hn := sn_r eh137 hn
  replace hs := sp_r eh137 hs
  refine A_aload_n 0 d_MD_init_583 rfl rfl ?_
  refine A_sipush d_MD_init_584 rfl ?_
  refine A_newIv (q := (n + 68)) (N := 6561) d_MD_init_587 ac_int rfl (by decide) (by decide) (by decide) hn (fun h138 eh138 nh138 gh138 => ?_)
  have oh138 := hn
  replace hn := nh138
  replace hs := gh138 _ _ hs
  refine A_putRv T_ok d_MD_init_589 f_MD_220 ty_a hs (Or.inr ⟨rfl, fun q hq => by cases hq; rfl⟩) (fun h139 eh139 => ?_)
  replace hn := sn_r eh139 hn
  replace hs := sp_r eh139 hs
  refine A_pc (pc' := 592) rfl ?_
  refine A_aload_n 0 d_MD_init_592 rfl rfl ?_
  refine A_sipush d_MD_init_593 rfl ?_
  refine A_newLv (q := (n + 69)) (N := 6561) d_MD_init_596 ac_long rfl (by decide) (by decide) (by decide) hn (fun h140 eh140 nh140 gh140 => ?_)
  have oh140 := hn
  replace hn := nh140
  replace hs := gh140 _ _ hs
  refine A_putRv T_ok d_MD_init_598 f_MD_223 ty_a hs (Or.inr ⟨rfl, fun q hq => by cases hq; rfl⟩) (fun h141 eh141 => ?_)
  replace hn := sn_r eh141 hn
  replace hs := sp_r eh141 hs
  exact A_vret d_MD_init_601 (by decide) rfl ⟨rfl, by rw [eh141, eh140, eh139, eh138, eh137, eh136, eh135, eh134, eh133, eh132, eh131, eh130, eh129, eh128, eh127, eh126, eh125, eh124, eh123, eh122, eh121, eh120, eh119, eh118, eh117, eh116, eh115, eh114, eh113, eh112, eh111, eh110, eh109, eh108, eh107, eh106, eh105, eh104, eh103, eh102, eh101, eh100, eh99, eh98, eh97, eh96, eh95, eh94, eh93, eh92, eh91, eh90, eh89, eh88, eh87, eh86, eh85, eh84, eh83, eh82, eh81, eh80, eh79, eh78, eh77, eh76, eh75, eh74, eh73, eh72, eh71, eh70, eh69, eh68, eh67, eh66, eh65, eh64, eh63, eh62, eh61, eh60, eh59, eh58, eh57, eh56, eh55, eh54, eh53, eh52, eh51, eh50, eh49, eh48, eh47, eh46, eh45, eh44, eh43, eh42, eh41, eh40, eh39, eh38, eh37, eh36, eh35, eh34, eh33, eh32, eh31, eh30, eh29, eh28, eh27, eh26, eh25, eh24, eh23, eh22, eh21, eh20, eh19, eh18, eh17, eh16, eh15, eh14, eh13, eh12, eh11, eh10, eh9, eh8, eh7, eh6, eh5, eh4, eh3, eh2, eh1] <;> rfl⟩
end
