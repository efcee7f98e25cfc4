section
-- ===== PART A: goes FIRST, ahead of the names: the tables' words, and 'selects' of the private methods out of them =====
/-- a private method of a class that the tables say can be made, by its rows of tables_1 -/
def lw_okq (q : MethodName × Nat) : Prop := (q.1.cls ≠ "java/lang/invoke/MethodHandle" ∧ q.1.cls ≠ "java/lang/invoke/VarHandle") ∧ Cond.instantiable q.1.cls q.2 ∈ tables_1 ∧ Cond.privateMethod q.1 ∈ tables_1 ∧ Cond.instanceMethod q.1 ∈ tables_1
theorem lw_p0 : lw_okq (⟨"PlainMusic", "putBytes", "(I)V"⟩, 11) := ⟨⟨by decide +kernel, by decide +kernel⟩, List.mem_of_getElem? (i := 23) (by decide +kernel), List.mem_of_getElem? (i := 500) (by decide +kernel), List.mem_of_getElem? (i := 501) (by decide +kernel)⟩
theorem lw_p1 : lw_okq (⟨"PlainMusic$Tokens", "cutOne", "()Z"⟩, 13) := ⟨⟨by decide +kernel, by decide +kernel⟩, List.mem_of_getElem? (i := 37) (by decide +kernel), List.mem_of_getElem? (i := 527) (by decide +kernel), List.mem_of_getElem? (i := 528) (by decide +kernel)⟩
theorem lw_p2 : lw_okq (⟨"PlainMusic$Tokens", "skipBlanks", "()V"⟩, 13) := ⟨⟨by decide +kernel, by decide +kernel⟩, List.mem_of_getElem? (i := 37) (by decide +kernel), List.mem_of_getElem? (i := 531) (by decide +kernel), List.mem_of_getElem? (i := 532) (by decide +kernel)⟩
theorem lw_p3 : lw_okq (⟨"PlainMusic$Tokens", "byteAt", "(I)I"⟩, 13) := ⟨⟨by decide +kernel, by decide +kernel⟩, List.mem_of_getElem? (i := 37) (by decide +kernel), List.mem_of_getElem? (i := 535) (by decide +kernel), List.mem_of_getElem? (i := 536) (by decide +kernel)⟩
theorem lw_p4 : lw_okq (⟨"PlainMusic$Tokens", "cutPitch", "(I)V"⟩, 13) := ⟨⟨by decide +kernel, by decide +kernel⟩, List.mem_of_getElem? (i := 37) (by decide +kernel), List.mem_of_getElem? (i := 539) (by decide +kernel), List.mem_of_getElem? (i := 540) (by decide +kernel)⟩
theorem lw_p5 : lw_okq (⟨"PlainMusic$Tokens", "cutName", "()V"⟩, 13) := ⟨⟨by decide +kernel, by decide +kernel⟩, List.mem_of_getElem? (i := 37) (by decide +kernel), List.mem_of_getElem? (i := 551) (by decide +kernel), List.mem_of_getElem? (i := 552) (by decide +kernel)⟩
theorem lw_p6 : lw_okq (⟨"PlainMusic$Tokens", "cutNumber", "()V"⟩, 13) := ⟨⟨by decide +kernel, by decide +kernel⟩, List.mem_of_getElem? (i := 37) (by decide +kernel), List.mem_of_getElem? (i := 618) (by decide +kernel), List.mem_of_getElem? (i := 619) (by decide +kernel)⟩
theorem lw_p7 : lw_okq (⟨"PlainMusic$Reader", "readTime", "()Z"⟩, 8) := ⟨⟨by decide +kernel, by decide +kernel⟩, List.mem_of_getElem? (i := 31) (by decide +kernel), List.mem_of_getElem? (i := 684) (by decide +kernel), List.mem_of_getElem? (i := 685) (by decide +kernel)⟩
theorem lw_p8 : lw_okq (⟨"PlainMusic$Reader", "blame", "(II)Z"⟩, 8) := ⟨⟨by decide +kernel, by decide +kernel⟩, List.mem_of_getElem? (i := 31) (by decide +kernel), List.mem_of_getElem? (i := 688) (by decide +kernel), List.mem_of_getElem? (i := 689) (by decide +kernel)⟩
theorem lw_p9 : lw_okq (⟨"PlainMusic$Reader", "readNumber", "(IZ)I"⟩, 8) := ⟨⟨by decide +kernel, by decide +kernel⟩, List.mem_of_getElem? (i := 31) (by decide +kernel), List.mem_of_getElem? (i := 693) (by decide +kernel), List.mem_of_getElem? (i := 694) (by decide +kernel)⟩
theorem lw_p10 : lw_okq (⟨"PlainMusic$Reader", "refuse", "()Z"⟩, 8) := ⟨⟨by decide +kernel, by decide +kernel⟩, List.mem_of_getElem? (i := 31) (by decide +kernel), List.mem_of_getElem? (i := 697) (by decide +kernel), List.mem_of_getElem? (i := 698) (by decide +kernel)⟩
theorem lw_p11 : lw_okq (⟨"PlainMusic$Reader", "take", "(I)Z"⟩, 8) := ⟨⟨by decide +kernel, by decide +kernel⟩, List.mem_of_getElem? (i := 31) (by decide +kernel), List.mem_of_getElem? (i := 707) (by decide +kernel), List.mem_of_getElem? (i := 708) (by decide +kernel)⟩
theorem lw_p12 : lw_okq (⟨"PlainMusic$Reader", "readVoice", "()Z"⟩, 8) := ⟨⟨by decide +kernel, by decide +kernel⟩, List.mem_of_getElem? (i := 31) (by decide +kernel), List.mem_of_getElem? (i := 715) (by decide +kernel), List.mem_of_getElem? (i := 716) (by decide +kernel)⟩
theorem lw_p13 : lw_okq (⟨"PlainMusic$Reader", "beginsEvent", "()Z"⟩, 8) := ⟨⟨by decide +kernel, by decide +kernel⟩, List.mem_of_getElem? (i := 31) (by decide +kernel), List.mem_of_getElem? (i := 731) (by decide +kernel), List.mem_of_getElem? (i := 732) (by decide +kernel)⟩
theorem lw_p14 : lw_okq (⟨"PlainMusic$Reader", "isShallow", "()Z"⟩, 8) := ⟨⟨by decide +kernel, by decide +kernel⟩, List.mem_of_getElem? (i := 31) (by decide +kernel), List.mem_of_getElem? (i := 735) (by decide +kernel), List.mem_of_getElem? (i := 736) (by decide +kernel)⟩
theorem lw_p15 : lw_okq (⟨"PlainMusic$Reader", "readEvent", "(LPlainMusic$Voice;)Z"⟩, 8) := ⟨⟨by decide +kernel, by decide +kernel⟩, List.mem_of_getElem? (i := 31) (by decide +kernel), List.mem_of_getElem? (i := 739) (by decide +kernel), List.mem_of_getElem? (i := 740) (by decide +kernel)⟩
def lw_privs_1 : List (MethodName × Nat) := [(⟨"PlainMusic", "putBytes", "(I)V"⟩, 11), (⟨"PlainMusic$Tokens", "cutOne", "()Z"⟩, 13), (⟨"PlainMusic$Tokens", "skipBlanks", "()V"⟩, 13), (⟨"PlainMusic$Tokens", "byteAt", "(I)I"⟩, 13), (⟨"PlainMusic$Tokens", "cutPitch", "(I)V"⟩, 13), (⟨"PlainMusic$Tokens", "cutName", "()V"⟩, 13), (⟨"PlainMusic$Tokens", "cutNumber", "()V"⟩, 13), (⟨"PlainMusic$Reader", "readTime", "()Z"⟩, 8), (⟨"PlainMusic$Reader", "blame", "(II)Z"⟩, 8), (⟨"PlainMusic$Reader", "readNumber", "(IZ)I"⟩, 8), (⟨"PlainMusic$Reader", "refuse", "()Z"⟩, 8), (⟨"PlainMusic$Reader", "take", "(I)Z"⟩, 8), (⟨"PlainMusic$Reader", "readVoice", "()Z"⟩, 8), (⟨"PlainMusic$Reader", "beginsEvent", "()Z"⟩, 8), (⟨"PlainMusic$Reader", "isShallow", "()Z"⟩, 8), (⟨"PlainMusic$Reader", "readEvent", "(LPlainMusic$Voice;)Z"⟩, 8)]
theorem lw_r1 : ∀ q ∈ lw_privs_1, lw_okq q := List.forall_mem_cons.mpr ⟨lw_p0, List.forall_mem_cons.mpr ⟨lw_p1, List.forall_mem_cons.mpr ⟨lw_p2, List.forall_mem_cons.mpr ⟨lw_p3, List.forall_mem_cons.mpr ⟨lw_p4, List.forall_mem_cons.mpr ⟨lw_p5, List.forall_mem_cons.mpr ⟨lw_p6, List.forall_mem_cons.mpr ⟨lw_p7, List.forall_mem_cons.mpr ⟨lw_p8, List.forall_mem_cons.mpr ⟨lw_p9, List.forall_mem_cons.mpr ⟨lw_p10, List.forall_mem_cons.mpr ⟨lw_p11, List.forall_mem_cons.mpr ⟨lw_p12, List.forall_mem_cons.mpr ⟨lw_p13, List.forall_mem_cons.mpr ⟨lw_p14, List.forall_mem_cons.mpr ⟨lw_p15, fun _ h => absurd h List.not_mem_nil⟩⟩⟩⟩⟩⟩⟩⟩⟩⟩⟩⟩⟩⟩⟩⟩
theorem lw_p16 : lw_okq (⟨"PlainMusic$Reader", "readSound", "(LPlainMusic$Voice;)Z"⟩, 8) := ⟨⟨by decide +kernel, by decide +kernel⟩, List.mem_of_getElem? (i := 31) (by decide +kernel), List.mem_of_getElem? (i := 743) (by decide +kernel), List.mem_of_getElem? (i := 744) (by decide +kernel)⟩
theorem lw_p17 : lw_okq (⟨"PlainMusic$Reader", "admit", "()Z"⟩, 8) := ⟨⟨by decide +kernel, by decide +kernel⟩, List.mem_of_getElem? (i := 31) (by decide +kernel), List.mem_of_getElem? (i := 747) (by decide +kernel), List.mem_of_getElem? (i := 748) (by decide +kernel)⟩
theorem lw_p18 : lw_okq (⟨"PlainMusic$Reader", "readPart", "()Z"⟩, 8) := ⟨⟨by decide +kernel, by decide +kernel⟩, List.mem_of_getElem? (i := 31) (by decide +kernel), List.mem_of_getElem? (i := 764) (by decide +kernel), List.mem_of_getElem? (i := 765) (by decide +kernel)⟩
theorem lw_p19 : lw_okq (⟨"PlainMusic$Reader", "readStretch", "()Z"⟩, 8) := ⟨⟨by decide +kernel, by decide +kernel⟩, List.mem_of_getElem? (i := 31) (by decide +kernel), List.mem_of_getElem? (i := 773) (by decide +kernel), List.mem_of_getElem? (i := 774) (by decide +kernel)⟩
theorem lw_p20 : lw_okq (⟨"PlainMusic$Parts", "walkThrough", "(LPlainMusic$Voice;IIIJJ)V"⟩, 12) := ⟨⟨by decide +kernel, by decide +kernel⟩, List.mem_of_getElem? (i := 89) (by decide +kernel), List.mem_of_getElem? (i := 785) (by decide +kernel), List.mem_of_getElem? (i := 786) (by decide +kernel)⟩
theorem lw_p21 : lw_okq (⟨"PlainMusic$Parts", "walkRepeat", "(LPlainMusic$Voice;IIJJ)I"⟩, 12) := ⟨⟨by decide +kernel, by decide +kernel⟩, List.mem_of_getElem? (i := 89) (by decide +kernel), List.mem_of_getElem? (i := 789) (by decide +kernel), List.mem_of_getElem? (i := 790) (by decide +kernel)⟩
theorem lw_p22 : lw_okq (⟨"PlainMusic$Parts", "meetLine", "(LPlainMusic$Voice;)V"⟩, 12) := ⟨⟨by decide +kernel, by decide +kernel⟩, List.mem_of_getElem? (i := 89) (by decide +kernel), List.mem_of_getElem? (i := 794) (by decide +kernel), List.mem_of_getElem? (i := 795) (by decide +kernel)⟩
theorem lw_p23 : lw_okq (⟨"PlainMusic$Reader", "readLine", "()Z"⟩, 8) := ⟨⟨by decide +kernel, by decide +kernel⟩, List.mem_of_getElem? (i := 31) (by decide +kernel), List.mem_of_getElem? (i := 819) (by decide +kernel), List.mem_of_getElem? (i := 820) (by decide +kernel)⟩
theorem lw_p24 : lw_okq (⟨"PlainMusic$Reader", "readRule", "()Z"⟩, 8) := ⟨⟨by decide +kernel, by decide +kernel⟩, List.mem_of_getElem? (i := 31) (by decide +kernel), List.mem_of_getElem? (i := 827) (by decide +kernel), List.mem_of_getElem? (i := 828) (by decide +kernel)⟩
theorem lw_p25 : lw_okq (⟨"PlainMusic$Reader", "readName", "()I"⟩, 8) := ⟨⟨by decide +kernel, by decide +kernel⟩, List.mem_of_getElem? (i := 31) (by decide +kernel), List.mem_of_getElem? (i := 831) (by decide +kernel), List.mem_of_getElem? (i := 832) (by decide +kernel)⟩
theorem lw_p26 : lw_okq (⟨"PlainMusic$Reader", "readRow", "()Z"⟩, 8) := ⟨⟨by decide +kernel, by decide +kernel⟩, List.mem_of_getElem? (i := 31) (by decide +kernel), List.mem_of_getElem? (i := 839) (by decide +kernel), List.mem_of_getElem? (i := 840) (by decide +kernel)⟩
theorem lw_p27 : lw_okq (⟨"PlainMusic", "forgetFindings", "()V"⟩, 11) := ⟨⟨by decide +kernel, by decide +kernel⟩, List.mem_of_getElem? (i := 23) (by decide +kernel), List.mem_of_getElem? (i := 851) (by decide +kernel), List.mem_of_getElem? (i := 852) (by decide +kernel)⟩
theorem lw_p28 : lw_okq (⟨"PlainMusic$Judge", "hearVoice", "(LPlainMusic$Score;LPlainMusic$Voice;I)V"⟩, 3) := ⟨⟨by decide +kernel, by decide +kernel⟩, List.mem_of_getElem? (i := 308) (by decide +kernel), List.mem_of_getElem? (i := 949) (by decide +kernel), List.mem_of_getElem? (i := 950) (by decide +kernel)⟩
theorem lw_p29 : lw_okq (⟨"PlainMusic$Judge", "add", "(IIII)V"⟩, 3) := ⟨⟨by decide +kernel, by decide +kernel⟩, List.mem_of_getElem? (i := 308) (by decide +kernel), List.mem_of_getElem? (i := 971) (by decide +kernel), List.mem_of_getElem? (i := 972) (by decide +kernel)⟩
theorem lw_p30 : lw_okq (⟨"PlainMusic$Judge", "hearAlone", "(LPlainMusic$Voice;II)V"⟩, 3) := ⟨⟨by decide +kernel, by decide +kernel⟩, List.mem_of_getElem? (i := 308) (by decide +kernel), List.mem_of_getElem? (i := 975) (by decide +kernel), List.mem_of_getElem? (i := 976) (by decide +kernel)⟩
theorem lw_p31 : lw_okq (⟨"PlainMusic$Judge", "hearCrossings", "(LPlainMusic$Score;LPlainMusic$Voice;II)V"⟩, 3) := ⟨⟨by decide +kernel, by decide +kernel⟩, List.mem_of_getElem? (i := 308) (by decide +kernel), List.mem_of_getElem? (i := 1001) (by decide +kernel), List.mem_of_getElem? (i := 1002) (by decide +kernel)⟩
def lw_privs_2 : List (MethodName × Nat) := [(⟨"PlainMusic$Reader", "readSound", "(LPlainMusic$Voice;)Z"⟩, 8), (⟨"PlainMusic$Reader", "admit", "()Z"⟩, 8), (⟨"PlainMusic$Reader", "readPart", "()Z"⟩, 8), (⟨"PlainMusic$Reader", "readStretch", "()Z"⟩, 8), (⟨"PlainMusic$Parts", "walkThrough", "(LPlainMusic$Voice;IIIJJ)V"⟩, 12), (⟨"PlainMusic$Parts", "walkRepeat", "(LPlainMusic$Voice;IIJJ)I"⟩, 12), (⟨"PlainMusic$Parts", "meetLine", "(LPlainMusic$Voice;)V"⟩, 12), (⟨"PlainMusic$Reader", "readLine", "()Z"⟩, 8), (⟨"PlainMusic$Reader", "readRule", "()Z"⟩, 8), (⟨"PlainMusic$Reader", "readName", "()I"⟩, 8), (⟨"PlainMusic$Reader", "readRow", "()Z"⟩, 8), (⟨"PlainMusic", "forgetFindings", "()V"⟩, 11), (⟨"PlainMusic$Judge", "hearVoice", "(LPlainMusic$Score;LPlainMusic$Voice;I)V"⟩, 3), (⟨"PlainMusic$Judge", "add", "(IIII)V"⟩, 3), (⟨"PlainMusic$Judge", "hearAlone", "(LPlainMusic$Voice;II)V"⟩, 3), (⟨"PlainMusic$Judge", "hearCrossings", "(LPlainMusic$Score;LPlainMusic$Voice;II)V"⟩, 3)]
theorem lw_r2 : ∀ q ∈ lw_privs_2, lw_okq q := List.forall_mem_cons.mpr ⟨lw_p16, List.forall_mem_cons.mpr ⟨lw_p17, List.forall_mem_cons.mpr ⟨lw_p18, List.forall_mem_cons.mpr ⟨lw_p19, List.forall_mem_cons.mpr ⟨lw_p20, List.forall_mem_cons.mpr ⟨lw_p21, List.forall_mem_cons.mpr ⟨lw_p22, List.forall_mem_cons.mpr ⟨lw_p23, List.forall_mem_cons.mpr ⟨lw_p24, List.forall_mem_cons.mpr ⟨lw_p25, List.forall_mem_cons.mpr ⟨lw_p26, List.forall_mem_cons.mpr ⟨lw_p27, List.forall_mem_cons.mpr ⟨lw_p28, List.forall_mem_cons.mpr ⟨lw_p29, List.forall_mem_cons.mpr ⟨lw_p30, List.forall_mem_cons.mpr ⟨lw_p31, fun _ h => absurd h List.not_mem_nil⟩⟩⟩⟩⟩⟩⟩⟩⟩⟩⟩⟩⟩⟩⟩⟩
theorem lw_p32 : lw_okq (⟨"PlainMusic$Judge", "hearParallels", "(LPlainMusic$Score;LPlainMusic$Voice;II)V"⟩, 3) := ⟨⟨by decide +kernel, by decide +kernel⟩, List.mem_of_getElem? (i := 308) (by decide +kernel), List.mem_of_getElem? (i := 1019) (by decide +kernel), List.mem_of_getElem? (i := 1020) (by decide +kernel)⟩
theorem lw_p33 : lw_okq (⟨"PlainMusic$Beams", "cutRun", "(LPlainMusic$Voice;IIII)I"⟩, 4) := ⟨⟨by decide +kernel, by decide +kernel⟩, List.mem_of_getElem? (i := 324) (by decide +kernel), List.mem_of_getElem? (i := 1051) (by decide +kernel), List.mem_of_getElem? (i := 1052) (by decide +kernel)⟩
theorem lw_p34 : lw_okq (⟨"PlainMusic$Page", "timesIn", "(LPlainMusic$Score;I)I"⟩, 8) := ⟨⟨by decide +kernel, by decide +kernel⟩, List.mem_of_getElem? (i := 343) (by decide +kernel), List.mem_of_getElem? (i := 1098) (by decide +kernel), List.mem_of_getElem? (i := 1099) (by decide +kernel)⟩
theorem lw_p35 : lw_okq (⟨"PlainMusic$Page", "setNext", "(LPlainMusic$Voice;II)V"⟩, 8) := ⟨⟨by decide +kernel, by decide +kernel⟩, List.mem_of_getElem? (i := 343) (by decide +kernel), List.mem_of_getElem? (i := 1102) (by decide +kernel), List.mem_of_getElem? (i := 1103) (by decide +kernel)⟩
theorem lw_p36 : lw_okq (⟨"PlainMusic$Page", "earliest", "()I"⟩, 8) := ⟨⟨by decide +kernel, by decide +kernel⟩, List.mem_of_getElem? (i := 343) (by decide +kernel), List.mem_of_getElem? (i := 1110) (by decide +kernel), List.mem_of_getElem? (i := 1111) (by decide +kernel)⟩
theorem lw_p37 : lw_okq (⟨"PlainMusic$Page", "passTime", "(LPlainMusic$Score;IJJ)V"⟩, 8) := ⟨⟨by decide +kernel, by decide +kernel⟩, List.mem_of_getElem? (i := 343) (by decide +kernel), List.mem_of_getElem? (i := 1118) (by decide +kernel), List.mem_of_getElem? (i := 1119) (by decide +kernel)⟩
theorem lw_p38 : lw_okq (⟨"PlainMusic$Page", "findFrom", "(III)V"⟩, 8) := ⟨⟨by decide +kernel, by decide +kernel⟩, List.mem_of_getElem? (i := 343) (by decide +kernel), List.mem_of_getElem? (i := 1122) (by decide +kernel), List.mem_of_getElem? (i := 1123) (by decide +kernel)⟩
theorem lw_p39 : lw_okq (⟨"PlainMusic$Seconds", "extend", "(II)V"⟩, 8) := ⟨⟨by decide +kernel, by decide +kernel⟩, List.mem_of_getElem? (i := 374) (by decide +kernel), List.mem_of_getElem? (i := 1153) (by decide +kernel), List.mem_of_getElem? (i := 1154) (by decide +kernel)⟩
theorem lw_p40 : lw_okq (⟨"PlainMusic$Seconds", "keep", "(I)V"⟩, 8) := ⟨⟨by decide +kernel, by decide +kernel⟩, List.mem_of_getElem? (i := 374) (by decide +kernel), List.mem_of_getElem? (i := 1157) (by decide +kernel), List.mem_of_getElem? (i := 1158) (by decide +kernel)⟩
theorem lw_p41 : lw_okq (⟨"PlainMusic$Seconds", "fitsAlone", "(I)Z"⟩, 8) := ⟨⟨by decide +kernel, by decide +kernel⟩, List.mem_of_getElem? (i := 374) (by decide +kernel), List.mem_of_getElem? (i := 1161) (by decide +kernel), List.mem_of_getElem? (i := 1162) (by decide +kernel)⟩
theorem lw_p42 : lw_okq (⟨"PlainMusic$Seconds", "asks", "(I)Z"⟩, 8) := ⟨⟨by decide +kernel, by decide +kernel⟩, List.mem_of_getElem? (i := 374) (by decide +kernel), List.mem_of_getElem? (i := 1165) (by decide +kernel), List.mem_of_getElem? (i := 1166) (by decide +kernel)⟩
theorem lw_p43 : lw_okq (⟨"PlainMusic$Seconds", "fitsBehind", "(I)Z"⟩, 8) := ⟨⟨by decide +kernel, by decide +kernel⟩, List.mem_of_getElem? (i := 374) (by decide +kernel), List.mem_of_getElem? (i := 1173) (by decide +kernel), List.mem_of_getElem? (i := 1174) (by decide +kernel)⟩
theorem lw_p44 : lw_okq (⟨"PlainMusic$Seconds", "fitsLeap", "(I)Z"⟩, 8) := ⟨⟨by decide +kernel, by decide +kernel⟩, List.mem_of_getElem? (i := 374) (by decide +kernel), List.mem_of_getElem? (i := 1178) (by decide +kernel), List.mem_of_getElem? (i := 1179) (by decide +kernel)⟩
theorem lw_p45 : lw_okq (⟨"PlainMusic$Seconds", "rowAt", "(I)I"⟩, 8) := ⟨⟨by decide +kernel, by decide +kernel⟩, List.mem_of_getElem? (i := 374) (by decide +kernel), List.mem_of_getElem? (i := 1190) (by decide +kernel), List.mem_of_getElem? (i := 1191) (by decide +kernel)⟩
theorem lw_p46 : lw_okq (⟨"PlainMusic$Trees", "fill", "(LPlainMusic$Score;II)V"⟩, 6) := ⟨⟨by decide +kernel, by decide +kernel⟩, List.mem_of_getElem? (i := 405) (by decide +kernel), List.mem_of_getElem? (i := 1208) (by decide +kernel), List.mem_of_getElem? (i := 1209) (by decide +kernel)⟩
theorem lw_p47 : lw_okq (⟨"PlainMusic$Trees", "treesBy", "(LPlainMusic$Score;III)J"⟩, 6) := ⟨⟨by decide +kernel, by decide +kernel⟩, List.mem_of_getElem? (i := 405) (by decide +kernel), List.mem_of_getElem? (i := 1215) (by decide +kernel), List.mem_of_getElem? (i := 1216) (by decide +kernel)⟩
def lw_privs_3 : List (MethodName × Nat) := [(⟨"PlainMusic$Judge", "hearParallels", "(LPlainMusic$Score;LPlainMusic$Voice;II)V"⟩, 3), (⟨"PlainMusic$Beams", "cutRun", "(LPlainMusic$Voice;IIII)I"⟩, 4), (⟨"PlainMusic$Page", "timesIn", "(LPlainMusic$Score;I)I"⟩, 8), (⟨"PlainMusic$Page", "setNext", "(LPlainMusic$Voice;II)V"⟩, 8), (⟨"PlainMusic$Page", "earliest", "()I"⟩, 8), (⟨"PlainMusic$Page", "passTime", "(LPlainMusic$Score;IJJ)V"⟩, 8), (⟨"PlainMusic$Page", "findFrom", "(III)V"⟩, 8), (⟨"PlainMusic$Seconds", "extend", "(II)V"⟩, 8), (⟨"PlainMusic$Seconds", "keep", "(I)V"⟩, 8), (⟨"PlainMusic$Seconds", "fitsAlone", "(I)Z"⟩, 8), (⟨"PlainMusic$Seconds", "asks", "(I)Z"⟩, 8), (⟨"PlainMusic$Seconds", "fitsBehind", "(I)Z"⟩, 8), (⟨"PlainMusic$Seconds", "fitsLeap", "(I)Z"⟩, 8), (⟨"PlainMusic$Seconds", "rowAt", "(I)I"⟩, 8), (⟨"PlainMusic$Trees", "fill", "(LPlainMusic$Score;II)V"⟩, 6), (⟨"PlainMusic$Trees", "treesBy", "(LPlainMusic$Score;III)J"⟩, 6)]
theorem lw_r3 : ∀ q ∈ lw_privs_3, lw_okq q := List.forall_mem_cons.mpr ⟨lw_p32, List.forall_mem_cons.mpr ⟨lw_p33, List.forall_mem_cons.mpr ⟨lw_p34, List.forall_mem_cons.mpr ⟨lw_p35, List.forall_mem_cons.mpr ⟨lw_p36, List.forall_mem_cons.mpr ⟨lw_p37, List.forall_mem_cons.mpr ⟨lw_p38, List.forall_mem_cons.mpr ⟨lw_p39, List.forall_mem_cons.mpr ⟨lw_p40, List.forall_mem_cons.mpr ⟨lw_p41, List.forall_mem_cons.mpr ⟨lw_p42, List.forall_mem_cons.mpr ⟨lw_p43, List.forall_mem_cons.mpr ⟨lw_p44, List.forall_mem_cons.mpr ⟨lw_p45, List.forall_mem_cons.mpr ⟨lw_p46, List.forall_mem_cons.mpr ⟨lw_p47, fun _ h => absurd h List.not_mem_nil⟩⟩⟩⟩⟩⟩⟩⟩⟩⟩⟩⟩⟩⟩⟩⟩
theorem lw_p48 : lw_okq (⟨"PlainMusic$Trees", "treesCut", "(LPlainMusic$Score;IIII)J"⟩, 6) := ⟨⟨by decide +kernel, by decide +kernel⟩, List.mem_of_getElem? (i := 405) (by decide +kernel), List.mem_of_getElem? (i := 1219) (by decide +kernel), List.mem_of_getElem? (i := 1220) (by decide +kernel)⟩
theorem lw_p49 : lw_okq (⟨"PlainMusic$Trees", "treesOf", "(III)I"⟩, 6) := ⟨⟨by decide +kernel, by decide +kernel⟩, List.mem_of_getElem? (i := 405) (by decide +kernel), List.mem_of_getElem? (i := 1223) (by decide +kernel), List.mem_of_getElem? (i := 1224) (by decide +kernel)⟩
theorem lw_p50 : lw_okq (⟨"PlainMusic$Trees", "findRule", "(LPlainMusic$Score;)I"⟩, 6) := ⟨⟨by decide +kernel, by decide +kernel⟩, List.mem_of_getElem? (i := 405) (by decide +kernel), List.mem_of_getElem? (i := 1240) (by decide +kernel), List.mem_of_getElem? (i := 1241) (by decide +kernel)⟩
theorem lw_p51 : lw_okq (⟨"PlainMusic$Trees", "findCut", "(LPlainMusic$Score;I)I"⟩, 6) := ⟨⟨by decide +kernel, by decide +kernel⟩, List.mem_of_getElem? (i := 405) (by decide +kernel), List.mem_of_getElem? (i := 1244) (by decide +kernel), List.mem_of_getElem? (i := 1245) (by decide +kernel)⟩
theorem lw_p52 : lw_okq (⟨"PlainMusic$Trees", "goDown", "(LPlainMusic$Score;IIZ)V"⟩, 6) := ⟨⟨by decide +kernel, by decide +kernel⟩, List.mem_of_getElem? (i := 405) (by decide +kernel), List.mem_of_getElem? (i := 1248) (by decide +kernel), List.mem_of_getElem? (i := 1249) (by decide +kernel)⟩
theorem lw_p53 : lw_okq (⟨"PlainMusic$Pairing", "weigh", "(LPlainMusic$Voice;LPlainMusic$Voice;II)V"⟩, 8) := ⟨⟨by decide +kernel, by decide +kernel⟩, List.mem_of_getElem? (i := 430) (by decide +kernel), List.mem_of_getElem? (i := 1268) (by decide +kernel), List.mem_of_getElem? (i := 1269) (by decide +kernel)⟩
theorem lw_p54 : lw_okq (⟨"PlainMusic$Pairing", "slot", "(II)I"⟩, 8) := ⟨⟨by decide +kernel, by decide +kernel⟩, List.mem_of_getElem? (i := 430) (by decide +kernel), List.mem_of_getElem? (i := 1272) (by decide +kernel), List.mem_of_getElem? (i := 1273) (by decide +kernel)⟩
theorem lw_p55 : lw_okq (⟨"PlainMusic$Pairing", "pairCost", "(LPlainMusic$Voice;LPlainMusic$Voice;II)I"⟩, 8) := ⟨⟨by decide +kernel, by decide +kernel⟩, List.mem_of_getElem? (i := 430) (by decide +kernel), List.mem_of_getElem? (i := 1277) (by decide +kernel), List.mem_of_getElem? (i := 1278) (by decide +kernel)⟩
theorem lw_p56 : lw_okq (⟨"PlainMusic$Pairing", "choose", "(LPlainMusic$Voice;LPlainMusic$Voice;)V"⟩, 8) := ⟨⟨by decide +kernel, by decide +kernel⟩, List.mem_of_getElem? (i := 430) (by decide +kernel), List.mem_of_getElem? (i := 1285) (by decide +kernel), List.mem_of_getElem? (i := 1286) (by decide +kernel)⟩
theorem lw_p57 : lw_okq (⟨"PlainMusic$Pairing", "isPair", "(LPlainMusic$Voice;LPlainMusic$Voice;II)Z"⟩, 8) := ⟨⟨by decide +kernel, by decide +kernel⟩, List.mem_of_getElem? (i := 430) (by decide +kernel), List.mem_of_getElem? (i := 1289) (by decide +kernel), List.mem_of_getElem? (i := 1290) (by decide +kernel)⟩
theorem lw_p58 : lw_okq (⟨"PlainMusic$Pairing", "isFirstAlone", "(II)Z"⟩, 8) := ⟨⟨by decide +kernel, by decide +kernel⟩, List.mem_of_getElem? (i := 430) (by decide +kernel), List.mem_of_getElem? (i := 1293) (by decide +kernel), List.mem_of_getElem? (i := 1294) (by decide +kernel)⟩
theorem lw_p59 : lw_okq (⟨"PlainMusicModel", "lay", "(I)V"⟩, 111) := ⟨⟨by decide +kernel, by decide +kernel⟩, List.mem_of_getElem? (i := 1344) (by decide +kernel), List.mem_of_getElem? (i := 1688) (by decide +kernel), List.mem_of_getElem? (i := 1689) (by decide +kernel)⟩
theorem lw_p60 : lw_okq (⟨"PlainMusicModel", "parse", "()Z"⟩, 111) := ⟨⟨by decide +kernel, by decide +kernel⟩, List.mem_of_getElem? (i := 1344) (by decide +kernel), List.mem_of_getElem? (i := 1700) (by decide +kernel), List.mem_of_getElem? (i := 1701) (by decide +kernel)⟩
theorem lw_p61 : lw_okq (⟨"PlainMusicModel", "next", "()Z"⟩, 111) := ⟨⟨by decide +kernel, by decide +kernel⟩, List.mem_of_getElem? (i := 1344) (by decide +kernel), List.mem_of_getElem? (i := 1704) (by decide +kernel), List.mem_of_getElem? (i := 1705) (by decide +kernel)⟩
theorem lw_p62 : lw_okq (⟨"PlainMusicModel", "pitch", "(I)V"⟩, 111) := ⟨⟨by decide +kernel, by decide +kernel⟩, List.mem_of_getElem? (i := 1344) (by decide +kernel), List.mem_of_getElem? (i := 1708) (by decide +kernel), List.mem_of_getElem? (i := 1709) (by decide +kernel)⟩
theorem lw_p63 : lw_okq (⟨"PlainMusicModel", "at", "(I)I"⟩, 111) := ⟨⟨by decide +kernel, by decide +kernel⟩, List.mem_of_getElem? (i := 1344) (by decide +kernel), List.mem_of_getElem? (i := 1712) (by decide +kernel), List.mem_of_getElem? (i := 1713) (by decide +kernel)⟩
def lw_privs_4 : List (MethodName × Nat) := [(⟨"PlainMusic$Trees", "treesCut", "(LPlainMusic$Score;IIII)J"⟩, 6), (⟨"PlainMusic$Trees", "treesOf", "(III)I"⟩, 6), (⟨"PlainMusic$Trees", "findRule", "(LPlainMusic$Score;)I"⟩, 6), (⟨"PlainMusic$Trees", "findCut", "(LPlainMusic$Score;I)I"⟩, 6), (⟨"PlainMusic$Trees", "goDown", "(LPlainMusic$Score;IIZ)V"⟩, 6), (⟨"PlainMusic$Pairing", "weigh", "(LPlainMusic$Voice;LPlainMusic$Voice;II)V"⟩, 8), (⟨"PlainMusic$Pairing", "slot", "(II)I"⟩, 8), (⟨"PlainMusic$Pairing", "pairCost", "(LPlainMusic$Voice;LPlainMusic$Voice;II)I"⟩, 8), (⟨"PlainMusic$Pairing", "choose", "(LPlainMusic$Voice;LPlainMusic$Voice;)V"⟩, 8), (⟨"PlainMusic$Pairing", "isPair", "(LPlainMusic$Voice;LPlainMusic$Voice;II)Z"⟩, 8), (⟨"PlainMusic$Pairing", "isFirstAlone", "(II)Z"⟩, 8), (⟨"PlainMusicModel", "lay", "(I)V"⟩, 111), (⟨"PlainMusicModel", "parse", "()Z"⟩, 111), (⟨"PlainMusicModel", "next", "()Z"⟩, 111), (⟨"PlainMusicModel", "pitch", "(I)V"⟩, 111), (⟨"PlainMusicModel", "at", "(I)I"⟩, 111)]
theorem lw_r4 : ∀ q ∈ lw_privs_4, lw_okq q := List.forall_mem_cons.mpr ⟨lw_p48, List.forall_mem_cons.mpr ⟨lw_p49, List.forall_mem_cons.mpr ⟨lw_p50, List.forall_mem_cons.mpr ⟨lw_p51, List.forall_mem_cons.mpr ⟨lw_p52, List.forall_mem_cons.mpr ⟨lw_p53, List.forall_mem_cons.mpr ⟨lw_p54, List.forall_mem_cons.mpr ⟨lw_p55, List.forall_mem_cons.mpr ⟨lw_p56, List.forall_mem_cons.mpr ⟨lw_p57, List.forall_mem_cons.mpr ⟨lw_p58, List.forall_mem_cons.mpr ⟨lw_p59, List.forall_mem_cons.mpr ⟨lw_p60, List.forall_mem_cons.mpr ⟨lw_p61, List.forall_mem_cons.mpr ⟨lw_p62, List.forall_mem_cons.mpr ⟨lw_p63, fun _ h => absurd h List.not_mem_nil⟩⟩⟩⟩⟩⟩⟩⟩⟩⟩⟩⟩⟩⟩⟩⟩
theorem lw_p64 : lw_okq (⟨"PlainMusicModel", "whites", "(I)I"⟩, 111) := ⟨⟨by decide +kernel, by decide +kernel⟩, List.mem_of_getElem? (i := 1344) (by decide +kernel), List.mem_of_getElem? (i := 1716) (by decide +kernel), List.mem_of_getElem? (i := 1717) (by decide +kernel)⟩
theorem lw_p65 : lw_okq (⟨"PlainMusicModel", "isSmall", "(I)Z"⟩, 111) := ⟨⟨by decide +kernel, by decide +kernel⟩, List.mem_of_getElem? (i := 1344) (by decide +kernel), List.mem_of_getElem? (i := 1720) (by decide +kernel), List.mem_of_getElem? (i := 1721) (by decide +kernel)⟩
theorem lw_p66 : lw_okq (⟨"PlainMusicModel", "word", "()V"⟩, 111) := ⟨⟨by decide +kernel, by decide +kernel⟩, List.mem_of_getElem? (i := 1344) (by decide +kernel), List.mem_of_getElem? (i := 1724) (by decide +kernel), List.mem_of_getElem? (i := 1725) (by decide +kernel)⟩
theorem lw_p67 : lw_okq (⟨"PlainMusicModel", "isDigit", "(I)Z"⟩, 111) := ⟨⟨by decide +kernel, by decide +kernel⟩, List.mem_of_getElem? (i := 1344) (by decide +kernel), List.mem_of_getElem? (i := 1734) (by decide +kernel), List.mem_of_getElem? (i := 1735) (by decide +kernel)⟩
theorem lw_p68 : lw_okq (⟨"PlainMusicModel", "number", "()V"⟩, 111) := ⟨⟨by decide +kernel, by decide +kernel⟩, List.mem_of_getElem? (i := 1344) (by decide +kernel), List.mem_of_getElem? (i := 1738) (by decide +kernel), List.mem_of_getElem? (i := 1739) (by decide +kernel)⟩
theorem lw_p69 : lw_okq (⟨"PlainMusicModel", "isWord", "(I)Z"⟩, 111) := ⟨⟨by decide +kernel, by decide +kernel⟩, List.mem_of_getElem? (i := 1344) (by decide +kernel), List.mem_of_getElem? (i := 1742) (by decide +kernel), List.mem_of_getElem? (i := 1743) (by decide +kernel)⟩
theorem lw_p70 : lw_okq (⟨"PlainMusicModel", "timeItem", "()Z"⟩, 111) := ⟨⟨by decide +kernel, by decide +kernel⟩, List.mem_of_getElem? (i := 1344) (by decide +kernel), List.mem_of_getElem? (i := 1746) (by decide +kernel), List.mem_of_getElem? (i := 1747) (by decide +kernel)⟩
theorem lw_p71 : lw_okq (⟨"PlainMusicModel", "wrong", "(II)Z"⟩, 111) := ⟨⟨by decide +kernel, by decide +kernel⟩, List.mem_of_getElem? (i := 1344) (by decide +kernel), List.mem_of_getElem? (i := 1750) (by decide +kernel), List.mem_of_getElem? (i := 1751) (by decide +kernel)⟩
theorem lw_p72 : lw_okq (⟨"PlainMusicModel", "cant", "()Z"⟩, 111) := ⟨⟨by decide +kernel, by decide +kernel⟩, List.mem_of_getElem? (i := 1344) (by decide +kernel), List.mem_of_getElem? (i := 1754) (by decide +kernel), List.mem_of_getElem? (i := 1755) (by decide +kernel)⟩
theorem lw_p73 : lw_okq (⟨"PlainMusicModel", "want", "(I)Z"⟩, 111) := ⟨⟨by decide +kernel, by decide +kernel⟩, List.mem_of_getElem? (i := 1344) (by decide +kernel), List.mem_of_getElem? (i := 1758) (by decide +kernel), List.mem_of_getElem? (i := 1759) (by decide +kernel)⟩
theorem lw_p74 : lw_okq (⟨"PlainMusicModel", "isSign", "(I)Z"⟩, 111) := ⟨⟨by decide +kernel, by decide +kernel⟩, List.mem_of_getElem? (i := 1344) (by decide +kernel), List.mem_of_getElem? (i := 1762) (by decide +kernel), List.mem_of_getElem? (i := 1763) (by decide +kernel)⟩
theorem lw_p75 : lw_okq (⟨"PlainMusicModel", "isPower", "(II)Z"⟩, 111) := ⟨⟨by decide +kernel, by decide +kernel⟩, List.mem_of_getElem? (i := 1344) (by decide +kernel), List.mem_of_getElem? (i := 1766) (by decide +kernel), List.mem_of_getElem? (i := 1767) (by decide +kernel)⟩
theorem lw_p76 : lw_okq (⟨"PlainMusicModel", "voiceItem", "()Z"⟩, 111) := ⟨⟨by decide +kernel, by decide +kernel⟩, List.mem_of_getElem? (i := 1344) (by decide +kernel), List.mem_of_getElem? (i := 1770) (by decide +kernel), List.mem_of_getElem? (i := 1771) (by decide +kernel)⟩
theorem lw_p77 : lw_okq (⟨"PlainMusicModel", "voicePart", "()Z"⟩, 111) := ⟨⟨by decide +kernel, by decide +kernel⟩, List.mem_of_getElem? (i := 1344) (by decide +kernel), List.mem_of_getElem? (i := 1774) (by decide +kernel), List.mem_of_getElem? (i := 1775) (by decide +kernel)⟩
theorem lw_p78 : lw_okq (⟨"PlainMusicModel", "put", "(I)V"⟩, 111) := ⟨⟨by decide +kernel, by decide +kernel⟩, List.mem_of_getElem? (i := 1344) (by decide +kernel), List.mem_of_getElem? (i := 1778) (by decide +kernel), List.mem_of_getElem? (i := 1779) (by decide +kernel)⟩
theorem lw_p79 : lw_okq (⟨"PlainMusicModel", "timesPart", "()Z"⟩, 111) := ⟨⟨by decide +kernel, by decide +kernel⟩, List.mem_of_getElem? (i := 1344) (by decide +kernel), List.mem_of_getElem? (i := 1782) (by decide +kernel), List.mem_of_getElem? (i := 1783) (by decide +kernel)⟩
def lw_privs_5 : List (MethodName × Nat) := [(⟨"PlainMusicModel", "whites", "(I)I"⟩, 111), (⟨"PlainMusicModel", "isSmall", "(I)Z"⟩, 111), (⟨"PlainMusicModel", "word", "()V"⟩, 111), (⟨"PlainMusicModel", "isDigit", "(I)Z"⟩, 111), (⟨"PlainMusicModel", "number", "()V"⟩, 111), (⟨"PlainMusicModel", "isWord", "(I)Z"⟩, 111), (⟨"PlainMusicModel", "timeItem", "()Z"⟩, 111), (⟨"PlainMusicModel", "wrong", "(II)Z"⟩, 111), (⟨"PlainMusicModel", "cant", "()Z"⟩, 111), (⟨"PlainMusicModel", "want", "(I)Z"⟩, 111), (⟨"PlainMusicModel", "isSign", "(I)Z"⟩, 111), (⟨"PlainMusicModel", "isPower", "(II)Z"⟩, 111), (⟨"PlainMusicModel", "voiceItem", "()Z"⟩, 111), (⟨"PlainMusicModel", "voicePart", "()Z"⟩, 111), (⟨"PlainMusicModel", "put", "(I)V"⟩, 111), (⟨"PlainMusicModel", "timesPart", "()Z"⟩, 111)]
theorem lw_r5 : ∀ q ∈ lw_privs_5, lw_okq q := List.forall_mem_cons.mpr ⟨lw_p64, List.forall_mem_cons.mpr ⟨lw_p65, List.forall_mem_cons.mpr ⟨lw_p66, List.forall_mem_cons.mpr ⟨lw_p67, List.forall_mem_cons.mpr ⟨lw_p68, List.forall_mem_cons.mpr ⟨lw_p69, List.forall_mem_cons.mpr ⟨lw_p70, List.forall_mem_cons.mpr ⟨lw_p71, List.forall_mem_cons.mpr ⟨lw_p72, List.forall_mem_cons.mpr ⟨lw_p73, List.forall_mem_cons.mpr ⟨lw_p74, List.forall_mem_cons.mpr ⟨lw_p75, List.forall_mem_cons.mpr ⟨lw_p76, List.forall_mem_cons.mpr ⟨lw_p77, List.forall_mem_cons.mpr ⟨lw_p78, List.forall_mem_cons.mpr ⟨lw_p79, fun _ h => absurd h List.not_mem_nil⟩⟩⟩⟩⟩⟩⟩⟩⟩⟩⟩⟩⟩⟩⟩⟩
theorem lw_p80 : lw_okq (⟨"PlainMusicModel", "soundPart", "()Z"⟩, 111) := ⟨⟨by decide +kernel, by decide +kernel⟩, List.mem_of_getElem? (i := 1344) (by decide +kernel), List.mem_of_getElem? (i := 1786) (by decide +kernel), List.mem_of_getElem? (i := 1787) (by decide +kernel)⟩
theorem lw_p81 : lw_okq (⟨"PlainMusicModel", "pitchOf", "(I)Z"⟩, 111) := ⟨⟨by decide +kernel, by decide +kernel⟩, List.mem_of_getElem? (i := 1344) (by decide +kernel), List.mem_of_getElem? (i := 1790) (by decide +kernel), List.mem_of_getElem? (i := 1791) (by decide +kernel)⟩
theorem lw_p82 : lw_okq (⟨"PlainMusicModel", "walk", "(I)Z"⟩, 111) := ⟨⟨by decide +kernel, by decide +kernel⟩, List.mem_of_getElem? (i := 1344) (by decide +kernel), List.mem_of_getElem? (i := 1794) (by decide +kernel), List.mem_of_getElem? (i := 1795) (by decide +kernel)⟩
theorem lw_p83 : lw_okq (⟨"PlainMusicModel", "event", "(II)V"⟩, 111) := ⟨⟨by decide +kernel, by decide +kernel⟩, List.mem_of_getElem? (i := 1344) (by decide +kernel), List.mem_of_getElem? (i := 1798) (by decide +kernel), List.mem_of_getElem? (i := 1799) (by decide +kernel)⟩
theorem lw_p84 : lw_okq (⟨"PlainMusicModel", "fraction", "(JJ)V"⟩, 111) := ⟨⟨by decide +kernel, by decide +kernel⟩, List.mem_of_getElem? (i := 1344) (by decide +kernel), List.mem_of_getElem? (i := 1803) (by decide +kernel), List.mem_of_getElem? (i := 1804) (by decide +kernel)⟩
theorem lw_p85 : lw_okq (⟨"PlainMusicModel", "divisor", "(JJ)J"⟩, 111) := ⟨⟨by decide +kernel, by decide +kernel⟩, List.mem_of_getElem? (i := 1344) (by decide +kernel), List.mem_of_getElem? (i := 1807) (by decide +kernel), List.mem_of_getElem? (i := 1808) (by decide +kernel)⟩
theorem lw_p86 : lw_okq (⟨"PlainMusicModel", "isFar", "(JJ)Z"⟩, 111) := ⟨⟨by decide +kernel, by decide +kernel⟩, List.mem_of_getElem? (i := 1344) (by decide +kernel), List.mem_of_getElem? (i := 1811) (by decide +kernel), List.mem_of_getElem? (i := 1812) (by decide +kernel)⟩
theorem lw_p87 : lw_okq (⟨"PlainMusicModel", "sum", "(JJJJ)V"⟩, 111) := ⟨⟨by decide +kernel, by decide +kernel⟩, List.mem_of_getElem? (i := 1344) (by decide +kernel), List.mem_of_getElem? (i := 1817) (by decide +kernel), List.mem_of_getElem? (i := 1818) (by decide +kernel)⟩
theorem lw_p88 : lw_okq (⟨"PlainMusicModel", "colons", "(I)I"⟩, 111) := ⟨⟨by decide +kernel, by decide +kernel⟩, List.mem_of_getElem? (i := 1344) (by decide +kernel), List.mem_of_getElem? (i := 1821) (by decide +kernel), List.mem_of_getElem? (i := 1822) (by decide +kernel)⟩
theorem lw_p89 : lw_okq (⟨"PlainMusicModel", "scale", "(II)V"⟩, 111) := ⟨⟨by decide +kernel, by decide +kernel⟩, List.mem_of_getElem? (i := 1344) (by decide +kernel), List.mem_of_getElem? (i := 1825) (by decide +kernel), List.mem_of_getElem? (i := 1826) (by decide +kernel)⟩
theorem lw_p90 : lw_okq (⟨"PlainMusicModel", "opening", "(I)I"⟩, 111) := ⟨⟨by decide +kernel, by decide +kernel⟩, List.mem_of_getElem? (i := 1344) (by decide +kernel), List.mem_of_getElem? (i := 1829) (by decide +kernel), List.mem_of_getElem? (i := 1830) (by decide +kernel)⟩
theorem lw_p91 : lw_okq (⟨"PlainMusicModel", "behindColon", "(II)I"⟩, 111) := ⟨⟨by decide +kernel, by decide +kernel⟩, List.mem_of_getElem? (i := 1344) (by decide +kernel), List.mem_of_getElem? (i := 1833) (by decide +kernel), List.mem_of_getElem? (i := 1834) (by decide +kernel)⟩
theorem lw_p92 : lw_okq (⟨"PlainMusicModel", "isIn", "(I)Z"⟩, 111) := ⟨⟨by decide +kernel, by decide +kernel⟩, List.mem_of_getElem? (i := 1344) (by decide +kernel), List.mem_of_getElem? (i := 1837) (by decide +kernel), List.mem_of_getElem? (i := 1838) (by decide +kernel)⟩
theorem lw_p93 : lw_okq (⟨"PlainMusicModel", "turned", "(I)I"⟩, 111) := ⟨⟨by decide +kernel, by decide +kernel⟩, List.mem_of_getElem? (i := 1344) (by decide +kernel), List.mem_of_getElem? (i := 1841) (by decide +kernel), List.mem_of_getElem? (i := 1842) (by decide +kernel)⟩
theorem lw_p94 : lw_okq (⟨"PlainMusicModel", "closing", "(I)I"⟩, 111) := ⟨⟨by decide +kernel, by decide +kernel⟩, List.mem_of_getElem? (i := 1344) (by decide +kernel), List.mem_of_getElem? (i := 1845) (by decide +kernel), List.mem_of_getElem? (i := 1846) (by decide +kernel)⟩
theorem lw_p95 : lw_okq (⟨"PlainMusicModel", "lineItem", "()Z"⟩, 111) := ⟨⟨by decide +kernel, by decide +kernel⟩, List.mem_of_getElem? (i := 1344) (by decide +kernel), List.mem_of_getElem? (i := 1849) (by decide +kernel), List.mem_of_getElem? (i := 1850) (by decide +kernel)⟩
def lw_privs_6 : List (MethodName × Nat) := [(⟨"PlainMusicModel", "soundPart", "()Z"⟩, 111), (⟨"PlainMusicModel", "pitchOf", "(I)Z"⟩, 111), (⟨"PlainMusicModel", "walk", "(I)Z"⟩, 111), (⟨"PlainMusicModel", "event", "(II)V"⟩, 111), (⟨"PlainMusicModel", "fraction", "(JJ)V"⟩, 111), (⟨"PlainMusicModel", "divisor", "(JJ)J"⟩, 111), (⟨"PlainMusicModel", "isFar", "(JJ)Z"⟩, 111), (⟨"PlainMusicModel", "sum", "(JJJJ)V"⟩, 111), (⟨"PlainMusicModel", "colons", "(I)I"⟩, 111), (⟨"PlainMusicModel", "scale", "(II)V"⟩, 111), (⟨"PlainMusicModel", "opening", "(I)I"⟩, 111), (⟨"PlainMusicModel", "behindColon", "(II)I"⟩, 111), (⟨"PlainMusicModel", "isIn", "(I)Z"⟩, 111), (⟨"PlainMusicModel", "turned", "(I)I"⟩, 111), (⟨"PlainMusicModel", "closing", "(I)I"⟩, 111), (⟨"PlainMusicModel", "lineItem", "()Z"⟩, 111)]
theorem lw_r6 : ∀ q ∈ lw_privs_6, lw_okq q := List.forall_mem_cons.mpr ⟨lw_p80, List.forall_mem_cons.mpr ⟨lw_p81, List.forall_mem_cons.mpr ⟨lw_p82, List.forall_mem_cons.mpr ⟨lw_p83, List.forall_mem_cons.mpr ⟨lw_p84, List.forall_mem_cons.mpr ⟨lw_p85, List.forall_mem_cons.mpr ⟨lw_p86, List.forall_mem_cons.mpr ⟨lw_p87, List.forall_mem_cons.mpr ⟨lw_p88, List.forall_mem_cons.mpr ⟨lw_p89, List.forall_mem_cons.mpr ⟨lw_p90, List.forall_mem_cons.mpr ⟨lw_p91, List.forall_mem_cons.mpr ⟨lw_p92, List.forall_mem_cons.mpr ⟨lw_p93, List.forall_mem_cons.mpr ⟨lw_p94, List.forall_mem_cons.mpr ⟨lw_p95, fun _ h => absurd h List.not_mem_nil⟩⟩⟩⟩⟩⟩⟩⟩⟩⟩⟩⟩⟩⟩⟩⟩
theorem lw_p96 : lw_okq (⟨"PlainMusicModel", "ruleItem", "()Z"⟩, 111) := ⟨⟨by decide +kernel, by decide +kernel⟩, List.mem_of_getElem? (i := 1344) (by decide +kernel), List.mem_of_getElem? (i := 1853) (by decide +kernel), List.mem_of_getElem? (i := 1854) (by decide +kernel)⟩
theorem lw_p97 : lw_okq (⟨"PlainMusicModel", "nameNumber", "()I"⟩, 111) := ⟨⟨by decide +kernel, by decide +kernel⟩, List.mem_of_getElem? (i := 1344) (by decide +kernel), List.mem_of_getElem? (i := 1857) (by decide +kernel), List.mem_of_getElem? (i := 1858) (by decide +kernel)⟩
theorem lw_p98 : lw_okq (⟨"PlainMusicModel", "rowItem", "()Z"⟩, 111) := ⟨⟨by decide +kernel, by decide +kernel⟩, List.mem_of_getElem? (i := 1344) (by decide +kernel), List.mem_of_getElem? (i := 1861) (by decide +kernel), List.mem_of_getElem? (i := 1862) (by decide +kernel)⟩
theorem lw_p99 : lw_okq (⟨"PlainMusicModel", "keep", "()V"⟩, 111) := ⟨⟨by decide +kernel, by decide +kernel⟩, List.mem_of_getElem? (i := 1344) (by decide +kernel), List.mem_of_getElem? (i := 1865) (by decide +kernel), List.mem_of_getElem? (i := 1866) (by decide +kernel)⟩
theorem lw_p100 : lw_okq (⟨"PlainMusicModel", "keepEvent", "(II)V"⟩, 111) := ⟨⟨by decide +kernel, by decide +kernel⟩, List.mem_of_getElem? (i := 1344) (by decide +kernel), List.mem_of_getElem? (i := 1869) (by decide +kernel), List.mem_of_getElem? (i := 1870) (by decide +kernel)⟩
theorem lw_p101 : lw_okq (⟨"PlainMusicModel", "pageBars", "()I"⟩, 111) := ⟨⟨by decide +kernel, by decide +kernel⟩, List.mem_of_getElem? (i := 1344) (by decide +kernel), List.mem_of_getElem? (i := 1881) (by decide +kernel), List.mem_of_getElem? (i := 1882) (by decide +kernel)⟩
theorem lw_p102 : lw_okq (⟨"PlainMusicModel", "isVoice", "(I)Z"⟩, 111) := ⟨⟨by decide +kernel, by decide +kernel⟩, List.mem_of_getElem? (i := 1344) (by decide +kernel), List.mem_of_getElem? (i := 1889) (by decide +kernel), List.mem_of_getElem? (i := 1890) (by decide +kernel)⟩
theorem lw_p103 : lw_okq (⟨"PlainMusicModel", "firstOf", "(II)I"⟩, 111) := ⟨⟨by decide +kernel, by decide +kernel⟩, List.mem_of_getElem? (i := 1344) (by decide +kernel), List.mem_of_getElem? (i := 1902) (by decide +kernel), List.mem_of_getElem? (i := 1903) (by decide +kernel)⟩
theorem lw_p104 : lw_okq (⟨"PlainMusicModel", "isWhole", "(II)Z"⟩, 111) := ⟨⟨by decide +kernel, by decide +kernel⟩, List.mem_of_getElem? (i := 1344) (by decide +kernel), List.mem_of_getElem? (i := 1906) (by decide +kernel), List.mem_of_getElem? (i := 1907) (by decide +kernel)⟩
theorem lw_p105 : lw_okq (⟨"PlainMusicModel", "compare", "(JJJJ)I"⟩, 111) := ⟨⟨by decide +kernel, by decide +kernel⟩, List.mem_of_getElem? (i := 1344) (by decide +kernel), List.mem_of_getElem? (i := 1910) (by decide +kernel), List.mem_of_getElem? (i := 1911) (by decide +kernel)⟩
theorem lw_p106 : lw_okq (⟨"PlainMusicModel", "tell", "(IIII)V"⟩, 111) := ⟨⟨by decide +kernel, by decide +kernel⟩, List.mem_of_getElem? (i := 1344) (by decide +kernel), List.mem_of_getElem? (i := 1914) (by decide +kernel), List.mem_of_getElem? (i := 1915) (by decide +kernel)⟩
theorem lw_p107 : lw_okq (⟨"PlainMusicModel", "judgeEvent", "(II)V"⟩, 111) := ⟨⟨by decide +kernel, by decide +kernel⟩, List.mem_of_getElem? (i := 1344) (by decide +kernel), List.mem_of_getElem? (i := 1918) (by decide +kernel), List.mem_of_getElem? (i := 1919) (by decide +kernel)⟩
theorem lw_p108 : lw_okq (⟨"PlainMusicModel", "goesOn", "(II)Z"⟩, 111) := ⟨⟨by decide +kernel, by decide +kernel⟩, List.mem_of_getElem? (i := 1344) (by decide +kernel), List.mem_of_getElem? (i := 1922) (by decide +kernel), List.mem_of_getElem? (i := 1923) (by decide +kernel)⟩
theorem lw_p109 : lw_okq (⟨"PlainMusicModel", "lowest", "(I)I"⟩, 111) := ⟨⟨by decide +kernel, by decide +kernel⟩, List.mem_of_getElem? (i := 1344) (by decide +kernel), List.mem_of_getElem? (i := 1926) (by decide +kernel), List.mem_of_getElem? (i := 1927) (by decide +kernel)⟩
theorem lw_p110 : lw_okq (⟨"PlainMusicModel", "crosses", "(II)Z"⟩, 111) := ⟨⟨by decide +kernel, by decide +kernel⟩, List.mem_of_getElem? (i := 1344) (by decide +kernel), List.mem_of_getElem? (i := 1930) (by decide +kernel), List.mem_of_getElem? (i := 1931) (by decide +kernel)⟩
theorem lw_p111 : lw_okq (⟨"PlainMusicModel", "isAhead", "(II)Z"⟩, 111) := ⟨⟨by decide +kernel, by decide +kernel⟩, List.mem_of_getElem? (i := 1344) (by decide +kernel), List.mem_of_getElem? (i := 1934) (by decide +kernel), List.mem_of_getElem? (i := 1935) (by decide +kernel)⟩
def lw_privs_7 : List (MethodName × Nat) := [(⟨"PlainMusicModel", "ruleItem", "()Z"⟩, 111), (⟨"PlainMusicModel", "nameNumber", "()I"⟩, 111), (⟨"PlainMusicModel", "rowItem", "()Z"⟩, 111), (⟨"PlainMusicModel", "keep", "()V"⟩, 111), (⟨"PlainMusicModel", "keepEvent", "(II)V"⟩, 111), (⟨"PlainMusicModel", "pageBars", "()I"⟩, 111), (⟨"PlainMusicModel", "isVoice", "(I)Z"⟩, 111), (⟨"PlainMusicModel", "firstOf", "(II)I"⟩, 111), (⟨"PlainMusicModel", "isWhole", "(II)Z"⟩, 111), (⟨"PlainMusicModel", "compare", "(JJJJ)I"⟩, 111), (⟨"PlainMusicModel", "tell", "(IIII)V"⟩, 111), (⟨"PlainMusicModel", "judgeEvent", "(II)V"⟩, 111), (⟨"PlainMusicModel", "goesOn", "(II)Z"⟩, 111), (⟨"PlainMusicModel", "lowest", "(I)I"⟩, 111), (⟨"PlainMusicModel", "crosses", "(II)Z"⟩, 111), (⟨"PlainMusicModel", "isAhead", "(II)Z"⟩, 111)]
theorem lw_r7 : ∀ q ∈ lw_privs_7, lw_okq q := List.forall_mem_cons.mpr ⟨lw_p96, List.forall_mem_cons.mpr ⟨lw_p97, List.forall_mem_cons.mpr ⟨lw_p98, List.forall_mem_cons.mpr ⟨lw_p99, List.forall_mem_cons.mpr ⟨lw_p100, List.forall_mem_cons.mpr ⟨lw_p101, List.forall_mem_cons.mpr ⟨lw_p102, List.forall_mem_cons.mpr ⟨lw_p103, List.forall_mem_cons.mpr ⟨lw_p104, List.forall_mem_cons.mpr ⟨lw_p105, List.forall_mem_cons.mpr ⟨lw_p106, List.forall_mem_cons.mpr ⟨lw_p107, List.forall_mem_cons.mpr ⟨lw_p108, List.forall_mem_cons.mpr ⟨lw_p109, List.forall_mem_cons.mpr ⟨lw_p110, List.forall_mem_cons.mpr ⟨lw_p111, fun _ h => absurd h List.not_mem_nil⟩⟩⟩⟩⟩⟩⟩⟩⟩⟩⟩⟩⟩⟩⟩⟩
theorem lw_p112 : lw_okq (⟨"PlainMusicModel", "highest", "(I)I"⟩, 111) := ⟨⟨by decide +kernel, by decide +kernel⟩, List.mem_of_getElem? (i := 1344) (by decide +kernel), List.mem_of_getElem? (i := 1938) (by decide +kernel), List.mem_of_getElem? (i := 1939) (by decide +kernel)⟩
theorem lw_p113 : lw_okq (⟨"PlainMusicModel", "goesAlong", "(II)Z"⟩, 111) := ⟨⟨by decide +kernel, by decide +kernel⟩, List.mem_of_getElem? (i := 1344) (by decide +kernel), List.mem_of_getElem? (i := 1942) (by decide +kernel), List.mem_of_getElem? (i := 1943) (by decide +kernel)⟩
theorem lw_p114 : lw_okq (⟨"PlainMusicModel", "modulo", "(I)I"⟩, 111) := ⟨⟨by decide +kernel, by decide +kernel⟩, List.mem_of_getElem? (i := 1344) (by decide +kernel), List.mem_of_getElem? (i := 1946) (by decide +kernel), List.mem_of_getElem? (i := 1947) (by decide +kernel)⟩
theorem lw_p115 : lw_okq (⟨"PlainMusicModel", "isShort", "(I)Z"⟩, 111) := ⟨⟨by decide +kernel, by decide +kernel⟩, List.mem_of_getElem? (i := 1344) (by decide +kernel), List.mem_of_getElem? (i := 1958) (by decide +kernel), List.mem_of_getElem? (i := 1959) (by decide +kernel)⟩
theorem lw_p116 : lw_okq (⟨"PlainMusicModel", "run", "(IIII)I"⟩, 111) := ⟨⟨by decide +kernel, by decide +kernel⟩, List.mem_of_getElem? (i := 1344) (by decide +kernel), List.mem_of_getElem? (i := 1962) (by decide +kernel), List.mem_of_getElem? (i := 1963) (by decide +kernel)⟩
theorem lw_p117 : lw_okq (⟨"PlainMusicModel", "groupCost", "(IIII)I"⟩, 111) := ⟨⟨by decide +kernel, by decide +kernel⟩, List.mem_of_getElem? (i := 1344) (by decide +kernel), List.mem_of_getElem? (i := 1966) (by decide +kernel), List.mem_of_getElem? (i := 1967) (by decide +kernel)⟩
theorem lw_p118 : lw_okq (⟨"PlainMusicModel", "isFirstTime", "(III)Z"⟩, 111) := ⟨⟨by decide +kernel, by decide +kernel⟩, List.mem_of_getElem? (i := 1344) (by decide +kernel), List.mem_of_getElem? (i := 1978) (by decide +kernel), List.mem_of_getElem? (i := 1979) (by decide +kernel)⟩
theorem lw_p119 : lw_okq (⟨"PlainMusicModel", "through", "(I)I"⟩, 111) := ⟨⟨by decide +kernel, by decide +kernel⟩, List.mem_of_getElem? (i := 1344) (by decide +kernel), List.mem_of_getElem? (i := 1996) (by decide +kernel), List.mem_of_getElem? (i := 1997) (by decide +kernel)⟩
theorem lw_p120 : lw_okq (⟨"PlainMusicModel", "goes", "(I)Z"⟩, 111) := ⟨⟨by decide +kernel, by decide +kernel⟩, List.mem_of_getElem? (i := 1344) (by decide +kernel), List.mem_of_getElem? (i := 2000) (by decide +kernel), List.mem_of_getElem? (i := 2001) (by decide +kernel)⟩
theorem lw_p121 : lw_okq (⟨"PlainMusicModel", "isRule", "(I)Z"⟩, 111) := ⟨⟨by decide +kernel, by decide +kernel⟩, List.mem_of_getElem? (i := 1344) (by decide +kernel), List.mem_of_getElem? (i := 2004) (by decide +kernel), List.mem_of_getElem? (i := 2005) (by decide +kernel)⟩
theorem lw_p122 : lw_okq (⟨"PlainMusicModel", "isWhite", "(I)Z"⟩, 111) := ⟨⟨by decide +kernel, by decide +kernel⟩, List.mem_of_getElem? (i := 1344) (by decide +kernel), List.mem_of_getElem? (i := 2008) (by decide +kernel), List.mem_of_getElem? (i := 2009) (by decide +kernel)⟩
theorem lw_p123 : lw_okq (⟨"PlainMusicModel", "byRule", "(IIII)J"⟩, 111) := ⟨⟨by decide +kernel, by decide +kernel⟩, List.mem_of_getElem? (i := 1344) (by decide +kernel), List.mem_of_getElem? (i := 2020) (by decide +kernel), List.mem_of_getElem? (i := 2021) (by decide +kernel)⟩
theorem lw_p124 : lw_okq (⟨"PlainMusicModel", "treeAt", "(III)I"⟩, 111) := ⟨⟨by decide +kernel, by decide +kernel⟩, List.mem_of_getElem? (i := 1344) (by decide +kernel), List.mem_of_getElem? (i := 2024) (by decide +kernel), List.mem_of_getElem? (i := 2025) (by decide +kernel)⟩
theorem lw_p125 : lw_okq (⟨"PlainMusicModel", "capped", "(J)J"⟩, 111) := ⟨⟨by decide +kernel, by decide +kernel⟩, List.mem_of_getElem? (i := 1344) (by decide +kernel), List.mem_of_getElem? (i := 2028) (by decide +kernel), List.mem_of_getElem? (i := 2029) (by decide +kernel)⟩
theorem lw_p126 : lw_okq (⟨"PlainMusicModel", "soundsOf", "(IZ)I"⟩, 111) := ⟨⟨by decide +kernel, by decide +kernel⟩, List.mem_of_getElem? (i := 1344) (by decide +kernel), List.mem_of_getElem? (i := 2041) (by decide +kernel), List.mem_of_getElem? (i := 2042) (by decide +kernel)⟩
theorem lw_p127 : lw_okq (⟨"PlainMusicModel", "cell", "(IIII)V"⟩, 111) := ⟨⟨by decide +kernel, by decide +kernel⟩, List.mem_of_getElem? (i := 1344) (by decide +kernel), List.mem_of_getElem? (i := 2045) (by decide +kernel), List.mem_of_getElem? (i := 2046) (by decide +kernel)⟩
def lw_privs_8 : List (MethodName × Nat) := [(⟨"PlainMusicModel", "highest", "(I)I"⟩, 111), (⟨"PlainMusicModel", "goesAlong", "(II)Z"⟩, 111), (⟨"PlainMusicModel", "modulo", "(I)I"⟩, 111), (⟨"PlainMusicModel", "isShort", "(I)Z"⟩, 111), (⟨"PlainMusicModel", "run", "(IIII)I"⟩, 111), (⟨"PlainMusicModel", "groupCost", "(IIII)I"⟩, 111), (⟨"PlainMusicModel", "isFirstTime", "(III)Z"⟩, 111), (⟨"PlainMusicModel", "through", "(I)I"⟩, 111), (⟨"PlainMusicModel", "goes", "(I)Z"⟩, 111), (⟨"PlainMusicModel", "isRule", "(I)Z"⟩, 111), (⟨"PlainMusicModel", "isWhite", "(I)Z"⟩, 111), (⟨"PlainMusicModel", "byRule", "(IIII)J"⟩, 111), (⟨"PlainMusicModel", "treeAt", "(III)I"⟩, 111), (⟨"PlainMusicModel", "capped", "(J)J"⟩, 111), (⟨"PlainMusicModel", "soundsOf", "(IZ)I"⟩, 111), (⟨"PlainMusicModel", "cell", "(IIII)V"⟩, 111)]
theorem lw_r8 : ∀ q ∈ lw_privs_8, lw_okq q := List.forall_mem_cons.mpr ⟨lw_p112, List.forall_mem_cons.mpr ⟨lw_p113, List.forall_mem_cons.mpr ⟨lw_p114, List.forall_mem_cons.mpr ⟨lw_p115, List.forall_mem_cons.mpr ⟨lw_p116, List.forall_mem_cons.mpr ⟨lw_p117, List.forall_mem_cons.mpr ⟨lw_p118, List.forall_mem_cons.mpr ⟨lw_p119, List.forall_mem_cons.mpr ⟨lw_p120, List.forall_mem_cons.mpr ⟨lw_p121, List.forall_mem_cons.mpr ⟨lw_p122, List.forall_mem_cons.mpr ⟨lw_p123, List.forall_mem_cons.mpr ⟨lw_p124, List.forall_mem_cons.mpr ⟨lw_p125, List.forall_mem_cons.mpr ⟨lw_p126, List.forall_mem_cons.mpr ⟨lw_p127, fun _ h => absurd h List.not_mem_nil⟩⟩⟩⟩⟩⟩⟩⟩⟩⟩⟩⟩⟩⟩⟩⟩
theorem lw_p128 : lw_okq (⟨"PlainMusicModel", "pairCost", "(II)I"⟩, 111) := ⟨⟨by decide +kernel, by decide +kernel⟩, List.mem_of_getElem? (i := 1344) (by decide +kernel), List.mem_of_getElem? (i := 2049) (by decide +kernel), List.mem_of_getElem? (i := 2050) (by decide +kernel)⟩
theorem lw_p129 : lw_okq (⟨"PlainMusicModel", "sound", "(IJJI)D"⟩, 111) := ⟨⟨by decide +kernel, by decide +kernel⟩, List.mem_of_getElem? (i := 1344) (by decide +kernel), List.mem_of_getElem? (i := 2068) (by decide +kernel), List.mem_of_getElem? (i := 2069) (by decide +kernel)⟩
theorem lw_p130 : lw_okq (⟨"PlainMusicModel", "ratioTop", "(I)I"⟩, 111) := ⟨⟨by decide +kernel, by decide +kernel⟩, List.mem_of_getElem? (i := 1344) (by decide +kernel), List.mem_of_getElem? (i := 2072) (by decide +kernel), List.mem_of_getElem? (i := 2073) (by decide +kernel)⟩
theorem lw_p131 : lw_okq (⟨"PlainMusicModel", "ratioLow", "(I)I"⟩, 111) := ⟨⟨by decide +kernel, by decide +kernel⟩, List.mem_of_getElem? (i := 1344) (by decide +kernel), List.mem_of_getElem? (i := 2077) (by decide +kernel), List.mem_of_getElem? (i := 2078) (by decide +kernel)⟩
theorem lw_p132 : lw_okq (⟨"PlainMusicModel", "product", "(JJJ)J"⟩, 111) := ⟨⟨by decide +kernel, by decide +kernel⟩, List.mem_of_getElem? (i := 1344) (by decide +kernel), List.mem_of_getElem? (i := 2081) (by decide +kernel), List.mem_of_getElem? (i := 2082) (by decide +kernel)⟩
def lw_privs_9 : List (MethodName × Nat) := [(⟨"PlainMusicModel", "pairCost", "(II)I"⟩, 111), (⟨"PlainMusicModel", "sound", "(IJJI)D"⟩, 111), (⟨"PlainMusicModel", "ratioTop", "(I)I"⟩, 111), (⟨"PlainMusicModel", "ratioLow", "(I)I"⟩, 111), (⟨"PlainMusicModel", "product", "(JJJ)J"⟩, 111)]
theorem lw_r9 : ∀ q ∈ lw_privs_9, lw_okq q := List.forall_mem_cons.mpr ⟨lw_p128, List.forall_mem_cons.mpr ⟨lw_p129, List.forall_mem_cons.mpr ⟨lw_p130, List.forall_mem_cons.mpr ⟨lw_p131, List.forall_mem_cons.mpr ⟨lw_p132, fun _ h => absurd h List.not_mem_nil⟩⟩⟩⟩⟩
def lw_privs : List (MethodName × Nat) := lw_privs_1 ++ (lw_privs_2 ++ (lw_privs_3 ++ (lw_privs_4 ++ (lw_privs_5 ++ (lw_privs_6 ++ (lw_privs_7 ++ (lw_privs_8 ++ (lw_privs_9))))))))
def lw_tbl : List Cond := k2_sels lw_privs ++ tables_1
theorem lw_privs_ok : ∀ q ∈ lw_privs, lw_okq q := by
  show ∀ q ∈ lw_privs_1 ++ (lw_privs_2 ++ (lw_privs_3 ++ (lw_privs_4 ++ (lw_privs_5 ++ (lw_privs_6 ++ (lw_privs_7 ++ (lw_privs_8 ++ (lw_privs_9)))))))), lw_okq q
  exact List.forall_mem_append.mpr ⟨lw_r1, List.forall_mem_append.mpr ⟨lw_r2, List.forall_mem_append.mpr ⟨lw_r3, List.forall_mem_append.mpr ⟨lw_r4, List.forall_mem_append.mpr ⟨lw_r5, List.forall_mem_append.mpr ⟨lw_r6, List.forall_mem_append.mpr ⟨lw_r7, List.forall_mem_append.mpr ⟨lw_r8, lw_r9⟩⟩⟩⟩⟩⟩⟩⟩
-- ===== end of PART A; then your names; then what follows =====
end
section
/-! ===== the classes' names and fields, as printed ===== -/
def RX0 : String := "PlainMusic$Beams"
def TX0 : u_T := fun k => match k with
  | 0 => ("PlainMusic$Beams", "groups", "[I", true)
  | 1 => ("PlainMusic$Beams", "groupCount", "I", false)
  | 2 => ("PlainMusic$Beams", "best", "[I", true)
  | _ => ("PlainMusic$Beams", "sizes", "[I", true)
def tyX0 : Nat → FieldType := fun k => match k with
  | 0 => .array .int
  | 1 => .int
  | 2 => .array .int
  | _ => .array .int
abbrev wsX00 : List Cond := u_ws RX0 TX0 4
theorem nmX0 : ∀ a, a < 4 → ∀ b, b < 4 → a ≠ b → (TX0 a).2.1 ≠ (TX0 b).2.1 := by decide +kernel
theorem tyX0_ok : ∀ k, k < 4 → parseFieldDescriptor (TX0 k).2.2.1 = some (tyX0 k) := by decide +kernel
def RX1 : String := "PlainMusic$Judge"
def TX1 : u_T := fun k => match k with
  | 0 => ("PlainMusic$Judge", "faults", "[I", true)
  | 1 => ("PlainMusic$Judge", "size", "I", false)
  | _ => ("PlainMusic$Judge", "sounding", "[I", true)
def tyX1 : Nat → FieldType := fun k => match k with
  | 0 => .array .int
  | 1 => .int
  | _ => .array .int
abbrev wsX10 : List Cond := u_ws RX1 TX1 3
theorem nmX1 : ∀ a, a < 3 → ∀ b, b < 3 → a ≠ b → (TX1 a).2.1 ≠ (TX1 b).2.1 := by decide +kernel
theorem tyX1_ok : ∀ k, k < 3 → parseFieldDescriptor (TX1 k).2.2.1 = some (tyX1 k) := by decide +kernel
def RX2 : String := "PlainMusic$Page"
def TX2 : u_T := fun k => match k with
  | 0 => ("PlainMusic$Page", "lineBars", "[I", true)
  | 1 => ("PlainMusic$Page", "lineCount", "I", false)
  | 2 => ("PlainMusic$Page", "widths", "[I", true)
  | 3 => ("PlainMusic$Page", "best", "[J", true)
  | 4 => ("PlainMusic$Page", "sizes", "[I", true)
  | 5 => ("PlainMusic$Page", "nextEvents", "[I", true)
  | 6 => ("PlainMusic$Page", "nextTops", "[J", true)
  | _ => ("PlainMusic$Page", "nextBottoms", "[J", true)
def tyX2 : Nat → FieldType := fun k => match k with
  | 0 => .array .int
  | 1 => .int
  | 2 => .array .int
  | 3 => .array .long
  | 4 => .array .int
  | 5 => .array .int
  | 6 => .array .long
  | _ => .array .long
abbrev wsX20 : List Cond := u_ws RX2 TX2 8
theorem nmX2 : ∀ a, a < 8 → ∀ b, b < 8 → a ≠ b → (TX2 a).2.1 ≠ (TX2 b).2.1 := by decide +kernel
theorem tyX2_ok : ∀ k, k < 8 → parseFieldDescriptor (TX2 k).2.2.1 = some (tyX2 k) := by decide +kernel
def RX3 : String := "PlainMusic$Pairing"
def TX3 : u_T := fun k => match k with
  | 0 => ("PlainMusic$Pairing", "firstEvents", "[I", true)
  | 1 => ("PlainMusic$Pairing", "otherEvents", "[I", true)
  | 2 => ("PlainMusic$Pairing", "costs", "[I", true)
  | 3 => ("PlainMusic$Pairing", "wayCounts", "[I", true)
  | 4 => ("PlainMusic$Pairing", "partners", "[I", true)
  | 5 => ("PlainMusic$Pairing", "firsts", "I", false)
  | 6 => ("PlainMusic$Pairing", "others", "I", false)
  | _ => ("PlainMusic$Pairing", "leastWays", "I", false)
def tyX3 : Nat → FieldType := fun k => match k with
  | 0 => .array .int
  | 1 => .array .int
  | 2 => .array .int
  | 3 => .array .int
  | 4 => .array .int
  | 5 => .int
  | 6 => .int
  | _ => .int
abbrev wsX30 : List Cond := u_ws RX3 TX3 8
theorem nmX3 : ∀ a, a < 8 → ∀ b, b < 8 → a ≠ b → (TX3 a).2.1 ≠ (TX3 b).2.1 := by decide +kernel
theorem tyX3_ok : ∀ k, k < 8 → parseFieldDescriptor (TX3 k).2.2.1 = some (tyX3 k) := by decide +kernel
def RX4 : String := "PlainMusic$Parts"
def TX4 : u_T := fun k => match k with
  | 0 => ("PlainMusic$Parts", "kinds", "[I", true)
  | 1 => ("PlainMusic$Parts", "links", "[I", true)
  | 2 => ("PlainMusic$Parts", "values", "[I", true)
  | 3 => ("PlainMusic$Parts", "others", "[I", true)
  | 4 => ("PlainMusic$Parts", "size", "I", false)
  | 5 => ("PlainMusic$Parts", "opened", "[I", true)
  | 6 => ("PlainMusic$Parts", "lastMarks", "[I", true)
  | 7 => ("PlainMusic$Parts", "depth", "I", false)
  | 8 => ("PlainMusic$Parts", "steps", "I", false)
  | 9 => ("PlainMusic$Parts", "eventsMet", "I", false)
  | 10 => ("PlainMusic$Parts", "linesMet", "I", false)
  | _ => ("PlainMusic$Parts", "timely", "Z", false)
def tyX4 : Nat → FieldType := fun k => match k with
  | 0 => .array .int
  | 1 => .array .int
  | 2 => .array .int
  | 3 => .array .int
  | 4 => .int
  | 5 => .array .int
  | 6 => .array .int
  | 7 => .int
  | 8 => .int
  | 9 => .int
  | 10 => .int
  | _ => .boolean
abbrev wsX40 : List Cond := u_ws RX4 TX4 12
theorem nmX4 : ∀ a, a < 12 → ∀ b, b < 12 → a ≠ b → (TX4 a).2.1 ≠ (TX4 b).2.1 := by decide +kernel
theorem tyX4_ok : ∀ k, k < 12 → parseFieldDescriptor (TX4 k).2.2.1 = some (tyX4 k) := by decide +kernel
def RX5 : String := "PlainMusic$Reader"
def TX5 : u_T := fun k => match k with
  | 0 => ("PlainMusic$Reader", "tokens", "LPlainMusic$Tokens;", true)
  | 1 => ("PlainMusic$Reader", "parts", "LPlainMusic$Parts;", true)
  | 2 => ("PlainMusic$Reader", "names", "[J", true)
  | 3 => ("PlainMusic$Reader", "nameCount", "I", false)
  | 4 => ("PlainMusic$Reader", "soundsRead", "I", false)
  | 5 => ("PlainMusic$Reader", "target", "LPlainMusic$Score;", false)
  | 6 => ("PlainMusic$Reader", "fault", "I", false)
  | _ => ("PlainMusic$Reader", "faultPlace", "I", false)
def tyX5 : Nat → FieldType := fun k => match k with
  | 0 => .object "PlainMusic$Tokens"
  | 1 => .object "PlainMusic$Parts"
  | 2 => .array .long
  | 3 => .int
  | 4 => .int
  | 5 => .object "PlainMusic$Score"
  | 6 => .int
  | _ => .int
abbrev wsX50 : List Cond := u_ws RX5 TX5 8
theorem nmX5 : ∀ a, a < 8 → ∀ b, b < 8 → a ≠ b → (TX5 a).2.1 ≠ (TX5 b).2.1 := by decide +kernel
theorem tyX5_ok : ∀ k, k < 8 → parseFieldDescriptor (TX5 k).2.2.1 = some (tyX5 k) := by decide +kernel
def RX6 : String := "PlainMusic$Score"
def TX6 : u_T := fun k => match k with
  | 0 => ("PlainMusic$Score", "voices", "[LPlainMusic$Voice;", true)
  | 1 => ("PlainMusic$Score", "voiceCount", "I", false)
  | 2 => ("PlainMusic$Score", "timeTop", "I", false)
  | 3 => ("PlainMusic$Score", "timeBottom", "I", false)
  | 4 => ("PlainMusic$Score", "timed", "Z", false)
  | 5 => ("PlainMusic$Score", "lineKeys", "[I", true)
  | 6 => ("PlainMusic$Score", "lineLength", "I", false)
  | 7 => ("PlainMusic$Score", "ruleNames", "[I", true)
  | 8 => ("PlainMusic$Score", "ruleLefts", "[I", true)
  | 9 => ("PlainMusic$Score", "ruleRights", "[I", true)
  | 10 => ("PlainMusic$Score", "ruleCount", "I", false)
  | 11 => ("PlainMusic$Score", "row", "[I", true)
  | _ => ("PlainMusic$Score", "rowLength", "I", false)
def tyX6 : Nat → FieldType := fun k => match k with
  | 0 => .array (.object "PlainMusic$Voice")
  | 1 => .int
  | 2 => .int
  | 3 => .int
  | 4 => .boolean
  | 5 => .array .int
  | 6 => .int
  | 7 => .array .int
  | 8 => .array .int
  | 9 => .array .int
  | 10 => .int
  | 11 => .array .int
  | _ => .int
abbrev wsX60 : List Cond := u_ws RX6 TX6 13
theorem nmX6 : ∀ a, a < 13 → ∀ b, b < 13 → a ≠ b → (TX6 a).2.1 ≠ (TX6 b).2.1 := by decide +kernel
theorem tyX6_ok : ∀ k, k < 13 → parseFieldDescriptor (TX6 k).2.2.1 = some (tyX6 k) := by decide +kernel
def RX7 : String := "PlainMusic$Seconds"
def TX7 : u_T := fun k => match k with
  | 0 => ("PlainMusic$Seconds", "bits", "[J", true)
  | 1 => ("PlainMusic$Seconds", "found", "I", false)
  | 2 => ("PlainMusic$Seconds", "low", "I", false)
  | 3 => ("PlainMusic$Seconds", "span", "I", false)
  | 4 => ("PlainMusic$Seconds", "places", "I", false)
  | 5 => ("PlainMusic$Seconds", "rules", "I", false)
  | 6 => ("PlainMusic$Seconds", "line", "[I", true)
  | _ => ("PlainMusic$Seconds", "keys", "[I", true)
def tyX7 : Nat → FieldType := fun k => match k with
  | 0 => .array .long
  | 1 => .int
  | 2 => .int
  | 3 => .int
  | 4 => .int
  | 5 => .int
  | 6 => .array .int
  | _ => .array .int
abbrev wsX70 : List Cond := u_ws RX7 TX7 8
theorem nmX7 : ∀ a, a < 8 → ∀ b, b < 8 → a ≠ b → (TX7 a).2.1 ≠ (TX7 b).2.1 := by decide +kernel
theorem tyX7_ok : ∀ k, k < 8 → parseFieldDescriptor (TX7 k).2.2.1 = some (tyX7 k) := by decide +kernel
def RX8 : String := "PlainMusic$Tokens"
def TX8 : u_T := fun k => match k with
  | 0 => ("PlainMusic$Tokens", "kinds", "[I", true)
  | 1 => ("PlainMusic$Tokens", "places", "[I", true)
  | 2 => ("PlainMusic$Tokens", "values", "[J", true)
  | 3 => ("PlainMusic$Tokens", "steps", "[I", true)
  | 4 => ("PlainMusic$Tokens", "size", "I", false)
  | 5 => ("PlainMusic$Tokens", "now", "I", false)
  | 6 => ("PlainMusic$Tokens", "text", "[I", false)
  | 7 => ("PlainMusic$Tokens", "length", "I", false)
  | 8 => ("PlainMusic$Tokens", "at", "I", false)
  | 9 => ("PlainMusic$Tokens", "kind", "I", false)
  | 10 => ("PlainMusic$Tokens", "place", "I", false)
  | 11 => ("PlainMusic$Tokens", "value", "J", false)
  | _ => ("PlainMusic$Tokens", "step", "I", false)
def tyX8 : Nat → FieldType := fun k => match k with
  | 0 => .array .int
  | 1 => .array .int
  | 2 => .array .long
  | 3 => .array .int
  | 4 => .int
  | 5 => .int
  | 6 => .array .int
  | 7 => .int
  | 8 => .int
  | 9 => .int
  | 10 => .int
  | 11 => .long
  | _ => .int
abbrev wsX80 : List Cond := u_ws RX8 TX8 13
theorem nmX8 : ∀ a, a < 13 → ∀ b, b < 13 → a ≠ b → (TX8 a).2.1 ≠ (TX8 b).2.1 := by decide +kernel
theorem tyX8_ok : ∀ k, k < 13 → parseFieldDescriptor (TX8 k).2.2.1 = some (tyX8 k) := by decide +kernel
def RX9 : String := "PlainMusic$Trees"
def TX9 : u_T := fun k => match k with
  | 0 => ("PlainMusic$Trees", "counts", "[I", true)
  | 1 => ("PlainMusic$Trees", "found", "I", false)
  | 2 => ("PlainMusic$Trees", "partName", "I", false)
  | 3 => ("PlainMusic$Trees", "partFrom", "I", false)
  | 4 => ("PlainMusic$Trees", "partTo", "I", false)
  | _ => ("PlainMusic$Trees", "partTree", "J", false)
def tyX9 : Nat → FieldType := fun k => match k with
  | 0 => .array .int
  | 1 => .int
  | 2 => .int
  | 3 => .int
  | 4 => .int
  | _ => .long
abbrev wsX90 : List Cond := u_ws RX9 TX9 6
theorem nmX9 : ∀ a, a < 6 → ∀ b, b < 6 → a ≠ b → (TX9 a).2.1 ≠ (TX9 b).2.1 := by decide +kernel
theorem tyX9_ok : ∀ k, k < 6 → parseFieldDescriptor (TX9 k).2.2.1 = some (tyX9 k) := by decide +kernel
def RX10 : String := "PlainMusic$Voice"
def TX10 : u_T := fun k => match k with
  | 0 => ("PlainMusic$Voice", "pitchKeys", "[I", true)
  | 1 => ("PlainMusic$Voice", "pitchSteps", "[I", true)
  | 2 => ("PlainMusic$Voice", "pitches", "I", false)
  | 3 => ("PlainMusic$Voice", "soundPitches", "[I", true)
  | 4 => ("PlainMusic$Voice", "soundNumbers", "[I", true)
  | 5 => ("PlainMusic$Voice", "soundDots", "[I", true)
  | 6 => ("PlainMusic$Voice", "soundTied", "[Z", true)
  | 7 => ("PlainMusic$Voice", "sounds", "I", false)
  | 8 => ("PlainMusic$Voice", "eventSounds", "[I", true)
  | 9 => ("PlainMusic$Voice", "eventBars", "[I", true)
  | 10 => ("PlainMusic$Voice", "startTop", "[J", true)
  | 11 => ("PlainMusic$Voice", "startBottom", "[J", true)
  | 12 => ("PlainMusic$Voice", "lengthTop", "[J", true)
  | 13 => ("PlainMusic$Voice", "lengthBottom", "[J", true)
  | 14 => ("PlainMusic$Voice", "events", "I", false)
  | 15 => ("PlainMusic$Voice", "barEvents", "[I", true)
  | _ => ("PlainMusic$Voice", "bars", "I", false)
def tyX10 : Nat → FieldType := fun k => match k with
  | 0 => .array .int
  | 1 => .array .int
  | 2 => .int
  | 3 => .array .int
  | 4 => .array .int
  | 5 => .array .int
  | 6 => .array .boolean
  | 7 => .int
  | 8 => .array .int
  | 9 => .array .int
  | 10 => .array .long
  | 11 => .array .long
  | 12 => .array .long
  | 13 => .array .long
  | 14 => .int
  | 15 => .array .int
  | _ => .int
abbrev wsX100 : List Cond := u_ws RX10 TX10 17
theorem nmX10 : ∀ a, a < 17 → ∀ b, b < 17 → a ≠ b → (TX10 a).2.1 ≠ (TX10 b).2.1 := by decide +kernel
theorem tyX10_ok : ∀ k, k < 17 → parseFieldDescriptor (TX10 k).2.2.1 = some (tyX10 k) := by decide +kernel
def RX11 : String := "PlainMusic"
def TX11 : u_T := fun k => match k with
  | 0 => ("PlainMusic", "tape", "[I", true)
  | 1 => ("PlainMusic", "taped", "I", false)
  | 2 => ("PlainMusic", "reader", "LPlainMusic$Reader;", true)
  | 3 => ("PlainMusic", "current", "LPlainMusic$Score;", false)
  | 4 => ("PlainMusic", "faultPlace", "I", false)
  | 5 => ("PlainMusic", "judge", "LPlainMusic$Judge;", true)
  | 6 => ("PlainMusic", "beams", "LPlainMusic$Beams;", true)
  | 7 => ("PlainMusic", "page", "LPlainMusic$Page;", true)
  | 8 => ("PlainMusic", "seconds", "LPlainMusic$Seconds;", true)
  | 9 => ("PlainMusic", "trees", "LPlainMusic$Trees;", true)
  | _ => ("PlainMusic", "pairing", "LPlainMusic$Pairing;", true)
def tyX11 : Nat → FieldType := fun k => match k with
  | 0 => .array .int
  | 1 => .int
  | 2 => .object "PlainMusic$Reader"
  | 3 => .object "PlainMusic$Score"
  | 4 => .int
  | 5 => .object "PlainMusic$Judge"
  | 6 => .object "PlainMusic$Beams"
  | 7 => .object "PlainMusic$Page"
  | 8 => .object "PlainMusic$Seconds"
  | 9 => .object "PlainMusic$Trees"
  | _ => .object "PlainMusic$Pairing"
abbrev wsX110 : List Cond := u_ws RX11 TX11 11
theorem nmX11 : ∀ a, a < 11 → ∀ b, b < 11 → a ≠ b → (TX11 a).2.1 ≠ (TX11 b).2.1 := by decide +kernel
theorem tyX11_ok : ∀ k, k < 11 → parseFieldDescriptor (TX11 k).2.2.1 = some (tyX11 k) := by decide +kernel
def RX12 : String := "PlainMusicModel"
def TX12 : u_T := fun k => match k with
  | 0 => ("PlainMusicModel", "tape", "[I", true)
  | 1 => ("PlainMusicModel", "taped", "I", false)
  | 2 => ("PlainMusicModel", "end", "I", false)
  | 3 => ("PlainMusicModel", "scan", "I", false)
  | 4 => ("PlainMusicModel", "kind", "I", false)
  | 5 => ("PlainMusicModel", "from", "I", false)
  | 6 => ("PlainMusicModel", "value", "I", false)
  | 7 => ("PlainMusicModel", "name", "J", false)
  | 8 => ("PlainMusicModel", "key", "I", false)
  | 9 => ("PlainMusicModel", "step", "I", false)
  | 10 => ("PlainMusicModel", "signs", "I", false)
  | 11 => ("PlainMusicModel", "fault", "I", false)
  | 12 => ("PlainMusicModel", "faultAt", "I", false)
  | 13 => ("PlainMusicModel", "placed", "I", false)
  | 14 => ("PlainMusicModel", "voices", "[I", true)
  | 15 => ("PlainMusicModel", "timeTop", "[I", true)
  | 16 => ("PlainMusicModel", "timeLow", "[I", true)
  | 17 => ("PlainMusicModel", "lineSize", "[I", true)
  | 18 => ("PlainMusicModel", "lineKey", "[I", true)
  | 19 => ("PlainMusicModel", "rules", "[I", true)
  | 20 => ("PlainMusicModel", "ruleOf", "[I", true)
  | 21 => ("PlainMusicModel", "ruleLeft", "[I", true)
  | 22 => ("PlainMusicModel", "ruleRight", "[I", true)
  | 23 => ("PlainMusicModel", "rowSize", "[I", true)
  | 24 => ("PlainMusicModel", "row", "[I", true)
  | 25 => ("PlainMusicModel", "nameCount", "[I", true)
  | 26 => ("PlainMusicModel", "names", "[J", true)
  | 27 => ("PlainMusicModel", "count", "[I", true)
  | 28 => ("PlainMusicModel", "bars", "[I", true)
  | 29 => ("PlainMusicModel", "startTop", "[J", true)
  | 30 => ("PlainMusicModel", "startLow", "[J", true)
  | 31 => ("PlainMusicModel", "lengthTop", "[J", true)
  | 32 => ("PlainMusicModel", "lengthLow", "[J", true)
  | 33 => ("PlainMusicModel", "pitches", "[I", true)
  | 34 => ("PlainMusicModel", "keys", "[I", true)
  | 35 => ("PlainMusicModel", "steps", "[I", true)
  | 36 => ("PlainMusicModel", "accidents", "[I", true)
  | 37 => ("PlainMusicModel", "tied", "[Z", true)
  | 38 => ("PlainMusicModel", "barOf", "[I", true)
  | 39 => ("PlainMusicModel", "told", "[I", true)
  | 40 => ("PlainMusicModel", "dots", "[I", true)
  | 41 => ("PlainMusicModel", "barTop", "[J", true)
  | 42 => ("PlainMusicModel", "barLow", "[J", true)
  | 43 => ("PlainMusicModel", "parts", "I", false)
  | 44 => ("PlainMusicModel", "part", "[I", true)
  | 45 => ("PlainMusicModel", "partTop", "[I", true)
  | 46 => ("PlainMusicModel", "partLow", "[I", true)
  | 47 => ("PlainMusicModel", "partPitches", "[I", true)
  | 48 => ("PlainMusicModel", "partKeys", "[I", true)
  | 49 => ("PlainMusicModel", "partSteps", "[I", true)
  | 50 => ("PlainMusicModel", "partSigns", "[I", true)
  | 51 => ("PlainMusicModel", "partTied", "[Z", true)
  | 52 => ("PlainMusicModel", "partDots", "[I", true)
  | 53 => ("PlainMusicModel", "mate", "[I", true)
  | 54 => ("PlainMusicModel", "firstColon", "[I", true)
  | 55 => ("PlainMusicModel", "nextColon", "[I", true)
  | 56 => ("PlainMusicModel", "lastColon", "[I", true)
  | 57 => ("PlainMusicModel", "colonCount", "[I", true)
  | 58 => ("PlainMusicModel", "openPart", "[I", true)
  | 59 => ("PlainMusicModel", "hasTime", "Z", false)
  | 60 => ("PlainMusicModel", "hasLine", "Z", false)
  | 61 => ("PlainMusicModel", "hasRow", "Z", false)
  | 62 => ("PlainMusicModel", "openKind", "[I", true)
  | 63 => ("PlainMusicModel", "opens", "I", false)
  | 64 => ("PlainMusicModel", "sounds", "I", false)
  | 65 => ("PlainMusicModel", "top", "J", false)
  | 66 => ("PlainMusicModel", "low", "J", false)
  | 67 => ("PlainMusicModel", "walkAt", "[I", true)
  | 68 => ("PlainMusicModel", "turn", "[I", true)
  | 69 => ("PlainMusicModel", "turns", "[I", true)
  | 70 => ("PlainMusicModel", "depth", "I", false)
  | 71 => ("PlainMusicModel", "come", "I", false)
  | 72 => ("PlainMusicModel", "events", "I", false)
  | 73 => ("PlainMusicModel", "lines", "I", false)
  | 74 => ("PlainMusicModel", "far", "Z", false)
  | 75 => ("PlainMusicModel", "nowTop", "J", false)
  | 76 => ("PlainMusicModel", "nowLow", "J", false)
  | 77 => ("PlainMusicModel", "scaleTop", "J", false)
  | 78 => ("PlainMusicModel", "scaleLow", "J", false)
  | 79 => ("PlainMusicModel", "inEnding", "[Z", true)
  | 80 => ("PlainMusicModel", "faults", "I", false)
  | 81 => ("PlainMusicModel", "faultSort", "[I", true)
  | 82 => ("PlainMusicModel", "faultVoice", "[I", true)
  | 83 => ("PlainMusicModel", "faultEvent", "[I", true)
  | 84 => ("PlainMusicModel", "faultOther", "[I", true)
  | 85 => ("PlainMusicModel", "groups", "I", false)
  | 86 => ("PlainMusicModel", "group", "[I", true)
  | 87 => ("PlainMusicModel", "least", "[I", true)
  | 88 => ("PlainMusicModel", "take", "[I", true)
  | 89 => ("PlainMusicModel", "lineCount", "I", false)
  | 90 => ("PlainMusicModel", "lineBars", "[I", true)
  | 91 => ("PlainMusicModel", "found", "I", false)
  | 92 => ("PlainMusicModel", "against", "[I", true)
  | 93 => ("PlainMusicModel", "againstSize", "I", false)
  | 94 => ("PlainMusicModel", "lowKey", "I", false)
  | 95 => ("PlainMusicModel", "highKey", "I", false)
  | 96 => ("PlainMusicModel", "ruleBits", "I", false)
  | 97 => ("PlainMusicModel", "second", "[I", true)
  | 98 => ("PlainMusicModel", "readingCount", "I", false)
  | 99 => ("PlainMusicModel", "trees", "[J", true)
  | 100 => ("PlainMusicModel", "toldName", "[I", true)
  | 101 => ("PlainMusicModel", "toldFirst", "[I", true)
  | 102 => ("PlainMusicModel", "toldSize", "[I", true)
  | 103 => ("PlainMusicModel", "toldWhich", "[J", true)
  | 104 => ("PlainMusicModel", "partners", "I", false)
  | 105 => ("PlainMusicModel", "wayCount", "I", false)
  | 106 => ("PlainMusicModel", "partner", "[I", true)
  | 107 => ("PlainMusicModel", "one", "[I", true)
  | 108 => ("PlainMusicModel", "other", "[I", true)
  | 109 => ("PlainMusicModel", "cost", "[I", true)
  | _ => ("PlainMusicModel", "ways", "[J", true)
def tyX12 : Nat → FieldType := fun k => match k with
  | 0 => .array .int
  | 1 => .int
  | 2 => .int
  | 3 => .int
  | 4 => .int
  | 5 => .int
  | 6 => .int
  | 7 => .long
  | 8 => .int
  | 9 => .int
  | 10 => .int
  | 11 => .int
  | 12 => .int
  | 13 => .int
  | 14 => .array .int
  | 15 => .array .int
  | 16 => .array .int
  | 17 => .array .int
  | 18 => .array .int
  | 19 => .array .int
  | 20 => .array .int
  | 21 => .array .int
  | 22 => .array .int
  | 23 => .array .int
  | 24 => .array .int
  | 25 => .array .int
  | 26 => .array .long
  | 27 => .array .int
  | 28 => .array .int
  | 29 => .array .long
  | 30 => .array .long
  | 31 => .array .long
  | 32 => .array .long
  | 33 => .array .int
  | 34 => .array .int
  | 35 => .array .int
  | 36 => .array .int
  | 37 => .array .boolean
  | 38 => .array .int
  | 39 => .array .int
  | 40 => .array .int
  | 41 => .array .long
  | 42 => .array .long
  | 43 => .int
  | 44 => .array .int
  | 45 => .array .int
  | 46 => .array .int
  | 47 => .array .int
  | 48 => .array .int
  | 49 => .array .int
  | 50 => .array .int
  | 51 => .array .boolean
  | 52 => .array .int
  | 53 => .array .int
  | 54 => .array .int
  | 55 => .array .int
  | 56 => .array .int
  | 57 => .array .int
  | 58 => .array .int
  | 59 => .boolean
  | 60 => .boolean
  | 61 => .boolean
  | 62 => .array .int
  | 63 => .int
  | 64 => .int
  | 65 => .long
  | 66 => .long
  | 67 => .array .int
  | 68 => .array .int
  | 69 => .array .int
  | 70 => .int
  | 71 => .int
  | 72 => .int
  | 73 => .int
  | 74 => .boolean
  | 75 => .long
  | 76 => .long
  | 77 => .long
  | 78 => .long
  | 79 => .array .boolean
  | 80 => .int
  | 81 => .array .int
  | 82 => .array .int
  | 83 => .array .int
  | 84 => .array .int
  | 85 => .int
  | 86 => .array .int
  | 87 => .array .int
  | 88 => .array .int
  | 89 => .int
  | 90 => .array .int
  | 91 => .int
  | 92 => .array .int
  | 93 => .int
  | 94 => .int
  | 95 => .int
  | 96 => .int
  | 97 => .array .int
  | 98 => .int
  | 99 => .array .long
  | 100 => .array .int
  | 101 => .array .int
  | 102 => .array .int
  | 103 => .array .long
  | 104 => .int
  | 105 => .int
  | 106 => .array .int
  | 107 => .array .int
  | 108 => .array .int
  | 109 => .array .int
  | _ => .array .long
abbrev wsX120 : List Cond := u_ws RX12 TX12 111
theorem nmX12 : ∀ a, a < 111 → ∀ b, b < 111 → a ≠ b → (TX12 a).2.1 ≠ (TX12 b).2.1 := by decide +kernel
theorem tyX12_ok : ∀ k, k < 111 → parseFieldDescriptor (TX12 k).2.2.1 = some (tyX12 k) := by decide +kernel
end
section
/-! ===== an abstract machine over the kit's rows: values, heap, the judgement aw ===== -/
abbrev av_T : Type := Int ⊕ (Int ⊕ (UInt64 ⊕ (Option Nat ⊕ Nat)))
abbrev av_I (z : Int) : av_T := .inl z
abbrev av_L (z : Int) : av_T := .inr (.inl z)
abbrev av_D (d : UInt64) : av_T := .inr (.inr (.inl d))
abbrev av_R (r : Option Nat) : av_T := .inr (.inr (.inr (.inl r)))
abbrev av_S (k : Nat) : av_T := .inr (.inr (.inr (.inr k)))
/-- base, addresses, lengths and contents of the arrays that are only read, class ids, slots, array class ids, launch -/
abbrev cx_T : Type := Nat × (Nat → Nat) × (Nat → Nat) × (Nat → Nat → Int) × (Nat → ClassId) × (Nat → Nat → Nat) × (Nat → ClassId) × Launch
abbrev cx_b (G : cx_T) : Nat := G.1
abbrev cx_ra (G : cx_T) : Nat → Nat := G.2.1
abbrev cx_rl (G : cx_T) : Nat → Nat := G.2.2.1
abbrev cx_rv (G : cx_T) : Nat → Nat → Int := G.2.2.2.1
abbrev cx_dC (G : cx_T) : Nat → ClassId := G.2.2.2.2.1
abbrev cx_dI (G : cx_T) : Nat → Nat → Nat := G.2.2.2.2.2.1
abbrev cx_cA (G : cx_T) : Nat → ClassId := G.2.2.2.2.2.2.1
abbrev cx_l (G : cx_T) : Launch := G.2.2.2.2.2.2.2
def cv (G : cx_T) (v : av_T) : Value := match v with
  | .inl z => .int (Int32.ofInt z)
  | .inr (.inl z) => .long (Int64.ofInt z)
  | .inr (.inr (.inl d)) => .double d
  | .inr (.inr (.inr (.inl r))) => va_rf (r.map (fun a => cx_b G + a))
  | .inr (.inr (.inr (.inr k))) => .ref (cx_ra G k)
def i32 (z : Int) : Prop := -2147483648 ≤ z ∧ z < 2147483648
def i64 (z : Int) : Prop := -9223372036854775808 ≤ z ∧ z < 9223372036854775808
def w32 (z : Int) : Int := (z + 2147483648) % 4294967296 - 2147483648
def w64 (z : Int) : Int := (z + 9223372036854775808) % 18446744073709551616 - 9223372036854775808
def nv (v : av_T) : Prop := match v with
  | .inl z => i32 z
  | .inr (.inl z) => i64 z
  | _ => True
theorem w32_in (z : Int) : i32 (w32 z) := by unfold i32 w32; omega
theorem w64_in (z : Int) : i64 (w64 z) := by unfold i64 w64; omega
theorem w32_id {z : Int} (h : i32 z) : w32 z = z := by unfold i32 at h; unfold w32; omega
theorem w64_id {z : Int} (h : i64 z) : w64 z = z := by unfold i64 at h; unfold w64; omega
theorem w32_bm (z : Int) : z.bmod 4294967296 = w32 z := by
  unfold w32 Int.bmod
  dsimp only
  split <;> omega
theorem w64_bm (z : Int) : z.bmod 18446744073709551616 = w64 z := by
  unfold w64 Int.bmod
  dsimp only
  split <;> omega
theorem i32_ti (z : Int) : (Int32.ofInt z).toInt = w32 z := by rw [Int32.toInt_ofInt]; exact w32_bm z
theorem i64_ti (z : Int) : (Int64.ofInt z).toInt = w64 z := by rw [Int64.toInt_ofInt]; exact w64_bm z
theorem i32_tn {z : Int} (h : i32 z) : (Int32.ofInt z).toInt = z := by rw [i32_ti, w32_id h]
theorem i64_tn {z : Int} (h : i64 z) : (Int64.ofInt z).toInt = z := by rw [i64_ti, w64_id h]
theorem i32_of (x : Int32) : i32 x.toInt := by
  have h1 := x.le_toInt
  have h2 := x.toInt_lt
  unfold i32; omega
theorem i64_of (x : Int64) : i64 x.toInt := by
  have h1 := x.le_toInt
  have h2 := x.toInt_lt
  unfold i64; omega
theorem i32_rt (x : Int32) : Int32.ofInt x.toInt = x := by
  apply Int32.toInt_inj.mp
  rw [i32_tn (i32_of x)]
theorem i64_rt (x : Int64) : Int64.ofInt x.toInt = x := by
  apply Int64.toInt_inj.mp
  rw [i64_tn (i64_of x)]
theorem i32_e {z : Int} {x : Int32} (h : x.toInt = z) : Int32.ofInt z = x := by rw [← h, i32_rt]
theorem i64_e {z : Int} {x : Int64} (h : x.toInt = z) : Int64.ofInt z = x := by rw [← h, i64_rt]
theorem w32_add (x y : Int) : Int32.ofInt (w32 (x + y)) = Int32.ofInt x + Int32.ofInt y := by
  apply i32_e
  rw [Int32.toInt_add, i32_ti, i32_ti]
  exact (w32_bm _).trans (by unfold w32; omega)
theorem w32_sub (x y : Int) : Int32.ofInt (w32 (x - y)) = Int32.ofInt x - Int32.ofInt y := by
  apply i32_e
  rw [Int32.toInt_sub, i32_ti, i32_ti]
  exact (w32_bm _).trans (by unfold w32; omega)
theorem w32_neg (x : Int) : Int32.ofInt (w32 (-x)) = -Int32.ofInt x := by
  apply i32_e
  rw [Int32.toInt_neg, i32_ti]
  exact (w32_bm _).trans (by unfold w32; omega)
theorem w32_mul {x y : Int} (hx : i32 x) (hy : i32 y) : Int32.ofInt (w32 (x * y)) = Int32.ofInt x * Int32.ofInt y := by
  apply i32_e
  rw [Int32.toInt_mul, i32_tn hx, i32_tn hy]
  exact w32_bm _
theorem w64_add (x y : Int) : Int64.ofInt (w64 (x + y)) = Int64.ofInt x + Int64.ofInt y := by
  apply i64_e
  rw [Int64.toInt_add, i64_ti, i64_ti]
  exact (w64_bm _).trans (by unfold w64; omega)
theorem w64_sub (x y : Int) : Int64.ofInt (w64 (x - y)) = Int64.ofInt x - Int64.ofInt y := by
  apply i64_e
  rw [Int64.toInt_sub, i64_ti, i64_ti]
  exact (w64_bm _).trans (by unfold w64; omega)
theorem w64_neg (x : Int) : Int64.ofInt (w64 (-x)) = -Int64.ofInt x := by
  apply i64_e
  rw [Int64.toInt_neg, i64_ti]
  exact (w64_bm _).trans (by unfold w64; omega)
theorem w64_mul {x y : Int} (hx : i64 x) (hy : i64 y) : Int64.ofInt (w64 (x * y)) = Int64.ofInt x * Int64.ofInt y := by
  apply i64_e
  rw [Int64.toInt_mul, i64_tn hx, i64_tn hy]
  exact w64_bm _
theorem i32_0 : i32 0 := by unfold i32; omega
theorem i64_0 : i64 0 := by unfold i64; omega
theorem i32_lt {x y : Int} (hx : i32 x) (hy : i32 y) : Int32.ofInt x < Int32.ofInt y ↔ x < y := by rw [Int32.lt_iff_toInt_lt, i32_tn hx, i32_tn hy]
theorem i32_le {x y : Int} (hx : i32 x) (hy : i32 y) : Int32.ofInt x ≤ Int32.ofInt y ↔ x ≤ y := by rw [Int32.le_iff_toInt_le, i32_tn hx, i32_tn hy]
theorem i32_eq {x y : Int} (hx : i32 x) (hy : i32 y) : Int32.ofInt x = Int32.ofInt y ↔ x = y := by
  constructor
  · intro h
    have h2 := congrArg Int32.toInt h
    rw [i32_tn hx, i32_tn hy] at h2
    exact h2
  · intro h; rw [h]
theorem i32_z : (Int32.ofInt 0) = 0 := rfl
theorem i64_lt {x y : Int} (hx : i64 x) (hy : i64 y) : Int64.ofInt x < Int64.ofInt y ↔ x < y := by rw [Int64.lt_iff_toInt_lt, i64_tn hx, i64_tn hy]
theorem i64_eq {x y : Int} (hx : i64 x) (hy : i64 y) : Int64.ofInt x = Int64.ofInt y ↔ x = y := by
  constructor
  · intro h
    have h2 := congrArg Int64.toInt h
    rw [i64_tn hx, i64_tn hy] at h2
    exact h2
  · intro h; rw [h]
/-- an index that is in range -/
theorem i32_in {z : Int} {n : Nat} (h : i32 z) (h0 : 0 ≤ z) (h1 : z < n) : vp_in (Int32.ofInt z) n := by
  rw [vp_in_iff, i32_tn h]
  exact ⟨h0, h1⟩
theorem i32_cl {z : Int} (h : i32 z) (h0 : 0 ≤ z) : (Int32.ofInt z).toNatClampNeg = z.toNat := by
  have h2 := i32_tn h
  rw [← Int32.toNat_toInt, h2]
/-! the heap: shapes (kind, size), ints, longs, references -/
abbrev ah_T : Type := List (Nat × Nat) × (Nat → Nat → Int) × (Nat → Nat → Int) × (Nat → Nat → Option Nat)
abbrev ah_s (h : ah_T) : List (Nat × Nat) := h.1
abbrev ah_i (h : ah_T) : Nat → Nat → Int := h.2.1
abbrev ah_l (h : ah_T) : Nat → Nat → Int := h.2.2.1
abbrev ah_r (h : ah_T) : Nat → Nat → Option Nat := h.2.2.2
def up1 {α : Type} (f : Nat → α) (k : Nat) (v : α) : Nat → α := fun y => if y = k then v else f y
def up2 {α : Type} (f : Nat → Nat → α) (a k : Nat) (v : α) : Nat → Nat → α := fun x y => if x = a ∧ y = k then v else f x y
theorem up2_s {α : Type} (f : Nat → Nat → α) (a k : Nat) (v : α) : up2 f a k v a = up1 (f a) k v := by
  funext y
  simp [up2, up1]
theorem up2_n {α : Type} {f : Nat → Nat → α} {a k : Nat} {v : α} {x : Nat} (h : x ≠ a) : up2 f a k v x = f x := by
  funext y
  simp [up2, h]
theorem up2_at {α : Type} {f : Nat → Nat → α} {a k : Nat} {v : α} : up2 f a k v a k = v := by simp [up2]
theorem up2_o {α : Type} {f : Nat → Nat → α} {a k x y : Nat} {v : α} (h : ¬ (x = a ∧ y = k)) : up2 f a k v x y = f x y := by simp only [up2, if_neg h]
def st_i (h : ah_T) (a k : Nat) (z : Int) : ah_T := (h.1, up2 h.2.1 a k z, h.2.2.1, h.2.2.2)
def st_l (h : ah_T) (a k : Nat) (z : Int) : ah_T := (h.1, h.2.1, up2 h.2.2.1 a k z, h.2.2.2)
def st_r (h : ah_T) (a k : Nat) (z : Option Nat) : ah_T := (h.1, h.2.1, h.2.2.1, up2 h.2.2.2 a k z)
def st_n (h : ah_T) (kd n : Nat) : ah_T := (h.1 ++ [(kd, n)], h.2.1, h.2.2.1, h.2.2.2)
/-- an object's field as a value -/
def fv_V (b : Nat) (ty : FieldType) (fi fl : Nat → Int) (fr : Nat → Option Nat) (k : Nat) : Value := match ty with
  | .long => .long (Int64.ofInt (fl k))
  | .object _ => va_rf ((fr k).map (fun a => b + a))
  | .array _ => va_rf ((fr k).map (fun a => b + a))
  | _ => .int (Int32.ofInt (fi k))
def c_tys : List (Nat → FieldType) := [tyX0, tyX1, tyX2, tyX3, tyX4, tyX5, tyX6, tyX7, tyX8, tyX9, tyX10, tyX11, tyX12]
def f_ty (c k : Nat) : FieldType := match c_tys[c]? with
  | some f => f k
  | none => .int
abbrev classes : List vw_C := [(RX0, TX0, 4), (RX1, TX1, 3), (RX2, TX2, 8), (RX3, TX3, 8), (RX4, TX4, 12), (RX5, TX5, 8), (RX6, TX6, 13), (RX7, TX7, 8), (RX8, TX8, 13), (RX9, TX9, 6), (RX10, TX10, 17), (RX11, TX11, 11), (RX12, TX12, 111)]
def cell_R (G : cx_T) (kd n : Nat) (fi fl : Nat → Int) (fr : Nat → Option Nat) (q : Nat) (H : Heap) : Prop := match kd with
  | 0 => H[q]? = some (arrV (cx_cA G 0) n (fun j => .int (Int32.ofInt (fi j))))
  | 1 => H[q]? = some (arrV (cx_cA G 1) n (fun j => .long (Int64.ofInt (fl j))))
  | 2 => H[q]? = some (arrV (cx_cA G 2) n (fun j => .int (Int32.ofInt (fi j)))) ∧ ∀ j, fi j = 0 ∨ fi j = 1
  | 3 => H[q]? = some (arrV (cx_cA G 3) n (fun j => va_rf ((fr j).map (fun a => cx_b G + a))))
  | c + 4 => ∃ r : vw_C, classes[c]? = some r ∧ n = r.2.2 ∧ t_OB q (cx_dC G c) n (cx_dI G c) H (fun k => fv_V (cx_b G) (f_ty c k) fi fl fr k) ∧ ∀ k, f_ty c k = .boolean → fi k = 0 ∨ fi k = 1
theorem cell_R.kept {G : cx_T} {kd n : Nat} {fi fl : Nat → Int} {fr : Nat → Option Nat} {q : Nat} {H H1 : Heap} (h : cell_R G kd n fi fl fr q H) (hq : H1[q]? = H[q]?) : cell_R G kd n fi fl fr q H1 := by
  match kd, h with
  | 0, h => exact hq.trans h
  | 1, h => exact hq.trans h
  | 2, h => exact ⟨hq.trans h.1, h.2⟩
  | 3, h => exact hq.trans h
  | c + 4, h =>
    obtain ⟨r, h1, h2, h3, h4⟩ := h
    exact ⟨r, h1, h2, h3.kept hq, h4⟩
def hr_OK (G : cx_T) (h : ah_T) (H : Heap) : Prop :=
  H.size = cx_b G + h.1.length ∧ (∀ a kd n, h.1[a]? = some (kd, n) → cell_R G kd n (h.2.1 a) (h.2.2.1 a) (h.2.2.2 a) (cx_b G + a) H) ∧
  (∀ a, h.1.length ≤ a → ∀ k, h.2.1 a k = 0 ∧ h.2.2.1 a k = 0 ∧ h.2.2.2 a k = none) ∧ (∀ a k, i32 (h.2.1 a k)) ∧ (∀ a k, i64 (h.2.2.1 a k))
/-- the arrays that are only read: n_RO of them -/
def n_RO : Nat := 1
def ro_OK (G : cx_T) (U : State) (H : Heap) : Prop := ∀ k, k < n_RO → va_T .int (cx_ra G k) (cx_rl G k) (fun j => .int (Int32.ofInt (cx_rv G k j))) (fun q => cx_b G ≤ q) U H ∧ ∀ j, i32 (cx_rv G k j)
abbrev c_arr (G : cx_T) : List (ClassId × FieldType) := [(cx_cA G 0, .int), (cx_cA G 1, .long), (cx_cA G 2, .boolean), (cx_cA G 3, .object RX10)]
/-- the words that last -/
def nestW : Cond → Bool
  | .methodLinkNest _ _ _ _ => true
  | .fieldLinkNest _ _ _ _ _ _ => true
  | _ => false
def gw : List Cond := lw_tbl.filter goodWord
theorem gw_ok : GoodIn gw gw := fun w hw => ⟨hw, good_of_word (List.mem_filter.mp hw).2⟩
theorem gw_in {w : Cond} (i : Nat) (h : lw_tbl[i]? = some w) (hg : goodWord w = true) : w ∈ gw := List.mem_filter.mpr ⟨List.mem_of_getElem? h, hg⟩
def nw_OK (U : State) : Prop := ∀ w ∈ lw_tbl, nestW w = true → va_Nw w U
theorem nw_OK.moved {s U : State} (hW : s.WarmedH U.vm) (h : nw_OK s) : nw_OK U := by
  intro w hw hn
  have h1 := h w hw hn
  cases w <;> first | exact va_Nw.warmM hW h1 | exact va_Nw.warmF hW h1 | (simp [nestW] at hn)
def kf_OK (G : cx_T) (U : State) : Prop := va_K (cx_dC G, cx_dI G) classes (c_arr G) U ∧ nw_OK U
/-- a method: its name, its code, its locals, what it returns -/
abbrev mr_T : Type := MethodName × ByteArray × Nat × Option FieldType
abbrev mr_w (M : mr_T) : Cond := Cond.code M.1 M.2.1 M.2.2.1 M.2.2.2
def st_OK (G : cx_T) (M : mr_T) (p : Program) (s : State) (m : MethodId) (args : Array Value) (meth : Method) (c : Code) : Prop :=
  p.tables.exec = Jvm.exec ∧ c.code = M.2.1 ∧ c.maxLocals = M.2.2.1 ∧ s.vm.findClass M.1.cls = some m.cls ∧ (∀ w ∈ gw, w.before args s = true) ∧ kf_OK G s ∧ meth.sig.returnType = M.2.2.2 ∧ meth.locks = false ∧ (M.1.name = "<init>" → meth.name = "<init>")
/-- locals by their places -/
def lr_OK (G : cx_T) (n : Nat) (L : List (Option av_T)) (ls : Array Slot) : Prop :=
  L.length = n ∧ ls.size = n ∧ lv_wf ls ∧ ∀ (k : Nat) (v : av_T), L[k]? = some (some v) → ls[k]? = some (.val (cv G v)) ∧ nv v
abbrev fr_A (G : cx_T) : Nat → Prop := fun q => cx_b G ≤ q
def qc_Q (G : cx_T) (Q : Option av_T → ah_T → Prop) : Array Value → State → Outcome → State → Prop := fun _ st o t =>
  (∃ (r : Option av_T) (h' : ah_T), o = .returned (r.map (cv G)) ∧ (∀ v, r = some v → nv v) ∧ Q r h' ∧ hr_OK G h' t.heap ∧ ro_OK G t t.heap) ∧ va_F (fr_A G) st t
def aw (G : cx_T) (R : Room) (M : mr_T) (cu su pc : Nat) (L : List (Option av_T)) (st : List av_T) (h : ah_T) (Q : Option av_T → ah_T → Prop) : Prop :=
  ∀ (p : Program) (e : Env) (s : State) (m : MethodId) (args : Array Value) (below : List Frame) (meth : Method) (c : Code) (H : Heap) (locs : List Loc) (ls : Array Slot),
    st_OK G M p s m args meth c → hr_OK G h H → ro_OK G s s.heap → va_S (fr_A G) s.heap H locs → cx_b G ≤ s.heap.size → lr_OK G M.2.2.1 L ls → (∀ v ∈ st, nv v) →
    W p (cx_l G) e R s m args below meth c H locs cu su (MQ below (qc_Q G Q) args s R.cells R.slots (fr_A G)) (F0 m pc ls (st.map (cv G)))
def rm_R (d mc ms : Nat) : Room := { frames := d, cells := mc, slots := ms, locals := 48 * d }
def con (G : cx_T) (d mc ms : Nat) (M : mr_T) (As : List av_T) (h : ah_T) (Q : Option av_T → ah_T → Prop) : Prop :=
  (∀ v ∈ As, nv v) → Met (cx_l G) M.1 (mr_w M :: gw) (rm_R d mc ms) (va_Pc (As.map (cv G)) (fun U => hr_OK G h U.heap ∧ ro_OK G U U.heap ∧ kf_OK G U ∧ cx_b G ≤ U.heap.size)) (qc_Q G Q) mc ms (fr_A G)
end
section
theorem nv_h {v : av_T} {l : List av_T} (h : ∀ x ∈ v :: l, nv x) : nv v := h v List.mem_cons_self
theorem nv_t {v : av_T} {l : List av_T} (h : ∀ x ∈ v :: l, nv x) : ∀ x ∈ l, nv x := fun x hx => h x (List.mem_cons_of_mem _ hx)
theorem nv_c {v : av_T} {l : List av_T} (h : nv v) (h2 : ∀ x ∈ l, nv x) : ∀ x ∈ v :: l, nv x := List.forall_mem_cons.mpr ⟨h, h2⟩
theorem i64_1 : i64 1 := by unfold i64; omega
def i32b (n : Int) : Bool := decide (-2147483648 ≤ n) && decide (n < 2147483648)
theorem i32b_ok {n : Int} (h : i32b n = true) : i32 n := by
  simp only [i32b, Bool.and_eq_true, decide_eq_true_eq] at h
  exact h
def i64b (n : Int) : Bool := decide (-9223372036854775808 ≤ n) && decide (n < 9223372036854775808)
theorem i64b_ok {n : Int} (h : i64b n = true) : i64 n := by
  simp only [i64b, Bool.and_eq_true, decide_eq_true_eq] at h
  exact h
def i8b (n : Int) : Bool := decide (-128 ≤ n) && decide (n < 128)
def i16b (n : Int) : Bool := decide (-32768 ≤ n) && decide (n < 32768)
theorem i8b_ok {n : Int} (h : i8b n = true) : i32 n := by
  simp only [i8b, Bool.and_eq_true, decide_eq_true_eq] at h
  unfold i32; omega
theorem i16b_ok {n : Int} (h : i16b n = true) : i32 n := by
  simp only [i16b, Bool.and_eq_true, decide_eq_true_eq] at h
  unfold i32; omega
theorem i8b_v {n : Int} (h : i8b n = true) : (Int8.ofInt n).toInt32 = Int32.ofInt n := by
  have h2 := i8b_ok h
  simp only [i8b, Bool.and_eq_true, decide_eq_true_eq] at h
  apply Int32.toInt_inj.mp
  rw [Int8.toInt_toInt32, Int8.toInt_ofInt, i32_tn h2]
  have e : n.bmod 256 = n := Int.bmod_eq_of_le (by omega) (by omega)
  exact e
theorem i16b_v {n : Int} (h : i16b n = true) : (Int16.ofInt n).toInt32 = Int32.ofInt n := by
  have h2 := i16b_ok h
  simp only [i16b, Bool.and_eq_true, decide_eq_true_eq] at h
  apply Int32.toInt_inj.mp
  rw [Int16.toInt_toInt32, Int16.toInt_ofInt, i32_tn h2]
  have e : n.bmod 65536 = n := Int.bmod_eq_of_le (by omega) (by omega)
  exact e
theorem i32_ne0 {y : Int} (h : i32 y) (hy : y ≠ 0) : ¬ Int32.ofInt y = 0 := fun z => hy ((i32_eq h i32_0).mp z)
theorem i64_ne0 {y : Int} (h : i64 y) (hy : y ≠ 0) : ¬ Int64.ofInt y = 0 := fun z => hy ((i64_eq h i64_0).mp z)
theorem w32_div {x y : Int} (hx : i32 x) (hy : i32 y) : Int32.ofInt (w32 (x.tdiv y)) = Int32.ofInt x / Int32.ofInt y := by
  apply i32_e
  rw [Int32.toInt_div, i32_tn hx, i32_tn hy]
  exact w32_bm _
theorem w64_div {x y : Int} (hx : i64 x) (hy : i64 y) : Int64.ofInt (w64 (x.tdiv y)) = Int64.ofInt x / Int64.ofInt y := by
  apply i64_e
  rw [Int64.toInt_div, i64_tn hx, i64_tn hy]
  exact w64_bm _
theorem tmod_in32 {x y : Int} (h : i32 x) : i32 (x.tmod y) := by
  unfold i32 at *
  rcases Int.le_total 0 x with h0 | h0
  · have h1 := Int.tmod_nonneg y h0
    have h2 : x.tmod y ≤ x := by
      have := Int.natAbs_tmod x y
      have h3 : (x.tmod y).natAbs ≤ x.natAbs := by rw [this]; exact Nat.mod_le _ _
      omega
    omega
  · have h3 : (x.tmod y).natAbs ≤ x.natAbs := by rw [Int.natAbs_tmod]; exact Nat.mod_le _ _
    have h4 : x.tmod y ≤ 0 := by
      have := Int.tmod_nonneg (a := -x) y (by omega)
      rw [Int.neg_tmod] at this
      omega
    omega
theorem tmod_in64 {x y : Int} (h : i64 x) : i64 (x.tmod y) := by
  unfold i64 at *
  rcases Int.le_total 0 x with h0 | h0
  · have h1 := Int.tmod_nonneg y h0
    have h3 : (x.tmod y).natAbs ≤ x.natAbs := by rw [Int.natAbs_tmod]; exact Nat.mod_le _ _
    omega
  · have h3 : (x.tmod y).natAbs ≤ x.natAbs := by rw [Int.natAbs_tmod]; exact Nat.mod_le _ _
    have h4 : x.tmod y ≤ 0 := by
      have := Int.tmod_nonneg (a := -x) y (by omega)
      rw [Int.neg_tmod] at this
      omega
    omega
theorem w32_rem {x y : Int} (hx : i32 x) (hy : i32 y) (h0 : y ≠ 0) : Int32.ofInt x - Int32.ofInt x / Int32.ofInt y * Int32.ofInt y = Int32.ofInt (x.tmod y) := by
  apply Int32.toInt_inj.mp
  rw [i32_tn (tmod_in32 hx), Int32.toInt_sub, Int32.toInt_mul, Int32.toInt_div, i32_tn hx, i32_tn hy]
  rw [Int.bmod_mul_bmod, Int.sub_bmod_bmod]
  have e : x - x.tdiv y * y = x.tmod y := by rw [Int.tmod_def, Int.mul_comm]
  rw [e]
  exact (w32_bm _).trans (w32_id (tmod_in32 hx))
theorem w64_rem {x y : Int} (hx : i64 x) (hy : i64 y) (h0 : y ≠ 0) : Int64.ofInt x - Int64.ofInt x / Int64.ofInt y * Int64.ofInt y = Int64.ofInt (x.tmod y) := by
  apply Int64.toInt_inj.mp
  rw [i64_tn (tmod_in64 hx), Int64.toInt_sub, Int64.toInt_mul, Int64.toInt_div, i64_tn hx, i64_tn hy]
  rw [Int.bmod_mul_bmod, Int.sub_bmod_bmod]
  have e : x - x.tdiv y * y = x.tmod y := by rw [Int.tmod_def, Int.mul_comm]
  rw [e]
  exact (w64_bm _).trans (w64_id (tmod_in64 hx))
theorem i64_i32 {x : Int} (h : i32 x) : i64 x := by unfold i32 at h; unfold i64; omega
theorem i2l_v {x : Int} (h : i32 x) : (Int32.ofInt x).toInt64 = Int64.ofInt x := by
  apply Int64.toInt_inj.mp
  rw [Int32.toInt_toInt64, i32_tn h, i64_tn (i64_i32 h)]
theorem l2i_v (x : Int) : (Int64.ofInt x).toInt32 = Int32.ofInt (w32 x) := by
  apply Int32.toInt_inj.mp
  rw [Int64.toInt_toInt32, i64_ti, i32_ti]
  exact (w32_bm _).trans (by unfold w32 w64; omega)
def cmp_I (x y : Int) : Int := if x < y then -1 else if x = y then 0 else 1
theorem cmp_in (x y : Int) : i32 (cmp_I x y) := by
  unfold cmp_I i32
  split
  · omega
  · split <;> omega
theorem cmp_v {x y : Int} (hx : i64 x) (hy : i64 y) : lg_cmp (Int64.ofInt x) (Int64.ofInt y) = Int32.ofInt (cmp_I x y) := by
  unfold lg_cmp cmp_I
  have h1 := i64_lt hx hy
  have h2 := i64_lt hy hx
  have h3 := i64_eq hx hy
  by_cases a : x < y
  · have b : ¬ y < x := by omega
    have d : ¬ x = y := by omega
    simp [h1, h2, h3, a, b, d]
  · by_cases b : x = y
    · subst b; simp
    · have d : y < x := by omega
      simp [h1, h2, h3, a, b, d]
theorem nar_b {x : Int} (h : x = 0 ∨ x = 1) : narrow .boolean (.int (Int32.ofInt x)) = .int (Int32.ofInt x) := by
  rcases h with rfl | rfl <;> rfl
theorem nar_c {x : Int} (h : 0 ≤ x ∧ x < 65536) : narrow .char (.int (Int32.ofInt x)) = .int (Int32.ofInt x) := by
  obtain ⟨k, rfl⟩ := Int.eq_ofNat_of_zero_le h.1
  exact (pk_charN (q := k) (by omega)).1
theorem cv_ref {G : cx_T} (r : Option Nat) : cv G (av_R r) = .null ∨ ∃ a, cv G (av_R r) = .ref a := by
  cases r with
  | none => exact Or.inl rfl
  | some a => exact Or.inr ⟨_, rfl⟩
theorem ro_end {G : cx_T} {s t : State} {H : Heap} {locs : List Loc} (h : ro_OK G s s.heap) (hS : va_S (fr_A G) s.heap H locs) (ht : t.heap = H) (hw : s.WarmedH t.vm) : ro_OK G t t.heap := by
  intro k hk
  rw [ht]
  exact ⟨((h k hk).1.kept hS.2.1).moved hw.alike, (h k hk).2⟩
/-! locals -/
def cat2 : av_T → Bool
  | .inr (.inl _) => true
  | .inr (.inr (.inl _)) => true
  | _ => false
theorem cv_cat {G : cx_T} (v : av_T) : ((cv G v).category == 2) = cat2 v := by
  rcases v with z | z | d | r | k
  · rfl
  · rfl
  · rfl
  · cases r <;> rfl
  · rfl
def lkill (L : List (Option av_T)) (i : Nat) : List (Option av_T) := match i with
  | 0 => L
  | j + 1 => match L[j]? with
    | some (some v) => if cat2 v = true then L.set j none else L
    | _ => L
def lst1 (L : List (Option av_T)) (i : Nat) (v : av_T) : List (Option av_T) := (lkill L i).set i (some v)
def lst2 (L : List (Option av_T)) (i : Nat) (v : av_T) : List (Option av_T) := ((lkill L i).set i (some v)).set (i + 1) none
theorem lkill_len (L : List (Option av_T)) (i : Nat) : (lkill L i).length = L.length := by
  unfold lkill
  split
  · rfl
  · split
    · split
      · simp
      · rfl
    · rfl
theorem lkill_at {L : List (Option av_T)} {i k : Nat} {w : av_T} (h : (lkill L i)[k]? = some (some w)) : L[k]? = some (some w) ∧ (k + 1 = i → cat2 w = false) := by
  unfold lkill at h
  split at h
  · exact ⟨h, fun z => by omega⟩
  · rename_i j
    split at h
    · rename_i v hv
      split at h
      · rename_i h2
        by_cases hk : k = j
        · subst hk
          have hlt := (List.getElem?_eq_some_iff.mp hv).1
          rw [List.getElem?_set_self hlt] at h
          simp at h
        · rw [List.getElem?_set_ne (Ne.symm hk)] at h
          exact ⟨h, fun z => by omega⟩
      · rename_i h2
        refine ⟨h, fun z => ?_⟩
        have : k = j := by omega
        subst this
        rw [hv] at h
        cases h
        simpa using h2
    · rename_i h2
      refine ⟨h, fun z => ?_⟩
      have : k = j := by omega
      subst this
      exact absurd h (h2 w)
def lr_l (G : cx_T) (L : List (Option av_T)) : List (Nat × Value) := (List.range L.length).filterMap fun k => match L[k]? with
  | some (some v) => some (k, cv G v)
  | _ => none
theorem lr_mem {G : cx_T} {L : List (Option av_T)} {q : Nat × Value} : q ∈ lr_l G L ↔ ∃ v, L[q.1]? = some (some v) ∧ q.2 = cv G v := by
  unfold lr_l
  rw [List.mem_filterMap]
  constructor
  · rintro ⟨k, hk, h⟩
    split at h
    · rename_i v hv
      cases h
      exact ⟨v, hv, rfl⟩
    · cases h
  · rintro ⟨v, hv, h⟩
    refine ⟨q.1, List.mem_range.mpr (List.getElem?_eq_some_iff.mp hv).1, ?_⟩
    rw [hv]
    dsimp only
    rw [← h]
theorem lr_h {G : cx_T} {n : Nat} {L : List (Option av_T)} {ls : Array Slot} (h : lr_OK G n L ls) : lv_has ls n (lr_l G L) := by
  refine ⟨h.2.1, h.2.2.1, fun q hq => ?_⟩
  obtain ⟨v, h1, h2⟩ := lr_mem.mp hq
  rw [h2]
  exact (h.2.2.2 _ _ h1).1
theorem lr_k {G : cx_T} {L : List (Option av_T)} {i : Nat} {v : av_T} (h : L[i]? = some (some v)) : ∃ k : Nat, (lr_l G L)[k]? = some (i, cv G v) :=
  List.getElem?_of_mem (lr_mem.mpr ⟨v, h, rfl⟩)
theorem lr_s1 {G : cx_T} {n i : Nat} {L : List (Option av_T)} {v : av_T} {ls ls' : Array Slot} (hL : lr_OK G n L ls) (hi : i < L.length) (hv : nv v) (_hc : cat2 v = false)
    (h : lv_has ls' n ((i, cv G v) :: (lr_l G L).filter (fun q => !(q.1 == i) && !(q.1 + 1 == i && q.2.category == 2)))) : lr_OK G n (lst1 L i v) ls' := by
  refine ⟨by simp [lst1, lkill_len, hL.1], h.1, h.2.1, fun k w hk => ?_⟩
  unfold lst1 at hk
  by_cases hki : k = i
  · subst hki
    rw [List.getElem?_set_self (by rw [lkill_len]; exact hi)] at hk
    cases hk
    exact ⟨h.2.2 _ List.mem_cons_self, hv⟩
  · rw [List.getElem?_set_ne (Ne.symm hki)] at hk
    obtain ⟨h1, h2⟩ := lkill_at hk
    refine ⟨h.2.2 (k, cv G w) (List.mem_cons_of_mem _ (List.mem_filter.mpr ⟨lr_mem.mpr ⟨w, h1, rfl⟩, ?_⟩)), (hL.2.2.2 k w h1).2⟩
    dsimp only
    rw [cv_cat]
    by_cases hk1 : k + 1 = i
    · simp [hki, h2 hk1]
    · simp [hki, hk1]
theorem lr_s2 {G : cx_T} {n i : Nat} {L : List (Option av_T)} {v : av_T} {ls ls' : Array Slot} (hL : lr_OK G n L ls) (hi : i + 1 < L.length) (hv : nv v) (_hc : cat2 v = true)
    (h : lv_has ls' n ((i, cv G v) :: (lr_l G L).filter (fun q => !(q.1 == i) && (!(q.1 == i + 1) && !(q.1 + 1 == i && q.2.category == 2))))) : lr_OK G n (lst2 L i v) ls' := by
  refine ⟨by simp [lst2, lkill_len, hL.1], h.1, h.2.1, fun k w hk => ?_⟩
  unfold lst2 at hk
  by_cases hki1 : k = i + 1
  · subst hki1
    rw [List.getElem?_set_self (by simp [lkill_len]; omega)] at hk
    simp at hk
  · rw [List.getElem?_set_ne (Ne.symm hki1)] at hk
    by_cases hki : k = i
    · subst hki
      rw [List.getElem?_set_self (by rw [lkill_len]; omega)] at hk
      cases hk
      exact ⟨h.2.2 _ List.mem_cons_self, hv⟩
    · rw [List.getElem?_set_ne (Ne.symm hki)] at hk
      obtain ⟨h1, h2⟩ := lkill_at hk
      refine ⟨h.2.2 (k, cv G w) (List.mem_cons_of_mem _ (List.mem_filter.mpr ⟨lr_mem.mpr ⟨w, h1, rfl⟩, ?_⟩)), (hL.2.2.2 k w h1).2⟩
      dsimp only
      rw [cv_cat]
      by_cases hk1 : k + 1 = i
      · simp [hki, hki1, h2 hk1]
      · simp [hki, hki1, hk1]
section AWR
variable {G : cx_T} {R : Room} {M : mr_T} {cu su pc : Nat} {L : List (Option av_T)} {st : List av_T} {h : ah_T} {Q : Option av_T → ah_T → Prop}
theorem A_iconst {n : Int} (hd : decode M.2.1 pc = .ok (.iconst n, 1)) (hr : i32b n = true) (k : aw G R M cu su (pc + 1) L (av_I n :: st) h Q) : aw G R M cu su pc L (st) h Q := by
  intro p e s m args below meth c H locs ls S hH hO hS hb hL hn
  refine lv_iconst (v := Int32.ofInt n) S.1 S.2.1 hd rfl ?_
  exact k p e s m args below meth c H locs ls S hH hO hS hb hL (nv_c (i32b_ok hr) hn)
theorem A_bipush {n : Int} (hd : decode M.2.1 pc = .ok (.bipush n, 2)) (hr : i8b n = true) (k : aw G R M cu su (pc + 2) L (av_I n :: st) h Q) : aw G R M cu su pc L (st) h Q := by
  intro p e s m args below meth c H locs ls S hH hO hS hb hL hn
  refine lv_bipush (v := Int32.ofInt n) S.1 S.2.1 hd (i8b_v hr) ?_
  exact k p e s m args below meth c H locs ls S hH hO hS hb hL (nv_c (i8b_ok hr) hn)
theorem A_sipush {n : Int} (hd : decode M.2.1 pc = .ok (.sipush n, 3)) (hr : i16b n = true) (k : aw G R M cu su (pc + 3) L (av_I n :: st) h Q) : aw G R M cu su pc L (st) h Q := by
  intro p e s m args below meth c H locs ls S hH hO hS hb hL hn
  refine lv_sipush (v := Int32.ofInt n) S.1 S.2.1 hd (i16b_v hr) ?_
  exact k p e s m args below meth c H locs ls S hH hO hS hb hL (nv_c (i16b_ok hr) hn)
theorem A_lconst_0  (hd : decode M.2.1 pc = .ok (.lconst 0, 1)) (k : aw G R M cu su (pc + 1) L (av_L 0 :: st) h Q) : aw G R M cu su pc L (st) h Q := by
  intro p e s m args below meth c H locs ls S hH hO hS hb hL hn
  refine lv_lconst (v := Int64.ofInt 0) S.1 S.2.1 hd rfl ?_
  exact k p e s m args below meth c H locs ls S hH hO hS hb hL (nv_c i64_0 hn)
theorem A_lconst_1  (hd : decode M.2.1 pc = .ok (.lconst 1, 1)) (k : aw G R M cu su (pc + 1) L (av_L 1 :: st) h Q) : aw G R M cu su pc L (st) h Q := by
  intro p e s m args below meth c H locs ls S hH hO hS hb hL hn
  refine lv_lconst (v := Int64.ofInt 1) S.1 S.2.1 hd rfl ?_
  exact k p e s m args below meth c H locs ls S hH hO hS hb hL (nv_c i64_1 hn)
theorem A_dconst_0  (hd : decode M.2.1 pc = .ok (.dconst 0, 1)) (k : aw G R M cu su (pc + 1) L (av_D FP.dconst0 :: st) h Q) : aw G R M cu su pc L (st) h Q := by
  intro p e s m args below meth c H locs ls S hH hO hS hb hL hn
  refine lv_dconst0 S.1 S.2.1 hd ?_
  exact k p e s m args below meth c H locs ls S hH hO hS hb hL (nv_c trivial hn)
theorem A_dconst_1  (hd : decode M.2.1 pc = .ok (.dconst 1, 1)) (k : aw G R M cu su (pc + 1) L (av_D FP.dconst1 :: st) h Q) : aw G R M cu su pc L (st) h Q := by
  intro p e s m args below meth c H locs ls S hH hO hS hb hL hn
  refine lv_dconst1 S.1 S.2.1 hd ?_
  exact k p e s m args below meth c H locs ls S hH hO hS hb hL (nv_c trivial hn)
theorem A_null  (hd : decode M.2.1 pc = .ok (.aconst_null, 1)) (k : aw G R M cu su (pc + 1) L (av_R none :: st) h Q) : aw G R M cu su pc L (st) h Q := by
  intro p e s m args below meth c H locs ls S hH hO hS hb hL hn
  refine lv_null S.1 S.2.1 hd ?_
  exact k p e s m args below meth c H locs ls S hH hO hS hb hL (nv_c trivial hn)
theorem A_ldc {idx : Nat} {z : Int} (hd : decode M.2.1 pc = .ok (.ldc idx, 2)) (hw : Cond.constant M.1.cls idx (Int32.ofInt z) ∈ gw) (hr : i32b z = true) (k : aw G R M cu su (pc + 2) L (av_I z :: st) h Q) : aw G R M cu su pc L (st) h Q := by
  intro p e s m args below meth c H locs ls S hH hO hS hb hL hn
  refine lv_ldc S.1 S.2.1 S.2.2.2.1 (S.2.2.2.2.1 _ hw) hd ?_
  exact k p e s m args below meth c H locs ls S hH hO hS hb hL (nv_c (i32b_ok hr) hn)
theorem A_ldcw {idx : Nat} {z : Int} (hd : decode M.2.1 pc = .ok (.ldc_w idx, 3)) (hw : Cond.constant M.1.cls idx (Int32.ofInt z) ∈ gw) (hr : i32b z = true) (k : aw G R M cu su (pc + 3) L (av_I z :: st) h Q) : aw G R M cu su pc L (st) h Q := by
  intro p e s m args below meth c H locs ls S hH hO hS hb hL hn
  refine lv_ldcw S.1 S.2.1 S.2.2.2.1 (S.2.2.2.2.1 _ hw) hd ?_
  exact k p e s m args below meth c H locs ls S hH hO hS hb hL (nv_c (i32b_ok hr) hn)
theorem A_ldc2 {idx : Nat} {z : Int} (hd : decode M.2.1 pc = .ok (.ldc2_w idx, 3)) (hw : Cond.constantLong M.1.cls idx (Int64.ofInt z) ∈ gw) (hr : i64b z = true) (k : aw G R M cu su (pc + 3) L (av_L z :: st) h Q) : aw G R M cu su pc L (st) h Q := by
  intro p e s m args below meth c H locs ls S hH hO hS hb hL hn
  refine lv_ldc2 S.1 S.2.1 S.2.2.2.1 (S.2.2.2.2.1 _ hw) hd ?_
  exact k p e s m args below meth c H locs ls S hH hO hS hb hL (nv_c (i64b_ok hr) hn)
theorem A_ldc2d {idx : Nat} {z : UInt64} (hd : decode M.2.1 pc = .ok (.ldc2_w idx, 3)) (hw : Cond.constantDouble M.1.cls idx z ∈ gw) (k : aw G R M cu su (pc + 3) L (av_D z :: st) h Q) : aw G R M cu su pc L (st) h Q := by
  intro p e s m args below meth c H locs ls S hH hO hS hb hL hn
  refine lv_ldc2d S.1 S.2.1 S.2.2.2.1 (S.2.2.2.2.1 _ hw) hd ?_
  exact k p e s m args below meth c H locs ls S hH hO hS hb hL (nv_c trivial hn)
theorem A_iload_n {n : Fin 4} {x : Int} (i : Nat) (hd : decode M.2.1 pc = .ok (.iload_n n, 1)) (hi : (n : Nat) = i) (hl : L[i]? = some (some (av_I x))) (k : aw G R M cu su (pc + 1) L (av_I x :: st) h Q) : aw G R M cu su pc L (st) h Q := by
  intro p e s m args below meth c H locs ls S hH hO hS hb hL hn
  refine lv_iload_n S.1 S.2.1 hd hi (hL.2.2.2 i _ hl).1 ?_
  exact k p e s m args below meth c H locs ls S hH hO hS hb hL (nv_c (hL.2.2.2 i _ hl).2 hn)
theorem A_iload {i : Nat} {x : Int} (hd : decode M.2.1 pc = .ok (.iload i, 2)) (hl : L[i]? = some (some (av_I x))) (k : aw G R M cu su (pc + 2) L (av_I x :: st) h Q) : aw G R M cu su pc L (st) h Q := by
  intro p e s m args below meth c H locs ls S hH hO hS hb hL hn
  refine lv_iload S.1 S.2.1 hd (hL.2.2.2 i _ hl).1 ?_
  exact k p e s m args below meth c H locs ls S hH hO hS hb hL (nv_c (hL.2.2.2 i _ hl).2 hn)
theorem A_lload_n {n : Fin 4} {x : Int} (i : Nat) (hd : decode M.2.1 pc = .ok (.lload_n n, 1)) (hi : (n : Nat) = i) (hl : L[i]? = some (some (av_L x))) (k : aw G R M cu su (pc + 1) L (av_L x :: st) h Q) : aw G R M cu su pc L (st) h Q := by
  intro p e s m args below meth c H locs ls S hH hO hS hb hL hn
  refine lv_lload_n S.1 S.2.1 hd hi (hL.2.2.2 i _ hl).1 ?_
  exact k p e s m args below meth c H locs ls S hH hO hS hb hL (nv_c (hL.2.2.2 i _ hl).2 hn)
theorem A_lload {i : Nat} {x : Int} (hd : decode M.2.1 pc = .ok (.lload i, 2)) (hl : L[i]? = some (some (av_L x))) (k : aw G R M cu su (pc + 2) L (av_L x :: st) h Q) : aw G R M cu su pc L (st) h Q := by
  intro p e s m args below meth c H locs ls S hH hO hS hb hL hn
  refine lv_lload S.1 S.2.1 hd (hL.2.2.2 i _ hl).1 ?_
  exact k p e s m args below meth c H locs ls S hH hO hS hb hL (nv_c (hL.2.2.2 i _ hl).2 hn)
theorem A_dload_n {n : Fin 4} {x : UInt64} (i : Nat) (hd : decode M.2.1 pc = .ok (.dload_n n, 1)) (hi : (n : Nat) = i) (hl : L[i]? = some (some (av_D x))) (k : aw G R M cu su (pc + 1) L (av_D x :: st) h Q) : aw G R M cu su pc L (st) h Q := by
  intro p e s m args below meth c H locs ls S hH hO hS hb hL hn
  refine lv_dload_n S.1 S.2.1 hd hi (hL.2.2.2 i _ hl).1 ?_
  exact k p e s m args below meth c H locs ls S hH hO hS hb hL (nv_c (hL.2.2.2 i _ hl).2 hn)
theorem A_dload {i : Nat} {x : UInt64} (hd : decode M.2.1 pc = .ok (.dload i, 2)) (hl : L[i]? = some (some (av_D x))) (k : aw G R M cu su (pc + 2) L (av_D x :: st) h Q) : aw G R M cu su pc L (st) h Q := by
  intro p e s m args below meth c H locs ls S hH hO hS hb hL hn
  refine lv_dload S.1 S.2.1 hd (hL.2.2.2 i _ hl).1 ?_
  exact k p e s m args below meth c H locs ls S hH hO hS hb hL (nv_c (hL.2.2.2 i _ hl).2 hn)
theorem A_aload_n {n : Fin 4} (i : Nat) {r : Option Nat} (hd : decode M.2.1 pc = .ok (.aload_n n, 1)) (hi : (n : Nat) = i) (hl : L[i]? = some (some (av_R r))) (k : aw G R M cu su (pc + 1) L (av_R r :: st) h Q) : aw G R M cu su pc L st h Q := by
  intro p e s m args below meth c H locs ls S hH hO hS hb hL hn
  have k2 := k p e s m args below meth c H locs ls S hH hO hS hb hL (nv_c trivial hn)
  have hv := (hL.2.2.2 i _ hl).1
  cases r with
  | none => exact lv_aload_nN S.1 S.2.1 hd hi hv k2
  | some a => exact lv_aload_n S.1 S.2.1 hd hi hv k2
theorem A_aload_nS {n : Fin 4} (i : Nat) {r : Nat} (hd : decode M.2.1 pc = .ok (.aload_n n, 1)) (hi : (n : Nat) = i) (hl : L[i]? = some (some (av_S r))) (k : aw G R M cu su (pc + 1) L (av_S r :: st) h Q) : aw G R M cu su pc L st h Q := by
  intro p e s m args below meth c H locs ls S hH hO hS hb hL hn
  exact lv_aload_n S.1 S.2.1 hd hi (hL.2.2.2 i _ hl).1 (k p e s m args below meth c H locs ls S hH hO hS hb hL (nv_c trivial hn))
theorem A_aload {i : Nat} {r : Option Nat} (hd : decode M.2.1 pc = .ok (.aload i, 2)) (hl : L[i]? = some (some (av_R r))) (k : aw G R M cu su (pc + 2) L (av_R r :: st) h Q) : aw G R M cu su pc L st h Q := by
  intro p e s m args below meth c H locs ls S hH hO hS hb hL hn
  have k2 := k p e s m args below meth c H locs ls S hH hO hS hb hL (nv_c trivial hn)
  have hv := (hL.2.2.2 i _ hl).1
  cases r with
  | none => exact lv_aloadN S.1 S.2.1 hd hv k2
  | some a => exact lv_aload S.1 S.2.1 hd hv k2
theorem A_aloadS {i : Nat} {r : Nat} (hd : decode M.2.1 pc = .ok (.aload i, 2)) (hl : L[i]? = some (some (av_S r))) (k : aw G R M cu su (pc + 2) L (av_S r :: st) h Q) : aw G R M cu su pc L st h Q := by
  intro p e s m args below meth c H locs ls S hH hO hS hb hL hn
  exact lv_aload S.1 S.2.1 hd (hL.2.2.2 i _ hl).1 (k p e s m args below meth c H locs ls S hH hO hS hb hL (nv_c trivial hn))
theorem A_istore_n {n : Fin 4} (i : Nat) {x : Int} {L' : List (Option av_T)} (hd : decode M.2.1 pc = .ok (.istore_n n, 1)) (hi : (n : Nat) = i) (hb2 : i < L.length) (hl : lst1 L i (av_I x) = L') (k : aw G R M cu su (pc + 1) L' st h Q) : aw G R M cu su pc L (av_I x :: st) h Q := by
  intro p e s m args below meth c H locs ls S hH hO hS hb hL hn
  subst hl
  exact lv_istore_n S.1 S.2.1 hd hi (lr_h hL) (by rw [← hL.1]; exact hb2) rfl (fun ls' hl' => k p e s m args below meth c H locs ls' S hH hO hS hb (lr_s1 hL hb2 (nv_h hn) rfl hl') (nv_t hn))
theorem A_istore {i : Nat} {x : Int} {L' : List (Option av_T)} (hd : decode M.2.1 pc = .ok (.istore i, 2)) (hb2 : i < L.length) (hl : lst1 L i (av_I x) = L') (k : aw G R M cu su (pc + 2) L' st h Q) : aw G R M cu su pc L (av_I x :: st) h Q := by
  intro p e s m args below meth c H locs ls S hH hO hS hb hL hn
  subst hl
  exact lv_istore S.1 S.2.1 hd (lr_h hL) (by rw [← hL.1]; exact hb2) rfl (fun ls' hl' => k p e s m args below meth c H locs ls' S hH hO hS hb (lr_s1 hL hb2 (nv_h hn) rfl hl') (nv_t hn))
theorem A_lstore_n {n : Fin 4} (i : Nat) {x : Int} {L' : List (Option av_T)} (hd : decode M.2.1 pc = .ok (.lstore_n n, 1)) (hi : (n : Nat) = i) (hb2 : i + 1 < L.length) (hl : lst2 L i (av_L x) = L') (k : aw G R M cu su (pc + 1) L' st h Q) : aw G R M cu su pc L (av_L x :: st) h Q := by
  intro p e s m args below meth c H locs ls S hH hO hS hb hL hn
  subst hl
  exact lv_lstore_n S.1 S.2.1 hd hi (lr_h hL) (by rw [← hL.1]; exact hb2) rfl (fun ls' hl' => k p e s m args below meth c H locs ls' S hH hO hS hb (lr_s2 hL hb2 (nv_h hn) rfl hl') (nv_t hn))
theorem A_lstore {i : Nat} {x : Int} {L' : List (Option av_T)} (hd : decode M.2.1 pc = .ok (.lstore i, 2)) (hb2 : i + 1 < L.length) (hl : lst2 L i (av_L x) = L') (k : aw G R M cu su (pc + 2) L' st h Q) : aw G R M cu su pc L (av_L x :: st) h Q := by
  intro p e s m args below meth c H locs ls S hH hO hS hb hL hn
  subst hl
  exact lv_lstore S.1 S.2.1 hd (lr_h hL) (by rw [← hL.1]; exact hb2) rfl (fun ls' hl' => k p e s m args below meth c H locs ls' S hH hO hS hb (lr_s2 hL hb2 (nv_h hn) rfl hl') (nv_t hn))
theorem A_dstore_n {n : Fin 4} (i : Nat) {x : UInt64} {L' : List (Option av_T)} (hd : decode M.2.1 pc = .ok (.dstore_n n, 1)) (hi : (n : Nat) = i) (hb2 : i + 1 < L.length) (hl : lst2 L i (av_D x) = L') (k : aw G R M cu su (pc + 1) L' st h Q) : aw G R M cu su pc L (av_D x :: st) h Q := by
  intro p e s m args below meth c H locs ls S hH hO hS hb hL hn
  subst hl
  exact lv_dstore_n S.1 S.2.1 hd hi (lr_h hL) (by rw [← hL.1]; exact hb2) rfl (fun ls' hl' => k p e s m args below meth c H locs ls' S hH hO hS hb (lr_s2 hL hb2 (nv_h hn) rfl hl') (nv_t hn))
theorem A_dstore {i : Nat} {x : UInt64} {L' : List (Option av_T)} (hd : decode M.2.1 pc = .ok (.dstore i, 2)) (hb2 : i + 1 < L.length) (hl : lst2 L i (av_D x) = L') (k : aw G R M cu su (pc + 2) L' st h Q) : aw G R M cu su pc L (av_D x :: st) h Q := by
  intro p e s m args below meth c H locs ls S hH hO hS hb hL hn
  subst hl
  exact lv_dstore S.1 S.2.1 hd (lr_h hL) (by rw [← hL.1]; exact hb2) rfl (fun ls' hl' => k p e s m args below meth c H locs ls' S hH hO hS hb (lr_s2 hL hb2 (nv_h hn) rfl hl') (nv_t hn))
theorem A_astore_n {n : Fin 4} (i : Nat) {r : Option Nat} {L' : List (Option av_T)} (hd : decode M.2.1 pc = .ok (.astore_n n, 1)) (hi : (n : Nat) = i) (hb2 : i < L.length) (hl : lst1 L i (av_R r) = L') (k : aw G R M cu su (pc + 1) L' st h Q) : aw G R M cu su pc L (av_R r :: st) h Q := by
  intro p e s m args below meth c H locs ls S hH hO hS hb hL hn
  subst hl
  cases r with
  | none => exact lv_astore_nN S.1 S.2.1 hd hi (lr_h hL) (by rw [← hL.1]; exact hb2) rfl (fun ls' hl' => k p e s m args below meth c H locs ls' S hH hO hS hb (lr_s1 hL hb2 (nv_h hn) rfl hl') (nv_t hn))
  | some a => exact lv_astore_n S.1 S.2.1 hd hi (lr_h hL) (by rw [← hL.1]; exact hb2) rfl (fun ls' hl' => k p e s m args below meth c H locs ls' S hH hO hS hb (lr_s1 hL hb2 (nv_h hn) rfl hl') (nv_t hn))
theorem A_astore {i : Nat} {r : Option Nat} {L' : List (Option av_T)} (hd : decode M.2.1 pc = .ok (.astore i, 2)) (hb2 : i < L.length) (hl : lst1 L i (av_R r) = L') (k : aw G R M cu su (pc + 2) L' st h Q) : aw G R M cu su pc L (av_R r :: st) h Q := by
  intro p e s m args below meth c H locs ls S hH hO hS hb hL hn
  subst hl
  cases r with
  | none => exact lv_astoreN S.1 S.2.1 hd (lr_h hL) (by rw [← hL.1]; exact hb2) rfl (fun ls' hl' => k p e s m args below meth c H locs ls' S hH hO hS hb (lr_s1 hL hb2 (nv_h hn) rfl hl') (nv_t hn))
  | some a => exact lv_astore S.1 S.2.1 hd (lr_h hL) (by rw [← hL.1]; exact hb2) rfl (fun ls' hl' => k p e s m args below meth c H locs ls' S hH hO hS hb (lr_s1 hL hb2 (nv_h hn) rfl hl') (nv_t hn))
theorem A_astore_nS {n : Fin 4} (i : Nat) {r : Nat} {L' : List (Option av_T)} (hd : decode M.2.1 pc = .ok (.astore_n n, 1)) (hi : (n : Nat) = i) (hb2 : i < L.length) (hl : lst1 L i (av_S r) = L') (k : aw G R M cu su (pc + 1) L' st h Q) : aw G R M cu su pc L (av_S r :: st) h Q := by
  intro p e s m args below meth c H locs ls S hH hO hS hb hL hn
  subst hl
  exact lv_astore_n S.1 S.2.1 hd hi (lr_h hL) (by rw [← hL.1]; exact hb2) rfl (fun ls' hl' => k p e s m args below meth c H locs ls' S hH hO hS hb (lr_s1 hL hb2 (nv_h hn) rfl hl') (nv_t hn))
theorem A_astoreS {i : Nat} {r : Nat} {L' : List (Option av_T)} (hd : decode M.2.1 pc = .ok (.astore i, 2)) (hb2 : i < L.length) (hl : lst1 L i (av_S r) = L') (k : aw G R M cu su (pc + 2) L' st h Q) : aw G R M cu su pc L (av_S r :: st) h Q := by
  intro p e s m args below meth c H locs ls S hH hO hS hb hL hn
  subst hl
  exact lv_astore S.1 S.2.1 hd (lr_h hL) (by rw [← hL.1]; exact hb2) rfl (fun ls' hl' => k p e s m args below meth c H locs ls' S hH hO hS hb (lr_s1 hL hb2 (nv_h hn) rfl hl') (nv_t hn))
theorem A_iinc {i : Nat} {n x : Int} {L' : List (Option av_T)} (hd : decode M.2.1 pc = .ok (.iinc i n, 3)) (hx : L[i]? = some (some (av_I x))) (hl : lst1 L i (av_I (w32 (x + n))) = L') (k : aw G R M cu su (pc + 3) L' st h Q) : aw G R M cu su pc L st h Q := by
  intro p e s m args below meth c H locs ls S hH hO hS hb hL hn
  subst hl
  have hi : i < L.length := (List.getElem?_eq_some_iff.mp hx).1
  obtain ⟨kk, hk⟩ := lr_k (G := G) hx
  exact lv_iinc S.1 S.2.1 hd (lr_h hL) hk (w32_add x n).symm (by rw [← hL.1]; exact hi) rfl (fun ls' hl' => k p e s m args below meth c H locs ls' S hH hO hS hb (lr_s1 (v := av_I (w32 (x + n))) hL hi (w32_in _) rfl hl') hn)
theorem A_iadd {x y : Int} (hd : decode M.2.1 pc = .ok (.iadd, 1)) (k : aw G R M cu su (pc + 1) L (av_I (w32 (x + y)) :: st) h Q) : aw G R M cu su pc L (av_I y :: av_I x :: st) h Q := by
  intro p e s m args below meth c H locs ls S hH hO hS hb hL hn
  refine lv_iadd S.1 S.2.1 hd ?_
  rw [← w32_add x y]
  exact k p e s m args below meth c H locs ls S hH hO hS hb hL (nv_c (w32_in _) (nv_t (nv_t hn)))
theorem A_isub {x y : Int} (hd : decode M.2.1 pc = .ok (.isub, 1)) (k : aw G R M cu su (pc + 1) L (av_I (w32 (x - y)) :: st) h Q) : aw G R M cu su pc L (av_I y :: av_I x :: st) h Q := by
  intro p e s m args below meth c H locs ls S hH hO hS hb hL hn
  refine lv_isub S.1 S.2.1 hd ?_
  rw [← w32_sub x y]
  exact k p e s m args below meth c H locs ls S hH hO hS hb hL (nv_c (w32_in _) (nv_t (nv_t hn)))
theorem A_imul {x y : Int} (hd : decode M.2.1 pc = .ok (.imul, 1)) (k : aw G R M cu su (pc + 1) L (av_I (w32 (x * y)) :: st) h Q) : aw G R M cu su pc L (av_I y :: av_I x :: st) h Q := by
  intro p e s m args below meth c H locs ls S hH hO hS hb hL hn
  refine lv_imul S.1 S.2.1 hd ?_
  rw [← w32_mul (nv_h (nv_t hn)) (nv_h hn)]
  exact k p e s m args below meth c H locs ls S hH hO hS hb hL (nv_c (w32_in _) (nv_t (nv_t hn)))
theorem A_idiv {x y : Int} (hd : decode M.2.1 pc = .ok (.idiv, 1)) (hy : y ≠ 0) (k : aw G R M cu su (pc + 1) L (av_I (w32 (x.tdiv y)) :: st) h Q) : aw G R M cu su pc L (av_I y :: av_I x :: st) h Q := by
  intro p e s m args below meth c H locs ls S hH hO hS hb hL hn
  refine lv_idiv S.1 S.2.1 hd (i32_ne0 (nv_h hn) hy) ?_
  rw [← w32_div (nv_h (nv_t hn)) (nv_h hn)]
  exact k p e s m args below meth c H locs ls S hH hO hS hb hL (nv_c (w32_in _) (nv_t (nv_t hn)))
theorem A_irem {x y : Int} (hd : decode M.2.1 pc = .ok (.irem, 1)) (hy : y ≠ 0) (k : aw G R M cu su (pc + 1) L (av_I (x.tmod y) :: st) h Q) : aw G R M cu su pc L (av_I y :: av_I x :: st) h Q := by
  intro p e s m args below meth c H locs ls S hH hO hS hb hL hn
  refine lv_irem S.1 S.2.1 hd (i32_ne0 (nv_h hn) hy) ?_
  rw [w32_rem (nv_h (nv_t hn)) (nv_h hn) hy]
  exact k p e s m args below meth c H locs ls S hH hO hS hb hL (nv_c (tmod_in32 (nv_h (nv_t hn))) (nv_t (nv_t hn)))
theorem A_ineg {x : Int} (hd : decode M.2.1 pc = .ok (.ineg, 1)) (k : aw G R M cu su (pc + 1) L (av_I (w32 (-x)) :: st) h Q) : aw G R M cu su pc L (av_I x :: st) h Q := by
  intro p e s m args below meth c H locs ls S hH hO hS hb hL hn
  refine lv_ineg S.1 S.2.1 hd ?_
  rw [← w32_neg x]
  exact k p e s m args below meth c H locs ls S hH hO hS hb hL (nv_c (w32_in _) (nv_t hn))
theorem A_iand {x y : Int} (hd : decode M.2.1 pc = .ok (.iand, 1)) (k : aw G R M cu su (pc + 1) L (av_I ((Int32.ofInt x &&& Int32.ofInt y).toInt) :: st) h Q) : aw G R M cu su pc L (av_I y :: av_I x :: st) h Q := by
  intro p e s m args below meth c H locs ls S hH hO hS hb hL hn
  refine lv_iand S.1 S.2.1 hd ?_
  rw [← i32_rt (Int32.ofInt x &&& Int32.ofInt y)]
  exact k p e s m args below meth c H locs ls S hH hO hS hb hL (nv_c (i32_of _) (nv_t (nv_t hn)))
theorem A_ior {x y : Int} (hd : decode M.2.1 pc = .ok (.ior, 1)) (k : aw G R M cu su (pc + 1) L (av_I ((Int32.ofInt x ||| Int32.ofInt y).toInt) :: st) h Q) : aw G R M cu su pc L (av_I y :: av_I x :: st) h Q := by
  intro p e s m args below meth c H locs ls S hH hO hS hb hL hn
  refine lv_ior S.1 S.2.1 hd ?_
  rw [← i32_rt (Int32.ofInt x ||| Int32.ofInt y)]
  exact k p e s m args below meth c H locs ls S hH hO hS hb hL (nv_c (i32_of _) (nv_t (nv_t hn)))
theorem A_ixor {x y : Int} (hd : decode M.2.1 pc = .ok (.ixor, 1)) (k : aw G R M cu su (pc + 1) L (av_I ((Int32.ofInt x ^^^ Int32.ofInt y).toInt) :: st) h Q) : aw G R M cu su pc L (av_I y :: av_I x :: st) h Q := by
  intro p e s m args below meth c H locs ls S hH hO hS hb hL hn
  refine lv_ixor S.1 S.2.1 hd ?_
  rw [← i32_rt (Int32.ofInt x ^^^ Int32.ofInt y)]
  exact k p e s m args below meth c H locs ls S hH hO hS hb hL (nv_c (i32_of _) (nv_t (nv_t hn)))
theorem A_ishl {x y : Int} (hd : decode M.2.1 pc = .ok (.ishl, 1)) (k : aw G R M cu su (pc + 1) L (av_I ((Int32.ofInt x <<< (Int32.ofInt y &&& 31)).toInt) :: st) h Q) : aw G R M cu su pc L (av_I y :: av_I x :: st) h Q := by
  intro p e s m args below meth c H locs ls S hH hO hS hb hL hn
  refine lv_ishl S.1 S.2.1 hd ?_
  rw [← i32_rt (Int32.ofInt x <<< (Int32.ofInt y &&& 31))]
  exact k p e s m args below meth c H locs ls S hH hO hS hb hL (nv_c (i32_of _) (nv_t (nv_t hn)))
theorem A_ishr {x y : Int} (hd : decode M.2.1 pc = .ok (.ishr, 1)) (k : aw G R M cu su (pc + 1) L (av_I ((Int32.ofInt x >>> (Int32.ofInt y &&& 31)).toInt) :: st) h Q) : aw G R M cu su pc L (av_I y :: av_I x :: st) h Q := by
  intro p e s m args below meth c H locs ls S hH hO hS hb hL hn
  refine lv_ishr S.1 S.2.1 hd ?_
  rw [← i32_rt (Int32.ofInt x >>> (Int32.ofInt y &&& 31))]
  exact k p e s m args below meth c H locs ls S hH hO hS hb hL (nv_c (i32_of _) (nv_t (nv_t hn)))
theorem A_iushr {x y : Int} (hd : decode M.2.1 pc = .ok (.iushr, 1)) (k : aw G R M cu su (pc + 1) L (av_I (((Int32.ofInt x).toUInt32 >>> ((Int32.ofInt y).toUInt32 &&& Int32.toUInt32 31)).toInt32.toInt) :: st) h Q) : aw G R M cu su pc L (av_I y :: av_I x :: st) h Q := by
  intro p e s m args below meth c H locs ls S hH hO hS hb hL hn
  refine lv_iushr S.1 S.2.1 hd (i32_rt _).symm ?_
  exact k p e s m args below meth c H locs ls S hH hO hS hb hL (nv_c (i32_of _) (nv_t (nv_t hn)))
theorem A_i2l {x : Int} (hd : decode M.2.1 pc = .ok (.i2l, 1)) (k : aw G R M cu su (pc + 1) L (av_L x :: st) h Q) : aw G R M cu su pc L (av_I x :: st) h Q := by
  intro p e s m args below meth c H locs ls S hH hO hS hb hL hn
  refine lv_i2l S.1 S.2.1 hd (i2l_v (nv_h hn)) ?_
  exact k p e s m args below meth c H locs ls S hH hO hS hb hL (nv_c (i64_i32 (nv_h hn)) (nv_t hn))
theorem A_l2i {x : Int} (hd : decode M.2.1 pc = .ok (.l2i, 1)) (k : aw G R M cu su (pc + 1) L (av_I (w32 x) :: st) h Q) : aw G R M cu su pc L (av_L x :: st) h Q := by
  intro p e s m args below meth c H locs ls S hH hO hS hb hL hn
  refine lv_l2i S.1 S.2.1 hd (l2i_v x) ?_
  exact k p e s m args below meth c H locs ls S hH hO hS hb hL (nv_c (w32_in _) (nv_t hn))
theorem A_i2c {x : Int} (hd : decode M.2.1 pc = .ok (.i2c, 1)) (k : aw G R M cu su (pc + 1) L (av_I ((((Int32.ofInt x).toUInt32 % 65536).toInt32).toInt) :: st) h Q) : aw G R M cu su pc L (av_I x :: st) h Q := by
  intro p e s m args below meth c H locs ls S hH hO hS hb hL hn
  refine lv_i2c S.1 S.2.1 hd (i32_rt _).symm ?_
  exact k p e s m args below meth c H locs ls S hH hO hS hb hL (nv_c (i32_of _) (nv_t hn))
theorem A_ladd {x y : Int} (hd : decode M.2.1 pc = .ok (.ladd, 1)) (k : aw G R M cu su (pc + 1) L (av_L (w64 (x + y)) :: st) h Q) : aw G R M cu su pc L (av_L y :: av_L x :: st) h Q := by
  intro p e s m args below meth c H locs ls S hH hO hS hb hL hn
  refine lv_ladd S.1 S.2.1 hd ?_
  rw [← w64_add x y]
  exact k p e s m args below meth c H locs ls S hH hO hS hb hL (nv_c (w64_in _) (nv_t (nv_t hn)))
theorem A_lsub {x y : Int} (hd : decode M.2.1 pc = .ok (.lsub, 1)) (k : aw G R M cu su (pc + 1) L (av_L (w64 (x - y)) :: st) h Q) : aw G R M cu su pc L (av_L y :: av_L x :: st) h Q := by
  intro p e s m args below meth c H locs ls S hH hO hS hb hL hn
  refine lv_lsub S.1 S.2.1 hd ?_
  rw [← w64_sub x y]
  exact k p e s m args below meth c H locs ls S hH hO hS hb hL (nv_c (w64_in _) (nv_t (nv_t hn)))
theorem A_lmul {x y : Int} (hd : decode M.2.1 pc = .ok (.lmul, 1)) (k : aw G R M cu su (pc + 1) L (av_L (w64 (x * y)) :: st) h Q) : aw G R M cu su pc L (av_L y :: av_L x :: st) h Q := by
  intro p e s m args below meth c H locs ls S hH hO hS hb hL hn
  refine lv_lmul S.1 S.2.1 hd ?_
  rw [← w64_mul (nv_h (nv_t hn)) (nv_h hn)]
  exact k p e s m args below meth c H locs ls S hH hO hS hb hL (nv_c (w64_in _) (nv_t (nv_t hn)))
theorem A_ldiv {x y : Int} (hd : decode M.2.1 pc = .ok (.ldiv, 1)) (hy : y ≠ 0) (k : aw G R M cu su (pc + 1) L (av_L (w64 (x.tdiv y)) :: st) h Q) : aw G R M cu su pc L (av_L y :: av_L x :: st) h Q := by
  intro p e s m args below meth c H locs ls S hH hO hS hb hL hn
  refine lv_ldiv S.1 S.2.1 hd (i64_ne0 (nv_h hn) hy) ?_
  rw [← w64_div (nv_h (nv_t hn)) (nv_h hn)]
  exact k p e s m args below meth c H locs ls S hH hO hS hb hL (nv_c (w64_in _) (nv_t (nv_t hn)))
theorem A_lrem {x y : Int} (hd : decode M.2.1 pc = .ok (.lrem, 1)) (hy : y ≠ 0) (k : aw G R M cu su (pc + 1) L (av_L (x.tmod y) :: st) h Q) : aw G R M cu su pc L (av_L y :: av_L x :: st) h Q := by
  intro p e s m args below meth c H locs ls S hH hO hS hb hL hn
  refine lv_lrem S.1 S.2.1 hd (i64_ne0 (nv_h hn) hy) ?_
  rw [w64_rem (nv_h (nv_t hn)) (nv_h hn) hy]
  exact k p e s m args below meth c H locs ls S hH hO hS hb hL (nv_c (tmod_in64 (nv_h (nv_t hn))) (nv_t (nv_t hn)))
theorem A_lneg {x : Int} (hd : decode M.2.1 pc = .ok (.lneg, 1)) (k : aw G R M cu su (pc + 1) L (av_L (w64 (-x)) :: st) h Q) : aw G R M cu su pc L (av_L x :: st) h Q := by
  intro p e s m args below meth c H locs ls S hH hO hS hb hL hn
  refine lv_lneg S.1 S.2.1 hd ?_
  rw [← w64_neg x]
  exact k p e s m args below meth c H locs ls S hH hO hS hb hL (nv_c (w64_in _) (nv_t hn))
theorem A_land {x y : Int} (hd : decode M.2.1 pc = .ok (.land, 1)) (k : aw G R M cu su (pc + 1) L (av_L ((Int64.ofInt x &&& Int64.ofInt y).toInt) :: st) h Q) : aw G R M cu su pc L (av_L y :: av_L x :: st) h Q := by
  intro p e s m args below meth c H locs ls S hH hO hS hb hL hn
  refine lv_land S.1 S.2.1 hd ?_
  rw [← i64_rt (Int64.ofInt x &&& Int64.ofInt y)]
  exact k p e s m args below meth c H locs ls S hH hO hS hb hL (nv_c (i64_of _) (nv_t (nv_t hn)))
theorem A_lor {x y : Int} (hd : decode M.2.1 pc = .ok (.lor, 1)) (k : aw G R M cu su (pc + 1) L (av_L ((Int64.ofInt x ||| Int64.ofInt y).toInt) :: st) h Q) : aw G R M cu su pc L (av_L y :: av_L x :: st) h Q := by
  intro p e s m args below meth c H locs ls S hH hO hS hb hL hn
  refine lv_lor S.1 S.2.1 hd ?_
  rw [← i64_rt (Int64.ofInt x ||| Int64.ofInt y)]
  exact k p e s m args below meth c H locs ls S hH hO hS hb hL (nv_c (i64_of _) (nv_t (nv_t hn)))
theorem A_lxor {x y : Int} (hd : decode M.2.1 pc = .ok (.lxor, 1)) (k : aw G R M cu su (pc + 1) L (av_L ((Int64.ofInt x ^^^ Int64.ofInt y).toInt) :: st) h Q) : aw G R M cu su pc L (av_L y :: av_L x :: st) h Q := by
  intro p e s m args below meth c H locs ls S hH hO hS hb hL hn
  refine lv_lxor S.1 S.2.1 hd ?_
  rw [← i64_rt (Int64.ofInt x ^^^ Int64.ofInt y)]
  exact k p e s m args below meth c H locs ls S hH hO hS hb hL (nv_c (i64_of _) (nv_t (nv_t hn)))
theorem A_lshl {x y : Int} (hd : decode M.2.1 pc = .ok (.lshl, 1)) (k : aw G R M cu su (pc + 1) L (av_L ((Int64.ofInt x <<< ((Int32.ofInt y).toInt64 &&& 63)).toInt) :: st) h Q) : aw G R M cu su pc L (av_I y :: av_L x :: st) h Q := by
  intro p e s m args below meth c H locs ls S hH hO hS hb hL hn
  refine lv_lshl S.1 S.2.1 hd (i64_rt _).symm ?_
  exact k p e s m args below meth c H locs ls S hH hO hS hb hL (nv_c (i64_of _) (nv_t (nv_t hn)))
theorem A_lshr {x y : Int} (hd : decode M.2.1 pc = .ok (.lshr, 1)) (k : aw G R M cu su (pc + 1) L (av_L ((Int64.ofInt x >>> ((Int32.ofInt y).toInt64 &&& 63)).toInt) :: st) h Q) : aw G R M cu su pc L (av_I y :: av_L x :: st) h Q := by
  intro p e s m args below meth c H locs ls S hH hO hS hb hL hn
  refine lv_lshr S.1 S.2.1 hd (i64_rt _).symm ?_
  exact k p e s m args below meth c H locs ls S hH hO hS hb hL (nv_c (i64_of _) (nv_t (nv_t hn)))
theorem A_lushr {x y : Int} (hd : decode M.2.1 pc = .ok (.lushr, 1)) (k : aw G R M cu su (pc + 1) L (av_L ((((Int64.ofInt x).toUInt64 >>> ((Int32.ofInt y).toInt64.toUInt64 &&& Int64.toUInt64 63)).toInt64).toInt) :: st) h Q) : aw G R M cu su pc L (av_I y :: av_L x :: st) h Q := by
  intro p e s m args below meth c H locs ls S hH hO hS hb hL hn
  refine lv_lushr S.1 S.2.1 hd (i64_rt _).symm ?_
  exact k p e s m args below meth c H locs ls S hH hO hS hb hL (nv_c (i64_of _) (nv_t (nv_t hn)))
theorem A_lcmp {x y : Int} (hd : decode M.2.1 pc = .ok (.lcmp, 1)) (k : aw G R M cu su (pc + 1) L (av_I (cmp_I x y) :: st) h Q) : aw G R M cu su pc L (av_L y :: av_L x :: st) h Q := by
  intro p e s m args below meth c H locs ls S hH hO hS hb hL hn
  refine W.lcmp S.1 S.2.1 hd ?_
  rw [cmp_v (nv_h (nv_t hn)) (nv_h hn)]
  exact k p e s m args below meth c H locs ls S hH hO hS hb hL (nv_c (cmp_in x y) (nv_t (nv_t hn)))
theorem A_dcmp {x y : UInt64} {op : CmpOp} (hd : decode M.2.1 pc = .ok (.dcmp op, 1)) (k : aw G R M cu su (pc + 1) L (av_I ((Op.cmpValue (FP.dcmp x y) op).toInt) :: st) h Q) : aw G R M cu su pc L (av_D y :: av_D x :: st) h Q := by
  intro p e s m args below meth c H locs ls S hH hO hS hb hL hn
  refine lv_dcmp S.1 S.2.1 hd ?_
  rw [← i32_rt (Op.cmpValue (FP.dcmp x y) op)]
  exact k p e s m args below meth c H locs ls S hH hO hS hb hL (nv_c (i32_of _) (nv_t (nv_t hn)))
theorem A_dupI {x : Int} (hd : decode M.2.1 pc = .ok (.dup, 1)) (k : aw G R M cu su (pc + 1) L (av_I x :: av_I x :: st) h Q) : aw G R M cu su pc L (av_I x :: st) h Q := by
  intro p e s m args below meth c H locs ls S hH hO hS hb hL hn
  refine lv_dup S.1 S.2.1 hd rfl ?_
  exact k p e s m args below meth c H locs ls S hH hO hS hb hL (nv_c (nv_h hn) hn)
theorem A_popI {x : Int} (hd : decode M.2.1 pc = .ok (.pop, 1)) (k : aw G R M cu su (pc + 1) L (st) h Q) : aw G R M cu su pc L (av_I x :: st) h Q := by
  intro p e s m args below meth c H locs ls S hH hO hS hb hL hn
  refine lv_pop S.1 S.2.1 hd rfl ?_
  exact k p e s m args below meth c H locs ls S hH hO hS hb hL (nv_t hn)
theorem A_dupR {x : Option Nat} (hd : decode M.2.1 pc = .ok (.dup, 1)) (k : aw G R M cu su (pc + 1) L (av_R x :: av_R x :: st) h Q) : aw G R M cu su pc L (av_R x :: st) h Q := by
  intro p e s m args below meth c H locs ls S hH hO hS hb hL hn
  refine lv_dup S.1 S.2.1 hd (by cases x <;> rfl) ?_
  exact k p e s m args below meth c H locs ls S hH hO hS hb hL (nv_c (nv_h hn) hn)
theorem A_popR {x : Option Nat} (hd : decode M.2.1 pc = .ok (.pop, 1)) (k : aw G R M cu su (pc + 1) L (st) h Q) : aw G R M cu su pc L (av_R x :: st) h Q := by
  intro p e s m args below meth c H locs ls S hH hO hS hb hL hn
  refine lv_pop S.1 S.2.1 hd (by cases x <;> rfl) ?_
  exact k p e s m args below meth c H locs ls S hH hO hS hb hL (nv_t hn)
theorem A_dupS {x : Nat} (hd : decode M.2.1 pc = .ok (.dup, 1)) (k : aw G R M cu su (pc + 1) L (av_S x :: av_S x :: st) h Q) : aw G R M cu su pc L (av_S x :: st) h Q := by
  intro p e s m args below meth c H locs ls S hH hO hS hb hL hn
  refine lv_dup S.1 S.2.1 hd rfl ?_
  exact k p e s m args below meth c H locs ls S hH hO hS hb hL (nv_c (nv_h hn) hn)
theorem A_popS {x : Nat} (hd : decode M.2.1 pc = .ok (.pop, 1)) (k : aw G R M cu su (pc + 1) L (st) h Q) : aw G R M cu su pc L (av_S x :: st) h Q := by
  intro p e s m args below meth c H locs ls S hH hO hS hb hL hn
  refine lv_pop S.1 S.2.1 hd rfl ?_
  exact k p e s m args below meth c H locs ls S hH hO hS hb hL (nv_t hn)
theorem A_dup2RI {r : Option Nat} {x : Int} (hd : decode M.2.1 pc = .ok (.dup2, 1)) (k : aw G R M cu su (pc + 1) L (av_I x :: av_R r :: av_I x :: av_R r :: st) h Q) : aw G R M cu su pc L (av_I x :: av_R r :: st) h Q := by
  intro p e s m args below meth c H locs ls S hH hO hS hb hL hn
  refine lv_dup2_11 S.1 S.2.1 hd rfl (by cases r <;> rfl) ?_
  exact k p e s m args below meth c H locs ls S hH hO hS hb hL (nv_c (nv_h hn) (nv_c trivial hn))
theorem A_dup2L {x : Int} (hd : decode M.2.1 pc = .ok (.dup2, 1)) (k : aw G R M cu su (pc + 1) L (av_L x :: av_L x :: st) h Q) : aw G R M cu su pc L (av_L x :: st) h Q := by
  intro p e s m args below meth c H locs ls S hH hO hS hb hL hn
  refine lv_dup2_2 S.1 S.2.1 hd rfl ?_
  exact k p e s m args below meth c H locs ls S hH hO hS hb hL (nv_c (nv_h hn) hn)
theorem A_pop2L {x : Int} (hd : decode M.2.1 pc = .ok (.pop2, 1)) (k : aw G R M cu su (pc + 1) L (st) h Q) : aw G R M cu su pc L (av_L x :: st) h Q := by
  intro p e s m args below meth c H locs ls S hH hO hS hb hL hn
  refine lv_pop2_2 S.1 S.2.1 hd rfl ?_
  exact k p e s m args below meth c H locs ls S hH hO hS hb hL (nv_t hn)
theorem A_pop2D {x : UInt64} (hd : decode M.2.1 pc = .ok (.pop2, 1)) (k : aw G R M cu su (pc + 1) L (st) h Q) : aw G R M cu su pc L (av_D x :: st) h Q := by
  intro p e s m args below meth c H locs ls S hH hO hS hb hL hn
  refine lv_pop2_2 S.1 S.2.1 hd rfl ?_
  exact k p e s m args below meth c H locs ls S hH hO hS hb hL (nv_t hn)
theorem A_goto {off : Int} {tgt : Nat} (hd : decode M.2.1 pc = .ok (.goto off, 3)) (ht : (pc : Int) + off = (tgt : Int)) (k : aw G R M cu su tgt L st h Q) : aw G R M cu su pc L st h Q := by
  intro p e s m args below meth c H locs ls S hH hO hS hb hL hn
  exact lv_goto S.1 S.2.1 hd ht (k p e s m args below meth c H locs ls S hH hO hS hb hL hn)
theorem A_if_eq {x : Int} {off : Int} {tgt : Nat} (hd : decode M.2.1 pc = .ok (.ifCond .eq off, 3)) (ht : (pc : Int) + off = (tgt : Int)) (kt : x = 0 → aw G R M cu su tgt L st h Q) (kf : ¬ x = 0 → aw G R M cu su (pc + 3) L st h Q) : aw G R M cu su pc L (av_I x :: st) h Q := by
  intro p e s m args below meth c H locs ls S hH hO hS hb hL hn
  exact lv_if_eq S.1 S.2.1 hd ht (fun z => (kt ((i32_eq (nv_h hn) i32_0).mp z)) p e s m args below meth c H locs ls S hH hO hS hb hL (nv_t hn)) (fun z => (kf (fun w => z ((i32_eq (nv_h hn) i32_0).mpr w))) p e s m args below meth c H locs ls S hH hO hS hb hL (nv_t hn))
theorem A_icmp_eq {x y : Int} {off : Int} {tgt : Nat} (hd : decode M.2.1 pc = .ok (.if_icmp .eq off, 3)) (ht : (pc : Int) + off = (tgt : Int)) (kt : x = y → aw G R M cu su tgt L st h Q) (kf : ¬ x = y → aw G R M cu su (pc + 3) L st h Q) : aw G R M cu su pc L (av_I y :: av_I x :: st) h Q := by
  intro p e s m args below meth c H locs ls S hH hO hS hb hL hn
  exact lv_icmp_eq S.1 S.2.1 hd ht (fun z => (kt ((i32_eq (nv_h (nv_t hn)) (nv_h hn)).mp z)) p e s m args below meth c H locs ls S hH hO hS hb hL (nv_t (nv_t hn))) (fun z => (kf (fun w => z ((i32_eq (nv_h (nv_t hn)) (nv_h hn)).mpr w))) p e s m args below meth c H locs ls S hH hO hS hb hL (nv_t (nv_t hn)))
theorem A_if_ne {x : Int} {off : Int} {tgt : Nat} (hd : decode M.2.1 pc = .ok (.ifCond .ne off, 3)) (ht : (pc : Int) + off = (tgt : Int)) (kt : ¬ x = 0 → aw G R M cu su tgt L st h Q) (kf : x = 0 → aw G R M cu su (pc + 3) L st h Q) : aw G R M cu su pc L (av_I x :: st) h Q := by
  intro p e s m args below meth c H locs ls S hH hO hS hb hL hn
  exact lv_if_ne S.1 S.2.1 hd ht (fun z => (kt (fun w => z ((i32_eq (nv_h hn) i32_0).mpr w))) p e s m args below meth c H locs ls S hH hO hS hb hL (nv_t hn)) (fun z => (kf ((i32_eq (nv_h hn) i32_0).mp z)) p e s m args below meth c H locs ls S hH hO hS hb hL (nv_t hn))
theorem A_icmp_ne {x y : Int} {off : Int} {tgt : Nat} (hd : decode M.2.1 pc = .ok (.if_icmp .ne off, 3)) (ht : (pc : Int) + off = (tgt : Int)) (kt : ¬ x = y → aw G R M cu su tgt L st h Q) (kf : x = y → aw G R M cu su (pc + 3) L st h Q) : aw G R M cu su pc L (av_I y :: av_I x :: st) h Q := by
  intro p e s m args below meth c H locs ls S hH hO hS hb hL hn
  exact lv_icmp_ne S.1 S.2.1 hd ht (fun z => (kt (fun w => z ((i32_eq (nv_h (nv_t hn)) (nv_h hn)).mpr w))) p e s m args below meth c H locs ls S hH hO hS hb hL (nv_t (nv_t hn))) (fun z => (kf ((i32_eq (nv_h (nv_t hn)) (nv_h hn)).mp z)) p e s m args below meth c H locs ls S hH hO hS hb hL (nv_t (nv_t hn)))
theorem A_if_lt {x : Int} {off : Int} {tgt : Nat} (hd : decode M.2.1 pc = .ok (.ifCond .lt off, 3)) (ht : (pc : Int) + off = (tgt : Int)) (kt : x < 0 → aw G R M cu su tgt L st h Q) (kf : ¬ x < 0 → aw G R M cu su (pc + 3) L st h Q) : aw G R M cu su pc L (av_I x :: st) h Q := by
  intro p e s m args below meth c H locs ls S hH hO hS hb hL hn
  exact lv_if_lt S.1 S.2.1 hd ht (fun z => (kt ((i32_lt (nv_h hn) i32_0).mp z)) p e s m args below meth c H locs ls S hH hO hS hb hL (nv_t hn)) (fun z => (kf (fun w => z ((i32_lt (nv_h hn) i32_0).mpr w))) p e s m args below meth c H locs ls S hH hO hS hb hL (nv_t hn))
theorem A_icmp_lt {x y : Int} {off : Int} {tgt : Nat} (hd : decode M.2.1 pc = .ok (.if_icmp .lt off, 3)) (ht : (pc : Int) + off = (tgt : Int)) (kt : x < y → aw G R M cu su tgt L st h Q) (kf : ¬ x < y → aw G R M cu su (pc + 3) L st h Q) : aw G R M cu su pc L (av_I y :: av_I x :: st) h Q := by
  intro p e s m args below meth c H locs ls S hH hO hS hb hL hn
  exact lv_icmp_lt S.1 S.2.1 hd ht (fun z => (kt ((i32_lt (nv_h (nv_t hn)) (nv_h hn)).mp z)) p e s m args below meth c H locs ls S hH hO hS hb hL (nv_t (nv_t hn))) (fun z => (kf (fun w => z ((i32_lt (nv_h (nv_t hn)) (nv_h hn)).mpr w))) p e s m args below meth c H locs ls S hH hO hS hb hL (nv_t (nv_t hn)))
theorem A_if_ge {x : Int} {off : Int} {tgt : Nat} (hd : decode M.2.1 pc = .ok (.ifCond .ge off, 3)) (ht : (pc : Int) + off = (tgt : Int)) (kt : 0 ≤ x → aw G R M cu su tgt L st h Q) (kf : ¬ 0 ≤ x → aw G R M cu su (pc + 3) L st h Q) : aw G R M cu su pc L (av_I x :: st) h Q := by
  intro p e s m args below meth c H locs ls S hH hO hS hb hL hn
  exact lv_if_ge S.1 S.2.1 hd ht (fun z => (kt ((i32_le i32_0 (nv_h hn)).mp z)) p e s m args below meth c H locs ls S hH hO hS hb hL (nv_t hn)) (fun z => (kf (fun w => z ((i32_le i32_0 (nv_h hn)).mpr w))) p e s m args below meth c H locs ls S hH hO hS hb hL (nv_t hn))
theorem A_icmp_ge {x y : Int} {off : Int} {tgt : Nat} (hd : decode M.2.1 pc = .ok (.if_icmp .ge off, 3)) (ht : (pc : Int) + off = (tgt : Int)) (kt : y ≤ x → aw G R M cu su tgt L st h Q) (kf : ¬ y ≤ x → aw G R M cu su (pc + 3) L st h Q) : aw G R M cu su pc L (av_I y :: av_I x :: st) h Q := by
  intro p e s m args below meth c H locs ls S hH hO hS hb hL hn
  exact lv_icmp_ge S.1 S.2.1 hd ht (fun z => (kt ((i32_le (nv_h hn) (nv_h (nv_t hn))).mp z)) p e s m args below meth c H locs ls S hH hO hS hb hL (nv_t (nv_t hn))) (fun z => (kf (fun w => z ((i32_le (nv_h hn) (nv_h (nv_t hn))).mpr w))) p e s m args below meth c H locs ls S hH hO hS hb hL (nv_t (nv_t hn)))
theorem A_if_gt {x : Int} {off : Int} {tgt : Nat} (hd : decode M.2.1 pc = .ok (.ifCond .gt off, 3)) (ht : (pc : Int) + off = (tgt : Int)) (kt : 0 < x → aw G R M cu su tgt L st h Q) (kf : ¬ 0 < x → aw G R M cu su (pc + 3) L st h Q) : aw G R M cu su pc L (av_I x :: st) h Q := by
  intro p e s m args below meth c H locs ls S hH hO hS hb hL hn
  exact lv_if_gt S.1 S.2.1 hd ht (fun z => (kt ((i32_lt i32_0 (nv_h hn)).mp z)) p e s m args below meth c H locs ls S hH hO hS hb hL (nv_t hn)) (fun z => (kf (fun w => z ((i32_lt i32_0 (nv_h hn)).mpr w))) p e s m args below meth c H locs ls S hH hO hS hb hL (nv_t hn))
theorem A_icmp_gt {x y : Int} {off : Int} {tgt : Nat} (hd : decode M.2.1 pc = .ok (.if_icmp .gt off, 3)) (ht : (pc : Int) + off = (tgt : Int)) (kt : y < x → aw G R M cu su tgt L st h Q) (kf : ¬ y < x → aw G R M cu su (pc + 3) L st h Q) : aw G R M cu su pc L (av_I y :: av_I x :: st) h Q := by
  intro p e s m args below meth c H locs ls S hH hO hS hb hL hn
  exact lv_icmp_gt S.1 S.2.1 hd ht (fun z => (kt ((i32_lt (nv_h hn) (nv_h (nv_t hn))).mp z)) p e s m args below meth c H locs ls S hH hO hS hb hL (nv_t (nv_t hn))) (fun z => (kf (fun w => z ((i32_lt (nv_h hn) (nv_h (nv_t hn))).mpr w))) p e s m args below meth c H locs ls S hH hO hS hb hL (nv_t (nv_t hn)))
theorem A_if_le {x : Int} {off : Int} {tgt : Nat} (hd : decode M.2.1 pc = .ok (.ifCond .le off, 3)) (ht : (pc : Int) + off = (tgt : Int)) (kt : x ≤ 0 → aw G R M cu su tgt L st h Q) (kf : ¬ x ≤ 0 → aw G R M cu su (pc + 3) L st h Q) : aw G R M cu su pc L (av_I x :: st) h Q := by
  intro p e s m args below meth c H locs ls S hH hO hS hb hL hn
  exact lv_if_le S.1 S.2.1 hd ht (fun z => (kt ((i32_le (nv_h hn) i32_0).mp z)) p e s m args below meth c H locs ls S hH hO hS hb hL (nv_t hn)) (fun z => (kf (fun w => z ((i32_le (nv_h hn) i32_0).mpr w))) p e s m args below meth c H locs ls S hH hO hS hb hL (nv_t hn))
theorem A_icmp_le {x y : Int} {off : Int} {tgt : Nat} (hd : decode M.2.1 pc = .ok (.if_icmp .le off, 3)) (ht : (pc : Int) + off = (tgt : Int)) (kt : x ≤ y → aw G R M cu su tgt L st h Q) (kf : ¬ x ≤ y → aw G R M cu su (pc + 3) L st h Q) : aw G R M cu su pc L (av_I y :: av_I x :: st) h Q := by
  intro p e s m args below meth c H locs ls S hH hO hS hb hL hn
  exact lv_icmp_le S.1 S.2.1 hd ht (fun z => (kt ((i32_le (nv_h (nv_t hn)) (nv_h hn)).mp z)) p e s m args below meth c H locs ls S hH hO hS hb hL (nv_t (nv_t hn))) (fun z => (kf (fun w => z ((i32_le (nv_h (nv_t hn)) (nv_h hn)).mpr w))) p e s m args below meth c H locs ls S hH hO hS hb hL (nv_t (nv_t hn)))
theorem A_ifnull {r : Option Nat} {off : Int} {tgt : Nat} (hd : decode M.2.1 pc = .ok (.ifnull off, 3)) (ht : (pc : Int) + off = (tgt : Int)) (kt : r = none → aw G R M cu su tgt L st h Q) (kf : ∀ a, r = some a → aw G R M cu su (pc + 3) L st h Q) : aw G R M cu su pc L (av_R r :: st) h Q := by
  intro p e s m args below meth c H locs ls S hH hO hS hb hL hn
  cases r with
  | none => exact lv_ifnullN S.1 S.2.1 hd ht ((kt rfl) p e s m args below meth c H locs ls S hH hO hS hb hL (nv_t hn))
  | some a => exact lv_ifnull S.1 S.2.1 hd ((kf a rfl) p e s m args below meth c H locs ls S hH hO hS hb hL (nv_t hn))
theorem A_ifnonnull {r : Option Nat} {off : Int} {tgt : Nat} (hd : decode M.2.1 pc = .ok (.ifnonnull off, 3)) (ht : (pc : Int) + off = (tgt : Int)) (kt : ∀ a, r = some a → aw G R M cu su tgt L st h Q) (kf : r = none → aw G R M cu su (pc + 3) L st h Q) : aw G R M cu su pc L (av_R r :: st) h Q := by
  intro p e s m args below meth c H locs ls S hH hO hS hb hL hn
  cases r with
  | none => exact lv_ifnonnullN S.1 S.2.1 hd ((kf rfl) p e s m args below meth c H locs ls S hH hO hS hb hL (nv_t hn))
  | some a => exact lv_ifnonnull S.1 S.2.1 hd ht ((kt a rfl) p e s m args below meth c H locs ls S hH hO hS hb hL (nv_t hn))
theorem A_tabIn {x : Int} {dflt lo hi : Int} {offs : Array Int} {len : Nat} {off : Int} {tgt : Nat} (hd : decode M.2.1 pc = .ok (.tableswitch dflt lo hi offs, len)) (h1 : lo ≤ x) (h2 : x ≤ hi) (ho : offs[(x - lo).toNat]? = some off) (ht : (pc : Int) + off = (tgt : Int)) (k : aw G R M cu su tgt L st h Q) : aw G R M cu su pc L (av_I x :: st) h Q := by
  intro p e s m args below meth c H locs ls S hH hO hS hb hL hn
  have e1 := i32_tn (nv_h hn)
  exact lv_tableIn S.1 S.2.1 hd (by rw [e1]; omega) (by rw [e1]; omega) (by rw [e1]; exact ho) ht (k p e s m args below meth c H locs ls S hH hO hS hb hL (nv_t hn))
theorem A_tabOut {x : Int} {dflt lo hi : Int} {offs : Array Int} {len : Nat} {tgt : Nat} (hd : decode M.2.1 pc = .ok (.tableswitch dflt lo hi offs, len)) (h1 : x < lo ∨ hi < x) (ht : (pc : Int) + dflt = (tgt : Int)) (k : aw G R M cu su tgt L st h Q) : aw G R M cu su pc L (av_I x :: st) h Q := by
  intro p e s m args below meth c H locs ls S hH hO hS hb hL hn
  have e1 := i32_tn (nv_h hn)
  exact lv_tableOut S.1 S.2.1 hd (by rw [e1]; exact h1) ht (k p e s m args below meth c H locs ls S hH hO hS hb hL (nv_t hn))
theorem A_nmI {x : Int} (k : ∀ y : Int, y = x → aw G R M cu su pc L (av_I y :: st) h Q) : aw G R M cu su pc L (av_I x :: st) h Q := k x rfl
theorem A_nmL {x : Int} (k : ∀ y : Int, y = x → aw G R M cu su pc L (av_L y :: st) h Q) : aw G R M cu su pc L (av_L x :: st) h Q := k x rfl
theorem A_rgI {x : Int} (k : i32 x → aw G R M cu su pc L (av_I x :: st) h Q) : aw G R M cu su pc L (av_I x :: st) h Q := by
  intro p e s m args below meth c H locs ls S hH hO hS hb hL hn
  exact (k (nv_h hn)) p e s m args below meth c H locs ls S hH hO hS hb hL hn
theorem A_rgL {x : Int} (k : i64 x → aw G R M cu su pc L (av_L x :: st) h Q) : aw G R M cu su pc L (av_L x :: st) h Q := by
  intro p e s m args below meth c H locs ls S hH hO hS hb hL hn
  exact (k (nv_h hn)) p e s m args below meth c H locs ls S hH hO hS hb hL hn
theorem A_locI (i : Nat) {x : Int} (hl : L[i]? = some (some (av_I x))) (k : i32 x → aw G R M cu su pc L st h Q) : aw G R M cu su pc L st h Q := by
  intro p e s m args below meth c H locs ls S hH hO hS hb hL hn
  exact (k (hL.2.2.2 i _ hl).2) p e s m args below meth c H locs ls S hH hO hS hb hL hn
theorem A_locL (i : Nat) {x : Int} (hl : L[i]? = some (some (av_L x))) (k : i64 x → aw G R M cu su pc L st h Q) : aw G R M cu su pc L st h Q := by
  intro p e s m args below meth c H locs ls S hH hO hS hb hL hn
  exact (k (hL.2.2.2 i _ hl).2) p e s m args below meth c H locs ls S hH hO hS hb hL hn
theorem A_heap (k : (∀ a k, i32 (h.2.1 a k)) → (∀ a k, i64 (h.2.2.1 a k)) → (∀ a, h.1.length ≤ a → ∀ k, h.2.1 a k = 0 ∧ h.2.2.1 a k = 0 ∧ h.2.2.2 a k = none) → aw G R M cu su pc L st h Q) : aw G R M cu su pc L st h Q := by
  intro p e s m args below meth c H locs ls S hH hO hS hb hL hn
  exact (k hH.2.2.2.1 hH.2.2.2.2 hH.2.2.1) p e s m args below meth c H locs ls S hH hO hS hb hL hn
theorem A_pc {pc' : Nat} (hp : pc = pc') (k : aw G R M cu su pc' L st h Q) : aw G R M cu su pc L st h Q := hp ▸ k
theorem A_iret {x : Int} (hd : decode M.2.1 pc = .ok (.ireturn, 1)) (hc : cu ≤ R.cells ∧ su ≤ R.slots) (hr : M.2.2.2 = some .int) (hq : Q (some (av_I x)) h) : aw G R M cu su pc L [av_I x] h Q := by
  intro p e s m args below meth c H locs ls S hH hO hS hb hL hn
  refine W.widen hc.1 hc.2 ?_
  exact W.iret S.1 S.2.1 (S.2.2.2.2.2.2.1.trans hr) (fun t ht hw => ⟨⟨some (av_I x), h, rfl, (fun v hv => by cases hv; exact nv_h hn), hq, by rw [ht]; exact hH, ro_end hO hS ht hw⟩, hS.F ht⟩) hS.2.2 hd S.2.2.2.2.2.2.2.1
theorem A_zret {x : Int} (hd : decode M.2.1 pc = .ok (.ireturn, 1)) (hc : cu ≤ R.cells ∧ su ≤ R.slots) (hr : M.2.2.2 = some .boolean) (h01 : x = 0 ∨ x = 1) (hq : Q (some (av_I x)) h) : aw G R M cu su pc L [av_I x] h Q := by
  intro p e s m args below meth c H locs ls S hH hO hS hb hL hn
  refine W.widen hc.1 hc.2 ?_
  exact W.zret S.1 S.2.1 (S.2.2.2.2.2.2.1.trans hr) (nar_b h01) (fun t ht hw => ⟨⟨some (av_I x), h, rfl, (fun v hv => by cases hv; exact nv_h hn), hq, by rw [ht]; exact hH, ro_end hO hS ht hw⟩, hS.F ht⟩) hS.2.2 hd S.2.2.2.2.2.2.2.1
theorem A_cret {x : Int} (hd : decode M.2.1 pc = .ok (.ireturn, 1)) (hc : cu ≤ R.cells ∧ su ≤ R.slots) (hr : M.2.2.2 = some .char) (h01 : 0 ≤ x ∧ x < 65536) (hq : Q (some (av_I x)) h) : aw G R M cu su pc L [av_I x] h Q := by
  intro p e s m args below meth c H locs ls S hH hO hS hb hL hn
  refine W.widen hc.1 hc.2 ?_
  exact W.zret S.1 S.2.1 (S.2.2.2.2.2.2.1.trans hr) (nar_c h01) (fun t ht hw => ⟨⟨some (av_I x), h, rfl, (fun v hv => by cases hv; exact nv_h hn), hq, by rw [ht]; exact hH, ro_end hO hS ht hw⟩, hS.F ht⟩) hS.2.2 hd S.2.2.2.2.2.2.2.1
theorem A_lret {x : Int} (hd : decode M.2.1 pc = .ok (.lreturn, 1)) (hc : cu ≤ R.cells ∧ su ≤ R.slots) (hr : M.2.2.2 = some .long) (hq : Q (some (av_L x)) h) : aw G R M cu su pc L [av_L x] h Q := by
  intro p e s m args below meth c H locs ls S hH hO hS hb hL hn
  refine W.widen hc.1 hc.2 ?_
  exact W.lret S.1 S.2.1 (S.2.2.2.2.2.2.1.trans hr) (fun t ht hw => ⟨⟨some (av_L x), h, rfl, (fun v hv => by cases hv; exact nv_h hn), hq, by rw [ht]; exact hH, ro_end hO hS ht hw⟩, hS.F ht⟩) hS.2.2 hd S.2.2.2.2.2.2.2.1
theorem A_dret {x : UInt64} (hd : decode M.2.1 pc = .ok (.dreturn, 1)) (hc : cu ≤ R.cells ∧ su ≤ R.slots) (hr : M.2.2.2 = some .double) (hq : Q (some (av_D x)) h) : aw G R M cu su pc L [av_D x] h Q := by
  intro p e s m args below meth c H locs ls S hH hO hS hb hL hn
  refine W.widen hc.1 hc.2 ?_
  exact W.dret S.1 S.2.1 (S.2.2.2.2.2.2.1.trans hr) (fun t ht hw => ⟨⟨some (av_D x), h, rfl, (fun v hv => by cases hv; exact nv_h hn), hq, by rw [ht]; exact hH, ro_end hO hS ht hw⟩, hS.F ht⟩) hS.2.2 hd S.2.2.2.2.2.2.2.1
theorem A_aret {r : Option Nat} (hd : decode M.2.1 pc = .ok (.areturn, 1)) (hc : cu ≤ R.cells ∧ su ≤ R.slots) {rt : FieldType} (hr : M.2.2.2 = some rt) (hrt : (∃ n, rt = .object n) ∨ ∃ t, rt = .array t) (hq : Q (some (av_R r)) h) : aw G R M cu su pc L [av_R r] h Q := by
  intro p e s m args below meth c H locs ls S hH hO hS hb hL hn
  refine W.widen hc.1 hc.2 ?_
  exact W.aret S.1 S.2.1 (S.2.2.2.2.2.2.1.trans hr) hrt (cv_ref r) (fun t ht hw => ⟨⟨some (av_R r), h, rfl, (fun v hv => by cases hv; exact nv_h hn), hq, by rw [ht]; exact hH, ro_end hO hS ht hw⟩, hS.F ht⟩) hS.2.2 hd S.2.2.2.2.2.2.2.1
theorem A_vret  (hd : decode M.2.1 pc = .ok (.return_, 1)) (hc : cu ≤ R.cells ∧ su ≤ R.slots) (hr : M.2.2.2 = none) (hq : Q none h) : aw G R M cu su pc L [] h Q := by
  intro p e s m args below meth c H locs ls S hH hO hS hb hL hn
  refine W.widen hc.1 hc.2 ?_
  exact W.vret S.1 S.2.1 (S.2.2.2.2.2.2.1.trans hr) (fun t ht hw => ⟨⟨none, h, rfl, (fun v hv => by cases hv), hq, by rw [ht]; exact hH, ro_end hO hS ht hw⟩, hS.F ht⟩) hS.2.2 hd S.2.2.2.2.2.2.2.1
end AWR
end
section
/-! ===== rows of the abstract machine that read and write the heap, make cells, call ===== -/
def fl_OK (own : String) (idx c k : Nat) (ty : FieldType) (fin : Bool) : Prop := ∃ q : vw_C, classes[c]? = some q ∧ k < q.2.2 ∧ Cond.fieldLink own idx (q.2.1 k).1 (q.2.1 k).2.1 (q.2.1 k).2.2.1 ∈ gw ∧ f_ty c k = ty ∧ (q.2.1 k).2.2.2 = fin
def cl_F (c : Nat) (q : vw_C) : Prop := (∀ w ∈ u_ws q.1 q.2.1 q.2.2, w ∈ gw) ∧ (∀ k, k < q.2.2 → parseFieldDescriptor (q.2.1 k).2.2.1 = some (f_ty c k)) ∧ (∀ a, a < q.2.2 → ∀ b, b < q.2.2 → a ≠ b → (q.2.1 a).2.1 ≠ (q.2.1 b).2.1) ∧ Cond.instantiable q.1 q.2.2 ∈ gw ∧ Cond.initialized q.1 ∈ gw ∧ ∀ k, k < q.2.2 → (q.2.1 k).1 = q.1
def tbl_OK : Prop := ∀ c q, classes[c]? = some q → cl_F c q
theorem hr_lt {G : cx_T} {h : ah_T} {H : Heap} (hH : hr_OK G h H) {a kd n : Nat} (hs : h.1[a]? = some (kd, n)) : a < h.1.length ∧ cx_b G + a < H.size := by
  have h1 := (List.getElem?_eq_some_iff.mp hs).1
  exact ⟨h1, by rw [hH.1]; omega⟩
theorem hr_upd {G : cx_T} {h h' : ah_T} {H H1 : Heap} (hH : hr_OK G h H) {a kd n : Nat} (hs : h.1[a]? = some (kd, n)) (hsh : h'.1 = h.1) (ho : ∀ x, x ≠ a → h'.2.1 x = h.2.1 x ∧ h'.2.2.1 x = h.2.2.1 x ∧ h'.2.2.2 x = h.2.2.2 x)
    (hr1 : ∀ k, i32 (h'.2.1 a k)) (hr2 : ∀ k, i64 (h'.2.2.1 a k)) (z : H1.size = H.size) (oq : ∀ q : Nat, q ≠ cx_b G + a → H1[q]? = H[q]?) (hc : cell_R G kd n (h'.2.1 a) (h'.2.2.1 a) (h'.2.2.2 a) (cx_b G + a) H1) : hr_OK G h' H1 := by
  obtain ⟨h1, h2, h3, h4, h5⟩ := hH
  have hlt := (List.getElem?_eq_some_iff.mp hs).1
  refine ⟨by rw [z, h1, hsh], fun x kx nx hx => ?_, fun x hx k => ?_, fun x k => ?_, fun x k => ?_⟩
  · rw [hsh] at hx
    by_cases hxa : x = a
    · subst hxa
      rw [hs] at hx
      cases hx
      exact hc
    · obtain ⟨o1, o2, o3⟩ := ho x hxa
      rw [o1, o2, o3]
      exact (h2 x kx nx hx).kept (oq _ (by omega))
  · rw [hsh] at hx
    obtain ⟨o1, o2, o3⟩ := ho x (by omega)
    rw [o1, o2, o3]
    exact h3 x hx k
  · by_cases hxa : x = a
    · subst hxa; exact hr1 k
    · rw [(ho x hxa).1]; exact h4 x k
  · by_cases hxa : x = a
    · subst hxa; exact hr2 k
    · rw [(ho x hxa).2.1]; exact h5 x k
theorem up1_i32 {f : Nat → Int} {k : Nat} {z : Int} (hf : ∀ j, i32 (f j)) (hz : i32 z) : ∀ j, i32 (up1 f k z j) := by
  intro j
  unfold up1
  split
  · exact hz
  · exact hf j
theorem up1_i64 {f : Nat → Int} {k : Nat} {z : Int} (hf : ∀ j, i64 (f j)) (hz : i64 z) : ∀ j, i64 (up1 f k z j) := by
  intro j
  unfold up1
  split
  · exact hz
  · exact hf j
theorem fvi_up {b : Nat} {ty : Nat → FieldType} {fi fl : Nat → Int} {fr : Nat → Option Nat} {k : Nat} {z : Int} (hk : ty k = .int ∨ ty k = .boolean) (j : Nat) : fv_V b (ty j) (up1 fi k z) fl fr j = updV (fun j => fv_V b (ty j) fi fl fr j) k (.int (Int32.ofInt z)) j := by
  by_cases hj : j = k
  · subst hj
    rcases hk with hk | hk <;> simp [updV, hk, fv_V, up1]
  · simp only [updV, hj, if_false]
    cases hty : ty j <;> simp [fv_V, up1, hj]
theorem fvl_up {b : Nat} {ty : Nat → FieldType} {fi fl : Nat → Int} {fr : Nat → Option Nat} {k : Nat} {z : Int} (hk : ty k = .long) (j : Nat) : fv_V b (ty j) fi (up1 fl k z) fr j = updV (fun j => fv_V b (ty j) fi fl fr j) k (.long (Int64.ofInt z)) j := by
  by_cases hj : j = k
  · subst hj
    simp [updV, hk, fv_V, up1]
  · simp only [updV, hj, if_false]
    cases hty : ty j <;> simp [fv_V, up1, hj]
theorem fvr_up {b : Nat} {ty : Nat → FieldType} {fi fl : Nat → Int} {fr : Nat → Option Nat} {k : Nat} {z : Option Nat} (hk : (∃ n, ty k = .object n) ∨ ∃ n, ty k = .array n) (j : Nat) : fv_V b (ty j) fi fl (up1 fr k z) j = updV (fun j => fv_V b (ty j) fi fl fr j) k (va_rf (z.map (fun a => b + a))) j := by
  by_cases hj : j = k
  · subst hj
    rcases hk with ⟨n, hk⟩ | ⟨n, hk⟩ <;> simp [updV, hk, fv_V, up1]
  · simp only [updV, hj, if_false]
    cases hty : ty j <;> simp [fv_V, up1, hj]
theorem fit_r {ty : FieldType} (hk : (∃ n, ty = .object n) ∨ ∃ n, ty = .array n) (b : Nat) (z : Option Nat) : narrow ty (va_rf (z.map (fun a => b + a))) = va_rf (z.map (fun a => b + a)) ∧ fits ty (va_rf (z.map (fun a => b + a))) = true := by
  rcases hk with ⟨n, rfl⟩ | ⟨n, rfl⟩ <;> cases z <;> exact ⟨rfl, rfl⟩
theorem fit_b {z : Int} (h : z = 0 ∨ z = 1) : fits .boolean (.int (Int32.ofInt z)) = true := by
  rcases h with rfl | rfl <;> rfl
/-- n cells of a kind -/
theorem c_arr_K {G : cx_T} {U : State} (h : kf_OK G U) : ∀ (k : Nat) (q : ClassId × FieldType), (c_arr G)[k]? = some q → ArrOfT U q.1 q.2 ∧ va_RA U q.1 q.2 := h.1.2
section AWH
variable {G : cx_T} {R : Room} {M : mr_T} {cu su pc : Nat} {L : List (Option av_T)} {st : List av_T} {h : ah_T} {Q : Option av_T → ah_T → Prop}
theorem get_W {own : String} {idx c k : Nat} {ty : FieldType} {fin : Bool} {a n : Nat} (hT : tbl_OK) (hd : decode M.2.1 pc = .ok (.getfield idx, 3)) (hf : fl_OK M.1.cls idx c k ty fin) (hs : h.1[a]? = some (c + 4, n)) (v : av_T) (hv : cv G v = fv_V (cx_b G) ty (h.2.1 a) (h.2.2.1 a) (h.2.2.2 a) k)
    (hnv : hr_OK G h (#[] : Heap) ∨ ((∀ a k, i32 (h.2.1 a k)) → (∀ a k, i64 (h.2.2.1 a k)) → nv v)) (kk : aw G R M cu su (pc + 3) L (v :: st) h Q) : aw G R M cu su pc L (av_R (some a) :: st) h Q := by
  intro p e s m args below meth cd H locs ls S hH hO hS hb hL hn
  obtain ⟨r, h1, h2, ⟨cell, q1, q2, q3, q4⟩, h5⟩ := hH.2.1 a _ _ hs
  obtain ⟨q, g1, g2, g3, g4, g5⟩ := hf
  have hrq : r = q := Option.some.inj (h1.symm.trans g1)
  subst hrq
  obtain ⟨k1, k2, k3, k4, k5, k6⟩ := hT c r g1
  obtain ⟨hS2, hfc, kC, hkC, hkind⟩ := S.2.2.2.2.2.1.1.1 c _ g1
  obtain ⟨cf, kf, fi, f, hi, hsl⟩ := hS2 k g2
  have hnv' : nv v := by
    rcases hnv with z | z
    · exact absurd z.1 (by have := (List.getElem?_eq_some_iff.mp hs).1; simp; omega)
    · exact z hH.2.2.2.1 hH.2.2.2.2
  refine W.getf S.1 S.2.1 S.2.2.2.1 (S.2.2.2.2.1 _ g3) hi (u_facts hfc hkC (u_lays S.2.2.2.2.1 k1 g2) hi).1 q1 (by rw [q3]; exact fun h => by cases h) (v := cv G v) ?_ rfl rfl hd (kk p e s m args below meth cd H locs ls S hH hO hS hb hL (nv_c hnv' (nv_t hn)))
  rw [hsl, q4 k (by rw [h2]; exact g2), hv]
  show some (fv_V _ (f_ty c k) _ _ _ k) = _
  rw [g4]
theorem A_getI {idx c k : Nat} {fin : Bool} {a n : Nat} (hT : tbl_OK) (hd : decode M.2.1 pc = .ok (.getfield idx, 3)) (hf : fl_OK M.1.cls idx c k .int fin) (hs : h.1[a]? = some (c + 4, n)) (kk : aw G R M cu su (pc + 3) L (av_I (h.2.1 a k) :: st) h Q) : aw G R M cu su pc L (av_R (some a) :: st) h Q :=
  get_W (own := "") hT hd hf hs (av_I (h.2.1 a k)) rfl (Or.inr fun z _ => z a k) kk
theorem A_getZ {idx c k : Nat} {fin : Bool} {a n : Nat} (hT : tbl_OK) (hd : decode M.2.1 pc = .ok (.getfield idx, 3)) (hf : fl_OK M.1.cls idx c k .boolean fin) (hs : h.1[a]? = some (c + 4, n)) (kk : (h.2.1 a k = 0 ∨ h.2.1 a k = 1) → aw G R M cu su (pc + 3) L (av_I (h.2.1 a k) :: st) h Q) : aw G R M cu su pc L (av_R (some a) :: st) h Q := by
  intro p e s m args below meth cd H locs ls S hH hO hS hb hL hn
  obtain ⟨r, h1, h2, h3, h4⟩ := hH.2.1 a _ _ hs
  obtain ⟨q, g1, g2, g3, g4, g5⟩ := id hf
  exact get_W (own := "") hT hd hf hs (av_I (h.2.1 a k)) rfl (Or.inr fun z _ => z a k) (kk (h4 k g4)) p e s m args below meth cd H locs ls S hH hO hS hb hL hn
theorem A_getL {idx c k : Nat} {fin : Bool} {a n : Nat} (hT : tbl_OK) (hd : decode M.2.1 pc = .ok (.getfield idx, 3)) (hf : fl_OK M.1.cls idx c k .long fin) (hs : h.1[a]? = some (c + 4, n)) (kk : aw G R M cu su (pc + 3) L (av_L (h.2.2.1 a k) :: st) h Q) : aw G R M cu su pc L (av_R (some a) :: st) h Q :=
  get_W (own := "") hT hd hf hs (av_L (h.2.2.1 a k)) rfl (Or.inr fun _ z => z a k) kk
theorem A_getA {idx c k : Nat} {t : FieldType} {fin : Bool} {a n : Nat} (hT : tbl_OK) (hd : decode M.2.1 pc = .ok (.getfield idx, 3)) (hf : fl_OK M.1.cls idx c k (.array t) fin) (hs : h.1[a]? = some (c + 4, n)) (kk : aw G R M cu su (pc + 3) L (av_R (h.2.2.2 a k) :: st) h Q) : aw G R M cu su pc L (av_R (some a) :: st) h Q :=
  get_W (own := "") hT hd hf hs (av_R (h.2.2.2 a k)) rfl (Or.inr fun _ _ => trivial) kk
theorem A_getO {idx c k : Nat} {t : String} {fin : Bool} {a n : Nat} (hT : tbl_OK) (hd : decode M.2.1 pc = .ok (.getfield idx, 3)) (hf : fl_OK M.1.cls idx c k (.object t) fin) (hs : h.1[a]? = some (c + 4, n)) (kk : aw G R M cu su (pc + 3) L (av_R (h.2.2.2 a k) :: st) h Q) : aw G R M cu su pc L (av_R (some a) :: st) h Q :=
  get_W (own := "") hT hd hf hs (av_R (h.2.2.2 a k)) rfl (Or.inr fun _ _ => trivial) kk
theorem put_W {idx c k : Nat} {ty : FieldType} {fin : Bool} {a n : Nat} {w : av_T} {h' : ah_T} (hT : tbl_OK) (hd : decode M.2.1 pc = .ok (.putfield idx, 3)) (hf : fl_OK M.1.cls idx c k ty fin) (hs : h.1[a]? = some (c + 4, n)) (hfin : fin = false ∨ (M.1.name = "<init>" ∧ ∀ q, classes[c]? = some q → q.1 = M.1.cls))
    (hn0 : nv w → narrow ty (cv G w) = cv G w ∧ fits ty (cv G w) = true) (hsh : h'.1 = h.1) (ho : ∀ x, x ≠ a → h'.2.1 x = h.2.1 x ∧ h'.2.2.1 x = h.2.2.1 x ∧ h'.2.2.2 x = h.2.2.2 x)
    (hr1 : nv w → (∀ k, i32 (h.2.1 a k)) → ∀ k, i32 (h'.2.1 a k)) (hr2 : nv w → (∀ k, i64 (h.2.2.1 a k)) → ∀ k, i64 (h'.2.2.1 a k))
    (hV : f_ty c k = ty → ∀ j, updV (fun j => fv_V (cx_b G) (f_ty c j) (h.2.1 a) (h.2.2.1 a) (h.2.2.2 a) j) k (cv G w) j = fv_V (cx_b G) (f_ty c j) (h'.2.1 a) (h'.2.2.1 a) (h'.2.2.2 a) j) (hb0 : f_ty c k = ty → (∀ j, f_ty c j = .boolean → h.2.1 a j = 0 ∨ h.2.1 a j = 1) → ∀ j, f_ty c j = .boolean → h'.2.1 a j = 0 ∨ h'.2.1 a j = 1)
    (kk : aw G R M cu su (pc + 3) L st h' Q) : aw G R M cu su pc L (w :: av_R (some a) :: st) h Q := by
  intro p e s m args below meth cd H locs ls S hH hO hS hb hL hn
  obtain ⟨r, h1, h2, ⟨cell, q1, q2, q3, q4⟩, h5⟩ := id (hH.2.1 a _ _ hs)
  obtain ⟨q, g1, g2, g3, g4, g5⟩ := hf
  have hrq : r = q := Option.some.inj (h1.symm.trans g1)
  subst hrq
  obtain ⟨k1, k2, k3, k4, k5, k6⟩ := hT c r g1
  have hKn := S.2.2.2.2.2.1.1.1 c _ g1
  obtain ⟨hS2, hfc, kC, hkC, hkind⟩ := id hKn
  obtain ⟨cf, kf, fi, f, hi, hsl⟩ := hS2 k g2
  have hst := (u_facts hfc hkC (u_lays S.2.2.2.2.1 k1 g2) hi).1
  have hdk : parseFieldDescriptor (r.2.1 k).2.2.1 = some ty := by rw [k2 k g2, g4]
  obtain ⟨n1, n2⟩ := hn0 (nv_h hn)
  have hap := va_apart (own := M.1.cls) (T := r.2.1) S.2.2.2.2.1 k1 (f_ty c) k2 k3 S.2.2.2.2.2.1.1 g1
  have fin2 : ∀ H1 : Heap, H1[cx_b G + a]? = some (cell.setSlot f.slot (cv G w)) → H1.size = H.size → (∀ q : Nat, q ≠ cx_b G + a → H1[q]? = H[q]?) → W p (cx_l G) e R s m args below meth cd H1 (locs ++ [⟨cx_b G + a, f.slot⟩]) cu su (MQ below (qc_Q G Q) args s R.cells R.slots (fr_A G)) (F0 m (pc + 3) ls (st.map (cv G))) := by
    intro H1 e1 e2 e3
    rw [hsl] at e1 ⊢
    refine kk p e s m args below meth cd H1 _ ls S ?_ hO (hS.put e2 e3 (Nat.le_add_right _ _)) hb hL (nv_t (nv_t hn))
    refine hr_upd hH hs hsh ho (hr1 (nv_h hn) (hH.2.2.2.1 a)) (hr2 (nv_h hn) (hH.2.2.2.2 a)) e2 e3 ⟨r, g1, h2, ?_, hb0 g4 h5⟩
    refine t_OB.to (V := updV (fun j => fv_V (cx_b G) (f_ty c j) (h.2.1 a) (h.2.2.1 a) (h.2.2.2 a) j) k (cv G w)) ⟨_, e1, q2, q3, ?_⟩ (fun j _ => hV g4 j)
    rw [h2] at q4 ⊢
    exact t_set q4 hap g2 (cv G w)
  rcases hfin with hfin | ⟨hin, hcl⟩
  · have hlay := S.2.2.2.2.1 _ (k1 _ (u_in_lay g2))
    unfold u_lay at hlay
    rw [if_neg (by rw [g5, hfin]; decide)] at hlay
    have h6 := u_store hfc hkC hkind hlay hi hdk n1 n2
    exact W.putK S.1 S.2.1 (f := f) ⟨S.2.2.2.1, S.2.2.2.2.1 _ g3, ⟨_, _, _, hi⟩, hst⟩ (by rw [q2]; exact h6) q1 q3 (by rw [hsl]; exact k2_hasslot (q4 k (by rw [h2]; exact g2))) rfl rfl hd fin2
  · cases fin with
    | false =>
      have hlay := S.2.2.2.2.1 _ (k1 _ (u_in_lay g2))
      unfold u_lay at hlay
      rw [if_neg (by rw [g5]; decide)] at hlay
      have h6 := u_store hfc hkC hkind hlay hi hdk n1 n2
      exact W.putK S.1 S.2.1 (f := f) ⟨S.2.2.2.1, S.2.2.2.2.1 _ g3, ⟨_, _, _, hi⟩, hst⟩ (by rw [q2]; exact h6) q1 q3 (by rw [hsl]; exact k2_hasslot (q4 k (by rw [h2]; exact g2))) rfl rfl hd fin2
    | true =>
      have hlay := S.2.2.2.2.1 _ (k1 _ (u_in_lay g2))
      unfold u_lay at hlay
      rw [if_pos g5] at hlay
      have hcf : m.cls = cf := by
        obtain ⟨_, _, c', _, _, _, -, -, hf', -, -, -, hown2, -⟩ := Cond.laysFinal_spec hlay
        have e1 : c' = cf := by have := hi.symm.trans hf'; simp at this; exact this.1.symm
        rw [k6 k g2, hcl r g1] at hown2
        rw [← e1]; exact Option.some.inj (S.2.2.2.1.symm.trans hown2)
      have h6 := u_fits hfc hkC hkind (Or.inr hlay) hi hdk n1 n2
      exact W.putFinK S.1 S.2.1 S.2.2.2.1 (S.2.2.2.2.1 _ g3) hi hst hcf (S.2.2.2.2.2.2.2.2 hin) (by rw [q2]; exact h6) q1 q3 (by rw [hsl]; exact k2_hasslot (q4 k (by rw [h2]; exact g2))) rfl rfl hd fin2
abbrev fin_OK (M : mr_T) (c : Nat) (fin : Bool) : Prop := fin = false ∨ (M.1.name = "<init>" ∧ ∀ q, classes[c]? = some q → q.1 = M.1.cls)
theorem A_putI {idx c k : Nat} {fin : Bool} {a n : Nat} {z : Int} (hT : tbl_OK) (hd : decode M.2.1 pc = .ok (.putfield idx, 3)) (hf : fl_OK M.1.cls idx c k .int fin) (hs : h.1[a]? = some (c + 4, n)) (hfin : fin_OK M c fin) (kk : aw G R M cu su (pc + 3) L st (st_i h a k z) Q) : aw G R M cu su pc L (av_I z :: av_R (some a) :: st) h Q := by
  refine put_W (h' := st_i h a k z) hT hd hf hs hfin (fun _ => ⟨rfl, rfl⟩) rfl (fun x hx => ⟨up2_n hx, rfl, rfl⟩) (fun hz hr => ?_) (fun _ hr => hr) (fun hty j => ?_) (fun hty hb0 j hj => ?_) kk
  · show ∀ k', i32 (up2 h.2.1 a k z a k')
    rw [up2_s]; exact up1_i32 hr hz
  · show _ = fv_V _ _ (up2 h.2.1 a k z a) _ _ j
    rw [up2_s]; exact (fvi_up (Or.inl hty) j).symm
  · show up2 h.2.1 a k z a j = 0 ∨ up2 h.2.1 a k z a j = 1
    rw [up2_s]
    unfold up1
    by_cases hjk : j = k
    · subst hjk; rw [hty] at hj; cases hj
    · rw [if_neg hjk]; exact hb0 j hj
theorem A_putZ {idx c k : Nat} {fin : Bool} {a n : Nat} {z : Int} (hT : tbl_OK) (hd : decode M.2.1 pc = .ok (.putfield idx, 3)) (hf : fl_OK M.1.cls idx c k .boolean fin) (hs : h.1[a]? = some (c + 4, n)) (hfin : fin_OK M c fin) (h01 : z = 0 ∨ z = 1) (kk : aw G R M cu su (pc + 3) L st (st_i h a k z) Q) : aw G R M cu su pc L (av_I z :: av_R (some a) :: st) h Q := by
  refine put_W (h' := st_i h a k z) hT hd hf hs hfin (fun _ => ⟨nar_b h01, fit_b h01⟩) rfl (fun x hx => ⟨up2_n hx, rfl, rfl⟩) (fun hz hr => ?_) (fun _ hr => hr) (fun hty j => ?_) (fun hty hb0 j hj => ?_) kk
  · show ∀ k', i32 (up2 h.2.1 a k z a k')
    rw [up2_s]; exact up1_i32 hr hz
  · show _ = fv_V _ _ (up2 h.2.1 a k z a) _ _ j
    rw [up2_s]; exact (fvi_up (Or.inr hty) j).symm
  · show up2 h.2.1 a k z a j = 0 ∨ up2 h.2.1 a k z a j = 1
    rw [up2_s]
    unfold up1
    by_cases hjk : j = k
    · rw [if_pos hjk]; exact h01
    · rw [if_neg hjk]; exact hb0 j hj
theorem A_putL {idx c k : Nat} {fin : Bool} {a n : Nat} {z : Int} (hT : tbl_OK) (hd : decode M.2.1 pc = .ok (.putfield idx, 3)) (hf : fl_OK M.1.cls idx c k .long fin) (hs : h.1[a]? = some (c + 4, n)) (hfin : fin_OK M c fin) (kk : aw G R M cu su (pc + 3) L st (st_l h a k z) Q) : aw G R M cu su pc L (av_L z :: av_R (some a) :: st) h Q := by
  refine put_W (h' := st_l h a k z) hT hd hf hs hfin (fun _ => ⟨rfl, rfl⟩) rfl (fun x hx => ⟨rfl, up2_n hx, rfl⟩) (fun _ hr => hr) (fun hz hr => ?_) (fun hty j => ?_) (fun hty hb0 => hb0) kk
  · show ∀ k', i64 (up2 h.2.2.1 a k z a k')
    rw [up2_s]; exact up1_i64 hr hz
  · show _ = fv_V _ _ _ (up2 h.2.2.1 a k z a) _ j
    rw [up2_s]; exact (fvl_up hty j).symm
theorem A_putR {idx c k : Nat} {ty : FieldType} {fin : Bool} {a n : Nat} {z : Option Nat} (hT : tbl_OK) (hd : decode M.2.1 pc = .ok (.putfield idx, 3)) (hf : fl_OK M.1.cls idx c k ty fin) (hty : (∃ n, ty = .object n) ∨ ∃ n, ty = .array n) (hs : h.1[a]? = some (c + 4, n)) (hfin : fin_OK M c fin) (kk : aw G R M cu su (pc + 3) L st (st_r h a k z) Q) : aw G R M cu su pc L (av_R z :: av_R (some a) :: st) h Q := by
  refine put_W (h' := st_r h a k z) hT hd hf hs hfin (fun _ => fit_r hty _ z) rfl (fun x hx => ⟨rfl, rfl, up2_n hx⟩) (fun _ hr => hr) (fun _ hr => hr) (fun hty2 j => ?_) (fun hty hb0 => hb0) kk
  show _ = fv_V _ _ _ _ (up2 h.2.2.2 a k z a) j
  rw [up2_s]; exact (fvr_up (by rw [hty2]; exact hty) j).symm
/-! arrays -/
theorem ix_in {n : Nat} {i : Int} (hi : i32 i) (h0 : 0 ≤ i) (h1 : i < n) (cI : ClassId) (f : Nat → Value) : ¬ (Int32.ofInt i < 0 ∨ (arrV cI n f).slots.size ≤ (Int32.ofInt i).toNatClampNeg) := by
  rw [arrV_size]
  exact i32_in hi h0 h1
theorem ix_rd {n : Nat} {i : Int} (hi : i32 i) (h0 : 0 ≤ i) (h1 : i < n) (cI : ClassId) (f : Nat → Value) : (arrV cI n f).slots[(Int32.ofInt i).toNatClampNeg]? = some (f i.toNat) := by
  rw [i32_cl hi h0, arrV_read _ _ (by omega)]
theorem A_ialoadN {a n : Nat} {i : Int} (hd : decode M.2.1 pc = .ok (.iaload, 1)) (hs : h.1[a]? = some (0, n)) (h0 : 0 ≤ i) (h1 : i < n) (kk : aw G R M cu su (pc + 1) L (av_I (h.2.1 a i.toNat) :: st) h Q) : aw G R M cu su pc L (av_I i :: av_R (some a) :: st) h Q := by
  intro p e s m args below meth cd H locs ls S hH hO hS hb hL hn
  exact W.iald (v := .int (Int32.ofInt (h.2.1 a i.toNat))) S.1 S.2.1 (hH.2.1 a _ _ hs) ((c_arr_K S.2.2.2.2.2.1 0 _ rfl).1 n _) (fun q => by cases q) (ix_in (nv_h hn) h0 h1 _ _) (ix_rd (nv_h hn) h0 h1 _ _) rfl rfl hd (kk p e s m args below meth cd H locs ls S hH hO hS hb hL (nv_c (hH.2.2.2.1 _ _) (nv_t (nv_t hn))))
theorem A_laloadN {a n : Nat} {i : Int} (hd : decode M.2.1 pc = .ok (.laload, 1)) (hs : h.1[a]? = some (1, n)) (h0 : 0 ≤ i) (h1 : i < n) (kk : aw G R M cu su (pc + 1) L (av_L (h.2.2.1 a i.toNat) :: st) h Q) : aw G R M cu su pc L (av_I i :: av_R (some a) :: st) h Q := by
  intro p e s m args below meth cd H locs ls S hH hO hS hb hL hn
  exact W.lald (v := .long (Int64.ofInt (h.2.2.1 a i.toNat))) S.1 S.2.1 (hH.2.1 a _ _ hs) ((c_arr_K S.2.2.2.2.2.1 1 _ rfl).1 n _) (fun q => by cases q) (ix_in (nv_h hn) h0 h1 _ _) (ix_rd (nv_h hn) h0 h1 _ _) rfl rfl hd (kk p e s m args below meth cd H locs ls S hH hO hS hb hL (nv_c (hH.2.2.2.2 _ _) (nv_t (nv_t hn))))
theorem A_zaloadN {a n : Nat} {i : Int} (hd : decode M.2.1 pc = .ok (.baload, 1)) (hs : h.1[a]? = some (2, n)) (h0 : 0 ≤ i) (h1 : i < n) (kk : (h.2.1 a i.toNat = 0 ∨ h.2.1 a i.toNat = 1) → aw G R M cu su (pc + 1) L (av_I (h.2.1 a i.toNat) :: st) h Q) : aw G R M cu su pc L (av_I i :: av_R (some a) :: st) h Q := by
  intro p e s m args below meth cd H locs ls S hH hO hS hb hL hn
  exact W.zald (v := .int (Int32.ofInt (h.2.1 a i.toNat))) S.1 S.2.1 (hH.2.1 a _ _ hs).1 ((c_arr_K S.2.2.2.2.2.1 2 _ rfl).1 n _) (fun q => by cases q) (ix_in (nv_h hn) h0 h1 _ _) (ix_rd (nv_h hn) h0 h1 _ _) rfl rfl hd (kk ((hH.2.1 a _ _ hs).2 _) p e s m args below meth cd H locs ls S hH hO hS hb hL (nv_c (hH.2.2.2.1 _ _) (nv_t (nv_t hn))))
theorem A_aaloadN {a n : Nat} {i : Int} (hd : decode M.2.1 pc = .ok (.aaload, 1)) (hs : h.1[a]? = some (3, n)) (h0 : 0 ≤ i) (h1 : i < n) (kk : aw G R M cu su (pc + 1) L (av_R (h.2.2.2 a i.toNat) :: st) h Q) : aw G R M cu su pc L (av_I i :: av_R (some a) :: st) h Q := by
  intro p e s m args below meth cd H locs ls S hH hO hS hb hL hn
  exact W.aald (v := va_rf ((h.2.2.2 a i.toNat).map (fun a => cx_b G + a))) (ty := .object RX10) S.1 S.2.1 (hH.2.1 a _ _ hs) ((c_arr_K S.2.2.2.2.2.1 3 _ rfl).1 n _) rfl (fun q => by cases q) (ix_in (nv_h hn) h0 h1 _ _) (ix_rd (nv_h hn) h0 h1 _ _) rfl rfl hd (kk p e s m args below meth cd H locs ls S hH hO hS hb hL (nv_c trivial (nv_t (nv_t hn))))
theorem A_iastoreN {a n : Nat} {i z : Int} (hd : decode M.2.1 pc = .ok (.iastore, 1)) (hs : h.1[a]? = some (0, n)) (h0 : 0 ≤ i) (h1 : i < n) (kk : aw G R M cu su (pc + 1) L st (st_i h a i.toNat z) Q) : aw G R M cu su pc L (av_I z :: av_I i :: av_R (some a) :: st) h Q := by
  intro p e s m args below meth cd H locs ls S hH hO hS hb hL hn
  refine W.iast S.1 S.2.1 (hH.2.1 a _ _ hs) ((c_arr_K S.2.2.2.2.2.1 0 _ rfl).1 n _) (fun q => by cases q) (ix_in (nv_h (nv_t hn)) h0 h1 _ _) rfl rfl hd fun H1 e1 e2 e3 => ?_
  refine kk p e s m args below meth cd H1 _ ls S ?_ hO (hS.put e2 e3 (Nat.le_add_right _ _)) hb hL (nv_t (nv_t (nv_t hn)))
  refine hr_upd hH hs rfl (fun x hx => ⟨up2_n hx, rfl, rfl⟩) ?_ (hH.2.2.2.2 a) e2 e3 ?_
  · show ∀ k', i32 (up2 h.2.1 a i.toNat z a k')
    rw [up2_s]; exact up1_i32 (hH.2.2.2.1 a) (nv_h hn)
  · show H1[_]? = some (arrV _ _ fun j => .int (Int32.ofInt (up2 h.2.1 a i.toNat z a j)))
    rw [e1, arrV_store, up2_s, i32_cl (nv_h (nv_t hn)) h0]
    congr 2
    funext j
    by_cases hj : j = i.toNat <;> simp [updV, up1, hj]
theorem A_lastoreN {a n : Nat} {i z : Int} (hd : decode M.2.1 pc = .ok (.lastore, 1)) (hs : h.1[a]? = some (1, n)) (h0 : 0 ≤ i) (h1 : i < n) (kk : aw G R M cu su (pc + 1) L st (st_l h a i.toNat z) Q) : aw G R M cu su pc L (av_L z :: av_I i :: av_R (some a) :: st) h Q := by
  intro p e s m args below meth cd H locs ls S hH hO hS hb hL hn
  refine W.last S.1 S.2.1 (hH.2.1 a _ _ hs) ((c_arr_K S.2.2.2.2.2.1 1 _ rfl).1 n _) (fun q => by cases q) (ix_in (nv_h (nv_t hn)) h0 h1 _ _) rfl rfl hd fun H1 e1 e2 e3 => ?_
  refine kk p e s m args below meth cd H1 _ ls S ?_ hO (hS.put e2 e3 (Nat.le_add_right _ _)) hb hL (nv_t (nv_t (nv_t hn)))
  refine hr_upd hH hs rfl (fun x hx => ⟨rfl, up2_n hx, rfl⟩) (hH.2.2.2.1 a) ?_ e2 e3 ?_
  · show ∀ k', i64 (up2 h.2.2.1 a i.toNat z a k')
    rw [up2_s]; exact up1_i64 (hH.2.2.2.2 a) (nv_h hn)
  · show H1[_]? = some (arrV _ _ fun j => .long (Int64.ofInt (up2 h.2.2.1 a i.toNat z a j)))
    rw [e1, arrV_store, up2_s, i32_cl (nv_h (nv_t hn)) h0]
    congr 2
    funext j
    by_cases hj : j = i.toNat <;> simp [updV, up1, hj]
theorem A_zastoreN {a n : Nat} {i z : Int} (hd : decode M.2.1 pc = .ok (.bastore, 1)) (hs : h.1[a]? = some (2, n)) (h0 : 0 ≤ i) (h1 : i < n) (h01 : z = 0 ∨ z = 1) (kk : aw G R M cu su (pc + 1) L st (st_i h a i.toNat z) Q) : aw G R M cu su pc L (av_I z :: av_I i :: av_R (some a) :: st) h Q := by
  intro p e s m args below meth cd H locs ls S hH hO hS hb hL hn
  refine W.zast S.1 S.2.1 (hH.2.1 a _ _ hs).1 ((c_arr_K S.2.2.2.2.2.1 2 _ rfl).1 n _) (fun q => by cases q) (ix_in (nv_h (nv_t hn)) h0 h1 _ _) rfl rfl hd fun H1 e1 e2 e3 => ?_
  refine kk p e s m args below meth cd H1 _ ls S ?_ hO (hS.put e2 e3 (Nat.le_add_right _ _)) hb hL (nv_t (nv_t (nv_t hn)))
  refine hr_upd hH hs rfl (fun x hx => ⟨up2_n hx, rfl, rfl⟩) ?_ (hH.2.2.2.2 a) e2 e3 ⟨?_, ?_⟩
  · show ∀ k', i32 (up2 h.2.1 a i.toNat z a k')
    rw [up2_s]; exact up1_i32 (hH.2.2.2.1 a) (nv_h hn)
  · show H1[_]? = some (arrV _ _ fun j => .int (Int32.ofInt (up2 h.2.1 a i.toNat z a j)))
    rw [e1, arrV_store, up2_s, i32_cl (nv_h (nv_t hn)) h0, nar_b h01]
    congr 2
    funext j
    by_cases hj : j = i.toNat <;> simp [updV, up1, hj]
  · show ∀ j, up2 h.2.1 a i.toNat z a j = 0 ∨ up2 h.2.1 a i.toNat z a j = 1
    intro j
    rw [up2_s]
    unfold up1
    split
    · exact h01
    · exact (hH.2.1 a _ _ hs).2 j
theorem A_aastoreN {a n v nn : Nat} {i : Int} (hd : decode M.2.1 pc = .ok (.aastore, 1)) (hs : h.1[a]? = some (3, n)) (hs2 : h.1[v]? = some (10 + 4, nn)) (h0 : 0 ≤ i) (h1 : i < n) (kk : aw G R M cu su (pc + 1) L st (st_r h a i.toNat (some v)) Q) : aw G R M cu su pc L (av_R (some v) :: av_I i :: av_R (some a) :: st) h Q := by
  intro p e s m args below meth cd H locs ls S hH hO hS hb hL hn
  obtain ⟨r, r1, r2, ⟨cellV, g1, g2, g3, -⟩, -⟩ := hH.2.1 v _ _ hs2
  have hr : r = (RX10, TX10, 17) := Option.some.inj (r1.symm.trans rfl)
  subst hr
  have hcls := (S.2.2.2.2.2.1.1.1 10 _ rfl).2
  obtain ⟨kA, comp, k1, k2, k3, -⟩ := (c_arr_K S.2.2.2.2.2.1 3 _ rfl).2
  have hcomp : comp = cx_dC G 10 := Option.some.inj (k3.symm.trans hcls.1)
  subst hcomp
  obtain ⟨kC, hkC, -⟩ := hcls.2
  have hin := i32_in (nv_h (nv_t hn)) h0 h1
  refine W.aast S.1 S.2.1 (hH.2.1 a _ _ hs) (fun q h => by cases h) (fun h => by cases h) k1 k2 rfl hkC ⟨fun q => hin (Or.inl q), by rw [arrV_size]; exact Nat.not_le.mp fun q => hin (Or.inr q)⟩ g1 (fun q h => by rw [g3] at h; cases h) (by rw [g2]; exact hkC) (by rw [g2]; exact va_assign hcls) rfl rfl hd fun H1 e1 e2 e3 => ?_
  refine kk p e s m args below meth cd H1 _ ls S ?_ hO (hS.put e2 e3 (Nat.le_add_right _ _)) hb hL (nv_t (nv_t (nv_t hn)))
  refine hr_upd hH hs rfl (fun x hx => ⟨rfl, rfl, up2_n hx⟩) (hH.2.2.2.1 a) (hH.2.2.2.2 a) e2 e3 ?_
  show H1[_]? = some (arrV _ _ fun j => va_rf ((up2 h.2.2.2 a i.toNat (some v) a j).map _))
  rw [e1, arrV_store, up2_s, i32_cl (nv_h (nv_t hn)) h0]
  congr 2
  funext j
  by_cases hj : j = i.toNat <;> simp [updV, up1, hj, va_rf]
theorem A_alenN {a kd n : Nat} (hd : decode M.2.1 pc = .ok (.arraylength, 1)) (hs : h.1[a]? = some (kd, n)) (hkd : kd < 4) (hnn : n < 2147483648) (kk : aw G R M cu su (pc + 1) L (av_I (n : Int) :: st) h Q) : aw G R M cu su pc L (av_R (some a) :: st) h Q := by
  intro p e s m args below meth cd H locs ls S hH hO hS hb hL hn
  have hc := hH.2.1 a _ _ hs
  have hk := kk p e s m args below meth cd H locs ls S hH hO hS hb hL (nv_c (by show i32 _; unfold i32; omega) (nv_t hn))
  have hI : Int32.ofInt (n : Int) = Int32.ofNat n := rfl
  match kd, hkd, hc with
  | 0, _, hc => exact W.alen (n := Int32.ofInt (n : Int)) S.1 S.2.1 hc ((c_arr_K S.2.2.2.2.2.1 0 _ rfl).1 n _) (by rw [arrV_size]; rfl) rfl rfl hd hk
  | 1, _, hc => exact W.alen (n := Int32.ofInt (n : Int)) S.1 S.2.1 hc ((c_arr_K S.2.2.2.2.2.1 1 _ rfl).1 n _) (by rw [arrV_size]; rfl) rfl rfl hd hk
  | 2, _, hc => exact W.alen (n := Int32.ofInt (n : Int)) S.1 S.2.1 hc.1 ((c_arr_K S.2.2.2.2.2.1 2 _ rfl).1 n _) (by rw [arrV_size]; rfl) rfl rfl hd hk
  | 3, _, hc => exact W.alen (n := Int32.ofInt (n : Int)) S.1 S.2.1 hc ((c_arr_K S.2.2.2.2.2.1 3 _ rfl).1 n _) (by rw [arrV_size]; rfl) rfl rfl hd hk
theorem A_ialoadS {k : Nat} {i : Int} (hd : decode M.2.1 pc = .ok (.iaload, 1)) (hk : k < n_RO) (h0 : 0 ≤ i) (h1 : i < cx_rl G k) (kk : aw G R M cu su (pc + 1) L (av_I (cx_rv G k i.toNat) :: st) h Q) : aw G R M cu su pc L (av_I i :: av_S k :: st) h Q := by
  intro p e s m args below meth cd H locs ls S hH hO hS hb hL hn
  exact va_ti S.1 S.2.1 (hO k hk).1 hS (i32_in (nv_h hn) h0 h1) (v := .int (Int32.ofInt (cx_rv G k i.toNat))) (by rw [i32_cl (nv_h hn) h0]) hd (kk p e s m args below meth cd H locs ls S hH hO hS hb hL (nv_c ((hO k hk).2 _) (nv_t (nv_t hn))))
theorem A_alenS {k : Nat} (hd : decode M.2.1 pc = .ok (.arraylength, 1)) (hk : k < n_RO) (hl : cx_rl G k < 2147483648) (kk : aw G R M cu su (pc + 1) L (av_I (cx_rl G k : Int) :: st) h Q) : aw G R M cu su pc L (av_S k :: st) h Q := by
  intro p e s m args below meth cd H locs ls S hH hO hS hb hL hn
  exact va_tlen S.1 S.2.1 (hO k hk).1 hS (v := Int32.ofInt (cx_rl G k : Int)) rfl hd (kk p e s m args below meth cd H locs ls S hH hO hS hb hL (nv_c (by show i32 _; unfold i32; omega) (nv_t hn)))
end AWH
end
section
/-! ===== rows that make cells, and calls ===== -/
theorem st_n_OK {G : cx_T} {h : ah_T} {H H1 : Heap} (hH : hr_OK G h H) {kd n : Nat} (z : H1.size = H.size + 1) (oq : ∀ q : Nat, q < H.size → H1[q]? = H[q]?) (hc : cell_R G kd n (fun _ => 0) (fun _ => 0) (fun _ => none) H.size H1) : hr_OK G (st_n h kd n) H1 := by
  obtain ⟨h1, h2, h3, h4, h5⟩ := id hH
  refine ⟨by rw [z, h1]; simp [st_n]; omega, fun x kx nx hx => ?_, fun x hx k => ?_, h4, h5⟩
  · show cell_R G kx nx (h.2.1 x) (h.2.2.1 x) (h.2.2.2 x) (cx_b G + x) H1
    by_cases hl : x < h.1.length
    · have hx2 : (h.1 ++ [(kd, n)])[x]? = some (kx, nx) := hx
      rw [List.getElem?_append_left hl] at hx2
      exact (h2 x kx nx hx2).kept (oq _ (by rw [h1]; omega))
    · have hx2 : (h.1 ++ [(kd, n)])[x]? = some (kx, nx) := hx
      rw [List.getElem?_append_right (by omega)] at hx2
      have hz : x - h.1.length < 1 := (List.getElem?_eq_some_iff.mp hx2).1
      have hxe : x = h.1.length := by omega
      subst hxe
      rw [Nat.sub_self] at hx2
      cases hx2
      have e1 : h.2.1 h.1.length = fun _ => 0 := funext fun k => (h3 _ (Nat.le_refl _) k).1
      have e2 : h.2.2.1 h.1.length = fun _ => 0 := funext fun k => (h3 _ (Nat.le_refl _) k).2.1
      have e3 : h.2.2.2 h.1.length = fun _ => none := funext fun k => (h3 _ (Nat.le_refl _) k).2.2
      rw [e1, e2, e3, ← h1]
      exact hc
  · have hx2 : (h.1 ++ [(kd, n)]).length ≤ x := hx
    rw [List.length_append, List.length_singleton] at hx2
    exact h3 x (by omega) k
theorem va_S_new {A : Nat → Prop} {H0 H H1 : Heap} {locs : List Loc} (hS : va_S A H0 H locs) (z : H1.size = H.size + 1) (oq : ∀ q : Nat, q < H.size → H1[q]? = H[q]?) : va_S A H0 H1 locs :=
  ⟨Nat.le_trans hS.1 (by omega), fun x h1 h2 => (oq x (Nat.lt_of_lt_of_le h1 hS.1)).trans (hS.2.1 x h1 h2), hS.2.2⟩
theorem c_arr_0 {G : cx_T} {U : State} (h : kf_OK G U) {cA : ClassId} (hN : U.vm.findClass ("[" ++ (newarray.typeOf .int).toString) = some cA) : cA = cx_cA G 0 := by
  have h2 : U.vm.findClass ("[" ++ (FieldType.int).toString) = some (cx_cA G 0) := (c_arr_K h 0 _ rfl).2
  exact Option.some.inj (hN.symm.trans h2)
theorem c_arr_1 {G : cx_T} {U : State} (h : kf_OK G U) {cA : ClassId} (hN : U.vm.findClass ("[" ++ (newarray.typeOf .long).toString) = some cA) : cA = cx_cA G 1 := by
  have h2 : U.vm.findClass ("[" ++ (FieldType.long).toString) = some (cx_cA G 1) := (c_arr_K h 1 _ rfl).2
  exact Option.some.inj (hN.symm.trans h2)
theorem c_arr_2 {G : cx_T} {U : State} (h : kf_OK G U) {cA : ClassId} (hN : U.vm.findClass ("[" ++ (newarray.typeOf .boolean).toString) = some cA) : cA = cx_cA G 2 := by
  have h2 : U.vm.findClass ("[" ++ (FieldType.boolean).toString) = some (cx_cA G 2) := (c_arr_K h 2 _ rfl).2
  exact Option.some.inj (hN.symm.trans h2)
section AWN
variable {G : cx_T} {R : Room} {M : mr_T} {cu su pc : Nat} {L : List (Option av_T)} {st : List av_T} {h : ah_T} {Q : Option av_T → ah_T → Prop}
theorem A_newI {z : Int} (hd : decode M.2.1 pc = .ok (.newarray .int, 2)) (hac : Cond.arrayClass .int ∈ gw) (h0 : 0 ≤ z) (hz : z ≤ 60000000) (hc : cu + 1 ≤ R.cells) (hsl : su + z.toNat ≤ R.slots) (kk : aw G R M (cu + 1) (su + z.toNat) (pc + 2) L (av_R (some h.1.length) :: st) (st_n h 0 z.toNat) Q) : aw G R M cu su pc L (av_I z :: st) h Q := by
  intro p e s m args below meth cd H locs ls S hH hO hS hb hL hn
  have hcl := i32_cl (nv_h hn) h0
  refine va_newaK (atype := .int) S.1 S.2.1 (S.2.2.2.2.1 _ hac) rfl hd rfl (N := z.toNat) (fun q => by have := (i32_lt (nv_h hn) i32_0).mp q; omega) hcl (by show z.toNat * 4 ≤ _; omega) hc hsl rfl fun H1 cA e1 z1 o1 hAr hNm => ?_
  have hcA : cA = cx_cA G 0 := c_arr_0 S.2.2.2.2.2.1 hNm
  subst hcA
  have hk := kk p e s m args below meth cd H1 locs ls S (st_n_OK hH z1 o1 e1) hO (va_S_new hS z1 o1) hb hL (nv_c trivial (nv_t hn))
  rw [hH.1]
  exact hk
theorem A_newL {z : Int} (hd : decode M.2.1 pc = .ok (.newarray .long, 2)) (hac : Cond.arrayClass .long ∈ gw) (h0 : 0 ≤ z) (hz : z ≤ 60000000) (hc : cu + 1 ≤ R.cells) (hsl : su + z.toNat ≤ R.slots) (kk : aw G R M (cu + 1) (su + z.toNat) (pc + 2) L (av_R (some h.1.length) :: st) (st_n h 1 z.toNat) Q) : aw G R M cu su pc L (av_I z :: st) h Q := by
  intro p e s m args below meth cd H locs ls S hH hO hS hb hL hn
  have hcl := i32_cl (nv_h hn) h0
  refine va_newaK (atype := .long) S.1 S.2.1 (S.2.2.2.2.1 _ hac) rfl hd rfl (N := z.toNat) (fun q => by have := (i32_lt (nv_h hn) i32_0).mp q; omega) hcl (by show z.toNat * 8 ≤ _; omega) hc hsl rfl fun H1 cA e1 z1 o1 hAr hNm => ?_
  have hcA : cA = cx_cA G 1 := c_arr_1 S.2.2.2.2.2.1 hNm
  subst hcA
  have hk := kk p e s m args below meth cd H1 locs ls S (st_n_OK hH z1 o1 e1) hO (va_S_new hS z1 o1) hb hL (nv_c trivial (nv_t hn))
  rw [hH.1]
  exact hk
theorem A_newZ {z : Int} (hd : decode M.2.1 pc = .ok (.newarray .boolean, 2)) (hac : Cond.arrayClass .boolean ∈ gw) (h0 : 0 ≤ z) (hz : z ≤ 60000000) (hc : cu + 1 ≤ R.cells) (hsl : su + z.toNat ≤ R.slots) (kk : aw G R M (cu + 1) (su + z.toNat) (pc + 2) L (av_R (some h.1.length) :: st) (st_n h 2 z.toNat) Q) : aw G R M cu su pc L (av_I z :: st) h Q := by
  intro p e s m args below meth cd H locs ls S hH hO hS hb hL hn
  have hcl := i32_cl (nv_h hn) h0
  refine va_newaK (atype := .boolean) S.1 S.2.1 (S.2.2.2.2.1 _ hac) rfl hd rfl (N := z.toNat) (fun q => by have := (i32_lt (nv_h hn) i32_0).mp q; omega) hcl (by show z.toNat * 1 ≤ _; omega) hc hsl rfl fun H1 cA e1 z1 o1 hAr hNm => ?_
  have hcA : cA = cx_cA G 2 := c_arr_2 S.2.2.2.2.2.1 hNm
  subst hcA
  have hk := kk p e s m args below meth cd H1 locs ls S (st_n_OK hH z1 o1 ⟨e1, fun _ => Or.inl rfl⟩) hO (va_S_new hS z1 o1) hb hL (nv_c trivial (nv_t hn))
  rw [hH.1]
  exact hk
theorem A_newV {z : Int} {idx : Nat} (hd : decode M.2.1 pc = .ok (.anewarray idx, 3)) (hcl : Cond.classLink M.1.cls idx RX10 ∈ gw) (hov : Cond.arrayOver (.object RX10) ∈ gw) (h0 : 0 ≤ z) (hz : z ≤ 60000000) (hc : cu + 1 ≤ R.cells) (hsl : su + z.toNat ≤ R.slots) (kk : aw G R M (cu + 1) (su + z.toNat) (pc + 3) L (av_R (some h.1.length) :: st) (st_n h 3 z.toNat) Q) : aw G R M cu su pc L (av_I z :: st) h Q := by
  intro p e s m args below meth cd H locs ls S hH hO hS hb hL hn
  have hcl2 := i32_cl (nv_h hn) h0
  refine W.anew S.1 S.2.1 S.2.2.2.1 (S.2.2.2.2.1 _ hcl) (S.2.2.2.2.1 _ hov) rfl hd rfl (fun q => by have := (i32_lt (nv_h hn) i32_0).mp q; omega) (by rw [hcl2]; omega) hc (by rw [hcl2]; exact hsl) fun cA kA comp f1 f2 f3 f4 => ?_
  obtain ⟨kA', comp', k1, k2, k3, k4⟩ := (c_arr_K S.2.2.2.2.2.1 3 _ rfl).2
  have hcA : cA = cx_cA G 3 := Option.some.inj (f1.symm.trans k4)
  subst hcA
  rw [hcl2]
  generalize hH1 : H.push ({ cls := cx_cA G 3, slots := Array.replicate z.toNat .null, vm := .none } : Cell) = H1
  have z1 : H1.size = H.size + 1 := by rw [← hH1, Array.size_push]
  have e1 : H1[H.size]? = some (arrV (cx_cA G 3) z.toNat (fun _ => .null)) := by rw [← hH1, Array.getElem?_push_size, ← arrV_new]
  have o1 : ∀ q : Nat, q < H.size → H1[q]? = H[q]? := fun q hq => by rw [← hH1, Array.getElem?_push, if_neg (Nat.ne_of_lt hq)]
  have hk := kk p e s m args below meth cd H1 locs ls S (st_n_OK hH z1 o1 e1) hO (va_S_new hS z1 o1) hb hL (nv_c trivial (nv_t hn))
  rw [hH.1]
  exact hk
theorem dv_fv (ty : FieldType) (b j : Nat) (h : ty = .int ∨ ty = .boolean ∨ ty = .long ∨ (∃ n, ty = .object n) ∨ ∃ n, ty = .array n) : defaultValue ty = fv_V b ty (fun _ => 0) (fun _ => 0) (fun _ => none) j := by
  rcases h with rfl | rfl | rfl | ⟨n, rfl⟩ | ⟨n, rfl⟩ <;> rfl
def tbl_K : Prop := ∀ c q, classes[c]? = some q → ∀ k, k < q.2.2 → f_ty c k = .int ∨ f_ty c k = .boolean ∨ f_ty c k = .long ∨ (∃ n, f_ty c k = .object n) ∨ ∃ n, f_ty c k = .array n
theorem A_new {idx c : Nat} {q : vw_C} (hT : tbl_OK) (hTK : tbl_K) (hd : decode M.2.1 pc = .ok (.new idx, 3)) (hq : classes[c]? = some q) (hcl : Cond.classLink M.1.cls idx q.1 ∈ gw) (hc : cu + 1 ≤ R.cells) (hsl : su + q.2.2 ≤ R.slots) (kk : aw G R M (cu + 1) (su + q.2.2) (pc + 3) L (av_R (some h.1.length) :: st) (st_n h (c + 4) q.2.2) Q) : aw G R M cu su pc L st h Q := by
  intro p e s m args below meth cd H locs ls S hH hO hS hb hL hn
  obtain ⟨k1, k2, k3, k4, k5, k6⟩ := hT c q hq
  have hKn := S.2.2.2.2.2.1.1.1 c _ hq
  refine W.newcK S.1 S.2.1 S.2.2.2.1 (S.2.2.2.2.1 _ hcl) (S.2.2.2.2.1 _ k4) (S.2.2.2.2.1 _ k5) rfl hd hc hsl hKn.2.1 rfl fun H1 kC hkC e1 z1 o1 => ?_
  have hob := u_born (f_ty c) S.2.2.2.2.1 k1 hKn hkC e1 k2
  have hk := kk p e s m args below meth cd H1 locs ls S (st_n_OK hH z1 o1 ⟨q, hq, rfl, hob.to (fun j hj => dv_fv (f_ty c j) _ j (hTK c q hq j hj)), fun _ _ => Or.inl rfl⟩) hO (va_S_new hS z1 o1) hb hL (nv_c trivial hn)
  rw [hH.1]
  exact hk
theorem A_objInit {idx : Nat} {a : Nat} (hd : decode M.2.1 pc = .ok (.invokespecial idx, 3)) (hl : Cond.methodLink M.1.cls idx Lib.objectInit ∈ gw) (hi : Cond.instanceMethod Lib.objectInit ∈ gw) (hc : Cond.code Lib.objectInit ⟨#[0xb1]⟩ 1 none ∈ gw) (hR : 1 ≤ R.frames ∧ 12 ≤ R.locals) (hst : st = []) (kk : aw G R M cu su (pc + 3) L st h Q) : aw G R M cu su pc L (av_R (some a) :: st) h Q := by
  intro p e s m args below meth cd H locs ls S hH hO hS hb hL hn
  subst hst
  exact W.objInit S.1 S.2.1 S.2.2.2.1 (S.2.2.2.2.1 _ hl) (S.2.2.2.2.1 _ hi) (S.2.2.2.2.1 _ hc) rfl (by show ls.size = _; rw [hL.2.1, S.2.2.1]) rfl hd hR.1 (by simpa [JFrame.monitorRoom] using hR.2) (kk p e s m args below meth cd H locs ls S hH hO hS hb hL (nv_t hn))
/-! calls -/
def rp_R (r : Option av_T) (st : List av_T) : List av_T := match r with
  | none => st
  | some v => v :: st
theorem rp_map (G : cx_T) (r : Option av_T) (st : List av_T) : (rp_R r st).map (cv G) = (r.map (cv G)).toList ++ st.map (cv G) := by
  cases r <;> rfl
def Pc_B (G : cx_T) (h : ah_T) : State → Prop := fun U => hr_OK G h U.heap ∧ ro_OK G U U.heap ∧ kf_OK G U ∧ cx_b G ≤ U.heap.size
theorem nw_same {u U : State} (h : nw_OK u) (hv : u.vm = U.vm) : nw_OK U := by
  intro w hw hn
  have h1 := h w hw hn
  cases w <;> first | exact va_Nw.same rfl hv h1 | (simp [nestW] at hn)
theorem Pc_blind {G : cx_T} {h : ah_T} {As : List Value} : FrameBlind (va_Pc As (Pc_B G h)) := by
  intro a U g mk hp
  obtain ⟨h1, h2, h3, h4, h5⟩ := hp
  exact ⟨h1, h2, fun k hk => ⟨(h3 k hk).1.moved (u := U) (U := U.calling g mk a) (Vm.Alike.refl U.vm), (h3 k hk).2⟩, ⟨va_K.moved (u := U) (U := U.calling g mk a) (Vm.Alike.refl U.vm) h4.1, nw_same h4.2 rfl⟩, h5⟩
theorem Pc_pre {G : cx_T} {h : ah_T} {M : mr_T} {p : Program} {s : State} {m : MethodId} {args : Array Value} {meth : Method} {c : Code} {H : Heap} {locs : List Loc} (S : st_OK G M p s m args meth c) (hH : hr_OK G h H) (hO : ro_OK G s s.heap) (hS : va_S (fr_A G) s.heap H locs) (hb : cx_b G ≤ s.heap.size) (As : List Value) (U : State) (hU : U.heap = H) (hW : s.WarmedH U.vm) : va_Pc As (Pc_B G h) As.toArray U :=
  ⟨rfl, by rw [hU]; exact hH, fun k hk => ⟨by rw [hU]; exact ((hO k hk).1.kept hS.2.1).moved hW.alike, (hO k hk).2⟩, ⟨va_K.moved hW.alike S.2.2.2.2.2.1.1, S.2.2.2.2.2.1.2.moved hW⟩, by rw [hU]; exact Nat.le_trans hb hS.1⟩
abbrev md_OK (y : MethodName) (np : Nat) : Prop := y.cls ≠ "java/lang/invoke/MethodHandle" ∧ y.cls ≠ "java/lang/invoke/VarHandle" ∧ (parseMethodDescriptor y.desc).map (fun d => d.parameters.length) = some np
/-- what the tables say of a method that is called: 0 static, 1 of an object, 2 a constructor -/
def mt_OK (N : mr_T) (np kind : Nat) : Prop := mr_w N ∈ gw ∧ Cond.initialized N.1.cls ∈ gw ∧ md_OK N.1 np ∧ (kind = 0 → Cond.static N.1 ∈ gw) ∧ (kind = 1 → Cond.instanceMethod N.1 ∈ gw ∧ Cond.selects N.1.cls N.1 N.1 ∈ gw) ∧ (kind = 2 → Cond.instanceMethod N.1 ∈ gw ∧ N.1.name = "<init>" ∧ N.2.2.2 = none)
def ml_OK (own : String) (idx : Nat) (y : MethodName) : Prop := Cond.methodLink own idx y ∈ gw ∨ ∃ host, Cond.methodLinkNest own idx y host ∈ lw_tbl
theorem acall {Qa : Option av_T → ah_T → Prop} {mc ms : Nat} {p : Program} {e : Env} {s : State} {m : MethodId} {args : Array Value} {below : List Frame} {meth : Method} {cd : Code} {H : Heap} {locs : List Loc} {ls : Array Slot} {st0 : List Value} {a : Array Value}
    (hr : va_Run p (cx_l G) e R s m args below meth cd H locs cu su mc ms (F0 m pc ls st0) (st.map (cv G)) (qc_Q G Qa a) (fr_A G)) (S : st_OK G M p s m args meth cd) (hO : ro_OK G s s.heap) (hS : va_S (fr_A G) s.heap H locs) (hb : cx_b G ≤ s.heap.size) (hL : lr_OK G M.2.2.1 L ls) (hn : ∀ v ∈ st, nv v)
    (kk : ∀ r h', Qa r h' → aw G R M (cu + mc) (su + ms) (pc + 3) L (rp_R r st) h' Q) : W p (cx_l G) e R s m args below meth cd H locs cu su (MQ below (qc_Q G Q) args s R.cells R.slots (fr_A G)) (F0 m pc ls st0) := by
  intro T hT X
  obtain ⟨v, st₀, t, T', LL, h0, X', hLL, e1, e2, ⟨⟨r, h', hv, hnv, hQ, hH', hO'⟩, hz, hk⟩, stp⟩ := hr T hT X
  have hv2 : v = r.map (cv G) := Outcome.returned.inj hv
  subst hv2
  rw [h0] at hz hk
  have hk2 := kk r h' hQ p e s m args below meth cd T'.heap (locs ++ LL) ls S (by rw [e1]; exact hH') hO
    ⟨Nat.le_trans hS.1 (by rw [e1]; exact hz), fun q h1 h2 => by rw [e1, hk q (Nat.lt_of_lt_of_le h1 hS.1) h2]; exact hS.2.1 q h1 h2, fun q hq => by
      rcases List.mem_append.mp hq with h | h
      · exact hS.2.2 q h
      · exact hLL q h⟩ hb hL (by
      cases r with
      | none => exact hn
      | some w => exact nv_c (hnv w rfl) hn)
  rw [rp_map] at hk2
  obtain ⟨t2, a1, b1⟩ := hk2 T' rfl X'
  exact ⟨t2, stp t2 a1, b1⟩
theorem gi_M {N : mr_T} (h : mr_w N ∈ gw) : GoodIn gw (mr_w N :: gw) := by
  intro w hw
  rcases List.mem_cons.mp hw with rfl | h1
  · exact gw_ok _ h
  · exact gw_ok _ h1
abbrev rm_OK (R : Room) (d : Nat) (N : mr_T) : Prop := d + 1 ≤ R.frames ∧ 8 + (N.2.2.1 + 11) + 48 * d ≤ R.locals
theorem cat_sum (G : cx_T) {st : List av_T} (h : st.length ≤ 4) : ((st.map (cv G)).map fun v => v.category).sum ≤ 8 := by
  have key : ∀ l : List av_T, ((l.map (cv G)).map fun v => v.category).sum ≤ 2 * l.length := by
    intro l
    induction l with
    | nil => simp
    | cons v l ih =>
      have h2 : (cv G v).category ≤ 2 := by
        rcases v with z | z | d | r | k
        · exact (by decide : (1 : Nat) ≤ 2)
        · exact (by decide : (2 : Nat) ≤ 2)
        · exact (by decide : (2 : Nat) ≤ 2)
        · cases r <;> exact (by decide : (1 : Nat) ≤ 2)
        · exact (by decide : (1 : Nat) ≤ 2)
      simp only [List.map_cons, List.sum_cons, List.length_cons]
      omega
  have := key st
  omega
theorem A_callS {Qa : Option av_T → ah_T → Prop} {idx d mc ms np : Nat} {N : mr_T} (As : List av_T) (hd : decode M.2.1 pc = .ok (.invokestatic idx, 3)) (hl : ml_OK M.1.cls idx N.1) (hm : mt_OK N np 0) (hnp : As.length = np) (hR : rm_OK R d N) (hf : cu + mc ≤ R.cells ∧ su + ms ≤ R.slots) (hst : st.length ≤ 4) (hM : con G d mc ms N As h Qa) (stk : List av_T) (hstk : stk = As.reverse ++ st)
    (kk : ∀ r h', Qa r h' → aw G R M (cu + mc) (su + ms) (pc + 3) L (rp_R r st) h' Q) : aw G R M cu su pc L stk h Q := by
  intro p e s m args below meth cd H locs ls S hH hO hS hb hL hn
  subst hstk
  obtain ⟨c1, c2, c3, c4, -, -⟩ := hm
  have hnA : ∀ v ∈ As, nv v := fun v hv => hn v (List.mem_append_left _ (List.mem_reverse.mpr hv))
  have hns : ∀ v ∈ st, nv v := fun v hv => hn v (List.mem_append_right _ hv)
  have hMet := hM hnA
  have hp : PreS s H (va_Pc (As.map (cv G)) (Pc_B G h)) (As.map (cv G)) := ⟨Pc_blind, fun U hU hW => Pc_pre S hH hO hS hb _ U hU hW⟩
  have hstack : (F0 m pc ls ((As.reverse ++ st).map (cv G))).stack = (As.map (cv G)).reverse ++ st.map (cv G) := by simp
  rcases hl with hl | ⟨host, hl⟩
  · exact acall (va_runS ⟨S.1, S.2.1, rfl, S.2.2.2.1, S.2.2.2.2.1⟩ hMet ⟨callB_of (ws' := gw) (index := idx) np S.2.2.2.2.1 (gi_M c1) rfl rfl rfl (S.2.2.2.2.1 _ c2) (S.2.2.2.2.1 _ hl) c3 hR, S.2.2.2.2.1 _ (c4 rfl)⟩ hp rfl (by rw [List.length_map]; exact hnp) (by show ls.size = _; rw [hL.2.1, S.2.2.1]) hstack (lv_room (cat_sum G hst)) hd hf) S hO hS hb hL hns kk
  · exact acall (va_runSN (host := host) ⟨S.1, S.2.1, rfl, S.2.2.2.1, S.2.2.2.2.1⟩ hMet ⟨va_cnB (ws' := gw) (index := idx) np S.2.2.2.2.1 (gi_M c1) rfl rfl rfl (S.2.2.2.2.2.1.2 _ hl rfl) (S.2.2.2.2.1 _ c2) c3 hR, S.2.2.2.2.1 _ (c4 rfl), trivial⟩ hp rfl (by rw [List.length_map]; exact hnp) (by show ls.size = _; rw [hL.2.1, S.2.2.1]) hstack (lv_room (cat_sum G hst)) hd hf) S hO hS hb hL hns kk
theorem A_callV {Qa : Option av_T → ah_T → Prop} {idx d mc ms np c nn a : Nat} {N : mr_T} (As : List av_T) (hT : tbl_OK) (hd : decode M.2.1 pc = .ok (.invokevirtual idx, 3)) (hl : ml_OK M.1.cls idx N.1) (hm : mt_OK N np 1) (hnp : As.length = np) (hs : h.1[a]? = some (c + 4, nn)) (hcl : (classes[c]?).map (fun q => q.1) = some N.1.cls) (hR : rm_OK R d N) (hf : cu + mc ≤ R.cells ∧ su + ms ≤ R.slots) (hst : st.length ≤ 4) (hM : con G d mc ms N (av_R (some a) :: As) h Qa) (stk : List av_T) (hstk : stk = As.reverse ++ av_R (some a) :: st)
    (kk : ∀ r h', Qa r h' → aw G R M (cu + mc) (su + ms) (pc + 3) L (rp_R r st) h' Q) : aw G R M cu su pc L stk h Q := by
  intro p e s m args below meth cd H locs ls S hH hO hS hb hL hn
  subst hstk
  obtain ⟨c1, c2, c3, -, c4, -⟩ := hm
  obtain ⟨c5, c6⟩ := c4 rfl
  have hnA : ∀ v ∈ av_R (some a) :: As, nv v := nv_c trivial (fun v hv => hn v (List.mem_append_left _ (List.mem_reverse.mpr hv)))
  have hns : ∀ v ∈ st, nv v := fun v hv => hn v (List.mem_append_right _ (List.mem_cons_of_mem _ hv))
  have hMet := hM hnA
  obtain ⟨q, g1, g2, ⟨cell, q1, q2, q3, -⟩, -⟩ := hH.2.1 a _ _ hs
  have hqc : q.1 = N.1.cls := by rw [g1] at hcl; exact Option.some.inj hcl
  have hrecv : ∃ cellB : Cell, H[cx_b G + a]? = some cellB ∧ cellB.vm.isStatics = false ∧ s.vm.findClass N.1.cls = some cellB.cls := ⟨cell, q1, by rw [q3]; rfl, by rw [q2, ← hqc]; exact (S.2.2.2.2.2.1.1.1 c _ g1).2.1⟩
  have hp : PreV s H N.1.cls (cx_b G + a) (va_Pc ((av_R (some a) :: As).map (cv G)) (Pc_B G h)) (As.map (cv G)) := ⟨Pc_blind, hrecv, fun U hU hW => Pc_pre S hH hO hS hb _ U hU hW⟩
  have hstack : (F0 m pc ls ((As.reverse ++ av_R (some a) :: st).map (cv G))).stack = (As.map (cv G)).reverse ++ .ref (cx_b G + a) :: st.map (cv G) := by
    show List.map (cv G) (As.reverse ++ av_R (some a) :: st) = _
    rw [List.map_append, List.map_reverse]
    rfl
  rcases hl with hl | ⟨host, hl⟩
  · exact acall (va_runV (b := cx_b G + a) (C := N.1.cls) ⟨S.1, S.2.1, rfl, S.2.2.2.1, S.2.2.2.2.1⟩ hMet ⟨callB_of (ws' := gw) (index := idx) np S.2.2.2.2.1 (gi_M c1) rfl rfl rfl (S.2.2.2.2.1 _ c2) (S.2.2.2.2.1 _ hl) c3 hR, S.2.2.2.2.1 _ c5, S.2.2.2.2.1 _ c6⟩ hp rfl (by rw [List.length_map]; exact hnp) (by show ls.size = _; rw [hL.2.1, S.2.2.1]) hstack (lv_room (cat_sum G hst)) hd hf) S hO hS hb hL hns kk
  · exact acall (va_runVN (b := cx_b G + a) (C := N.1.cls) (host := host) ⟨S.1, S.2.1, rfl, S.2.2.2.1, S.2.2.2.2.1⟩ hMet ⟨va_cnB (ws' := gw) (index := idx) np S.2.2.2.2.1 (gi_M c1) rfl rfl rfl (S.2.2.2.2.2.1.2 _ hl rfl) (S.2.2.2.2.1 _ c2) c3 hR, S.2.2.2.2.1 _ c5, S.2.2.2.2.1 _ c6⟩ hp rfl (by rw [List.length_map]; exact hnp) (by show ls.size = _; rw [hL.2.1, S.2.2.1]) hstack (lv_room (cat_sum G hst)) hd hf) S hO hS hb hL hns kk
theorem A_callI {Qa : Option av_T → ah_T → Prop} {idx d mc ms np a : Nat} {y : MethodName} {by0 : ByteArray} {ml : Nat} (As : List av_T) (hd : decode M.2.1 pc = .ok (.invokespecial idx, 3)) (hl : ml_OK M.1.cls idx y) (hm : mt_OK (y, by0, ml, none) np 2) (hnp : As.length = np) (hR : rm_OK R d (y, by0, ml, none)) (hf : cu + mc ≤ R.cells ∧ su + ms ≤ R.slots) (hst : st.length ≤ 4) (hM : con G d mc ms (y, by0, ml, none) (av_R (some a) :: As) h Qa) (stk : List av_T) (hstk : stk = As.reverse ++ av_R (some a) :: st)
    (kk : ∀ r h', Qa r h' → aw G R M (cu + mc) (su + ms) (pc + 3) L (rp_R r st) h' Q) : aw G R M cu su pc L stk h Q := by
  intro p e s m args below meth cd H locs ls S hH hO hS hb hL hn
  subst hstk
  obtain ⟨c1, c2, c3, -, -, c4⟩ := hm
  obtain ⟨c5, c6, -⟩ := c4 rfl
  have hnA : ∀ v ∈ av_R (some a) :: As, nv v := nv_c trivial (fun v hv => hn v (List.mem_append_left _ (List.mem_reverse.mpr hv)))
  have hns : ∀ v ∈ st, nv v := fun v hv => hn v (List.mem_append_right _ (List.mem_cons_of_mem _ hv))
  have hMet := hM hnA
  have hp : PreS s H (va_Pc ((av_R (some a) :: As).map (cv G)) (Pc_B G h)) (.ref (cx_b G + a) :: As.map (cv G)) := ⟨Pc_blind, fun U hU hW => Pc_pre S hH hO hS hb _ U hU hW⟩
  have hstack : (F0 m pc ls ((As.reverse ++ av_R (some a) :: st).map (cv G))).stack = (As.map (cv G)).reverse ++ .ref (cx_b G + a) :: st.map (cv G) := by
    show List.map (cv G) (As.reverse ++ av_R (some a) :: st) = _
    rw [List.map_append, List.map_reverse]
    rfl
  rcases hl with hl | ⟨host, hl⟩
  · exact acall (va_runI (b := cx_b G + a) ⟨S.1, S.2.1, rfl, S.2.2.2.1, S.2.2.2.2.1⟩ hMet ⟨callB_of (ws' := gw) (index := idx) np S.2.2.2.2.1 (gi_M c1) rfl rfl rfl (S.2.2.2.2.1 _ c2) (S.2.2.2.2.1 _ hl) c3 hR, c6, S.2.2.2.2.1 _ c5⟩ hp rfl (by rw [List.length_map]; exact hnp) (by show ls.size = _; rw [hL.2.1, S.2.2.1]) hstack (lv_room (cat_sum G hst)) hd hf) S hO hS hb hL hns kk
  · exact acall (va_runIN (b := cx_b G + a) (host := host) ⟨S.1, S.2.1, rfl, S.2.2.2.1, S.2.2.2.2.1⟩ hMet ⟨va_cnB (ws' := gw) (index := idx) np S.2.2.2.2.1 (gi_M c1) rfl rfl rfl (S.2.2.2.2.2.1.2 _ hl rfl) (S.2.2.2.2.1 _ c2) c3 hR, c6, S.2.2.2.2.1 _ c5⟩ hp rfl (by rw [List.length_map]; exact hnp) (by show ls.size = _; rw [hL.2.1, S.2.2.1]) hstack (lv_room (cat_sum G hst)) hd hf) S hO hS hb hL hns kk
end AWN
/-! a contract out of a walk -/
def arg_l : List av_T → List (Option av_T)
  | [] => []
  | v :: vs => match cat2 v with
    | true => some v :: none :: arg_l vs
    | false => some v :: arg_l vs
def arg_L (n : Nat) (As : List av_T) : List (Option av_T) := arg_l As ++ List.replicate (n - (arg_l As).length) none
theorem arg_sl (G : cx_T) : ∀ As : List av_T, (lg_sl (As.map (cv G))).length = (arg_l As).length
  | [] => rfl
  | v :: vs => by
    have ih := arg_sl G vs
    have hc := cv_cat (G := G) v
    unfold lg_sl at ih ⊢
    rw [List.map_cons, List.flatMap_cons, List.length_append, ih]
    cases h2 : cat2 v
    · rw [h2] at hc
      have : ¬ (cv G v).category = 2 := by simpa using hc
      simp [arg_l, h2, this]; omega
    · rw [h2] at hc
      have : (cv G v).category = 2 := by simpa using hc
      simp [arg_l, h2, this]; omega
theorem arg_at (G : cx_T) : ∀ (As : List av_T) (i k : Nat) (v : av_T), (arg_l As)[k]? = some (some v) → (i + k, cv G v) ∈ lv_args i (As.map (cv G)) ∧ v ∈ As
  | [], i, k, v, h => by simp [arg_l] at h
  | w :: vs, i, k, v, h => by
    have hc := cv_cat (G := G) w
    cases h2 : cat2 w
    · rw [h2] at hc
      have hc2 : ¬ (cv G w).category = 2 := by simpa using hc
      simp only [arg_l, h2] at h
      rw [List.map_cons]
      cases k with
      | zero =>
        rw [List.getElem?_cons_zero] at h
        cases h
        exact ⟨List.mem_cons_self, List.mem_cons_self⟩
      | succ k =>
        rw [List.getElem?_cons_succ] at h
        obtain ⟨a1, a2⟩ := arg_at G vs (i + 1) k v h
        refine ⟨?_, List.mem_cons_of_mem _ a2⟩
        unfold lv_args
        rw [if_neg hc2]
        refine List.mem_cons_of_mem _ ?_
        rw [show i + (k + 1) = i + 1 + k by omega]
        exact a1
    · rw [h2] at hc
      have hc2 : (cv G w).category = 2 := by simpa using hc
      simp only [arg_l, h2] at h
      rw [List.map_cons]
      match k, h with
      | 0, h =>
        rw [List.getElem?_cons_zero] at h
        cases h
        exact ⟨List.mem_cons_self, List.mem_cons_self⟩
      | 1, h =>
        rw [List.getElem?_cons_succ, List.getElem?_cons_zero] at h
        simp at h
      | k + 2, h =>
        rw [List.getElem?_cons_succ, List.getElem?_cons_succ] at h
        obtain ⟨a1, a2⟩ := arg_at G vs (i + 2) k v h
        refine ⟨?_, List.mem_cons_of_mem _ a2⟩
        unfold lv_args
        rw [if_pos hc2]
        refine List.mem_cons_of_mem _ ?_
        rw [show i + (k + 2) = i + 2 + k by omega]
        exact a1
theorem lr_entry {G : cx_T} {n : Nat} {As : List av_T} (hn : ∀ v ∈ As, nv v) (hl : (arg_l As).length ≤ n) : lr_OK G n (arg_L n As) ((lg_sl (As.map (cv G)) ++ List.replicate (n - (lg_sl (As.map (cv G))).length) Slot.unset).toArray) := by
  have h1 := lv_entry (As.map (cv G)) (n := n) (by rw [arg_sl]; exact hl)
  refine ⟨by simp [arg_L]; omega, h1.1, h1.2.1, fun k v hk => ?_⟩
  unfold arg_L at hk
  by_cases hkl : k < (arg_l As).length
  · rw [List.getElem?_append_left hkl] at hk
    obtain ⟨a1, a2⟩ := arg_at G As 0 k v hk
    rw [Nat.zero_add] at a1
    exact ⟨h1.2.2 _ a1, hn v a2⟩
  · rw [List.getElem?_append_right (by omega), List.getElem?_replicate] at hk
    split at hk <;> simp at hk
theorem con_of {G : cx_T} {d mc ms : Nat} {M : mr_T} {As : List av_T} {h : ah_T} {Q : Option av_T → ah_T → Prop} (hy : plainName M.1.cls = true) (hl : (arg_l As).length ≤ M.2.2.1) {L : List (Option av_T)} (hL : arg_L M.2.2.1 As = L)
    (k : aw G (rm_R d mc ms) M 0 0 0 L [] h Q) : con G d mc ms M As h Q := by
  intro hn
  subst hL
  refine Met.ofW (cc := M.2.1) (maxL := M.2.2.1) (ret := M.2.2.2) hy rfl ?_
  intro p e s m args below meth c s₁ B hml hv
  obtain ⟨rfl, hH, hO, hK, hb⟩ := hv
  have hts := atoms_spec (ws := mr_w M :: gw) B.pre
  rw [lg_entry_eq]
  exact k p e s m _ below meth c s.heap [] _ ⟨B.exec, B.bytes, hml, findClass_of_methodNamed B.named, fun w hw => hts w (List.mem_cons_of_mem _ hw), hK, B.returns, B.notSynchronized, fun hi => ((name_of_methodNamed B.named B.method).1).trans hi⟩ hH hO va_S.rf hb (lr_entry hn hl) (fun v hv => by cases hv)
end
