-- ===== PART A: goes FIRST, ahead of the names: the tables' words, and 'selects' of the private methods out of them =====
/-- a private method of a class that the tables say can be made, by its rows of tables_1 -/
def lw_okq (q : MethodName × Nat) : Prop := (q.1.cls ≠ "java/lang/invoke/MethodHandle" ∧ q.1.cls ≠ "java/lang/invoke/VarHandle") ∧ Cond.instantiable q.1.cls q.2 ∈ tables_1 ∧ Cond.privateMethod q.1 ∈ tables_1 ∧ Cond.instanceMethod q.1 ∈ tables_1
theorem lx_1 {w : Cond} (h : w ∈ tables_1_1) : w ∈ tables_1 := List.mem_append_left _ h
theorem lx_2 {w : Cond} (h : w ∈ tables_1_2) : w ∈ tables_1 := List.mem_append_right _ (List.mem_append_left _ h)
theorem lx_3 {w : Cond} (h : w ∈ tables_1_3) : w ∈ tables_1 := List.mem_append_right _ (List.mem_append_right _ (List.mem_append_left _ h))
theorem lx_4 {w : Cond} (h : w ∈ tables_1_4) : w ∈ tables_1 := List.mem_append_right _ (List.mem_append_right _ (List.mem_append_right _ (List.mem_append_left _ h)))
theorem lx_5 {w : Cond} (h : w ∈ tables_1_5) : w ∈ tables_1 := List.mem_append_right _ (List.mem_append_right _ (List.mem_append_right _ (List.mem_append_right _ (List.mem_append_left _ h))))
theorem lx_6 {w : Cond} (h : w ∈ tables_1_6) : w ∈ tables_1 := List.mem_append_right _ (List.mem_append_right _ (List.mem_append_right _ (List.mem_append_right _ (List.mem_append_right _ (List.mem_append_left _ h)))))
theorem lx_7 {w : Cond} (h : w ∈ tables_1_7) : w ∈ tables_1 := List.mem_append_right _ (List.mem_append_right _ (List.mem_append_right _ (List.mem_append_right _ (List.mem_append_right _ (List.mem_append_right _ (List.mem_append_left _ h))))))
theorem lx_8 {w : Cond} (h : w ∈ tables_1_8) : w ∈ tables_1 := List.mem_append_right _ (List.mem_append_right _ (List.mem_append_right _ (List.mem_append_right _ (List.mem_append_right _ (List.mem_append_right _ (List.mem_append_right _ (List.mem_append_left _ h)))))))
theorem lx_9 {w : Cond} (h : w ∈ tables_1_9) : w ∈ tables_1 := List.mem_append_right _ (List.mem_append_right _ (List.mem_append_right _ (List.mem_append_right _ (List.mem_append_right _ (List.mem_append_right _ (List.mem_append_right _ (List.mem_append_right _ (h))))))))
theorem lw_p0 : lw_okq (⟨"PlainMusic", "putBytes", "(I)V"⟩, 11) := ⟨⟨by decide +kernel, by decide +kernel⟩, lx_1 (List.mem_of_getElem? (i := 23) rfl), lx_3 (List.mem_of_getElem? (i := 20) rfl), lx_3 (List.mem_of_getElem? (i := 21) rfl)⟩
set_option maxRecDepth 100000 in
theorem lw_p1 : lw_okq (⟨"PlainMusic$Tokens", "cutOne", "()Z"⟩, 13) := ⟨⟨by decide +kernel, by decide +kernel⟩, lx_1 (List.mem_of_getElem? (i := 37) rfl), lx_3 (List.mem_of_getElem? (i := 47) rfl), lx_3 (List.mem_of_getElem? (i := 48) rfl)⟩
set_option maxRecDepth 100000 in
theorem lw_p2 : lw_okq (⟨"PlainMusic$Tokens", "skipBlanks", "()V"⟩, 13) := ⟨⟨by decide +kernel, by decide +kernel⟩, lx_1 (List.mem_of_getElem? (i := 37) rfl), lx_3 (List.mem_of_getElem? (i := 51) rfl), lx_3 (List.mem_of_getElem? (i := 52) rfl)⟩
set_option maxRecDepth 100000 in
theorem lw_p3 : lw_okq (⟨"PlainMusic$Tokens", "byteAt", "(I)I"⟩, 13) := ⟨⟨by decide +kernel, by decide +kernel⟩, lx_1 (List.mem_of_getElem? (i := 37) rfl), lx_3 (List.mem_of_getElem? (i := 55) rfl), lx_3 (List.mem_of_getElem? (i := 56) rfl)⟩
set_option maxRecDepth 100000 in
theorem lw_p4 : lw_okq (⟨"PlainMusic$Tokens", "cutPitch", "(I)V"⟩, 13) := ⟨⟨by decide +kernel, by decide +kernel⟩, lx_1 (List.mem_of_getElem? (i := 37) rfl), lx_3 (List.mem_of_getElem? (i := 59) rfl), lx_3 (List.mem_of_getElem? (i := 60) rfl)⟩
set_option maxRecDepth 100000 in
theorem lw_p5 : lw_okq (⟨"PlainMusic$Tokens", "cutName", "()V"⟩, 13) := ⟨⟨by decide +kernel, by decide +kernel⟩, lx_1 (List.mem_of_getElem? (i := 37) rfl), lx_3 (List.mem_of_getElem? (i := 71) rfl), lx_3 (List.mem_of_getElem? (i := 72) rfl)⟩
set_option maxRecDepth 100000 in
theorem lw_p6 : lw_okq (⟨"PlainMusic$Tokens", "cutNumber", "()V"⟩, 13) := ⟨⟨by decide +kernel, by decide +kernel⟩, lx_1 (List.mem_of_getElem? (i := 37) rfl), lx_3 (List.mem_of_getElem? (i := 138) rfl), lx_3 (List.mem_of_getElem? (i := 139) rfl)⟩
set_option maxRecDepth 100000 in
theorem lw_p7 : lw_okq (⟨"PlainMusic$Reader", "readTime", "()Z"⟩, 8) := ⟨⟨by decide +kernel, by decide +kernel⟩, lx_1 (List.mem_of_getElem? (i := 31) rfl), lx_3 (List.mem_of_getElem? (i := 204) rfl), lx_3 (List.mem_of_getElem? (i := 205) rfl)⟩
set_option maxRecDepth 100000 in
theorem lw_p8 : lw_okq (⟨"PlainMusic$Reader", "blame", "(II)Z"⟩, 8) := ⟨⟨by decide +kernel, by decide +kernel⟩, lx_1 (List.mem_of_getElem? (i := 31) rfl), lx_3 (List.mem_of_getElem? (i := 208) rfl), lx_3 (List.mem_of_getElem? (i := 209) rfl)⟩
set_option maxRecDepth 100000 in
theorem lw_p9 : lw_okq (⟨"PlainMusic$Reader", "readNumber", "(IZ)I"⟩, 8) := ⟨⟨by decide +kernel, by decide +kernel⟩, lx_1 (List.mem_of_getElem? (i := 31) rfl), lx_3 (List.mem_of_getElem? (i := 213) rfl), lx_3 (List.mem_of_getElem? (i := 214) rfl)⟩
set_option maxRecDepth 100000 in
theorem lw_p10 : lw_okq (⟨"PlainMusic$Reader", "refuse", "()Z"⟩, 8) := ⟨⟨by decide +kernel, by decide +kernel⟩, lx_1 (List.mem_of_getElem? (i := 31) rfl), lx_3 (List.mem_of_getElem? (i := 217) rfl), lx_3 (List.mem_of_getElem? (i := 218) rfl)⟩
set_option maxRecDepth 100000 in
theorem lw_p11 : lw_okq (⟨"PlainMusic$Reader", "take", "(I)Z"⟩, 8) := ⟨⟨by decide +kernel, by decide +kernel⟩, lx_1 (List.mem_of_getElem? (i := 31) rfl), lx_3 (List.mem_of_getElem? (i := 227) rfl), lx_3 (List.mem_of_getElem? (i := 228) rfl)⟩
set_option maxRecDepth 100000 in
theorem lw_p12 : lw_okq (⟨"PlainMusic$Reader", "readVoice", "()Z"⟩, 8) := ⟨⟨by decide +kernel, by decide +kernel⟩, lx_1 (List.mem_of_getElem? (i := 31) rfl), lx_3 (List.mem_of_getElem? (i := 235) rfl), lx_3 (List.mem_of_getElem? (i := 236) rfl)⟩
theorem lw_p13 : lw_okq (⟨"PlainMusic$Reader", "beginsEvent", "()Z"⟩, 8) := ⟨⟨by decide +kernel, by decide +kernel⟩, lx_1 (List.mem_of_getElem? (i := 31) rfl), lx_4 (List.mem_of_getElem? (i := 11) rfl), lx_4 (List.mem_of_getElem? (i := 12) rfl)⟩
theorem lw_p14 : lw_okq (⟨"PlainMusic$Reader", "isShallow", "()Z"⟩, 8) := ⟨⟨by decide +kernel, by decide +kernel⟩, lx_1 (List.mem_of_getElem? (i := 31) rfl), lx_4 (List.mem_of_getElem? (i := 15) rfl), lx_4 (List.mem_of_getElem? (i := 16) rfl)⟩
theorem lw_p15 : lw_okq (⟨"PlainMusic$Reader", "readEvent", "(LPlainMusic$Voice;)Z"⟩, 8) := ⟨⟨by decide +kernel, by decide +kernel⟩, lx_1 (List.mem_of_getElem? (i := 31) rfl), lx_4 (List.mem_of_getElem? (i := 19) rfl), lx_4 (List.mem_of_getElem? (i := 20) rfl)⟩
def lw_privs_1 : List (MethodName × Nat) := [(⟨"PlainMusic", "putBytes", "(I)V"⟩, 11), (⟨"PlainMusic$Tokens", "cutOne", "()Z"⟩, 13), (⟨"PlainMusic$Tokens", "skipBlanks", "()V"⟩, 13), (⟨"PlainMusic$Tokens", "byteAt", "(I)I"⟩, 13), (⟨"PlainMusic$Tokens", "cutPitch", "(I)V"⟩, 13), (⟨"PlainMusic$Tokens", "cutName", "()V"⟩, 13), (⟨"PlainMusic$Tokens", "cutNumber", "()V"⟩, 13), (⟨"PlainMusic$Reader", "readTime", "()Z"⟩, 8), (⟨"PlainMusic$Reader", "blame", "(II)Z"⟩, 8), (⟨"PlainMusic$Reader", "readNumber", "(IZ)I"⟩, 8), (⟨"PlainMusic$Reader", "refuse", "()Z"⟩, 8), (⟨"PlainMusic$Reader", "take", "(I)Z"⟩, 8), (⟨"PlainMusic$Reader", "readVoice", "()Z"⟩, 8), (⟨"PlainMusic$Reader", "beginsEvent", "()Z"⟩, 8), (⟨"PlainMusic$Reader", "isShallow", "()Z"⟩, 8), (⟨"PlainMusic$Reader", "readEvent", "(LPlainMusic$Voice;)Z"⟩, 8)]
theorem lw_r1 : ∀ q ∈ lw_privs_1, lw_okq q := List.forall_mem_cons.mpr ⟨lw_p0, List.forall_mem_cons.mpr ⟨lw_p1, List.forall_mem_cons.mpr ⟨lw_p2, List.forall_mem_cons.mpr ⟨lw_p3, List.forall_mem_cons.mpr ⟨lw_p4, List.forall_mem_cons.mpr ⟨lw_p5, List.forall_mem_cons.mpr ⟨lw_p6, List.forall_mem_cons.mpr ⟨lw_p7, List.forall_mem_cons.mpr ⟨lw_p8, List.forall_mem_cons.mpr ⟨lw_p9, List.forall_mem_cons.mpr ⟨lw_p10, List.forall_mem_cons.mpr ⟨lw_p11, List.forall_mem_cons.mpr ⟨lw_p12, List.forall_mem_cons.mpr ⟨lw_p13, List.forall_mem_cons.mpr ⟨lw_p14, List.forall_mem_cons.mpr ⟨lw_p15, fun _ h => absurd h List.not_mem_nil⟩⟩⟩⟩⟩⟩⟩⟩⟩⟩⟩⟩⟩⟩⟩⟩
theorem lw_p16 : lw_okq (⟨"PlainMusic$Reader", "readSound", "(LPlainMusic$Voice;)Z"⟩, 8) := ⟨⟨by decide +kernel, by decide +kernel⟩, lx_1 (List.mem_of_getElem? (i := 31) rfl), lx_4 (List.mem_of_getElem? (i := 23) rfl), lx_4 (List.mem_of_getElem? (i := 24) rfl)⟩
theorem lw_p17 : lw_okq (⟨"PlainMusic$Reader", ("adm" ++ "it"), "()Z"⟩, 8) := ⟨⟨by decide +kernel, by decide +kernel⟩, List.mem_of_getElem? (i := 31) (by decide +kernel), List.mem_of_getElem? (i := 747) (by decide +kernel), List.mem_of_getElem? (i := 748) (by decide +kernel)⟩
set_option maxRecDepth 100000 in
theorem lw_p18 : lw_okq (⟨"PlainMusic$Reader", "readPart", "()Z"⟩, 8) := ⟨⟨by decide +kernel, by decide +kernel⟩, lx_1 (List.mem_of_getElem? (i := 31) rfl), lx_4 (List.mem_of_getElem? (i := 44) rfl), lx_4 (List.mem_of_getElem? (i := 45) rfl)⟩
set_option maxRecDepth 100000 in
theorem lw_p19 : lw_okq (⟨"PlainMusic$Reader", "readStretch", "()Z"⟩, 8) := ⟨⟨by decide +kernel, by decide +kernel⟩, lx_1 (List.mem_of_getElem? (i := 31) rfl), lx_4 (List.mem_of_getElem? (i := 53) rfl), lx_4 (List.mem_of_getElem? (i := 54) rfl)⟩
set_option maxRecDepth 100000 in
theorem lw_p20 : lw_okq (⟨"PlainMusic$Parts", "walkThrough", "(LPlainMusic$Voice;IIIJJ)V"⟩, 12) := ⟨⟨by decide +kernel, by decide +kernel⟩, lx_1 (List.mem_of_getElem? (i := 89) rfl), lx_4 (List.mem_of_getElem? (i := 65) rfl), lx_4 (List.mem_of_getElem? (i := 66) rfl)⟩
set_option maxRecDepth 100000 in
theorem lw_p21 : lw_okq (⟨"PlainMusic$Parts", "walkRepeat", "(LPlainMusic$Voice;IIJJ)I"⟩, 12) := ⟨⟨by decide +kernel, by decide +kernel⟩, lx_1 (List.mem_of_getElem? (i := 89) rfl), lx_4 (List.mem_of_getElem? (i := 69) rfl), lx_4 (List.mem_of_getElem? (i := 70) rfl)⟩
set_option maxRecDepth 100000 in
theorem lw_p22 : lw_okq (⟨"PlainMusic$Parts", "meetLine", "(LPlainMusic$Voice;)V"⟩, 12) := ⟨⟨by decide +kernel, by decide +kernel⟩, lx_1 (List.mem_of_getElem? (i := 89) rfl), lx_4 (List.mem_of_getElem? (i := 74) rfl), lx_4 (List.mem_of_getElem? (i := 75) rfl)⟩
set_option maxRecDepth 100000 in
theorem lw_p23 : lw_okq (⟨"PlainMusic$Reader", "readLine", "()Z"⟩, 8) := ⟨⟨by decide +kernel, by decide +kernel⟩, lx_1 (List.mem_of_getElem? (i := 31) rfl), lx_4 (List.mem_of_getElem? (i := 99) rfl), lx_4 (List.mem_of_getElem? (i := 100) rfl)⟩
set_option maxRecDepth 100000 in
theorem lw_p24 : lw_okq (⟨"PlainMusic$Reader", "readRule", "()Z"⟩, 8) := ⟨⟨by decide +kernel, by decide +kernel⟩, lx_1 (List.mem_of_getElem? (i := 31) rfl), lx_4 (List.mem_of_getElem? (i := 107) rfl), lx_4 (List.mem_of_getElem? (i := 108) rfl)⟩
set_option maxRecDepth 100000 in
theorem lw_p25 : lw_okq (⟨"PlainMusic$Reader", "readName", "()I"⟩, 8) := ⟨⟨by decide +kernel, by decide +kernel⟩, lx_1 (List.mem_of_getElem? (i := 31) rfl), lx_4 (List.mem_of_getElem? (i := 111) rfl), lx_4 (List.mem_of_getElem? (i := 112) rfl)⟩
set_option maxRecDepth 100000 in
theorem lw_p26 : lw_okq (⟨"PlainMusic$Reader", "readRow", "()Z"⟩, 8) := ⟨⟨by decide +kernel, by decide +kernel⟩, lx_1 (List.mem_of_getElem? (i := 31) rfl), lx_4 (List.mem_of_getElem? (i := 119) rfl), lx_4 (List.mem_of_getElem? (i := 120) rfl)⟩
set_option maxRecDepth 100000 in
theorem lw_p27 : lw_okq (⟨"PlainMusic", "forgetFindings", "()V"⟩, 11) := ⟨⟨by decide +kernel, by decide +kernel⟩, lx_1 (List.mem_of_getElem? (i := 23) rfl), lx_4 (List.mem_of_getElem? (i := 131) rfl), lx_4 (List.mem_of_getElem? (i := 132) rfl)⟩
set_option maxRecDepth 100000 in
theorem lw_p28 : lw_okq (⟨"PlainMusic$Judge", "hearVoice", "(LPlainMusic$Score;LPlainMusic$Voice;I)V"⟩, 3) := ⟨⟨by decide +kernel, by decide +kernel⟩, lx_2 (List.mem_of_getElem? (i := 68) rfl), lx_4 (List.mem_of_getElem? (i := 229) rfl), lx_4 (List.mem_of_getElem? (i := 230) rfl)⟩
set_option maxRecDepth 100000 in
theorem lw_p29 : lw_okq (⟨"PlainMusic$Judge", "add", "(IIII)V"⟩, 3) := ⟨⟨by decide +kernel, by decide +kernel⟩, lx_2 (List.mem_of_getElem? (i := 68) rfl), lx_5 (List.mem_of_getElem? (i := 11) rfl), lx_5 (List.mem_of_getElem? (i := 12) rfl)⟩
set_option maxRecDepth 100000 in
theorem lw_p30 : lw_okq (⟨"PlainMusic$Judge", "hearAlone", "(LPlainMusic$Voice;II)V"⟩, 3) := ⟨⟨by decide +kernel, by decide +kernel⟩, lx_2 (List.mem_of_getElem? (i := 68) rfl), lx_5 (List.mem_of_getElem? (i := 15) rfl), lx_5 (List.mem_of_getElem? (i := 16) rfl)⟩
set_option maxRecDepth 100000 in
theorem lw_p31 : lw_okq (⟨"PlainMusic$Judge", "hearCrossings", "(LPlainMusic$Score;LPlainMusic$Voice;II)V"⟩, 3) := ⟨⟨by decide +kernel, by decide +kernel⟩, lx_2 (List.mem_of_getElem? (i := 68) rfl), lx_5 (List.mem_of_getElem? (i := 41) rfl), lx_5 (List.mem_of_getElem? (i := 42) rfl)⟩
def lw_privs_2 : List (MethodName × Nat) := [(⟨"PlainMusic$Reader", "readSound", "(LPlainMusic$Voice;)Z"⟩, 8), (⟨"PlainMusic$Reader", ("adm" ++ "it"), "()Z"⟩, 8), (⟨"PlainMusic$Reader", "readPart", "()Z"⟩, 8), (⟨"PlainMusic$Reader", "readStretch", "()Z"⟩, 8), (⟨"PlainMusic$Parts", "walkThrough", "(LPlainMusic$Voice;IIIJJ)V"⟩, 12), (⟨"PlainMusic$Parts", "walkRepeat", "(LPlainMusic$Voice;IIJJ)I"⟩, 12), (⟨"PlainMusic$Parts", "meetLine", "(LPlainMusic$Voice;)V"⟩, 12), (⟨"PlainMusic$Reader", "readLine", "()Z"⟩, 8), (⟨"PlainMusic$Reader", "readRule", "()Z"⟩, 8), (⟨"PlainMusic$Reader", "readName", "()I"⟩, 8), (⟨"PlainMusic$Reader", "readRow", "()Z"⟩, 8), (⟨"PlainMusic", "forgetFindings", "()V"⟩, 11), (⟨"PlainMusic$Judge", "hearVoice", "(LPlainMusic$Score;LPlainMusic$Voice;I)V"⟩, 3), (⟨"PlainMusic$Judge", "add", "(IIII)V"⟩, 3), (⟨"PlainMusic$Judge", "hearAlone", "(LPlainMusic$Voice;II)V"⟩, 3), (⟨"PlainMusic$Judge", "hearCrossings", "(LPlainMusic$Score;LPlainMusic$Voice;II)V"⟩, 3)]
theorem lw_r2 : ∀ q ∈ lw_privs_2, lw_okq q := List.forall_mem_cons.mpr ⟨lw_p16, List.forall_mem_cons.mpr ⟨lw_p17, List.forall_mem_cons.mpr ⟨lw_p18, List.forall_mem_cons.mpr ⟨lw_p19, List.forall_mem_cons.mpr ⟨lw_p20, List.forall_mem_cons.mpr ⟨lw_p21, List.forall_mem_cons.mpr ⟨lw_p22, List.forall_mem_cons.mpr ⟨lw_p23, List.forall_mem_cons.mpr ⟨lw_p24, List.forall_mem_cons.mpr ⟨lw_p25, List.forall_mem_cons.mpr ⟨lw_p26, List.forall_mem_cons.mpr ⟨lw_p27, List.forall_mem_cons.mpr ⟨lw_p28, List.forall_mem_cons.mpr ⟨lw_p29, List.forall_mem_cons.mpr ⟨lw_p30, List.forall_mem_cons.mpr ⟨lw_p31, fun _ h => absurd h List.not_mem_nil⟩⟩⟩⟩⟩⟩⟩⟩⟩⟩⟩⟩⟩⟩⟩⟩
set_option maxRecDepth 100000 in
theorem lw_p32 : lw_okq (⟨"PlainMusic$Judge", "hearParallels", "(LPlainMusic$Score;LPlainMusic$Voice;II)V"⟩, 3) := ⟨⟨by decide +kernel, by decide +kernel⟩, lx_2 (List.mem_of_getElem? (i := 68) rfl), lx_5 (List.mem_of_getElem? (i := 59) rfl), lx_5 (List.mem_of_getElem? (i := 60) rfl)⟩
set_option maxRecDepth 100000 in
theorem lw_p33 : lw_okq (⟨"PlainMusic$Beams", "cutRun", "(LPlainMusic$Voice;IIII)I"⟩, 4) := ⟨⟨by decide +kernel, by decide +kernel⟩, lx_2 (List.mem_of_getElem? (i := 84) rfl), lx_5 (List.mem_of_getElem? (i := 91) rfl), lx_5 (List.mem_of_getElem? (i := 92) rfl)⟩
set_option maxRecDepth 100000 in
theorem lw_p34 : lw_okq (⟨"PlainMusic$Page", "timesIn", "(LPlainMusic$Score;I)I"⟩, 8) := ⟨⟨by decide +kernel, by decide +kernel⟩, lx_2 (List.mem_of_getElem? (i := 103) rfl), lx_5 (List.mem_of_getElem? (i := 138) rfl), lx_5 (List.mem_of_getElem? (i := 139) rfl)⟩
set_option maxRecDepth 100000 in
theorem lw_p35 : lw_okq (⟨"PlainMusic$Page", "setNext", "(LPlainMusic$Voice;II)V"⟩, 8) := ⟨⟨by decide +kernel, by decide +kernel⟩, lx_2 (List.mem_of_getElem? (i := 103) rfl), lx_5 (List.mem_of_getElem? (i := 142) rfl), lx_5 (List.mem_of_getElem? (i := 143) rfl)⟩
set_option maxRecDepth 100000 in
theorem lw_p36 : lw_okq (⟨"PlainMusic$Page", "earliest", "()I"⟩, 8) := ⟨⟨by decide +kernel, by decide +kernel⟩, lx_2 (List.mem_of_getElem? (i := 103) rfl), lx_5 (List.mem_of_getElem? (i := 150) rfl), lx_5 (List.mem_of_getElem? (i := 151) rfl)⟩
set_option maxRecDepth 100000 in
theorem lw_p37 : lw_okq (⟨"PlainMusic$Page", "passTime", "(LPlainMusic$Score;IJJ)V"⟩, 8) := ⟨⟨by decide +kernel, by decide +kernel⟩, lx_2 (List.mem_of_getElem? (i := 103) rfl), lx_5 (List.mem_of_getElem? (i := 158) rfl), lx_5 (List.mem_of_getElem? (i := 159) rfl)⟩
set_option maxRecDepth 100000 in
theorem lw_p38 : lw_okq (⟨"PlainMusic$Page", "findFrom", "(III)V"⟩, 8) := ⟨⟨by decide +kernel, by decide +kernel⟩, lx_2 (List.mem_of_getElem? (i := 103) rfl), lx_5 (List.mem_of_getElem? (i := 162) rfl), lx_5 (List.mem_of_getElem? (i := 163) rfl)⟩
set_option maxRecDepth 100000 in
theorem lw_p39 : lw_okq (⟨"PlainMusic$Seconds", "extend", "(II)V"⟩, 8) := ⟨⟨by decide +kernel, by decide +kernel⟩, lx_2 (List.mem_of_getElem? (i := 134) rfl), lx_5 (List.mem_of_getElem? (i := 193) rfl), lx_5 (List.mem_of_getElem? (i := 194) rfl)⟩
set_option maxRecDepth 100000 in
theorem lw_p40 : lw_okq (⟨"PlainMusic$Seconds", "keep", "(I)V"⟩, 8) := ⟨⟨by decide +kernel, by decide +kernel⟩, lx_2 (List.mem_of_getElem? (i := 134) rfl), lx_5 (List.mem_of_getElem? (i := 197) rfl), lx_5 (List.mem_of_getElem? (i := 198) rfl)⟩
set_option maxRecDepth 100000 in
theorem lw_p41 : lw_okq (⟨"PlainMusic$Seconds", "fitsAlone", "(I)Z"⟩, 8) := ⟨⟨by decide +kernel, by decide +kernel⟩, lx_2 (List.mem_of_getElem? (i := 134) rfl), lx_5 (List.mem_of_getElem? (i := 201) rfl), lx_5 (List.mem_of_getElem? (i := 202) rfl)⟩
set_option maxRecDepth 100000 in
theorem lw_p42 : lw_okq (⟨"PlainMusic$Seconds", "asks", "(I)Z"⟩, 8) := ⟨⟨by decide +kernel, by decide +kernel⟩, lx_2 (List.mem_of_getElem? (i := 134) rfl), lx_5 (List.mem_of_getElem? (i := 205) rfl), lx_5 (List.mem_of_getElem? (i := 206) rfl)⟩
set_option maxRecDepth 100000 in
theorem lw_p43 : lw_okq (⟨"PlainMusic$Seconds", "fitsBehind", "(I)Z"⟩, 8) := ⟨⟨by decide +kernel, by decide +kernel⟩, lx_2 (List.mem_of_getElem? (i := 134) rfl), lx_5 (List.mem_of_getElem? (i := 213) rfl), lx_5 (List.mem_of_getElem? (i := 214) rfl)⟩
set_option maxRecDepth 100000 in
theorem lw_p44 : lw_okq (⟨"PlainMusic$Seconds", "fitsLeap", "(I)Z"⟩, 8) := ⟨⟨by decide +kernel, by decide +kernel⟩, lx_2 (List.mem_of_getElem? (i := 134) rfl), lx_5 (List.mem_of_getElem? (i := 218) rfl), lx_5 (List.mem_of_getElem? (i := 219) rfl)⟩
set_option maxRecDepth 100000 in
theorem lw_p45 : lw_okq (⟨"PlainMusic$Seconds", "rowAt", "(I)I"⟩, 8) := ⟨⟨by decide +kernel, by decide +kernel⟩, lx_2 (List.mem_of_getElem? (i := 134) rfl), lx_5 (List.mem_of_getElem? (i := 230) rfl), lx_5 (List.mem_of_getElem? (i := 231) rfl)⟩
set_option maxRecDepth 100000 in
theorem lw_p46 : lw_okq (⟨"PlainMusic$Trees", "fill", "(LPlainMusic$Score;II)V"⟩, 6) := ⟨⟨by decide +kernel, by decide +kernel⟩, lx_2 (List.mem_of_getElem? (i := 165) rfl), lx_6 (List.mem_of_getElem? (i := 8) rfl), lx_6 (List.mem_of_getElem? (i := 9) rfl)⟩
set_option maxRecDepth 100000 in
theorem lw_p47 : lw_okq (⟨"PlainMusic$Trees", "treesBy", "(LPlainMusic$Score;III)J"⟩, 6) := ⟨⟨by decide +kernel, by decide +kernel⟩, lx_2 (List.mem_of_getElem? (i := 165) rfl), lx_6 (List.mem_of_getElem? (i := 15) rfl), lx_6 (List.mem_of_getElem? (i := 16) rfl)⟩
def lw_privs_3 : List (MethodName × Nat) := [(⟨"PlainMusic$Judge", "hearParallels", "(LPlainMusic$Score;LPlainMusic$Voice;II)V"⟩, 3), (⟨"PlainMusic$Beams", "cutRun", "(LPlainMusic$Voice;IIII)I"⟩, 4), (⟨"PlainMusic$Page", "timesIn", "(LPlainMusic$Score;I)I"⟩, 8), (⟨"PlainMusic$Page", "setNext", "(LPlainMusic$Voice;II)V"⟩, 8), (⟨"PlainMusic$Page", "earliest", "()I"⟩, 8), (⟨"PlainMusic$Page", "passTime", "(LPlainMusic$Score;IJJ)V"⟩, 8), (⟨"PlainMusic$Page", "findFrom", "(III)V"⟩, 8), (⟨"PlainMusic$Seconds", "extend", "(II)V"⟩, 8), (⟨"PlainMusic$Seconds", "keep", "(I)V"⟩, 8), (⟨"PlainMusic$Seconds", "fitsAlone", "(I)Z"⟩, 8), (⟨"PlainMusic$Seconds", "asks", "(I)Z"⟩, 8), (⟨"PlainMusic$Seconds", "fitsBehind", "(I)Z"⟩, 8), (⟨"PlainMusic$Seconds", "fitsLeap", "(I)Z"⟩, 8), (⟨"PlainMusic$Seconds", "rowAt", "(I)I"⟩, 8), (⟨"PlainMusic$Trees", "fill", "(LPlainMusic$Score;II)V"⟩, 6), (⟨"PlainMusic$Trees", "treesBy", "(LPlainMusic$Score;III)J"⟩, 6)]
theorem lw_r3 : ∀ q ∈ lw_privs_3, lw_okq q := List.forall_mem_cons.mpr ⟨lw_p32, List.forall_mem_cons.mpr ⟨lw_p33, List.forall_mem_cons.mpr ⟨lw_p34, List.forall_mem_cons.mpr ⟨lw_p35, List.forall_mem_cons.mpr ⟨lw_p36, List.forall_mem_cons.mpr ⟨lw_p37, List.forall_mem_cons.mpr ⟨lw_p38, List.forall_mem_cons.mpr ⟨lw_p39, List.forall_mem_cons.mpr ⟨lw_p40, List.forall_mem_cons.mpr ⟨lw_p41, List.forall_mem_cons.mpr ⟨lw_p42, List.forall_mem_cons.mpr ⟨lw_p43, List.forall_mem_cons.mpr ⟨lw_p44, List.forall_mem_cons.mpr ⟨lw_p45, List.forall_mem_cons.mpr ⟨lw_p46, List.forall_mem_cons.mpr ⟨lw_p47, fun _ h => absurd h List.not_mem_nil⟩⟩⟩⟩⟩⟩⟩⟩⟩⟩⟩⟩⟩⟩⟩⟩
set_option maxRecDepth 100000 in
theorem lw_p48 : lw_okq (⟨"PlainMusic$Trees", "treesCut", "(LPlainMusic$Score;IIII)J"⟩, 6) := ⟨⟨by decide +kernel, by decide +kernel⟩, lx_2 (List.mem_of_getElem? (i := 165) rfl), lx_6 (List.mem_of_getElem? (i := 19) rfl), lx_6 (List.mem_of_getElem? (i := 20) rfl)⟩
set_option maxRecDepth 100000 in
theorem lw_p49 : lw_okq (⟨"PlainMusic$Trees", "treesOf", "(III)I"⟩, 6) := ⟨⟨by decide +kernel, by decide +kernel⟩, lx_2 (List.mem_of_getElem? (i := 165) rfl), lx_6 (List.mem_of_getElem? (i := 23) rfl), lx_6 (List.mem_of_getElem? (i := 24) rfl)⟩
set_option maxRecDepth 100000 in
theorem lw_p50 : lw_okq (⟨"PlainMusic$Trees", "findRule", "(LPlainMusic$Score;)I"⟩, 6) := ⟨⟨by decide +kernel, by decide +kernel⟩, lx_2 (List.mem_of_getElem? (i := 165) rfl), lx_6 (List.mem_of_getElem? (i := 40) rfl), lx_6 (List.mem_of_getElem? (i := 41) rfl)⟩
set_option maxRecDepth 100000 in
theorem lw_p51 : lw_okq (⟨"PlainMusic$Trees", "findCut", "(LPlainMusic$Score;I)I"⟩, 6) := ⟨⟨by decide +kernel, by decide +kernel⟩, lx_2 (List.mem_of_getElem? (i := 165) rfl), lx_6 (List.mem_of_getElem? (i := 44) rfl), lx_6 (List.mem_of_getElem? (i := 45) rfl)⟩
set_option maxRecDepth 100000 in
theorem lw_p52 : lw_okq (⟨"PlainMusic$Trees", "goDown", "(LPlainMusic$Score;IIZ)V"⟩, 6) := ⟨⟨by decide +kernel, by decide +kernel⟩, lx_2 (List.mem_of_getElem? (i := 165) rfl), lx_6 (List.mem_of_getElem? (i := 48) rfl), lx_6 (List.mem_of_getElem? (i := 49) rfl)⟩
set_option maxRecDepth 100000 in
theorem lw_p53 : lw_okq (⟨"PlainMusic$Pairing", "weigh", "(LPlainMusic$Voice;LPlainMusic$Voice;II)V"⟩, 8) := ⟨⟨by decide +kernel, by decide +kernel⟩, lx_2 (List.mem_of_getElem? (i := 190) rfl), lx_6 (List.mem_of_getElem? (i := 68) rfl), lx_6 (List.mem_of_getElem? (i := 69) rfl)⟩
set_option maxRecDepth 100000 in
theorem lw_p54 : lw_okq (⟨"PlainMusic$Pairing", "slot", "(II)I"⟩, 8) := ⟨⟨by decide +kernel, by decide +kernel⟩, lx_2 (List.mem_of_getElem? (i := 190) rfl), lx_6 (List.mem_of_getElem? (i := 72) rfl), lx_6 (List.mem_of_getElem? (i := 73) rfl)⟩
set_option maxRecDepth 100000 in
theorem lw_p55 : lw_okq (⟨"PlainMusic$Pairing", "pairCost", "(LPlainMusic$Voice;LPlainMusic$Voice;II)I"⟩, 8) := ⟨⟨by decide +kernel, by decide +kernel⟩, lx_2 (List.mem_of_getElem? (i := 190) rfl), lx_6 (List.mem_of_getElem? (i := 77) rfl), lx_6 (List.mem_of_getElem? (i := 78) rfl)⟩
set_option maxRecDepth 100000 in
theorem lw_p56 : lw_okq (⟨"PlainMusic$Pairing", "choose", "(LPlainMusic$Voice;LPlainMusic$Voice;)V"⟩, 8) := ⟨⟨by decide +kernel, by decide +kernel⟩, lx_2 (List.mem_of_getElem? (i := 190) rfl), lx_6 (List.mem_of_getElem? (i := 85) rfl), lx_6 (List.mem_of_getElem? (i := 86) rfl)⟩
set_option maxRecDepth 100000 in
theorem lw_p57 : lw_okq (⟨"PlainMusic$Pairing", "isPair", "(LPlainMusic$Voice;LPlainMusic$Voice;II)Z"⟩, 8) := ⟨⟨by decide +kernel, by decide +kernel⟩, lx_2 (List.mem_of_getElem? (i := 190) rfl), lx_6 (List.mem_of_getElem? (i := 89) rfl), lx_6 (List.mem_of_getElem? (i := 90) rfl)⟩
set_option maxRecDepth 100000 in
theorem lw_p58 : lw_okq (⟨"PlainMusic$Pairing", "isFirstAlone", "(II)Z"⟩, 8) := ⟨⟨by decide +kernel, by decide +kernel⟩, lx_2 (List.mem_of_getElem? (i := 190) rfl), lx_6 (List.mem_of_getElem? (i := 93) rfl), lx_6 (List.mem_of_getElem? (i := 94) rfl)⟩
set_option maxRecDepth 100000 in
theorem lw_p59 : lw_okq (⟨"PlainMusicModel", "lay", "(I)V"⟩, 111) := ⟨⟨by decide +kernel, by decide +kernel⟩, lx_6 (List.mem_of_getElem? (i := 144) rfl), lx_8 (List.mem_of_getElem? (i := 8) rfl), lx_8 (List.mem_of_getElem? (i := 9) rfl)⟩
set_option maxRecDepth 100000 in
theorem lw_p60 : lw_okq (⟨"PlainMusicModel", "parse", "()Z"⟩, 111) := ⟨⟨by decide +kernel, by decide +kernel⟩, lx_6 (List.mem_of_getElem? (i := 144) rfl), lx_8 (List.mem_of_getElem? (i := 20) rfl), lx_8 (List.mem_of_getElem? (i := 21) rfl)⟩
set_option maxRecDepth 100000 in
theorem lw_p61 : lw_okq (⟨"PlainMusicModel", "next", "()Z"⟩, 111) := ⟨⟨by decide +kernel, by decide +kernel⟩, lx_6 (List.mem_of_getElem? (i := 144) rfl), lx_8 (List.mem_of_getElem? (i := 24) rfl), lx_8 (List.mem_of_getElem? (i := 25) rfl)⟩
set_option maxRecDepth 100000 in
theorem lw_p62 : lw_okq (⟨"PlainMusicModel", "pitch", "(I)V"⟩, 111) := ⟨⟨by decide +kernel, by decide +kernel⟩, lx_6 (List.mem_of_getElem? (i := 144) rfl), lx_8 (List.mem_of_getElem? (i := 28) rfl), lx_8 (List.mem_of_getElem? (i := 29) rfl)⟩
set_option maxRecDepth 100000 in
theorem lw_p63 : lw_okq (⟨"PlainMusicModel", "at", "(I)I"⟩, 111) := ⟨⟨by decide +kernel, by decide +kernel⟩, lx_6 (List.mem_of_getElem? (i := 144) rfl), lx_8 (List.mem_of_getElem? (i := 32) rfl), lx_8 (List.mem_of_getElem? (i := 33) rfl)⟩
def lw_privs_4 : List (MethodName × Nat) := [(⟨"PlainMusic$Trees", "treesCut", "(LPlainMusic$Score;IIII)J"⟩, 6), (⟨"PlainMusic$Trees", "treesOf", "(III)I"⟩, 6), (⟨"PlainMusic$Trees", "findRule", "(LPlainMusic$Score;)I"⟩, 6), (⟨"PlainMusic$Trees", "findCut", "(LPlainMusic$Score;I)I"⟩, 6), (⟨"PlainMusic$Trees", "goDown", "(LPlainMusic$Score;IIZ)V"⟩, 6), (⟨"PlainMusic$Pairing", "weigh", "(LPlainMusic$Voice;LPlainMusic$Voice;II)V"⟩, 8), (⟨"PlainMusic$Pairing", "slot", "(II)I"⟩, 8), (⟨"PlainMusic$Pairing", "pairCost", "(LPlainMusic$Voice;LPlainMusic$Voice;II)I"⟩, 8), (⟨"PlainMusic$Pairing", "choose", "(LPlainMusic$Voice;LPlainMusic$Voice;)V"⟩, 8), (⟨"PlainMusic$Pairing", "isPair", "(LPlainMusic$Voice;LPlainMusic$Voice;II)Z"⟩, 8), (⟨"PlainMusic$Pairing", "isFirstAlone", "(II)Z"⟩, 8), (⟨"PlainMusicModel", "lay", "(I)V"⟩, 111), (⟨"PlainMusicModel", "parse", "()Z"⟩, 111), (⟨"PlainMusicModel", "next", "()Z"⟩, 111), (⟨"PlainMusicModel", "pitch", "(I)V"⟩, 111), (⟨"PlainMusicModel", "at", "(I)I"⟩, 111)]
theorem lw_r4 : ∀ q ∈ lw_privs_4, lw_okq q := List.forall_mem_cons.mpr ⟨lw_p48, List.forall_mem_cons.mpr ⟨lw_p49, List.forall_mem_cons.mpr ⟨lw_p50, List.forall_mem_cons.mpr ⟨lw_p51, List.forall_mem_cons.mpr ⟨lw_p52, List.forall_mem_cons.mpr ⟨lw_p53, List.forall_mem_cons.mpr ⟨lw_p54, List.forall_mem_cons.mpr ⟨lw_p55, List.forall_mem_cons.mpr ⟨lw_p56, List.forall_mem_cons.mpr ⟨lw_p57, List.forall_mem_cons.mpr ⟨lw_p58, List.forall_mem_cons.mpr ⟨lw_p59, List.forall_mem_cons.mpr ⟨lw_p60, List.forall_mem_cons.mpr ⟨lw_p61, List.forall_mem_cons.mpr ⟨lw_p62, List.forall_mem_cons.mpr ⟨lw_p63, fun _ h => absurd h List.not_mem_nil⟩⟩⟩⟩⟩⟩⟩⟩⟩⟩⟩⟩⟩⟩⟩⟩
set_option maxRecDepth 100000 in
theorem lw_p64 : lw_okq (⟨"PlainMusicModel", "whites", "(I)I"⟩, 111) := ⟨⟨by decide +kernel, by decide +kernel⟩, lx_6 (List.mem_of_getElem? (i := 144) rfl), lx_8 (List.mem_of_getElem? (i := 36) rfl), lx_8 (List.mem_of_getElem? (i := 37) rfl)⟩
set_option maxRecDepth 100000 in
theorem lw_p65 : lw_okq (⟨"PlainMusicModel", "isSmall", "(I)Z"⟩, 111) := ⟨⟨by decide +kernel, by decide +kernel⟩, lx_6 (List.mem_of_getElem? (i := 144) rfl), lx_8 (List.mem_of_getElem? (i := 40) rfl), lx_8 (List.mem_of_getElem? (i := 41) rfl)⟩
set_option maxRecDepth 100000 in
theorem lw_p66 : lw_okq (⟨"PlainMusicModel", "word", "()V"⟩, 111) := ⟨⟨by decide +kernel, by decide +kernel⟩, lx_6 (List.mem_of_getElem? (i := 144) rfl), lx_8 (List.mem_of_getElem? (i := 44) rfl), lx_8 (List.mem_of_getElem? (i := 45) rfl)⟩
set_option maxRecDepth 100000 in
theorem lw_p67 : lw_okq (⟨"PlainMusicModel", "isDigit", "(I)Z"⟩, 111) := ⟨⟨by decide +kernel, by decide +kernel⟩, lx_6 (List.mem_of_getElem? (i := 144) rfl), lx_8 (List.mem_of_getElem? (i := 54) rfl), lx_8 (List.mem_of_getElem? (i := 55) rfl)⟩
set_option maxRecDepth 100000 in
theorem lw_p68 : lw_okq (⟨"PlainMusicModel", "number", "()V"⟩, 111) := ⟨⟨by decide +kernel, by decide +kernel⟩, lx_6 (List.mem_of_getElem? (i := 144) rfl), lx_8 (List.mem_of_getElem? (i := 58) rfl), lx_8 (List.mem_of_getElem? (i := 59) rfl)⟩
set_option maxRecDepth 100000 in
theorem lw_p69 : lw_okq (⟨"PlainMusicModel", "isWord", "(I)Z"⟩, 111) := ⟨⟨by decide +kernel, by decide +kernel⟩, lx_6 (List.mem_of_getElem? (i := 144) rfl), lx_8 (List.mem_of_getElem? (i := 62) rfl), lx_8 (List.mem_of_getElem? (i := 63) rfl)⟩
set_option maxRecDepth 100000 in
theorem lw_p70 : lw_okq (⟨"PlainMusicModel", "timeItem", "()Z"⟩, 111) := ⟨⟨by decide +kernel, by decide +kernel⟩, lx_6 (List.mem_of_getElem? (i := 144) rfl), lx_8 (List.mem_of_getElem? (i := 66) rfl), lx_8 (List.mem_of_getElem? (i := 67) rfl)⟩
set_option maxRecDepth 100000 in
theorem lw_p71 : lw_okq (⟨"PlainMusicModel", "wrong", "(II)Z"⟩, 111) := ⟨⟨by decide +kernel, by decide +kernel⟩, lx_6 (List.mem_of_getElem? (i := 144) rfl), lx_8 (List.mem_of_getElem? (i := 70) rfl), lx_8 (List.mem_of_getElem? (i := 71) rfl)⟩
set_option maxRecDepth 100000 in
theorem lw_p72 : lw_okq (⟨"PlainMusicModel", "cant", "()Z"⟩, 111) := ⟨⟨by decide +kernel, by decide +kernel⟩, lx_6 (List.mem_of_getElem? (i := 144) rfl), lx_8 (List.mem_of_getElem? (i := 74) rfl), lx_8 (List.mem_of_getElem? (i := 75) rfl)⟩
set_option maxRecDepth 100000 in
theorem lw_p73 : lw_okq (⟨"PlainMusicModel", "want", "(I)Z"⟩, 111) := ⟨⟨by decide +kernel, by decide +kernel⟩, lx_6 (List.mem_of_getElem? (i := 144) rfl), lx_8 (List.mem_of_getElem? (i := 78) rfl), lx_8 (List.mem_of_getElem? (i := 79) rfl)⟩
set_option maxRecDepth 100000 in
theorem lw_p74 : lw_okq (⟨"PlainMusicModel", "isSign", "(I)Z"⟩, 111) := ⟨⟨by decide +kernel, by decide +kernel⟩, lx_6 (List.mem_of_getElem? (i := 144) rfl), lx_8 (List.mem_of_getElem? (i := 82) rfl), lx_8 (List.mem_of_getElem? (i := 83) rfl)⟩
set_option maxRecDepth 100000 in
theorem lw_p75 : lw_okq (⟨"PlainMusicModel", "isPower", "(II)Z"⟩, 111) := ⟨⟨by decide +kernel, by decide +kernel⟩, lx_6 (List.mem_of_getElem? (i := 144) rfl), lx_8 (List.mem_of_getElem? (i := 86) rfl), lx_8 (List.mem_of_getElem? (i := 87) rfl)⟩
set_option maxRecDepth 100000 in
theorem lw_p76 : lw_okq (⟨"PlainMusicModel", "voiceItem", "()Z"⟩, 111) := ⟨⟨by decide +kernel, by decide +kernel⟩, lx_6 (List.mem_of_getElem? (i := 144) rfl), lx_8 (List.mem_of_getElem? (i := 90) rfl), lx_8 (List.mem_of_getElem? (i := 91) rfl)⟩
set_option maxRecDepth 100000 in
theorem lw_p77 : lw_okq (⟨"PlainMusicModel", "voicePart", "()Z"⟩, 111) := ⟨⟨by decide +kernel, by decide +kernel⟩, lx_6 (List.mem_of_getElem? (i := 144) rfl), lx_8 (List.mem_of_getElem? (i := 94) rfl), lx_8 (List.mem_of_getElem? (i := 95) rfl)⟩
set_option maxRecDepth 100000 in
theorem lw_p78 : lw_okq (⟨"PlainMusicModel", "put", "(I)V"⟩, 111) := ⟨⟨by decide +kernel, by decide +kernel⟩, lx_6 (List.mem_of_getElem? (i := 144) rfl), lx_8 (List.mem_of_getElem? (i := 98) rfl), lx_8 (List.mem_of_getElem? (i := 99) rfl)⟩
set_option maxRecDepth 100000 in
theorem lw_p79 : lw_okq (⟨"PlainMusicModel", "timesPart", "()Z"⟩, 111) := ⟨⟨by decide +kernel, by decide +kernel⟩, lx_6 (List.mem_of_getElem? (i := 144) rfl), lx_8 (List.mem_of_getElem? (i := 102) rfl), lx_8 (List.mem_of_getElem? (i := 103) rfl)⟩
def lw_privs_5 : List (MethodName × Nat) := [(⟨"PlainMusicModel", "whites", "(I)I"⟩, 111), (⟨"PlainMusicModel", "isSmall", "(I)Z"⟩, 111), (⟨"PlainMusicModel", "word", "()V"⟩, 111), (⟨"PlainMusicModel", "isDigit", "(I)Z"⟩, 111), (⟨"PlainMusicModel", "number", "()V"⟩, 111), (⟨"PlainMusicModel", "isWord", "(I)Z"⟩, 111), (⟨"PlainMusicModel", "timeItem", "()Z"⟩, 111), (⟨"PlainMusicModel", "wrong", "(II)Z"⟩, 111), (⟨"PlainMusicModel", "cant", "()Z"⟩, 111), (⟨"PlainMusicModel", "want", "(I)Z"⟩, 111), (⟨"PlainMusicModel", "isSign", "(I)Z"⟩, 111), (⟨"PlainMusicModel", "isPower", "(II)Z"⟩, 111), (⟨"PlainMusicModel", "voiceItem", "()Z"⟩, 111), (⟨"PlainMusicModel", "voicePart", "()Z"⟩, 111), (⟨"PlainMusicModel", "put", "(I)V"⟩, 111), (⟨"PlainMusicModel", "timesPart", "()Z"⟩, 111)]
theorem lw_r5 : ∀ q ∈ lw_privs_5, lw_okq q := List.forall_mem_cons.mpr ⟨lw_p64, List.forall_mem_cons.mpr ⟨lw_p65, List.forall_mem_cons.mpr ⟨lw_p66, List.forall_mem_cons.mpr ⟨lw_p67, List.forall_mem_cons.mpr ⟨lw_p68, List.forall_mem_cons.mpr ⟨lw_p69, List.forall_mem_cons.mpr ⟨lw_p70, List.forall_mem_cons.mpr ⟨lw_p71, List.forall_mem_cons.mpr ⟨lw_p72, List.forall_mem_cons.mpr ⟨lw_p73, List.forall_mem_cons.mpr ⟨lw_p74, List.forall_mem_cons.mpr ⟨lw_p75, List.forall_mem_cons.mpr ⟨lw_p76, List.forall_mem_cons.mpr ⟨lw_p77, List.forall_mem_cons.mpr ⟨lw_p78, List.forall_mem_cons.mpr ⟨lw_p79, fun _ h => absurd h List.not_mem_nil⟩⟩⟩⟩⟩⟩⟩⟩⟩⟩⟩⟩⟩⟩⟩⟩
set_option maxRecDepth 100000 in
theorem lw_p80 : lw_okq (⟨"PlainMusicModel", "soundPart", "()Z"⟩, 111) := ⟨⟨by decide +kernel, by decide +kernel⟩, lx_6 (List.mem_of_getElem? (i := 144) rfl), lx_8 (List.mem_of_getElem? (i := 106) rfl), lx_8 (List.mem_of_getElem? (i := 107) rfl)⟩
set_option maxRecDepth 100000 in
theorem lw_p81 : lw_okq (⟨"PlainMusicModel", "pitchOf", "(I)Z"⟩, 111) := ⟨⟨by decide +kernel, by decide +kernel⟩, lx_6 (List.mem_of_getElem? (i := 144) rfl), lx_8 (List.mem_of_getElem? (i := 110) rfl), lx_8 (List.mem_of_getElem? (i := 111) rfl)⟩
set_option maxRecDepth 100000 in
theorem lw_p82 : lw_okq (⟨"PlainMusicModel", "walk", "(I)Z"⟩, 111) := ⟨⟨by decide +kernel, by decide +kernel⟩, lx_6 (List.mem_of_getElem? (i := 144) rfl), lx_8 (List.mem_of_getElem? (i := 114) rfl), lx_8 (List.mem_of_getElem? (i := 115) rfl)⟩
set_option maxRecDepth 100000 in
theorem lw_p83 : lw_okq (⟨"PlainMusicModel", "event", "(II)V"⟩, 111) := ⟨⟨by decide +kernel, by decide +kernel⟩, lx_6 (List.mem_of_getElem? (i := 144) rfl), lx_8 (List.mem_of_getElem? (i := 118) rfl), lx_8 (List.mem_of_getElem? (i := 119) rfl)⟩
set_option maxRecDepth 100000 in
theorem lw_p84 : lw_okq (⟨"PlainMusicModel", "fraction", "(JJ)V"⟩, 111) := ⟨⟨by decide +kernel, by decide +kernel⟩, lx_6 (List.mem_of_getElem? (i := 144) rfl), lx_8 (List.mem_of_getElem? (i := 123) rfl), lx_8 (List.mem_of_getElem? (i := 124) rfl)⟩
set_option maxRecDepth 100000 in
theorem lw_p85 : lw_okq (⟨"PlainMusicModel", "divisor", "(JJ)J"⟩, 111) := ⟨⟨by decide +kernel, by decide +kernel⟩, lx_6 (List.mem_of_getElem? (i := 144) rfl), lx_8 (List.mem_of_getElem? (i := 127) rfl), lx_8 (List.mem_of_getElem? (i := 128) rfl)⟩
set_option maxRecDepth 100000 in
theorem lw_p86 : lw_okq (⟨"PlainMusicModel", "isFar", "(JJ)Z"⟩, 111) := ⟨⟨by decide +kernel, by decide +kernel⟩, lx_6 (List.mem_of_getElem? (i := 144) rfl), lx_8 (List.mem_of_getElem? (i := 131) rfl), lx_8 (List.mem_of_getElem? (i := 132) rfl)⟩
set_option maxRecDepth 100000 in
theorem lw_p87 : lw_okq (⟨"PlainMusicModel", "sum", "(JJJJ)V"⟩, 111) := ⟨⟨by decide +kernel, by decide +kernel⟩, lx_6 (List.mem_of_getElem? (i := 144) rfl), lx_8 (List.mem_of_getElem? (i := 137) rfl), lx_8 (List.mem_of_getElem? (i := 138) rfl)⟩
set_option maxRecDepth 100000 in
theorem lw_p88 : lw_okq (⟨"PlainMusicModel", "colons", "(I)I"⟩, 111) := ⟨⟨by decide +kernel, by decide +kernel⟩, lx_6 (List.mem_of_getElem? (i := 144) rfl), lx_8 (List.mem_of_getElem? (i := 141) rfl), lx_8 (List.mem_of_getElem? (i := 142) rfl)⟩
set_option maxRecDepth 100000 in
theorem lw_p89 : lw_okq (⟨"PlainMusicModel", "scale", "(II)V"⟩, 111) := ⟨⟨by decide +kernel, by decide +kernel⟩, lx_6 (List.mem_of_getElem? (i := 144) rfl), lx_8 (List.mem_of_getElem? (i := 145) rfl), lx_8 (List.mem_of_getElem? (i := 146) rfl)⟩
set_option maxRecDepth 100000 in
theorem lw_p90 : lw_okq (⟨"PlainMusicModel", "opening", "(I)I"⟩, 111) := ⟨⟨by decide +kernel, by decide +kernel⟩, lx_6 (List.mem_of_getElem? (i := 144) rfl), lx_8 (List.mem_of_getElem? (i := 149) rfl), lx_8 (List.mem_of_getElem? (i := 150) rfl)⟩
set_option maxRecDepth 100000 in
theorem lw_p91 : lw_okq (⟨"PlainMusicModel", "behindColon", "(II)I"⟩, 111) := ⟨⟨by decide +kernel, by decide +kernel⟩, lx_6 (List.mem_of_getElem? (i := 144) rfl), lx_8 (List.mem_of_getElem? (i := 153) rfl), lx_8 (List.mem_of_getElem? (i := 154) rfl)⟩
set_option maxRecDepth 100000 in
theorem lw_p92 : lw_okq (⟨"PlainMusicModel", "isIn", "(I)Z"⟩, 111) := ⟨⟨by decide +kernel, by decide +kernel⟩, lx_6 (List.mem_of_getElem? (i := 144) rfl), lx_8 (List.mem_of_getElem? (i := 157) rfl), lx_8 (List.mem_of_getElem? (i := 158) rfl)⟩
set_option maxRecDepth 100000 in
theorem lw_p93 : lw_okq (⟨"PlainMusicModel", "turned", "(I)I"⟩, 111) := ⟨⟨by decide +kernel, by decide +kernel⟩, lx_6 (List.mem_of_getElem? (i := 144) rfl), lx_8 (List.mem_of_getElem? (i := 161) rfl), lx_8 (List.mem_of_getElem? (i := 162) rfl)⟩
set_option maxRecDepth 100000 in
theorem lw_p94 : lw_okq (⟨"PlainMusicModel", "closing", "(I)I"⟩, 111) := ⟨⟨by decide +kernel, by decide +kernel⟩, lx_6 (List.mem_of_getElem? (i := 144) rfl), lx_8 (List.mem_of_getElem? (i := 165) rfl), lx_8 (List.mem_of_getElem? (i := 166) rfl)⟩
set_option maxRecDepth 100000 in
theorem lw_p95 : lw_okq (⟨"PlainMusicModel", "lineItem", "()Z"⟩, 111) := ⟨⟨by decide +kernel, by decide +kernel⟩, lx_6 (List.mem_of_getElem? (i := 144) rfl), lx_8 (List.mem_of_getElem? (i := 169) rfl), lx_8 (List.mem_of_getElem? (i := 170) rfl)⟩
def lw_privs_6 : List (MethodName × Nat) := [(⟨"PlainMusicModel", "soundPart", "()Z"⟩, 111), (⟨"PlainMusicModel", "pitchOf", "(I)Z"⟩, 111), (⟨"PlainMusicModel", "walk", "(I)Z"⟩, 111), (⟨"PlainMusicModel", "event", "(II)V"⟩, 111), (⟨"PlainMusicModel", "fraction", "(JJ)V"⟩, 111), (⟨"PlainMusicModel", "divisor", "(JJ)J"⟩, 111), (⟨"PlainMusicModel", "isFar", "(JJ)Z"⟩, 111), (⟨"PlainMusicModel", "sum", "(JJJJ)V"⟩, 111), (⟨"PlainMusicModel", "colons", "(I)I"⟩, 111), (⟨"PlainMusicModel", "scale", "(II)V"⟩, 111), (⟨"PlainMusicModel", "opening", "(I)I"⟩, 111), (⟨"PlainMusicModel", "behindColon", "(II)I"⟩, 111), (⟨"PlainMusicModel", "isIn", "(I)Z"⟩, 111), (⟨"PlainMusicModel", "turned", "(I)I"⟩, 111), (⟨"PlainMusicModel", "closing", "(I)I"⟩, 111), (⟨"PlainMusicModel", "lineItem", "()Z"⟩, 111)]
theorem lw_r6 : ∀ q ∈ lw_privs_6, lw_okq q := List.forall_mem_cons.mpr ⟨lw_p80, List.forall_mem_cons.mpr ⟨lw_p81, List.forall_mem_cons.mpr ⟨lw_p82, List.forall_mem_cons.mpr ⟨lw_p83, List.forall_mem_cons.mpr ⟨lw_p84, List.forall_mem_cons.mpr ⟨lw_p85, List.forall_mem_cons.mpr ⟨lw_p86, List.forall_mem_cons.mpr ⟨lw_p87, List.forall_mem_cons.mpr ⟨lw_p88, List.forall_mem_cons.mpr ⟨lw_p89, List.forall_mem_cons.mpr ⟨lw_p90, List.forall_mem_cons.mpr ⟨lw_p91, List.forall_mem_cons.mpr ⟨lw_p92, List.forall_mem_cons.mpr ⟨lw_p93, List.forall_mem_cons.mpr ⟨lw_p94, List.forall_mem_cons.mpr ⟨lw_p95, fun _ h => absurd h List.not_mem_nil⟩⟩⟩⟩⟩⟩⟩⟩⟩⟩⟩⟩⟩⟩⟩⟩
set_option maxRecDepth 100000 in
theorem lw_p96 : lw_okq (⟨"PlainMusicModel", "ruleItem", "()Z"⟩, 111) := ⟨⟨by decide +kernel, by decide +kernel⟩, lx_6 (List.mem_of_getElem? (i := 144) rfl), lx_8 (List.mem_of_getElem? (i := 173) rfl), lx_8 (List.mem_of_getElem? (i := 174) rfl)⟩
set_option maxRecDepth 100000 in
theorem lw_p97 : lw_okq (⟨"PlainMusicModel", "nameNumber", "()I"⟩, 111) := ⟨⟨by decide +kernel, by decide +kernel⟩, lx_6 (List.mem_of_getElem? (i := 144) rfl), lx_8 (List.mem_of_getElem? (i := 177) rfl), lx_8 (List.mem_of_getElem? (i := 178) rfl)⟩
set_option maxRecDepth 100000 in
theorem lw_p98 : lw_okq (⟨"PlainMusicModel", "rowItem", "()Z"⟩, 111) := ⟨⟨by decide +kernel, by decide +kernel⟩, lx_6 (List.mem_of_getElem? (i := 144) rfl), lx_8 (List.mem_of_getElem? (i := 181) rfl), lx_8 (List.mem_of_getElem? (i := 182) rfl)⟩
set_option maxRecDepth 100000 in
theorem lw_p99 : lw_okq (⟨"PlainMusicModel", "keep", "()V"⟩, 111) := ⟨⟨by decide +kernel, by decide +kernel⟩, lx_6 (List.mem_of_getElem? (i := 144) rfl), lx_8 (List.mem_of_getElem? (i := 185) rfl), lx_8 (List.mem_of_getElem? (i := 186) rfl)⟩
set_option maxRecDepth 100000 in
theorem lw_p100 : lw_okq (⟨"PlainMusicModel", "keepEvent", "(II)V"⟩, 111) := ⟨⟨by decide +kernel, by decide +kernel⟩, lx_6 (List.mem_of_getElem? (i := 144) rfl), lx_8 (List.mem_of_getElem? (i := 189) rfl), lx_8 (List.mem_of_getElem? (i := 190) rfl)⟩
set_option maxRecDepth 100000 in
theorem lw_p101 : lw_okq (⟨"PlainMusicModel", "pageBars", "()I"⟩, 111) := ⟨⟨by decide +kernel, by decide +kernel⟩, lx_6 (List.mem_of_getElem? (i := 144) rfl), lx_8 (List.mem_of_getElem? (i := 201) rfl), lx_8 (List.mem_of_getElem? (i := 202) rfl)⟩
set_option maxRecDepth 100000 in
theorem lw_p102 : lw_okq (⟨"PlainMusicModel", "isVoice", "(I)Z"⟩, 111) := ⟨⟨by decide +kernel, by decide +kernel⟩, lx_6 (List.mem_of_getElem? (i := 144) rfl), lx_8 (List.mem_of_getElem? (i := 209) rfl), lx_8 (List.mem_of_getElem? (i := 210) rfl)⟩
set_option maxRecDepth 100000 in
theorem lw_p103 : lw_okq (⟨"PlainMusicModel", "firstOf", "(II)I"⟩, 111) := ⟨⟨by decide +kernel, by decide +kernel⟩, lx_6 (List.mem_of_getElem? (i := 144) rfl), lx_8 (List.mem_of_getElem? (i := 222) rfl), lx_8 (List.mem_of_getElem? (i := 223) rfl)⟩
set_option maxRecDepth 100000 in
theorem lw_p104 : lw_okq (⟨"PlainMusicModel", "isWhole", "(II)Z"⟩, 111) := ⟨⟨by decide +kernel, by decide +kernel⟩, lx_6 (List.mem_of_getElem? (i := 144) rfl), lx_8 (List.mem_of_getElem? (i := 226) rfl), lx_8 (List.mem_of_getElem? (i := 227) rfl)⟩
set_option maxRecDepth 100000 in
theorem lw_p105 : lw_okq (⟨"PlainMusicModel", "compare", "(JJJJ)I"⟩, 111) := ⟨⟨by decide +kernel, by decide +kernel⟩, lx_6 (List.mem_of_getElem? (i := 144) rfl), lx_8 (List.mem_of_getElem? (i := 230) rfl), lx_8 (List.mem_of_getElem? (i := 231) rfl)⟩
set_option maxRecDepth 100000 in
theorem lw_p106 : lw_okq (⟨"PlainMusicModel", "tell", "(IIII)V"⟩, 111) := ⟨⟨by decide +kernel, by decide +kernel⟩, lx_6 (List.mem_of_getElem? (i := 144) rfl), lx_8 (List.mem_of_getElem? (i := 234) rfl), lx_8 (List.mem_of_getElem? (i := 235) rfl)⟩
set_option maxRecDepth 100000 in
theorem lw_p107 : lw_okq (⟨"PlainMusicModel", "judgeEvent", "(II)V"⟩, 111) := ⟨⟨by decide +kernel, by decide +kernel⟩, lx_6 (List.mem_of_getElem? (i := 144) rfl), lx_8 (List.mem_of_getElem? (i := 238) rfl), lx_8 (List.mem_of_getElem? (i := 239) rfl)⟩
set_option maxRecDepth 100000 in
theorem lw_p108 : lw_okq (⟨"PlainMusicModel", "goesOn", "(II)Z"⟩, 111) := ⟨⟨by decide +kernel, by decide +kernel⟩, lx_6 (List.mem_of_getElem? (i := 144) rfl), lx_9 (List.mem_of_getElem? (i := 2) rfl), lx_9 (List.mem_of_getElem? (i := 3) rfl)⟩
set_option maxRecDepth 100000 in
theorem lw_p109 : lw_okq (⟨"PlainMusicModel", "lowest", "(I)I"⟩, 111) := ⟨⟨by decide +kernel, by decide +kernel⟩, lx_6 (List.mem_of_getElem? (i := 144) rfl), lx_9 (List.mem_of_getElem? (i := 6) rfl), lx_9 (List.mem_of_getElem? (i := 7) rfl)⟩
set_option maxRecDepth 100000 in
theorem lw_p110 : lw_okq (⟨"PlainMusicModel", "crosses", "(II)Z"⟩, 111) := ⟨⟨by decide +kernel, by decide +kernel⟩, lx_6 (List.mem_of_getElem? (i := 144) rfl), lx_9 (List.mem_of_getElem? (i := 10) rfl), lx_9 (List.mem_of_getElem? (i := 11) rfl)⟩
set_option maxRecDepth 100000 in
theorem lw_p111 : lw_okq (⟨"PlainMusicModel", "isAhead", "(II)Z"⟩, 111) := ⟨⟨by decide +kernel, by decide +kernel⟩, lx_6 (List.mem_of_getElem? (i := 144) rfl), lx_9 (List.mem_of_getElem? (i := 14) rfl), lx_9 (List.mem_of_getElem? (i := 15) rfl)⟩
def lw_privs_7 : List (MethodName × Nat) := [(⟨"PlainMusicModel", "ruleItem", "()Z"⟩, 111), (⟨"PlainMusicModel", "nameNumber", "()I"⟩, 111), (⟨"PlainMusicModel", "rowItem", "()Z"⟩, 111), (⟨"PlainMusicModel", "keep", "()V"⟩, 111), (⟨"PlainMusicModel", "keepEvent", "(II)V"⟩, 111), (⟨"PlainMusicModel", "pageBars", "()I"⟩, 111), (⟨"PlainMusicModel", "isVoice", "(I)Z"⟩, 111), (⟨"PlainMusicModel", "firstOf", "(II)I"⟩, 111), (⟨"PlainMusicModel", "isWhole", "(II)Z"⟩, 111), (⟨"PlainMusicModel", "compare", "(JJJJ)I"⟩, 111), (⟨"PlainMusicModel", "tell", "(IIII)V"⟩, 111), (⟨"PlainMusicModel", "judgeEvent", "(II)V"⟩, 111), (⟨"PlainMusicModel", "goesOn", "(II)Z"⟩, 111), (⟨"PlainMusicModel", "lowest", "(I)I"⟩, 111), (⟨"PlainMusicModel", "crosses", "(II)Z"⟩, 111), (⟨"PlainMusicModel", "isAhead", "(II)Z"⟩, 111)]
theorem lw_r7 : ∀ q ∈ lw_privs_7, lw_okq q := List.forall_mem_cons.mpr ⟨lw_p96, List.forall_mem_cons.mpr ⟨lw_p97, List.forall_mem_cons.mpr ⟨lw_p98, List.forall_mem_cons.mpr ⟨lw_p99, List.forall_mem_cons.mpr ⟨lw_p100, List.forall_mem_cons.mpr ⟨lw_p101, List.forall_mem_cons.mpr ⟨lw_p102, List.forall_mem_cons.mpr ⟨lw_p103, List.forall_mem_cons.mpr ⟨lw_p104, List.forall_mem_cons.mpr ⟨lw_p105, List.forall_mem_cons.mpr ⟨lw_p106, List.forall_mem_cons.mpr ⟨lw_p107, List.forall_mem_cons.mpr ⟨lw_p108, List.forall_mem_cons.mpr ⟨lw_p109, List.forall_mem_cons.mpr ⟨lw_p110, List.forall_mem_cons.mpr ⟨lw_p111, fun _ h => absurd h List.not_mem_nil⟩⟩⟩⟩⟩⟩⟩⟩⟩⟩⟩⟩⟩⟩⟩⟩
set_option maxRecDepth 100000 in
theorem lw_p112 : lw_okq (⟨"PlainMusicModel", "highest", "(I)I"⟩, 111) := ⟨⟨by decide +kernel, by decide +kernel⟩, lx_6 (List.mem_of_getElem? (i := 144) rfl), lx_9 (List.mem_of_getElem? (i := 18) rfl), lx_9 (List.mem_of_getElem? (i := 19) rfl)⟩
set_option maxRecDepth 100000 in
theorem lw_p113 : lw_okq (⟨"PlainMusicModel", "goesAlong", "(II)Z"⟩, 111) := ⟨⟨by decide +kernel, by decide +kernel⟩, lx_6 (List.mem_of_getElem? (i := 144) rfl), lx_9 (List.mem_of_getElem? (i := 22) rfl), lx_9 (List.mem_of_getElem? (i := 23) rfl)⟩
set_option maxRecDepth 100000 in
theorem lw_p114 : lw_okq (⟨"PlainMusicModel", "modulo", "(I)I"⟩, 111) := ⟨⟨by decide +kernel, by decide +kernel⟩, lx_6 (List.mem_of_getElem? (i := 144) rfl), lx_9 (List.mem_of_getElem? (i := 26) rfl), lx_9 (List.mem_of_getElem? (i := 27) rfl)⟩
set_option maxRecDepth 100000 in
theorem lw_p115 : lw_okq (⟨"PlainMusicModel", "isShort", "(I)Z"⟩, 111) := ⟨⟨by decide +kernel, by decide +kernel⟩, lx_6 (List.mem_of_getElem? (i := 144) rfl), lx_9 (List.mem_of_getElem? (i := 38) rfl), lx_9 (List.mem_of_getElem? (i := 39) rfl)⟩
set_option maxRecDepth 100000 in
theorem lw_p116 : lw_okq (⟨"PlainMusicModel", "run", "(IIII)I"⟩, 111) := ⟨⟨by decide +kernel, by decide +kernel⟩, lx_6 (List.mem_of_getElem? (i := 144) rfl), lx_9 (List.mem_of_getElem? (i := 42) rfl), lx_9 (List.mem_of_getElem? (i := 43) rfl)⟩
set_option maxRecDepth 100000 in
theorem lw_p117 : lw_okq (⟨"PlainMusicModel", "groupCost", "(IIII)I"⟩, 111) := ⟨⟨by decide +kernel, by decide +kernel⟩, lx_6 (List.mem_of_getElem? (i := 144) rfl), lx_9 (List.mem_of_getElem? (i := 46) rfl), lx_9 (List.mem_of_getElem? (i := 47) rfl)⟩
set_option maxRecDepth 100000 in
theorem lw_p118 : lw_okq (⟨"PlainMusicModel", "isFirstTime", "(III)Z"⟩, 111) := ⟨⟨by decide +kernel, by decide +kernel⟩, lx_6 (List.mem_of_getElem? (i := 144) rfl), lx_9 (List.mem_of_getElem? (i := 58) rfl), lx_9 (List.mem_of_getElem? (i := 59) rfl)⟩
set_option maxRecDepth 100000 in
theorem lw_p119 : lw_okq (⟨"PlainMusicModel", "through", "(I)I"⟩, 111) := ⟨⟨by decide +kernel, by decide +kernel⟩, lx_6 (List.mem_of_getElem? (i := 144) rfl), lx_9 (List.mem_of_getElem? (i := 76) rfl), lx_9 (List.mem_of_getElem? (i := 77) rfl)⟩
set_option maxRecDepth 100000 in
theorem lw_p120 : lw_okq (⟨"PlainMusicModel", "goes", "(I)Z"⟩, 111) := ⟨⟨by decide +kernel, by decide +kernel⟩, lx_6 (List.mem_of_getElem? (i := 144) rfl), lx_9 (List.mem_of_getElem? (i := 80) rfl), lx_9 (List.mem_of_getElem? (i := 81) rfl)⟩
set_option maxRecDepth 100000 in
theorem lw_p121 : lw_okq (⟨"PlainMusicModel", "isRule", "(I)Z"⟩, 111) := ⟨⟨by decide +kernel, by decide +kernel⟩, lx_6 (List.mem_of_getElem? (i := 144) rfl), lx_9 (List.mem_of_getElem? (i := 84) rfl), lx_9 (List.mem_of_getElem? (i := 85) rfl)⟩
set_option maxRecDepth 100000 in
theorem lw_p122 : lw_okq (⟨"PlainMusicModel", "isWhite", "(I)Z"⟩, 111) := ⟨⟨by decide +kernel, by decide +kernel⟩, lx_6 (List.mem_of_getElem? (i := 144) rfl), lx_9 (List.mem_of_getElem? (i := 88) rfl), lx_9 (List.mem_of_getElem? (i := 89) rfl)⟩
set_option maxRecDepth 100000 in
theorem lw_p123 : lw_okq (⟨"PlainMusicModel", "byRule", "(IIII)J"⟩, 111) := ⟨⟨by decide +kernel, by decide +kernel⟩, lx_6 (List.mem_of_getElem? (i := 144) rfl), lx_9 (List.mem_of_getElem? (i := 100) rfl), lx_9 (List.mem_of_getElem? (i := 101) rfl)⟩
set_option maxRecDepth 100000 in
theorem lw_p124 : lw_okq (⟨"PlainMusicModel", "treeAt", "(III)I"⟩, 111) := ⟨⟨by decide +kernel, by decide +kernel⟩, lx_6 (List.mem_of_getElem? (i := 144) rfl), lx_9 (List.mem_of_getElem? (i := 104) rfl), lx_9 (List.mem_of_getElem? (i := 105) rfl)⟩
set_option maxRecDepth 100000 in
theorem lw_p125 : lw_okq (⟨"PlainMusicModel", "capped", "(J)J"⟩, 111) := ⟨⟨by decide +kernel, by decide +kernel⟩, lx_6 (List.mem_of_getElem? (i := 144) rfl), lx_9 (List.mem_of_getElem? (i := 108) rfl), lx_9 (List.mem_of_getElem? (i := 109) rfl)⟩
set_option maxRecDepth 100000 in
theorem lw_p126 : lw_okq (⟨"PlainMusicModel", "soundsOf", "(IZ)I"⟩, 111) := ⟨⟨by decide +kernel, by decide +kernel⟩, lx_6 (List.mem_of_getElem? (i := 144) rfl), lx_9 (List.mem_of_getElem? (i := 121) rfl), lx_9 (List.mem_of_getElem? (i := 122) rfl)⟩
set_option maxRecDepth 100000 in
theorem lw_p127 : lw_okq (⟨"PlainMusicModel", "cell", "(IIII)V"⟩, 111) := ⟨⟨by decide +kernel, by decide +kernel⟩, lx_6 (List.mem_of_getElem? (i := 144) rfl), lx_9 (List.mem_of_getElem? (i := 125) rfl), lx_9 (List.mem_of_getElem? (i := 126) rfl)⟩
def lw_privs_8 : List (MethodName × Nat) := [(⟨"PlainMusicModel", "highest", "(I)I"⟩, 111), (⟨"PlainMusicModel", "goesAlong", "(II)Z"⟩, 111), (⟨"PlainMusicModel", "modulo", "(I)I"⟩, 111), (⟨"PlainMusicModel", "isShort", "(I)Z"⟩, 111), (⟨"PlainMusicModel", "run", "(IIII)I"⟩, 111), (⟨"PlainMusicModel", "groupCost", "(IIII)I"⟩, 111), (⟨"PlainMusicModel", "isFirstTime", "(III)Z"⟩, 111), (⟨"PlainMusicModel", "through", "(I)I"⟩, 111), (⟨"PlainMusicModel", "goes", "(I)Z"⟩, 111), (⟨"PlainMusicModel", "isRule", "(I)Z"⟩, 111), (⟨"PlainMusicModel", "isWhite", "(I)Z"⟩, 111), (⟨"PlainMusicModel", "byRule", "(IIII)J"⟩, 111), (⟨"PlainMusicModel", "treeAt", "(III)I"⟩, 111), (⟨"PlainMusicModel", "capped", "(J)J"⟩, 111), (⟨"PlainMusicModel", "soundsOf", "(IZ)I"⟩, 111), (⟨"PlainMusicModel", "cell", "(IIII)V"⟩, 111)]
theorem lw_r8 : ∀ q ∈ lw_privs_8, lw_okq q := List.forall_mem_cons.mpr ⟨lw_p112, List.forall_mem_cons.mpr ⟨lw_p113, List.forall_mem_cons.mpr ⟨lw_p114, List.forall_mem_cons.mpr ⟨lw_p115, List.forall_mem_cons.mpr ⟨lw_p116, List.forall_mem_cons.mpr ⟨lw_p117, List.forall_mem_cons.mpr ⟨lw_p118, List.forall_mem_cons.mpr ⟨lw_p119, List.forall_mem_cons.mpr ⟨lw_p120, List.forall_mem_cons.mpr ⟨lw_p121, List.forall_mem_cons.mpr ⟨lw_p122, List.forall_mem_cons.mpr ⟨lw_p123, List.forall_mem_cons.mpr ⟨lw_p124, List.forall_mem_cons.mpr ⟨lw_p125, List.forall_mem_cons.mpr ⟨lw_p126, List.forall_mem_cons.mpr ⟨lw_p127, fun _ h => absurd h List.not_mem_nil⟩⟩⟩⟩⟩⟩⟩⟩⟩⟩⟩⟩⟩⟩⟩⟩
set_option maxRecDepth 100000 in
theorem lw_p128 : lw_okq (⟨"PlainMusicModel", "pairCost", "(II)I"⟩, 111) := ⟨⟨by decide +kernel, by decide +kernel⟩, lx_6 (List.mem_of_getElem? (i := 144) rfl), lx_9 (List.mem_of_getElem? (i := 129) rfl), lx_9 (List.mem_of_getElem? (i := 130) rfl)⟩
set_option maxRecDepth 100000 in
theorem lw_p129 : lw_okq (⟨"PlainMusicModel", "sound", "(IJJI)D"⟩, 111) := ⟨⟨by decide +kernel, by decide +kernel⟩, lx_6 (List.mem_of_getElem? (i := 144) rfl), lx_9 (List.mem_of_getElem? (i := 148) rfl), lx_9 (List.mem_of_getElem? (i := 149) rfl)⟩
set_option maxRecDepth 100000 in
theorem lw_p130 : lw_okq (⟨"PlainMusicModel", "ratioTop", "(I)I"⟩, 111) := ⟨⟨by decide +kernel, by decide +kernel⟩, lx_6 (List.mem_of_getElem? (i := 144) rfl), lx_9 (List.mem_of_getElem? (i := 152) rfl), lx_9 (List.mem_of_getElem? (i := 153) rfl)⟩
set_option maxRecDepth 100000 in
theorem lw_p131 : lw_okq (⟨"PlainMusicModel", "ratioLow", "(I)I"⟩, 111) := ⟨⟨by decide +kernel, by decide +kernel⟩, lx_6 (List.mem_of_getElem? (i := 144) rfl), lx_9 (List.mem_of_getElem? (i := 157) rfl), lx_9 (List.mem_of_getElem? (i := 158) rfl)⟩
set_option maxRecDepth 100000 in
theorem lw_p132 : lw_okq (⟨"PlainMusicModel", "product", "(JJJ)J"⟩, 111) := ⟨⟨by decide +kernel, by decide +kernel⟩, lx_6 (List.mem_of_getElem? (i := 144) rfl), lx_9 (List.mem_of_getElem? (i := 161) rfl), lx_9 (List.mem_of_getElem? (i := 162) rfl)⟩
def lw_privs_9 : List (MethodName × Nat) := [(⟨"PlainMusicModel", "pairCost", "(II)I"⟩, 111), (⟨"PlainMusicModel", "sound", "(IJJI)D"⟩, 111), (⟨"PlainMusicModel", "ratioTop", "(I)I"⟩, 111), (⟨"PlainMusicModel", "ratioLow", "(I)I"⟩, 111), (⟨"PlainMusicModel", "product", "(JJJ)J"⟩, 111)]
theorem lw_r9 : ∀ q ∈ lw_privs_9, lw_okq q := List.forall_mem_cons.mpr ⟨lw_p128, List.forall_mem_cons.mpr ⟨lw_p129, List.forall_mem_cons.mpr ⟨lw_p130, List.forall_mem_cons.mpr ⟨lw_p131, List.forall_mem_cons.mpr ⟨lw_p132, fun _ h => absurd h List.not_mem_nil⟩⟩⟩⟩⟩
def lw_privs : List (MethodName × Nat) := lw_privs_1 ++ (lw_privs_2 ++ (lw_privs_3 ++ (lw_privs_4 ++ (lw_privs_5 ++ (lw_privs_6 ++ (lw_privs_7 ++ (lw_privs_8 ++ (lw_privs_9))))))))
def lw_tbl : List Cond := k2_sels lw_privs ++ tables_1
theorem lw_privs_ok : ∀ q ∈ lw_privs, lw_okq q := by
  show ∀ q ∈ lw_privs_1 ++ (lw_privs_2 ++ (lw_privs_3 ++ (lw_privs_4 ++ (lw_privs_5 ++ (lw_privs_6 ++ (lw_privs_7 ++ (lw_privs_8 ++ (lw_privs_9)))))))), lw_okq q
  exact List.forall_mem_append.mpr ⟨lw_r1, List.forall_mem_append.mpr ⟨lw_r2, List.forall_mem_append.mpr ⟨lw_r3, List.forall_mem_append.mpr ⟨lw_r4, List.forall_mem_append.mpr ⟨lw_r5, List.forall_mem_append.mpr ⟨lw_r6, List.forall_mem_append.mpr ⟨lw_r7, List.forall_mem_append.mpr ⟨lw_r8, lw_r9⟩⟩⟩⟩⟩⟩⟩⟩
-- ===== end of PART A; then your names; then what follows =====
