/-! ===== words of the table ===== -/
theorem gx_1 {w : Cond} (h : w ∈ tables_1_1) (hg : goodWord w = true) : w ∈ gw := List.mem_filter.mpr ⟨List.mem_append_right _ (show w ∈ tables_1 from List.mem_append_left _ h), hg⟩
theorem gx_2 {w : Cond} (h : w ∈ tables_1_2) (hg : goodWord w = true) : w ∈ gw := List.mem_filter.mpr ⟨List.mem_append_right _ (show w ∈ tables_1 from List.mem_append_right _ (List.mem_append_left _ h)), hg⟩
theorem gx_3 {w : Cond} (h : w ∈ tables_1_3) (hg : goodWord w = true) : w ∈ gw := List.mem_filter.mpr ⟨List.mem_append_right _ (show w ∈ tables_1 from List.mem_append_right _ (List.mem_append_right _ (List.mem_append_left _ h))), hg⟩
theorem gx_4 {w : Cond} (h : w ∈ tables_1_4) (hg : goodWord w = true) : w ∈ gw := List.mem_filter.mpr ⟨List.mem_append_right _ (show w ∈ tables_1 from List.mem_append_right _ (List.mem_append_right _ (List.mem_append_right _ (List.mem_append_left _ h)))), hg⟩
theorem gx_5 {w : Cond} (h : w ∈ tables_1_5) (hg : goodWord w = true) : w ∈ gw := List.mem_filter.mpr ⟨List.mem_append_right _ (show w ∈ tables_1 from List.mem_append_right _ (List.mem_append_right _ (List.mem_append_right _ (List.mem_append_right _ (List.mem_append_left _ h))))), hg⟩
theorem gx_6 {w : Cond} (h : w ∈ tables_1_6) (hg : goodWord w = true) : w ∈ gw := List.mem_filter.mpr ⟨List.mem_append_right _ (show w ∈ tables_1 from List.mem_append_right _ (List.mem_append_right _ (List.mem_append_right _ (List.mem_append_right _ (List.mem_append_right _ (List.mem_append_left _ h)))))), hg⟩
theorem gx_7 {w : Cond} (h : w ∈ tables_1_7) (hg : goodWord w = true) : w ∈ gw := List.mem_filter.mpr ⟨List.mem_append_right _ (show w ∈ tables_1 from List.mem_append_right _ (List.mem_append_right _ (List.mem_append_right _ (List.mem_append_right _ (List.mem_append_right _ (List.mem_append_right _ (List.mem_append_left _ h))))))), hg⟩
theorem gx_8 {w : Cond} (h : w ∈ tables_1_8) (hg : goodWord w = true) : w ∈ gw := List.mem_filter.mpr ⟨List.mem_append_right _ (show w ∈ tables_1 from List.mem_append_right _ (List.mem_append_right _ (List.mem_append_right _ (List.mem_append_right _ (List.mem_append_right _ (List.mem_append_right _ (List.mem_append_right _ (List.mem_append_left _ h)))))))), hg⟩
theorem gx_9 {w : Cond} (h : w ∈ tables_1_9) (hg : goodWord w = true) : w ∈ gw := List.mem_filter.mpr ⟨List.mem_append_right _ (show w ∈ tables_1 from List.mem_append_right _ (List.mem_append_right _ (List.mem_append_right _ (List.mem_append_right _ (List.mem_append_right _ (List.mem_append_right _ (List.mem_append_right _ (List.mem_append_right _ (h))))))))), hg⟩
theorem gy_1 {q : MethodName × Nat} (h : q ∈ lw_privs_1) (hg : goodWord (Cond.selects q.1.cls q.1 q.1) = true) : Cond.selects q.1.cls q.1 q.1 ∈ gw := List.mem_filter.mpr ⟨List.mem_append_left _ (List.mem_map.mpr ⟨q, (show q ∈ lw_privs from List.mem_append_left _ h), rfl⟩), hg⟩
theorem gy_2 {q : MethodName × Nat} (h : q ∈ lw_privs_2) (hg : goodWord (Cond.selects q.1.cls q.1 q.1) = true) : Cond.selects q.1.cls q.1 q.1 ∈ gw := List.mem_filter.mpr ⟨List.mem_append_left _ (List.mem_map.mpr ⟨q, (show q ∈ lw_privs from List.mem_append_right _ (List.mem_append_left _ h)), rfl⟩), hg⟩
theorem gy_3 {q : MethodName × Nat} (h : q ∈ lw_privs_3) (hg : goodWord (Cond.selects q.1.cls q.1 q.1) = true) : Cond.selects q.1.cls q.1 q.1 ∈ gw := List.mem_filter.mpr ⟨List.mem_append_left _ (List.mem_map.mpr ⟨q, (show q ∈ lw_privs from List.mem_append_right _ (List.mem_append_right _ (List.mem_append_left _ h))), rfl⟩), hg⟩
theorem gy_4 {q : MethodName × Nat} (h : q ∈ lw_privs_4) (hg : goodWord (Cond.selects q.1.cls q.1 q.1) = true) : Cond.selects q.1.cls q.1 q.1 ∈ gw := List.mem_filter.mpr ⟨List.mem_append_left _ (List.mem_map.mpr ⟨q, (show q ∈ lw_privs from List.mem_append_right _ (List.mem_append_right _ (List.mem_append_right _ (List.mem_append_left _ h)))), rfl⟩), hg⟩
theorem gy_5 {q : MethodName × Nat} (h : q ∈ lw_privs_5) (hg : goodWord (Cond.selects q.1.cls q.1 q.1) = true) : Cond.selects q.1.cls q.1 q.1 ∈ gw := List.mem_filter.mpr ⟨List.mem_append_left _ (List.mem_map.mpr ⟨q, (show q ∈ lw_privs from List.mem_append_right _ (List.mem_append_right _ (List.mem_append_right _ (List.mem_append_right _ (List.mem_append_left _ h))))), rfl⟩), hg⟩
theorem gy_6 {q : MethodName × Nat} (h : q ∈ lw_privs_6) (hg : goodWord (Cond.selects q.1.cls q.1 q.1) = true) : Cond.selects q.1.cls q.1 q.1 ∈ gw := List.mem_filter.mpr ⟨List.mem_append_left _ (List.mem_map.mpr ⟨q, (show q ∈ lw_privs from List.mem_append_right _ (List.mem_append_right _ (List.mem_append_right _ (List.mem_append_right _ (List.mem_append_right _ (List.mem_append_left _ h)))))), rfl⟩), hg⟩
theorem gy_7 {q : MethodName × Nat} (h : q ∈ lw_privs_7) (hg : goodWord (Cond.selects q.1.cls q.1 q.1) = true) : Cond.selects q.1.cls q.1 q.1 ∈ gw := List.mem_filter.mpr ⟨List.mem_append_left _ (List.mem_map.mpr ⟨q, (show q ∈ lw_privs from List.mem_append_right _ (List.mem_append_right _ (List.mem_append_right _ (List.mem_append_right _ (List.mem_append_right _ (List.mem_append_right _ (List.mem_append_left _ h))))))), rfl⟩), hg⟩
theorem gy_8 {q : MethodName × Nat} (h : q ∈ lw_privs_8) (hg : goodWord (Cond.selects q.1.cls q.1 q.1) = true) : Cond.selects q.1.cls q.1 q.1 ∈ gw := List.mem_filter.mpr ⟨List.mem_append_left _ (List.mem_map.mpr ⟨q, (show q ∈ lw_privs from List.mem_append_right _ (List.mem_append_right _ (List.mem_append_right _ (List.mem_append_right _ (List.mem_append_right _ (List.mem_append_right _ (List.mem_append_right _ (List.mem_append_left _ h)))))))), rfl⟩), hg⟩
theorem gy_9 {q : MethodName × Nat} (h : q ∈ lw_privs_9) (hg : goodWord (Cond.selects q.1.cls q.1 q.1) = true) : Cond.selects q.1.cls q.1 q.1 ∈ gw := List.mem_filter.mpr ⟨List.mem_append_left _ (List.mem_map.mpr ⟨q, (show q ∈ lw_privs from List.mem_append_right _ (List.mem_append_right _ (List.mem_append_right _ (List.mem_append_right _ (List.mem_append_right _ (List.mem_append_right _ (List.mem_append_right _ (List.mem_append_right _ (h))))))))), rfl⟩), hg⟩
theorem gwi_0 : Cond.selects "PlainMusic" (⟨"PlainMusic", "putBytes", "(I)V"⟩ : MethodName) (⟨"PlainMusic", "putBytes", "(I)V"⟩ : MethodName) ∈ gw := gy_1 (q := ((⟨"PlainMusic", "putBytes", "(I)V"⟩ : MethodName), 11)) (List.mem_of_getElem? (i := 0) rfl) (by decide +kernel)
theorem gwi_1 : Cond.selects "PlainMusic$Tokens" (⟨"PlainMusic$Tokens", "cutOne", "()Z"⟩ : MethodName) (⟨"PlainMusic$Tokens", "cutOne", "()Z"⟩ : MethodName) ∈ gw := gy_1 (q := ((⟨"PlainMusic$Tokens", "cutOne", "()Z"⟩ : MethodName), 13)) (List.mem_of_getElem? (i := 1) rfl) (by decide +kernel)
theorem gwi_2 : Cond.selects "PlainMusic$Tokens" (⟨"PlainMusic$Tokens", "skipBlanks", "()V"⟩ : MethodName) (⟨"PlainMusic$Tokens", "skipBlanks", "()V"⟩ : MethodName) ∈ gw := gy_1 (q := ((⟨"PlainMusic$Tokens", "skipBlanks", "()V"⟩ : MethodName), 13)) (List.mem_of_getElem? (i := 2) rfl) (by decide +kernel)
theorem gwi_3 : Cond.selects "PlainMusic$Tokens" (⟨"PlainMusic$Tokens", "byteAt", "(I)I"⟩ : MethodName) (⟨"PlainMusic$Tokens", "byteAt", "(I)I"⟩ : MethodName) ∈ gw := gy_1 (q := ((⟨"PlainMusic$Tokens", "byteAt", "(I)I"⟩ : MethodName), 13)) (List.mem_of_getElem? (i := 3) rfl) (by decide +kernel)
theorem gwi_4 : Cond.selects "PlainMusic$Tokens" (⟨"PlainMusic$Tokens", "cutPitch", "(I)V"⟩ : MethodName) (⟨"PlainMusic$Tokens", "cutPitch", "(I)V"⟩ : MethodName) ∈ gw := gy_1 (q := ((⟨"PlainMusic$Tokens", "cutPitch", "(I)V"⟩ : MethodName), 13)) (List.mem_of_getElem? (i := 4) rfl) (by decide +kernel)
theorem gwi_5 : Cond.selects "PlainMusic$Tokens" (⟨"PlainMusic$Tokens", "cutName", "()V"⟩ : MethodName) (⟨"PlainMusic$Tokens", "cutName", "()V"⟩ : MethodName) ∈ gw := gy_1 (q := ((⟨"PlainMusic$Tokens", "cutName", "()V"⟩ : MethodName), 13)) (List.mem_of_getElem? (i := 5) rfl) (by decide +kernel)
theorem gwi_6 : Cond.selects "PlainMusic$Tokens" (⟨"PlainMusic$Tokens", "cutNumber", "()V"⟩ : MethodName) (⟨"PlainMusic$Tokens", "cutNumber", "()V"⟩ : MethodName) ∈ gw := gy_1 (q := ((⟨"PlainMusic$Tokens", "cutNumber", "()V"⟩ : MethodName), 13)) (List.mem_of_getElem? (i := 6) rfl) (by decide +kernel)
theorem gwi_7 : Cond.selects "PlainMusic$Reader" (⟨"PlainMusic$Reader", "readTime", "()Z"⟩ : MethodName) (⟨"PlainMusic$Reader", "readTime", "()Z"⟩ : MethodName) ∈ gw := gy_1 (q := ((⟨"PlainMusic$Reader", "readTime", "()Z"⟩ : MethodName), 8)) (List.mem_of_getElem? (i := 7) rfl) (by decide +kernel)
theorem gwi_8 : Cond.selects "PlainMusic$Reader" (⟨"PlainMusic$Reader", "blame", "(II)Z"⟩ : MethodName) (⟨"PlainMusic$Reader", "blame", "(II)Z"⟩ : MethodName) ∈ gw := gy_1 (q := ((⟨"PlainMusic$Reader", "blame", "(II)Z"⟩ : MethodName), 8)) (List.mem_of_getElem? (i := 8) rfl) (by decide +kernel)
theorem gwi_9 : Cond.selects "PlainMusic$Reader" (⟨"PlainMusic$Reader", "readNumber", "(IZ)I"⟩ : MethodName) (⟨"PlainMusic$Reader", "readNumber", "(IZ)I"⟩ : MethodName) ∈ gw := gy_1 (q := ((⟨"PlainMusic$Reader", "readNumber", "(IZ)I"⟩ : MethodName), 8)) (List.mem_of_getElem? (i := 9) rfl) (by decide +kernel)
theorem gwi_10 : Cond.selects "PlainMusic$Reader" (⟨"PlainMusic$Reader", "refuse", "()Z"⟩ : MethodName) (⟨"PlainMusic$Reader", "refuse", "()Z"⟩ : MethodName) ∈ gw := gy_1 (q := ((⟨"PlainMusic$Reader", "refuse", "()Z"⟩ : MethodName), 8)) (List.mem_of_getElem? (i := 10) rfl) (by decide +kernel)
theorem gwi_11 : Cond.selects "PlainMusic$Reader" (⟨"PlainMusic$Reader", "take", "(I)Z"⟩ : MethodName) (⟨"PlainMusic$Reader", "take", "(I)Z"⟩ : MethodName) ∈ gw := gy_1 (q := ((⟨"PlainMusic$Reader", "take", "(I)Z"⟩ : MethodName), 8)) (List.mem_of_getElem? (i := 11) rfl) (by decide +kernel)
theorem gwi_12 : Cond.selects "PlainMusic$Reader" (⟨"PlainMusic$Reader", "readVoice", "()Z"⟩ : MethodName) (⟨"PlainMusic$Reader", "readVoice", "()Z"⟩ : MethodName) ∈ gw := gy_1 (q := ((⟨"PlainMusic$Reader", "readVoice", "()Z"⟩ : MethodName), 8)) (List.mem_of_getElem? (i := 12) rfl) (by decide +kernel)
theorem gwi_13 : Cond.selects "PlainMusic$Reader" (⟨"PlainMusic$Reader", "beginsEvent", "()Z"⟩ : MethodName) (⟨"PlainMusic$Reader", "beginsEvent", "()Z"⟩ : MethodName) ∈ gw := gy_1 (q := ((⟨"PlainMusic$Reader", "beginsEvent", "()Z"⟩ : MethodName), 8)) (List.mem_of_getElem? (i := 13) rfl) (by decide +kernel)
theorem gwi_14 : Cond.selects "PlainMusic$Reader" (⟨"PlainMusic$Reader", "isShallow", "()Z"⟩ : MethodName) (⟨"PlainMusic$Reader", "isShallow", "()Z"⟩ : MethodName) ∈ gw := gy_1 (q := ((⟨"PlainMusic$Reader", "isShallow", "()Z"⟩ : MethodName), 8)) (List.mem_of_getElem? (i := 14) rfl) (by decide +kernel)
theorem gwi_15 : Cond.selects "PlainMusic$Reader" (⟨"PlainMusic$Reader", "readEvent", "(LPlainMusic$Voice;)Z"⟩ : MethodName) (⟨"PlainMusic$Reader", "readEvent", "(LPlainMusic$Voice;)Z"⟩ : MethodName) ∈ gw := gy_1 (q := ((⟨"PlainMusic$Reader", "readEvent", "(LPlainMusic$Voice;)Z"⟩ : MethodName), 8)) (List.mem_of_getElem? (i := 15) rfl) (by decide +kernel)
theorem gwi_16 : Cond.selects "PlainMusic$Reader" (⟨"PlainMusic$Reader", "readSound", "(LPlainMusic$Voice;)Z"⟩ : MethodName) (⟨"PlainMusic$Reader", "readSound", "(LPlainMusic$Voice;)Z"⟩ : MethodName) ∈ gw := gy_2 (q := ((⟨"PlainMusic$Reader", "readSound", "(LPlainMusic$Voice;)Z"⟩ : MethodName), 8)) (List.mem_of_getElem? (i := 0) rfl) (by decide +kernel)
theorem gwi_18 : Cond.selects "PlainMusic$Reader" (⟨"PlainMusic$Reader", "readPart", "()Z"⟩ : MethodName) (⟨"PlainMusic$Reader", "readPart", "()Z"⟩ : MethodName) ∈ gw := gy_2 (q := ((⟨"PlainMusic$Reader", "readPart", "()Z"⟩ : MethodName), 8)) (List.mem_of_getElem? (i := 2) rfl) (by decide +kernel)
theorem gwi_19 : Cond.selects "PlainMusic$Reader" (⟨"PlainMusic$Reader", "readStretch", "()Z"⟩ : MethodName) (⟨"PlainMusic$Reader", "readStretch", "()Z"⟩ : MethodName) ∈ gw := gy_2 (q := ((⟨"PlainMusic$Reader", "readStretch", "()Z"⟩ : MethodName), 8)) (List.mem_of_getElem? (i := 3) rfl) (by decide +kernel)
theorem gwi_20 : Cond.selects "PlainMusic$Parts" (⟨"PlainMusic$Parts", "walkThrough", "(LPlainMusic$Voice;IIIJJ)V"⟩ : MethodName) (⟨"PlainMusic$Parts", "walkThrough", "(LPlainMusic$Voice;IIIJJ)V"⟩ : MethodName) ∈ gw := gy_2 (q := ((⟨"PlainMusic$Parts", "walkThrough", "(LPlainMusic$Voice;IIIJJ)V"⟩ : MethodName), 12)) (List.mem_of_getElem? (i := 4) rfl) (by decide +kernel)
theorem gwi_21 : Cond.selects "PlainMusic$Parts" (⟨"PlainMusic$Parts", "walkRepeat", "(LPlainMusic$Voice;IIJJ)I"⟩ : MethodName) (⟨"PlainMusic$Parts", "walkRepeat", "(LPlainMusic$Voice;IIJJ)I"⟩ : MethodName) ∈ gw := gy_2 (q := ((⟨"PlainMusic$Parts", "walkRepeat", "(LPlainMusic$Voice;IIJJ)I"⟩ : MethodName), 12)) (List.mem_of_getElem? (i := 5) rfl) (by decide +kernel)
theorem gwi_22 : Cond.selects "PlainMusic$Parts" (⟨"PlainMusic$Parts", "meetLine", "(LPlainMusic$Voice;)V"⟩ : MethodName) (⟨"PlainMusic$Parts", "meetLine", "(LPlainMusic$Voice;)V"⟩ : MethodName) ∈ gw := gy_2 (q := ((⟨"PlainMusic$Parts", "meetLine", "(LPlainMusic$Voice;)V"⟩ : MethodName), 12)) (List.mem_of_getElem? (i := 6) rfl) (by decide +kernel)
theorem gwi_23 : Cond.selects "PlainMusic$Reader" (⟨"PlainMusic$Reader", "readLine", "()Z"⟩ : MethodName) (⟨"PlainMusic$Reader", "readLine", "()Z"⟩ : MethodName) ∈ gw := gy_2 (q := ((⟨"PlainMusic$Reader", "readLine", "()Z"⟩ : MethodName), 8)) (List.mem_of_getElem? (i := 7) rfl) (by decide +kernel)
theorem gwi_24 : Cond.selects "PlainMusic$Reader" (⟨"PlainMusic$Reader", "readRule", "()Z"⟩ : MethodName) (⟨"PlainMusic$Reader", "readRule", "()Z"⟩ : MethodName) ∈ gw := gy_2 (q := ((⟨"PlainMusic$Reader", "readRule", "()Z"⟩ : MethodName), 8)) (List.mem_of_getElem? (i := 8) rfl) (by decide +kernel)
theorem gwi_25 : Cond.selects "PlainMusic$Reader" (⟨"PlainMusic$Reader", "readName", "()I"⟩ : MethodName) (⟨"PlainMusic$Reader", "readName", "()I"⟩ : MethodName) ∈ gw := gy_2 (q := ((⟨"PlainMusic$Reader", "readName", "()I"⟩ : MethodName), 8)) (List.mem_of_getElem? (i := 9) rfl) (by decide +kernel)
theorem gwi_26 : Cond.selects "PlainMusic$Reader" (⟨"PlainMusic$Reader", "readRow", "()Z"⟩ : MethodName) (⟨"PlainMusic$Reader", "readRow", "()Z"⟩ : MethodName) ∈ gw := gy_2 (q := ((⟨"PlainMusic$Reader", "readRow", "()Z"⟩ : MethodName), 8)) (List.mem_of_getElem? (i := 10) rfl) (by decide +kernel)
theorem gwi_27 : Cond.selects "PlainMusic" (⟨"PlainMusic", "forgetFindings", "()V"⟩ : MethodName) (⟨"PlainMusic", "forgetFindings", "()V"⟩ : MethodName) ∈ gw := gy_2 (q := ((⟨"PlainMusic", "forgetFindings", "()V"⟩ : MethodName), 11)) (List.mem_of_getElem? (i := 11) rfl) (by decide +kernel)
theorem gwi_28 : Cond.selects "PlainMusic$Judge" (⟨"PlainMusic$Judge", "hearVoice", "(LPlainMusic$Score;LPlainMusic$Voice;I)V"⟩ : MethodName) (⟨"PlainMusic$Judge", "hearVoice", "(LPlainMusic$Score;LPlainMusic$Voice;I)V"⟩ : MethodName) ∈ gw := gy_2 (q := ((⟨"PlainMusic$Judge", "hearVoice", "(LPlainMusic$Score;LPlainMusic$Voice;I)V"⟩ : MethodName), 3)) (List.mem_of_getElem? (i := 12) rfl) (by decide +kernel)
theorem gwi_29 : Cond.selects "PlainMusic$Judge" (⟨"PlainMusic$Judge", "add", "(IIII)V"⟩ : MethodName) (⟨"PlainMusic$Judge", "add", "(IIII)V"⟩ : MethodName) ∈ gw := gy_2 (q := ((⟨"PlainMusic$Judge", "add", "(IIII)V"⟩ : MethodName), 3)) (List.mem_of_getElem? (i := 13) rfl) (by decide +kernel)
theorem gwi_30 : Cond.selects "PlainMusic$Judge" (⟨"PlainMusic$Judge", "hearAlone", "(LPlainMusic$Voice;II)V"⟩ : MethodName) (⟨"PlainMusic$Judge", "hearAlone", "(LPlainMusic$Voice;II)V"⟩ : MethodName) ∈ gw := gy_2 (q := ((⟨"PlainMusic$Judge", "hearAlone", "(LPlainMusic$Voice;II)V"⟩ : MethodName), 3)) (List.mem_of_getElem? (i := 14) rfl) (by decide +kernel)
theorem gwi_31 : Cond.selects "PlainMusic$Judge" (⟨"PlainMusic$Judge", "hearCrossings", "(LPlainMusic$Score;LPlainMusic$Voice;II)V"⟩ : MethodName) (⟨"PlainMusic$Judge", "hearCrossings", "(LPlainMusic$Score;LPlainMusic$Voice;II)V"⟩ : MethodName) ∈ gw := gy_2 (q := ((⟨"PlainMusic$Judge", "hearCrossings", "(LPlainMusic$Score;LPlainMusic$Voice;II)V"⟩ : MethodName), 3)) (List.mem_of_getElem? (i := 15) rfl) (by decide +kernel)
theorem gwi_32 : Cond.selects "PlainMusic$Judge" (⟨"PlainMusic$Judge", "hearParallels", "(LPlainMusic$Score;LPlainMusic$Voice;II)V"⟩ : MethodName) (⟨"PlainMusic$Judge", "hearParallels", "(LPlainMusic$Score;LPlainMusic$Voice;II)V"⟩ : MethodName) ∈ gw := gy_3 (q := ((⟨"PlainMusic$Judge", "hearParallels", "(LPlainMusic$Score;LPlainMusic$Voice;II)V"⟩ : MethodName), 3)) (List.mem_of_getElem? (i := 0) rfl) (by decide +kernel)
theorem gwi_33 : Cond.selects "PlainMusic$Beams" (⟨"PlainMusic$Beams", "cutRun", "(LPlainMusic$Voice;IIII)I"⟩ : MethodName) (⟨"PlainMusic$Beams", "cutRun", "(LPlainMusic$Voice;IIII)I"⟩ : MethodName) ∈ gw := gy_3 (q := ((⟨"PlainMusic$Beams", "cutRun", "(LPlainMusic$Voice;IIII)I"⟩ : MethodName), 4)) (List.mem_of_getElem? (i := 1) rfl) (by decide +kernel)
theorem gwi_34 : Cond.selects "PlainMusic$Page" (⟨"PlainMusic$Page", "timesIn", "(LPlainMusic$Score;I)I"⟩ : MethodName) (⟨"PlainMusic$Page", "timesIn", "(LPlainMusic$Score;I)I"⟩ : MethodName) ∈ gw := gy_3 (q := ((⟨"PlainMusic$Page", "timesIn", "(LPlainMusic$Score;I)I"⟩ : MethodName), 8)) (List.mem_of_getElem? (i := 2) rfl) (by decide +kernel)
theorem gwi_35 : Cond.selects "PlainMusic$Page" (⟨"PlainMusic$Page", "setNext", "(LPlainMusic$Voice;II)V"⟩ : MethodName) (⟨"PlainMusic$Page", "setNext", "(LPlainMusic$Voice;II)V"⟩ : MethodName) ∈ gw := gy_3 (q := ((⟨"PlainMusic$Page", "setNext", "(LPlainMusic$Voice;II)V"⟩ : MethodName), 8)) (List.mem_of_getElem? (i := 3) rfl) (by decide +kernel)
theorem gwi_36 : Cond.selects "PlainMusic$Page" (⟨"PlainMusic$Page", "earliest", "()I"⟩ : MethodName) (⟨"PlainMusic$Page", "earliest", "()I"⟩ : MethodName) ∈ gw := gy_3 (q := ((⟨"PlainMusic$Page", "earliest", "()I"⟩ : MethodName), 8)) (List.mem_of_getElem? (i := 4) rfl) (by decide +kernel)
theorem gwi_37 : Cond.selects "PlainMusic$Page" (⟨"PlainMusic$Page", "passTime", "(LPlainMusic$Score;IJJ)V"⟩ : MethodName) (⟨"PlainMusic$Page", "passTime", "(LPlainMusic$Score;IJJ)V"⟩ : MethodName) ∈ gw := gy_3 (q := ((⟨"PlainMusic$Page", "passTime", "(LPlainMusic$Score;IJJ)V"⟩ : MethodName), 8)) (List.mem_of_getElem? (i := 5) rfl) (by decide +kernel)
theorem gwi_38 : Cond.selects "PlainMusic$Page" (⟨"PlainMusic$Page", "findFrom", "(III)V"⟩ : MethodName) (⟨"PlainMusic$Page", "findFrom", "(III)V"⟩ : MethodName) ∈ gw := gy_3 (q := ((⟨"PlainMusic$Page", "findFrom", "(III)V"⟩ : MethodName), 8)) (List.mem_of_getElem? (i := 6) rfl) (by decide +kernel)
theorem gwi_39 : Cond.selects "PlainMusic$Seconds" (⟨"PlainMusic$Seconds", "extend", "(II)V"⟩ : MethodName) (⟨"PlainMusic$Seconds", "extend", "(II)V"⟩ : MethodName) ∈ gw := gy_3 (q := ((⟨"PlainMusic$Seconds", "extend", "(II)V"⟩ : MethodName), 8)) (List.mem_of_getElem? (i := 7) rfl) (by decide +kernel)
theorem gwi_40 : Cond.selects "PlainMusic$Seconds" (⟨"PlainMusic$Seconds", "keep", "(I)V"⟩ : MethodName) (⟨"PlainMusic$Seconds", "keep", "(I)V"⟩ : MethodName) ∈ gw := gy_3 (q := ((⟨"PlainMusic$Seconds", "keep", "(I)V"⟩ : MethodName), 8)) (List.mem_of_getElem? (i := 8) rfl) (by decide +kernel)
theorem gwi_41 : Cond.selects "PlainMusic$Seconds" (⟨"PlainMusic$Seconds", "fitsAlone", "(I)Z"⟩ : MethodName) (⟨"PlainMusic$Seconds", "fitsAlone", "(I)Z"⟩ : MethodName) ∈ gw := gy_3 (q := ((⟨"PlainMusic$Seconds", "fitsAlone", "(I)Z"⟩ : MethodName), 8)) (List.mem_of_getElem? (i := 9) rfl) (by decide +kernel)
theorem gwi_42 : Cond.selects "PlainMusic$Seconds" (⟨"PlainMusic$Seconds", "asks", "(I)Z"⟩ : MethodName) (⟨"PlainMusic$Seconds", "asks", "(I)Z"⟩ : MethodName) ∈ gw := gy_3 (q := ((⟨"PlainMusic$Seconds", "asks", "(I)Z"⟩ : MethodName), 8)) (List.mem_of_getElem? (i := 10) rfl) (by decide +kernel)
theorem gwi_43 : Cond.selects "PlainMusic$Seconds" (⟨"PlainMusic$Seconds", "fitsBehind", "(I)Z"⟩ : MethodName) (⟨"PlainMusic$Seconds", "fitsBehind", "(I)Z"⟩ : MethodName) ∈ gw := gy_3 (q := ((⟨"PlainMusic$Seconds", "fitsBehind", "(I)Z"⟩ : MethodName), 8)) (List.mem_of_getElem? (i := 11) rfl) (by decide +kernel)
theorem gwi_44 : Cond.selects "PlainMusic$Seconds" (⟨"PlainMusic$Seconds", "fitsLeap", "(I)Z"⟩ : MethodName) (⟨"PlainMusic$Seconds", "fitsLeap", "(I)Z"⟩ : MethodName) ∈ gw := gy_3 (q := ((⟨"PlainMusic$Seconds", "fitsLeap", "(I)Z"⟩ : MethodName), 8)) (List.mem_of_getElem? (i := 12) rfl) (by decide +kernel)
theorem gwi_45 : Cond.selects "PlainMusic$Seconds" (⟨"PlainMusic$Seconds", "rowAt", "(I)I"⟩ : MethodName) (⟨"PlainMusic$Seconds", "rowAt", "(I)I"⟩ : MethodName) ∈ gw := gy_3 (q := ((⟨"PlainMusic$Seconds", "rowAt", "(I)I"⟩ : MethodName), 8)) (List.mem_of_getElem? (i := 13) rfl) (by decide +kernel)
theorem gwi_46 : Cond.selects "PlainMusic$Trees" (⟨"PlainMusic$Trees", "fill", "(LPlainMusic$Score;II)V"⟩ : MethodName) (⟨"PlainMusic$Trees", "fill", "(LPlainMusic$Score;II)V"⟩ : MethodName) ∈ gw := gy_3 (q := ((⟨"PlainMusic$Trees", "fill", "(LPlainMusic$Score;II)V"⟩ : MethodName), 6)) (List.mem_of_getElem? (i := 14) rfl) (by decide +kernel)
theorem gwi_47 : Cond.selects "PlainMusic$Trees" (⟨"PlainMusic$Trees", "treesBy", "(LPlainMusic$Score;III)J"⟩ : MethodName) (⟨"PlainMusic$Trees", "treesBy", "(LPlainMusic$Score;III)J"⟩ : MethodName) ∈ gw := gy_3 (q := ((⟨"PlainMusic$Trees", "treesBy", "(LPlainMusic$Score;III)J"⟩ : MethodName), 6)) (List.mem_of_getElem? (i := 15) rfl) (by decide +kernel)
theorem gwi_48 : Cond.selects "PlainMusic$Trees" (⟨"PlainMusic$Trees", "treesCut", "(LPlainMusic$Score;IIII)J"⟩ : MethodName) (⟨"PlainMusic$Trees", "treesCut", "(LPlainMusic$Score;IIII)J"⟩ : MethodName) ∈ gw := gy_4 (q := ((⟨"PlainMusic$Trees", "treesCut", "(LPlainMusic$Score;IIII)J"⟩ : MethodName), 6)) (List.mem_of_getElem? (i := 0) rfl) (by decide +kernel)
theorem gwi_49 : Cond.selects "PlainMusic$Trees" (⟨"PlainMusic$Trees", "treesOf", "(III)I"⟩ : MethodName) (⟨"PlainMusic$Trees", "treesOf", "(III)I"⟩ : MethodName) ∈ gw := gy_4 (q := ((⟨"PlainMusic$Trees", "treesOf", "(III)I"⟩ : MethodName), 6)) (List.mem_of_getElem? (i := 1) rfl) (by decide +kernel)
theorem gwi_50 : Cond.selects "PlainMusic$Trees" (⟨"PlainMusic$Trees", "findRule", "(LPlainMusic$Score;)I"⟩ : MethodName) (⟨"PlainMusic$Trees", "findRule", "(LPlainMusic$Score;)I"⟩ : MethodName) ∈ gw := gy_4 (q := ((⟨"PlainMusic$Trees", "findRule", "(LPlainMusic$Score;)I"⟩ : MethodName), 6)) (List.mem_of_getElem? (i := 2) rfl) (by decide +kernel)
theorem gwi_51 : Cond.selects "PlainMusic$Trees" (⟨"PlainMusic$Trees", "findCut", "(LPlainMusic$Score;I)I"⟩ : MethodName) (⟨"PlainMusic$Trees", "findCut", "(LPlainMusic$Score;I)I"⟩ : MethodName) ∈ gw := gy_4 (q := ((⟨"PlainMusic$Trees", "findCut", "(LPlainMusic$Score;I)I"⟩ : MethodName), 6)) (List.mem_of_getElem? (i := 3) rfl) (by decide +kernel)
theorem gwi_52 : Cond.selects "PlainMusic$Trees" (⟨"PlainMusic$Trees", "goDown", "(LPlainMusic$Score;IIZ)V"⟩ : MethodName) (⟨"PlainMusic$Trees", "goDown", "(LPlainMusic$Score;IIZ)V"⟩ : MethodName) ∈ gw := gy_4 (q := ((⟨"PlainMusic$Trees", "goDown", "(LPlainMusic$Score;IIZ)V"⟩ : MethodName), 6)) (List.mem_of_getElem? (i := 4) rfl) (by decide +kernel)
theorem gwi_53 : Cond.selects "PlainMusic$Pairing" (⟨"PlainMusic$Pairing", "weigh", "(LPlainMusic$Voice;LPlainMusic$Voice;II)V"⟩ : MethodName) (⟨"PlainMusic$Pairing", "weigh", "(LPlainMusic$Voice;LPlainMusic$Voice;II)V"⟩ : MethodName) ∈ gw := gy_4 (q := ((⟨"PlainMusic$Pairing", "weigh", "(LPlainMusic$Voice;LPlainMusic$Voice;II)V"⟩ : MethodName), 8)) (List.mem_of_getElem? (i := 5) rfl) (by decide +kernel)
theorem gwi_54 : Cond.selects "PlainMusic$Pairing" (⟨"PlainMusic$Pairing", "slot", "(II)I"⟩ : MethodName) (⟨"PlainMusic$Pairing", "slot", "(II)I"⟩ : MethodName) ∈ gw := gy_4 (q := ((⟨"PlainMusic$Pairing", "slot", "(II)I"⟩ : MethodName), 8)) (List.mem_of_getElem? (i := 6) rfl) (by decide +kernel)
theorem gwi_55 : Cond.selects "PlainMusic$Pairing" (⟨"PlainMusic$Pairing", "pairCost", "(LPlainMusic$Voice;LPlainMusic$Voice;II)I"⟩ : MethodName) (⟨"PlainMusic$Pairing", "pairCost", "(LPlainMusic$Voice;LPlainMusic$Voice;II)I"⟩ : MethodName) ∈ gw := gy_4 (q := ((⟨"PlainMusic$Pairing", "pairCost", "(LPlainMusic$Voice;LPlainMusic$Voice;II)I"⟩ : MethodName), 8)) (List.mem_of_getElem? (i := 7) rfl) (by decide +kernel)
theorem gwi_56 : Cond.selects "PlainMusic$Pairing" (⟨"PlainMusic$Pairing", "choose", "(LPlainMusic$Voice;LPlainMusic$Voice;)V"⟩ : MethodName) (⟨"PlainMusic$Pairing", "choose", "(LPlainMusic$Voice;LPlainMusic$Voice;)V"⟩ : MethodName) ∈ gw := gy_4 (q := ((⟨"PlainMusic$Pairing", "choose", "(LPlainMusic$Voice;LPlainMusic$Voice;)V"⟩ : MethodName), 8)) (List.mem_of_getElem? (i := 8) rfl) (by decide +kernel)
theorem gwi_57 : Cond.selects "PlainMusic$Pairing" (⟨"PlainMusic$Pairing", "isPair", "(LPlainMusic$Voice;LPlainMusic$Voice;II)Z"⟩ : MethodName) (⟨"PlainMusic$Pairing", "isPair", "(LPlainMusic$Voice;LPlainMusic$Voice;II)Z"⟩ : MethodName) ∈ gw := gy_4 (q := ((⟨"PlainMusic$Pairing", "isPair", "(LPlainMusic$Voice;LPlainMusic$Voice;II)Z"⟩ : MethodName), 8)) (List.mem_of_getElem? (i := 9) rfl) (by decide +kernel)
theorem gwi_58 : Cond.selects "PlainMusic$Pairing" (⟨"PlainMusic$Pairing", "isFirstAlone", "(II)Z"⟩ : MethodName) (⟨"PlainMusic$Pairing", "isFirstAlone", "(II)Z"⟩ : MethodName) ∈ gw := gy_4 (q := ((⟨"PlainMusic$Pairing", "isFirstAlone", "(II)Z"⟩ : MethodName), 8)) (List.mem_of_getElem? (i := 10) rfl) (by decide +kernel)
theorem gwi_59 : Cond.selects "PlainMusicModel" (⟨"PlainMusicModel", "lay", "(I)V"⟩ : MethodName) (⟨"PlainMusicModel", "lay", "(I)V"⟩ : MethodName) ∈ gw := gy_4 (q := ((⟨"PlainMusicModel", "lay", "(I)V"⟩ : MethodName), 111)) (List.mem_of_getElem? (i := 11) rfl) (by decide +kernel)
theorem gwi_60 : Cond.selects "PlainMusicModel" (⟨"PlainMusicModel", "parse", "()Z"⟩ : MethodName) (⟨"PlainMusicModel", "parse", "()Z"⟩ : MethodName) ∈ gw := gy_4 (q := ((⟨"PlainMusicModel", "parse", "()Z"⟩ : MethodName), 111)) (List.mem_of_getElem? (i := 12) rfl) (by decide +kernel)
theorem gwi_61 : Cond.selects "PlainMusicModel" (⟨"PlainMusicModel", "next", "()Z"⟩ : MethodName) (⟨"PlainMusicModel", "next", "()Z"⟩ : MethodName) ∈ gw := gy_4 (q := ((⟨"PlainMusicModel", "next", "()Z"⟩ : MethodName), 111)) (List.mem_of_getElem? (i := 13) rfl) (by decide +kernel)
theorem gwi_62 : Cond.selects "PlainMusicModel" (⟨"PlainMusicModel", "pitch", "(I)V"⟩ : MethodName) (⟨"PlainMusicModel", "pitch", "(I)V"⟩ : MethodName) ∈ gw := gy_4 (q := ((⟨"PlainMusicModel", "pitch", "(I)V"⟩ : MethodName), 111)) (List.mem_of_getElem? (i := 14) rfl) (by decide +kernel)
theorem gwi_63 : Cond.selects "PlainMusicModel" (⟨"PlainMusicModel", "at", "(I)I"⟩ : MethodName) (⟨"PlainMusicModel", "at", "(I)I"⟩ : MethodName) ∈ gw := gy_4 (q := ((⟨"PlainMusicModel", "at", "(I)I"⟩ : MethodName), 111)) (List.mem_of_getElem? (i := 15) rfl) (by decide +kernel)
theorem gwi_64 : Cond.selects "PlainMusicModel" (⟨"PlainMusicModel", "whites", "(I)I"⟩ : MethodName) (⟨"PlainMusicModel", "whites", "(I)I"⟩ : MethodName) ∈ gw := gy_5 (q := ((⟨"PlainMusicModel", "whites", "(I)I"⟩ : MethodName), 111)) (List.mem_of_getElem? (i := 0) rfl) (by decide +kernel)
theorem gwi_65 : Cond.selects "PlainMusicModel" (⟨"PlainMusicModel", "isSmall", "(I)Z"⟩ : MethodName) (⟨"PlainMusicModel", "isSmall", "(I)Z"⟩ : MethodName) ∈ gw := gy_5 (q := ((⟨"PlainMusicModel", "isSmall", "(I)Z"⟩ : MethodName), 111)) (List.mem_of_getElem? (i := 1) rfl) (by decide +kernel)
theorem gwi_66 : Cond.selects "PlainMusicModel" (⟨"PlainMusicModel", "word", "()V"⟩ : MethodName) (⟨"PlainMusicModel", "word", "()V"⟩ : MethodName) ∈ gw := gy_5 (q := ((⟨"PlainMusicModel", "word", "()V"⟩ : MethodName), 111)) (List.mem_of_getElem? (i := 2) rfl) (by decide +kernel)
theorem gwi_67 : Cond.selects "PlainMusicModel" (⟨"PlainMusicModel", "isDigit", "(I)Z"⟩ : MethodName) (⟨"PlainMusicModel", "isDigit", "(I)Z"⟩ : MethodName) ∈ gw := gy_5 (q := ((⟨"PlainMusicModel", "isDigit", "(I)Z"⟩ : MethodName), 111)) (List.mem_of_getElem? (i := 3) rfl) (by decide +kernel)
theorem gwi_68 : Cond.selects "PlainMusicModel" (⟨"PlainMusicModel", "number", "()V"⟩ : MethodName) (⟨"PlainMusicModel", "number", "()V"⟩ : MethodName) ∈ gw := gy_5 (q := ((⟨"PlainMusicModel", "number", "()V"⟩ : MethodName), 111)) (List.mem_of_getElem? (i := 4) rfl) (by decide +kernel)
theorem gwi_69 : Cond.selects "PlainMusicModel" (⟨"PlainMusicModel", "isWord", "(I)Z"⟩ : MethodName) (⟨"PlainMusicModel", "isWord", "(I)Z"⟩ : MethodName) ∈ gw := gy_5 (q := ((⟨"PlainMusicModel", "isWord", "(I)Z"⟩ : MethodName), 111)) (List.mem_of_getElem? (i := 5) rfl) (by decide +kernel)
theorem gwi_70 : Cond.selects "PlainMusicModel" (⟨"PlainMusicModel", "timeItem", "()Z"⟩ : MethodName) (⟨"PlainMusicModel", "timeItem", "()Z"⟩ : MethodName) ∈ gw := gy_5 (q := ((⟨"PlainMusicModel", "timeItem", "()Z"⟩ : MethodName), 111)) (List.mem_of_getElem? (i := 6) rfl) (by decide +kernel)
theorem gwi_71 : Cond.selects "PlainMusicModel" (⟨"PlainMusicModel", "wrong", "(II)Z"⟩ : MethodName) (⟨"PlainMusicModel", "wrong", "(II)Z"⟩ : MethodName) ∈ gw := gy_5 (q := ((⟨"PlainMusicModel", "wrong", "(II)Z"⟩ : MethodName), 111)) (List.mem_of_getElem? (i := 7) rfl) (by decide +kernel)
theorem gwi_72 : Cond.selects "PlainMusicModel" (⟨"PlainMusicModel", "cant", "()Z"⟩ : MethodName) (⟨"PlainMusicModel", "cant", "()Z"⟩ : MethodName) ∈ gw := gy_5 (q := ((⟨"PlainMusicModel", "cant", "()Z"⟩ : MethodName), 111)) (List.mem_of_getElem? (i := 8) rfl) (by decide +kernel)
theorem gwi_73 : Cond.selects "PlainMusicModel" (⟨"PlainMusicModel", "want", "(I)Z"⟩ : MethodName) (⟨"PlainMusicModel", "want", "(I)Z"⟩ : MethodName) ∈ gw := gy_5 (q := ((⟨"PlainMusicModel", "want", "(I)Z"⟩ : MethodName), 111)) (List.mem_of_getElem? (i := 9) rfl) (by decide +kernel)
theorem gwi_74 : Cond.selects "PlainMusicModel" (⟨"PlainMusicModel", "isSign", "(I)Z"⟩ : MethodName) (⟨"PlainMusicModel", "isSign", "(I)Z"⟩ : MethodName) ∈ gw := gy_5 (q := ((⟨"PlainMusicModel", "isSign", "(I)Z"⟩ : MethodName), 111)) (List.mem_of_getElem? (i := 10) rfl) (by decide +kernel)
theorem gwi_75 : Cond.selects "PlainMusicModel" (⟨"PlainMusicModel", "isPower", "(II)Z"⟩ : MethodName) (⟨"PlainMusicModel", "isPower", "(II)Z"⟩ : MethodName) ∈ gw := gy_5 (q := ((⟨"PlainMusicModel", "isPower", "(II)Z"⟩ : MethodName), 111)) (List.mem_of_getElem? (i := 11) rfl) (by decide +kernel)
theorem gwi_76 : Cond.selects "PlainMusicModel" (⟨"PlainMusicModel", "voiceItem", "()Z"⟩ : MethodName) (⟨"PlainMusicModel", "voiceItem", "()Z"⟩ : MethodName) ∈ gw := gy_5 (q := ((⟨"PlainMusicModel", "voiceItem", "()Z"⟩ : MethodName), 111)) (List.mem_of_getElem? (i := 12) rfl) (by decide +kernel)
theorem gwi_77 : Cond.selects "PlainMusicModel" (⟨"PlainMusicModel", "voicePart", "()Z"⟩ : MethodName) (⟨"PlainMusicModel", "voicePart", "()Z"⟩ : MethodName) ∈ gw := gy_5 (q := ((⟨"PlainMusicModel", "voicePart", "()Z"⟩ : MethodName), 111)) (List.mem_of_getElem? (i := 13) rfl) (by decide +kernel)
theorem gwi_78 : Cond.selects "PlainMusicModel" (⟨"PlainMusicModel", "put", "(I)V"⟩ : MethodName) (⟨"PlainMusicModel", "put", "(I)V"⟩ : MethodName) ∈ gw := gy_5 (q := ((⟨"PlainMusicModel", "put", "(I)V"⟩ : MethodName), 111)) (List.mem_of_getElem? (i := 14) rfl) (by decide +kernel)
theorem gwi_79 : Cond.selects "PlainMusicModel" (⟨"PlainMusicModel", "timesPart", "()Z"⟩ : MethodName) (⟨"PlainMusicModel", "timesPart", "()Z"⟩ : MethodName) ∈ gw := gy_5 (q := ((⟨"PlainMusicModel", "timesPart", "()Z"⟩ : MethodName), 111)) (List.mem_of_getElem? (i := 15) rfl) (by decide +kernel)
theorem gwi_80 : Cond.selects "PlainMusicModel" (⟨"PlainMusicModel", "soundPart", "()Z"⟩ : MethodName) (⟨"PlainMusicModel", "soundPart", "()Z"⟩ : MethodName) ∈ gw := gy_6 (q := ((⟨"PlainMusicModel", "soundPart", "()Z"⟩ : MethodName), 111)) (List.mem_of_getElem? (i := 0) rfl) (by decide +kernel)
theorem gwi_81 : Cond.selects "PlainMusicModel" (⟨"PlainMusicModel", "pitchOf", "(I)Z"⟩ : MethodName) (⟨"PlainMusicModel", "pitchOf", "(I)Z"⟩ : MethodName) ∈ gw := gy_6 (q := ((⟨"PlainMusicModel", "pitchOf", "(I)Z"⟩ : MethodName), 111)) (List.mem_of_getElem? (i := 1) rfl) (by decide +kernel)
theorem gwi_82 : Cond.selects "PlainMusicModel" (⟨"PlainMusicModel", "walk", "(I)Z"⟩ : MethodName) (⟨"PlainMusicModel", "walk", "(I)Z"⟩ : MethodName) ∈ gw := gy_6 (q := ((⟨"PlainMusicModel", "walk", "(I)Z"⟩ : MethodName), 111)) (List.mem_of_getElem? (i := 2) rfl) (by decide +kernel)
theorem gwi_83 : Cond.selects "PlainMusicModel" (⟨"PlainMusicModel", "event", "(II)V"⟩ : MethodName) (⟨"PlainMusicModel", "event", "(II)V"⟩ : MethodName) ∈ gw := gy_6 (q := ((⟨"PlainMusicModel", "event", "(II)V"⟩ : MethodName), 111)) (List.mem_of_getElem? (i := 3) rfl) (by decide +kernel)
theorem gwi_84 : Cond.selects "PlainMusicModel" (⟨"PlainMusicModel", "fraction", "(JJ)V"⟩ : MethodName) (⟨"PlainMusicModel", "fraction", "(JJ)V"⟩ : MethodName) ∈ gw := gy_6 (q := ((⟨"PlainMusicModel", "fraction", "(JJ)V"⟩ : MethodName), 111)) (List.mem_of_getElem? (i := 4) rfl) (by decide +kernel)
theorem gwi_85 : Cond.selects "PlainMusicModel" (⟨"PlainMusicModel", "divisor", "(JJ)J"⟩ : MethodName) (⟨"PlainMusicModel", "divisor", "(JJ)J"⟩ : MethodName) ∈ gw := gy_6 (q := ((⟨"PlainMusicModel", "divisor", "(JJ)J"⟩ : MethodName), 111)) (List.mem_of_getElem? (i := 5) rfl) (by decide +kernel)
theorem gwi_86 : Cond.selects "PlainMusicModel" (⟨"PlainMusicModel", "isFar", "(JJ)Z"⟩ : MethodName) (⟨"PlainMusicModel", "isFar", "(JJ)Z"⟩ : MethodName) ∈ gw := gy_6 (q := ((⟨"PlainMusicModel", "isFar", "(JJ)Z"⟩ : MethodName), 111)) (List.mem_of_getElem? (i := 6) rfl) (by decide +kernel)
theorem gwi_87 : Cond.selects "PlainMusicModel" (⟨"PlainMusicModel", "sum", "(JJJJ)V"⟩ : MethodName) (⟨"PlainMusicModel", "sum", "(JJJJ)V"⟩ : MethodName) ∈ gw := gy_6 (q := ((⟨"PlainMusicModel", "sum", "(JJJJ)V"⟩ : MethodName), 111)) (List.mem_of_getElem? (i := 7) rfl) (by decide +kernel)
theorem gwi_88 : Cond.selects "PlainMusicModel" (⟨"PlainMusicModel", "colons", "(I)I"⟩ : MethodName) (⟨"PlainMusicModel", "colons", "(I)I"⟩ : MethodName) ∈ gw := gy_6 (q := ((⟨"PlainMusicModel", "colons", "(I)I"⟩ : MethodName), 111)) (List.mem_of_getElem? (i := 8) rfl) (by decide +kernel)
theorem gwi_89 : Cond.selects "PlainMusicModel" (⟨"PlainMusicModel", "scale", "(II)V"⟩ : MethodName) (⟨"PlainMusicModel", "scale", "(II)V"⟩ : MethodName) ∈ gw := gy_6 (q := ((⟨"PlainMusicModel", "scale", "(II)V"⟩ : MethodName), 111)) (List.mem_of_getElem? (i := 9) rfl) (by decide +kernel)
theorem gwi_90 : Cond.selects "PlainMusicModel" (⟨"PlainMusicModel", "opening", "(I)I"⟩ : MethodName) (⟨"PlainMusicModel", "opening", "(I)I"⟩ : MethodName) ∈ gw := gy_6 (q := ((⟨"PlainMusicModel", "opening", "(I)I"⟩ : MethodName), 111)) (List.mem_of_getElem? (i := 10) rfl) (by decide +kernel)
theorem gwi_91 : Cond.selects "PlainMusicModel" (⟨"PlainMusicModel", "behindColon", "(II)I"⟩ : MethodName) (⟨"PlainMusicModel", "behindColon", "(II)I"⟩ : MethodName) ∈ gw := gy_6 (q := ((⟨"PlainMusicModel", "behindColon", "(II)I"⟩ : MethodName), 111)) (List.mem_of_getElem? (i := 11) rfl) (by decide +kernel)
theorem gwi_92 : Cond.selects "PlainMusicModel" (⟨"PlainMusicModel", "isIn", "(I)Z"⟩ : MethodName) (⟨"PlainMusicModel", "isIn", "(I)Z"⟩ : MethodName) ∈ gw := gy_6 (q := ((⟨"PlainMusicModel", "isIn", "(I)Z"⟩ : MethodName), 111)) (List.mem_of_getElem? (i := 12) rfl) (by decide +kernel)
theorem gwi_93 : Cond.selects "PlainMusicModel" (⟨"PlainMusicModel", "turned", "(I)I"⟩ : MethodName) (⟨"PlainMusicModel", "turned", "(I)I"⟩ : MethodName) ∈ gw := gy_6 (q := ((⟨"PlainMusicModel", "turned", "(I)I"⟩ : MethodName), 111)) (List.mem_of_getElem? (i := 13) rfl) (by decide +kernel)
theorem gwi_94 : Cond.selects "PlainMusicModel" (⟨"PlainMusicModel", "closing", "(I)I"⟩ : MethodName) (⟨"PlainMusicModel", "closing", "(I)I"⟩ : MethodName) ∈ gw := gy_6 (q := ((⟨"PlainMusicModel", "closing", "(I)I"⟩ : MethodName), 111)) (List.mem_of_getElem? (i := 14) rfl) (by decide +kernel)
theorem gwi_95 : Cond.selects "PlainMusicModel" (⟨"PlainMusicModel", "lineItem", "()Z"⟩ : MethodName) (⟨"PlainMusicModel", "lineItem", "()Z"⟩ : MethodName) ∈ gw := gy_6 (q := ((⟨"PlainMusicModel", "lineItem", "()Z"⟩ : MethodName), 111)) (List.mem_of_getElem? (i := 15) rfl) (by decide +kernel)
theorem gwi_96 : Cond.selects "PlainMusicModel" (⟨"PlainMusicModel", "ruleItem", "()Z"⟩ : MethodName) (⟨"PlainMusicModel", "ruleItem", "()Z"⟩ : MethodName) ∈ gw := gy_7 (q := ((⟨"PlainMusicModel", "ruleItem", "()Z"⟩ : MethodName), 111)) (List.mem_of_getElem? (i := 0) rfl) (by decide +kernel)
theorem gwi_97 : Cond.selects "PlainMusicModel" (⟨"PlainMusicModel", "nameNumber", "()I"⟩ : MethodName) (⟨"PlainMusicModel", "nameNumber", "()I"⟩ : MethodName) ∈ gw := gy_7 (q := ((⟨"PlainMusicModel", "nameNumber", "()I"⟩ : MethodName), 111)) (List.mem_of_getElem? (i := 1) rfl) (by decide +kernel)
theorem gwi_98 : Cond.selects "PlainMusicModel" (⟨"PlainMusicModel", "rowItem", "()Z"⟩ : MethodName) (⟨"PlainMusicModel", "rowItem", "()Z"⟩ : MethodName) ∈ gw := gy_7 (q := ((⟨"PlainMusicModel", "rowItem", "()Z"⟩ : MethodName), 111)) (List.mem_of_getElem? (i := 2) rfl) (by decide +kernel)
theorem gwi_99 : Cond.selects "PlainMusicModel" (⟨"PlainMusicModel", "keep", "()V"⟩ : MethodName) (⟨"PlainMusicModel", "keep", "()V"⟩ : MethodName) ∈ gw := gy_7 (q := ((⟨"PlainMusicModel", "keep", "()V"⟩ : MethodName), 111)) (List.mem_of_getElem? (i := 3) rfl) (by decide +kernel)
theorem gwi_100 : Cond.selects "PlainMusicModel" (⟨"PlainMusicModel", "keepEvent", "(II)V"⟩ : MethodName) (⟨"PlainMusicModel", "keepEvent", "(II)V"⟩ : MethodName) ∈ gw := gy_7 (q := ((⟨"PlainMusicModel", "keepEvent", "(II)V"⟩ : MethodName), 111)) (List.mem_of_getElem? (i := 4) rfl) (by decide +kernel)
theorem gwi_101 : Cond.selects "PlainMusicModel" (⟨"PlainMusicModel", "pageBars", "()I"⟩ : MethodName) (⟨"PlainMusicModel", "pageBars", "()I"⟩ : MethodName) ∈ gw := gy_7 (q := ((⟨"PlainMusicModel", "pageBars", "()I"⟩ : MethodName), 111)) (List.mem_of_getElem? (i := 5) rfl) (by decide +kernel)
theorem gwi_102 : Cond.selects "PlainMusicModel" (⟨"PlainMusicModel", "isVoice", "(I)Z"⟩ : MethodName) (⟨"PlainMusicModel", "isVoice", "(I)Z"⟩ : MethodName) ∈ gw := gy_7 (q := ((⟨"PlainMusicModel", "isVoice", "(I)Z"⟩ : MethodName), 111)) (List.mem_of_getElem? (i := 6) rfl) (by decide +kernel)
theorem gwi_103 : Cond.selects "PlainMusicModel" (⟨"PlainMusicModel", "firstOf", "(II)I"⟩ : MethodName) (⟨"PlainMusicModel", "firstOf", "(II)I"⟩ : MethodName) ∈ gw := gy_7 (q := ((⟨"PlainMusicModel", "firstOf", "(II)I"⟩ : MethodName), 111)) (List.mem_of_getElem? (i := 7) rfl) (by decide +kernel)
theorem gwi_104 : Cond.selects "PlainMusicModel" (⟨"PlainMusicModel", "isWhole", "(II)Z"⟩ : MethodName) (⟨"PlainMusicModel", "isWhole", "(II)Z"⟩ : MethodName) ∈ gw := gy_7 (q := ((⟨"PlainMusicModel", "isWhole", "(II)Z"⟩ : MethodName), 111)) (List.mem_of_getElem? (i := 8) rfl) (by decide +kernel)
theorem gwi_105 : Cond.selects "PlainMusicModel" (⟨"PlainMusicModel", "compare", "(JJJJ)I"⟩ : MethodName) (⟨"PlainMusicModel", "compare", "(JJJJ)I"⟩ : MethodName) ∈ gw := gy_7 (q := ((⟨"PlainMusicModel", "compare", "(JJJJ)I"⟩ : MethodName), 111)) (List.mem_of_getElem? (i := 9) rfl) (by decide +kernel)
theorem gwi_106 : Cond.selects "PlainMusicModel" (⟨"PlainMusicModel", "tell", "(IIII)V"⟩ : MethodName) (⟨"PlainMusicModel", "tell", "(IIII)V"⟩ : MethodName) ∈ gw := gy_7 (q := ((⟨"PlainMusicModel", "tell", "(IIII)V"⟩ : MethodName), 111)) (List.mem_of_getElem? (i := 10) rfl) (by decide +kernel)
theorem gwi_107 : Cond.selects "PlainMusicModel" (⟨"PlainMusicModel", "judgeEvent", "(II)V"⟩ : MethodName) (⟨"PlainMusicModel", "judgeEvent", "(II)V"⟩ : MethodName) ∈ gw := gy_7 (q := ((⟨"PlainMusicModel", "judgeEvent", "(II)V"⟩ : MethodName), 111)) (List.mem_of_getElem? (i := 11) rfl) (by decide +kernel)
theorem gwi_108 : Cond.selects "PlainMusicModel" (⟨"PlainMusicModel", "goesOn", "(II)Z"⟩ : MethodName) (⟨"PlainMusicModel", "goesOn", "(II)Z"⟩ : MethodName) ∈ gw := gy_7 (q := ((⟨"PlainMusicModel", "goesOn", "(II)Z"⟩ : MethodName), 111)) (List.mem_of_getElem? (i := 12) rfl) (by decide +kernel)
theorem gwi_109 : Cond.selects "PlainMusicModel" (⟨"PlainMusicModel", "lowest", "(I)I"⟩ : MethodName) (⟨"PlainMusicModel", "lowest", "(I)I"⟩ : MethodName) ∈ gw := gy_7 (q := ((⟨"PlainMusicModel", "lowest", "(I)I"⟩ : MethodName), 111)) (List.mem_of_getElem? (i := 13) rfl) (by decide +kernel)
theorem gwi_110 : Cond.selects "PlainMusicModel" (⟨"PlainMusicModel", "crosses", "(II)Z"⟩ : MethodName) (⟨"PlainMusicModel", "crosses", "(II)Z"⟩ : MethodName) ∈ gw := gy_7 (q := ((⟨"PlainMusicModel", "crosses", "(II)Z"⟩ : MethodName), 111)) (List.mem_of_getElem? (i := 14) rfl) (by decide +kernel)
theorem gwi_111 : Cond.selects "PlainMusicModel" (⟨"PlainMusicModel", "isAhead", "(II)Z"⟩ : MethodName) (⟨"PlainMusicModel", "isAhead", "(II)Z"⟩ : MethodName) ∈ gw := gy_7 (q := ((⟨"PlainMusicModel", "isAhead", "(II)Z"⟩ : MethodName), 111)) (List.mem_of_getElem? (i := 15) rfl) (by decide +kernel)
theorem gwi_112 : Cond.selects "PlainMusicModel" (⟨"PlainMusicModel", "highest", "(I)I"⟩ : MethodName) (⟨"PlainMusicModel", "highest", "(I)I"⟩ : MethodName) ∈ gw := gy_8 (q := ((⟨"PlainMusicModel", "highest", "(I)I"⟩ : MethodName), 111)) (List.mem_of_getElem? (i := 0) rfl) (by decide +kernel)
theorem gwi_113 : Cond.selects "PlainMusicModel" (⟨"PlainMusicModel", "goesAlong", "(II)Z"⟩ : MethodName) (⟨"PlainMusicModel", "goesAlong", "(II)Z"⟩ : MethodName) ∈ gw := gy_8 (q := ((⟨"PlainMusicModel", "goesAlong", "(II)Z"⟩ : MethodName), 111)) (List.mem_of_getElem? (i := 1) rfl) (by decide +kernel)
theorem gwi_114 : Cond.selects "PlainMusicModel" (⟨"PlainMusicModel", "modulo", "(I)I"⟩ : MethodName) (⟨"PlainMusicModel", "modulo", "(I)I"⟩ : MethodName) ∈ gw := gy_8 (q := ((⟨"PlainMusicModel", "modulo", "(I)I"⟩ : MethodName), 111)) (List.mem_of_getElem? (i := 2) rfl) (by decide +kernel)
theorem gwi_115 : Cond.selects "PlainMusicModel" (⟨"PlainMusicModel", "isShort", "(I)Z"⟩ : MethodName) (⟨"PlainMusicModel", "isShort", "(I)Z"⟩ : MethodName) ∈ gw := gy_8 (q := ((⟨"PlainMusicModel", "isShort", "(I)Z"⟩ : MethodName), 111)) (List.mem_of_getElem? (i := 3) rfl) (by decide +kernel)
theorem gwi_116 : Cond.selects "PlainMusicModel" (⟨"PlainMusicModel", "run", "(IIII)I"⟩ : MethodName) (⟨"PlainMusicModel", "run", "(IIII)I"⟩ : MethodName) ∈ gw := gy_8 (q := ((⟨"PlainMusicModel", "run", "(IIII)I"⟩ : MethodName), 111)) (List.mem_of_getElem? (i := 4) rfl) (by decide +kernel)
theorem gwi_117 : Cond.selects "PlainMusicModel" (⟨"PlainMusicModel", "groupCost", "(IIII)I"⟩ : MethodName) (⟨"PlainMusicModel", "groupCost", "(IIII)I"⟩ : MethodName) ∈ gw := gy_8 (q := ((⟨"PlainMusicModel", "groupCost", "(IIII)I"⟩ : MethodName), 111)) (List.mem_of_getElem? (i := 5) rfl) (by decide +kernel)
theorem gwi_118 : Cond.selects "PlainMusicModel" (⟨"PlainMusicModel", "isFirstTime", "(III)Z"⟩ : MethodName) (⟨"PlainMusicModel", "isFirstTime", "(III)Z"⟩ : MethodName) ∈ gw := gy_8 (q := ((⟨"PlainMusicModel", "isFirstTime", "(III)Z"⟩ : MethodName), 111)) (List.mem_of_getElem? (i := 6) rfl) (by decide +kernel)
theorem gwi_119 : Cond.selects "PlainMusicModel" (⟨"PlainMusicModel", "through", "(I)I"⟩ : MethodName) (⟨"PlainMusicModel", "through", "(I)I"⟩ : MethodName) ∈ gw := gy_8 (q := ((⟨"PlainMusicModel", "through", "(I)I"⟩ : MethodName), 111)) (List.mem_of_getElem? (i := 7) rfl) (by decide +kernel)
theorem gwi_120 : Cond.selects "PlainMusicModel" (⟨"PlainMusicModel", "goes", "(I)Z"⟩ : MethodName) (⟨"PlainMusicModel", "goes", "(I)Z"⟩ : MethodName) ∈ gw := gy_8 (q := ((⟨"PlainMusicModel", "goes", "(I)Z"⟩ : MethodName), 111)) (List.mem_of_getElem? (i := 8) rfl) (by decide +kernel)
theorem gwi_121 : Cond.selects "PlainMusicModel" (⟨"PlainMusicModel", "isRule", "(I)Z"⟩ : MethodName) (⟨"PlainMusicModel", "isRule", "(I)Z"⟩ : MethodName) ∈ gw := gy_8 (q := ((⟨"PlainMusicModel", "isRule", "(I)Z"⟩ : MethodName), 111)) (List.mem_of_getElem? (i := 9) rfl) (by decide +kernel)
theorem gwi_122 : Cond.selects "PlainMusicModel" (⟨"PlainMusicModel", "isWhite", "(I)Z"⟩ : MethodName) (⟨"PlainMusicModel", "isWhite", "(I)Z"⟩ : MethodName) ∈ gw := gy_8 (q := ((⟨"PlainMusicModel", "isWhite", "(I)Z"⟩ : MethodName), 111)) (List.mem_of_getElem? (i := 10) rfl) (by decide +kernel)
theorem gwi_123 : Cond.selects "PlainMusicModel" (⟨"PlainMusicModel", "byRule", "(IIII)J"⟩ : MethodName) (⟨"PlainMusicModel", "byRule", "(IIII)J"⟩ : MethodName) ∈ gw := gy_8 (q := ((⟨"PlainMusicModel", "byRule", "(IIII)J"⟩ : MethodName), 111)) (List.mem_of_getElem? (i := 11) rfl) (by decide +kernel)
theorem gwi_124 : Cond.selects "PlainMusicModel" (⟨"PlainMusicModel", "treeAt", "(III)I"⟩ : MethodName) (⟨"PlainMusicModel", "treeAt", "(III)I"⟩ : MethodName) ∈ gw := gy_8 (q := ((⟨"PlainMusicModel", "treeAt", "(III)I"⟩ : MethodName), 111)) (List.mem_of_getElem? (i := 12) rfl) (by decide +kernel)
theorem gwi_125 : Cond.selects "PlainMusicModel" (⟨"PlainMusicModel", "capped", "(J)J"⟩ : MethodName) (⟨"PlainMusicModel", "capped", "(J)J"⟩ : MethodName) ∈ gw := gy_8 (q := ((⟨"PlainMusicModel", "capped", "(J)J"⟩ : MethodName), 111)) (List.mem_of_getElem? (i := 13) rfl) (by decide +kernel)
theorem gwi_126 : Cond.selects "PlainMusicModel" (⟨"PlainMusicModel", "soundsOf", "(IZ)I"⟩ : MethodName) (⟨"PlainMusicModel", "soundsOf", "(IZ)I"⟩ : MethodName) ∈ gw := gy_8 (q := ((⟨"PlainMusicModel", "soundsOf", "(IZ)I"⟩ : MethodName), 111)) (List.mem_of_getElem? (i := 14) rfl) (by decide +kernel)
theorem gwi_127 : Cond.selects "PlainMusicModel" (⟨"PlainMusicModel", "cell", "(IIII)V"⟩ : MethodName) (⟨"PlainMusicModel", "cell", "(IIII)V"⟩ : MethodName) ∈ gw := gy_8 (q := ((⟨"PlainMusicModel", "cell", "(IIII)V"⟩ : MethodName), 111)) (List.mem_of_getElem? (i := 15) rfl) (by decide +kernel)
theorem gwi_128 : Cond.selects "PlainMusicModel" (⟨"PlainMusicModel", "pairCost", "(II)I"⟩ : MethodName) (⟨"PlainMusicModel", "pairCost", "(II)I"⟩ : MethodName) ∈ gw := gy_9 (q := ((⟨"PlainMusicModel", "pairCost", "(II)I"⟩ : MethodName), 111)) (List.mem_of_getElem? (i := 0) rfl) (by decide +kernel)
theorem gwi_129 : Cond.selects "PlainMusicModel" (⟨"PlainMusicModel", "sound", "(IJJI)D"⟩ : MethodName) (⟨"PlainMusicModel", "sound", "(IJJI)D"⟩ : MethodName) ∈ gw := gy_9 (q := ((⟨"PlainMusicModel", "sound", "(IJJI)D"⟩ : MethodName), 111)) (List.mem_of_getElem? (i := 1) rfl) (by decide +kernel)
theorem gwi_130 : Cond.selects "PlainMusicModel" (⟨"PlainMusicModel", "ratioTop", "(I)I"⟩ : MethodName) (⟨"PlainMusicModel", "ratioTop", "(I)I"⟩ : MethodName) ∈ gw := gy_9 (q := ((⟨"PlainMusicModel", "ratioTop", "(I)I"⟩ : MethodName), 111)) (List.mem_of_getElem? (i := 2) rfl) (by decide +kernel)
theorem gwi_131 : Cond.selects "PlainMusicModel" (⟨"PlainMusicModel", "ratioLow", "(I)I"⟩ : MethodName) (⟨"PlainMusicModel", "ratioLow", "(I)I"⟩ : MethodName) ∈ gw := gy_9 (q := ((⟨"PlainMusicModel", "ratioLow", "(I)I"⟩ : MethodName), 111)) (List.mem_of_getElem? (i := 3) rfl) (by decide +kernel)
theorem gwi_132 : Cond.selects "PlainMusicModel" (⟨"PlainMusicModel", "product", "(JJJ)J"⟩ : MethodName) (⟨"PlainMusicModel", "product", "(JJJ)J"⟩ : MethodName) ∈ gw := gy_9 (q := ((⟨"PlainMusicModel", "product", "(JJJ)J"⟩ : MethodName), 111)) (List.mem_of_getElem? (i := 4) rfl) (by decide +kernel)
theorem gwi_134 : (Jvm.Cond.initialized "PlainMusic") ∈ gw := gx_1 (List.mem_of_getElem? (i := 1) rfl) (by decide +kernel)
theorem gwi_135 : (Jvm.Cond.initialized "PlainMusic$Reader") ∈ gw := gx_1 (List.mem_of_getElem? (i := 2) rfl) (by decide +kernel)
theorem gwi_136 : (Jvm.Cond.initialized "PlainMusic$Tokens") ∈ gw := gx_1 (List.mem_of_getElem? (i := 3) rfl) (by decide +kernel)
theorem gwi_137 : (Jvm.Cond.initialized "PlainMusic$Parts") ∈ gw := gx_1 (List.mem_of_getElem? (i := 4) rfl) (by decide +kernel)
theorem gwi_138 : (Jvm.Cond.initialized "PlainMusic$Score") ∈ gw := gx_1 (List.mem_of_getElem? (i := 5) rfl) (by decide +kernel)
theorem gwi_139 : (Jvm.Cond.initialized "PlainMusic$Voice") ∈ gw := gx_1 (List.mem_of_getElem? (i := 6) rfl) (by decide +kernel)
theorem gwi_140 : (Jvm.Cond.initialized "PlainMusic$Judge") ∈ gw := gx_1 (List.mem_of_getElem? (i := 7) rfl) (by decide +kernel)
theorem gwi_141 : (Jvm.Cond.initialized "PlainMusic$Beams") ∈ gw := gx_1 (List.mem_of_getElem? (i := 8) rfl) (by decide +kernel)
theorem gwi_142 : (Jvm.Cond.initialized "PlainMusic$Page") ∈ gw := gx_1 (List.mem_of_getElem? (i := 9) rfl) (by decide +kernel)
theorem gwi_143 : (Jvm.Cond.initialized "PlainMusic$Seconds") ∈ gw := gx_1 (List.mem_of_getElem? (i := 10) rfl) (by decide +kernel)
theorem gwi_144 : (Jvm.Cond.initialized "PlainMusic$Trees") ∈ gw := gx_1 (List.mem_of_getElem? (i := 11) rfl) (by decide +kernel)
theorem gwi_145 : (Jvm.Cond.initialized "PlainMusic$Pairing") ∈ gw := gx_1 (List.mem_of_getElem? (i := 12) rfl) (by decide +kernel)
theorem gwi_146 : (Jvm.Cond.initialized "PlainMusicModel") ∈ gw := gx_1 (List.mem_of_getElem? (i := 13) rfl) (by decide +kernel)
theorem gwi_147 : (Jvm.Cond.initialized "java/lang/Math") ∈ gw := gx_1 (List.mem_of_getElem? (i := 14) rfl) (by decide +kernel)
theorem gwi_148 : (Jvm.Cond.initialized "java/lang/String") ∈ gw := gx_1 (List.mem_of_getElem? (i := 15) rfl) (by decide +kernel)
theorem gwi_149 : (Jvm.Cond.initialized "java/lang/StringLatin1") ∈ gw := gx_1 (List.mem_of_getElem? (i := 16) rfl) (by decide +kernel)
theorem gwi_150 : (Jvm.Cond.initialized "jdk/internal/util/Preconditions") ∈ gw := gx_1 (List.mem_of_getElem? (i := 17) rfl) (by decide +kernel)
theorem gwi_151 : (Jvm.Cond.initialized "java/lang/StringUTF16") ∈ gw := gx_1 (List.mem_of_getElem? (i := 18) rfl) (by decide +kernel)
theorem gwi_153 : (Jvm.Cond.initialized "java/lang/Integer") ∈ gw := gx_1 (List.mem_of_getElem? (i := 20) rfl) (by decide +kernel)
theorem gwi_154 : (Jvm.Cond.initialized "java/lang/Long") ∈ gw := gx_1 (List.mem_of_getElem? (i := 21) rfl) (by decide +kernel)
theorem gwi_155 : (Jvm.Cond.classLink "PlainMusicLaw" (7 : Nat) "PlainMusic") ∈ gw := gx_1 (List.mem_of_getElem? (i := 22) rfl) (by decide +kernel)
theorem gwi_156 : (Jvm.Cond.instantiable "PlainMusic" (11 : Nat)) ∈ gw := gx_1 (List.mem_of_getElem? (i := 23) rfl) (by decide +kernel)
theorem gwi_157 : (Jvm.Cond.methodLink "PlainMusicLaw" (9 : Nat) ({ cls := "PlainMusic", name := "<init>", desc := "()V" } : Jvm.MethodName)) ∈ gw := gx_1 (List.mem_of_getElem? (i := 24) rfl) (by decide +kernel)
theorem gwi_158 : (Jvm.Cond.instanceMethod ({ cls := "PlainMusic", name := "<init>", desc := "()V" } : Jvm.MethodName)) ∈ gw := gx_1 (List.mem_of_getElem? (i := 25) rfl) (by decide +kernel)
theorem gwi_159 : (Jvm.Cond.code ({ cls := "PlainMusic", name := "<init>", desc := "()V" } : Jvm.MethodName) prog_1_method_1_code (1 : Nat) (Option.none : Option Jvm.ClassFile.FieldType)) ∈ gw := gx_1 (List.mem_of_getElem? (i := 26) rfl) (by decide +kernel)
theorem gwi_160 : (Jvm.Cond.methodLink "PlainMusic" (1 : Nat) ({ cls := "java/lang/Object", name := "<init>", desc := "()V" } : Jvm.MethodName)) ∈ gw := gx_1 (List.mem_of_getElem? (i := 27) rfl) (by decide +kernel)
theorem gwi_161 : (Jvm.Cond.instanceMethod ({ cls := "java/lang/Object", name := "<init>", desc := "()V" } : Jvm.MethodName)) ∈ gw := gx_1 (List.mem_of_getElem? (i := 28) rfl) (by decide +kernel)
theorem gwi_162 : (Jvm.Cond.code ({ cls := "java/lang/Object", name := "<init>", desc := "()V" } : Jvm.MethodName) object_method_1_code (1 : Nat) (Option.none : Option Jvm.ClassFile.FieldType)) ∈ gw := gx_1 (List.mem_of_getElem? (i := 29) rfl) (by decide +kernel)
theorem gwi_163 : (Jvm.Cond.classLink "PlainMusic" (17 : Nat) "PlainMusic$Reader") ∈ gw := gx_1 (List.mem_of_getElem? (i := 30) rfl) (by decide +kernel)
theorem gwi_164 : (Jvm.Cond.instantiable "PlainMusic$Reader" (8 : Nat)) ∈ gw := gx_1 (List.mem_of_getElem? (i := 31) rfl) (by decide +kernel)
theorem gwi_166 : (Jvm.Cond.instanceMethod ({ cls := "PlainMusic$Reader", name := "<init>", desc := "()V" } : Jvm.MethodName)) ∈ gw := gx_1 (List.mem_of_getElem? (i := 33) rfl) (by decide +kernel)
theorem gwi_167 : (Jvm.Cond.code ({ cls := "PlainMusic$Reader", name := "<init>", desc := "()V" } : Jvm.MethodName) prog_7_method_1_code (1 : Nat) (Option.none : Option Jvm.ClassFile.FieldType)) ∈ gw := gx_1 (List.mem_of_getElem? (i := 34) rfl) (by decide +kernel)
theorem gwi_168 : (Jvm.Cond.methodLink "PlainMusic$Reader" (3 : Nat) ({ cls := "java/lang/Object", name := "<init>", desc := "()V" } : Jvm.MethodName)) ∈ gw := gx_1 (List.mem_of_getElem? (i := 35) rfl) (by decide +kernel)
theorem gwi_169 : (Jvm.Cond.classLink "PlainMusic$Reader" (9 : Nat) "PlainMusic$Tokens") ∈ gw := gx_1 (List.mem_of_getElem? (i := 36) rfl) (by decide +kernel)
theorem gwi_170 : (Jvm.Cond.instantiable "PlainMusic$Tokens" (13 : Nat)) ∈ gw := gx_1 (List.mem_of_getElem? (i := 37) rfl) (by decide +kernel)
theorem gwi_172 : (Jvm.Cond.instanceMethod ({ cls := "PlainMusic$Tokens", name := "<init>", desc := "()V" } : Jvm.MethodName)) ∈ gw := gx_1 (List.mem_of_getElem? (i := 39) rfl) (by decide +kernel)
theorem gwi_173 : (Jvm.Cond.code ({ cls := "PlainMusic$Tokens", name := "<init>", desc := "()V" } : Jvm.MethodName) prog_10_method_1_code (1 : Nat) (Option.none : Option Jvm.ClassFile.FieldType)) ∈ gw := gx_1 (List.mem_of_getElem? (i := 40) rfl) (by decide +kernel)
set_option maxRecDepth 100000 in
theorem gwi_174 : (Jvm.Cond.methodLink "PlainMusic$Tokens" (3 : Nat) ({ cls := "java/lang/Object", name := "<init>", desc := "()V" } : Jvm.MethodName)) ∈ gw := gx_1 (List.mem_of_getElem? (i := 41) rfl) (by decide +kernel)
set_option maxRecDepth 100000 in
theorem gwi_175 : (Jvm.Cond.fieldLink "PlainMusic$Tokens" (9 : Nat) "PlainMusic$Tokens" "kinds" "[I") ∈ gw := gx_1 (List.mem_of_getElem? (i := 42) rfl) (by decide +kernel)
set_option maxRecDepth 100000 in
theorem gwi_176 : (Jvm.Cond.fieldLink "PlainMusic$Tokens" (15 : Nat) "PlainMusic$Tokens" "places" "[I") ∈ gw := gx_1 (List.mem_of_getElem? (i := 43) rfl) (by decide +kernel)
set_option maxRecDepth 100000 in
theorem gwi_177 : (Jvm.Cond.fieldLink "PlainMusic$Tokens" (18 : Nat) "PlainMusic$Tokens" "values" "[J") ∈ gw := gx_1 (List.mem_of_getElem? (i := 44) rfl) (by decide +kernel)
set_option maxRecDepth 100000 in
theorem gwi_178 : (Jvm.Cond.fieldLink "PlainMusic$Tokens" (22 : Nat) "PlainMusic$Tokens" "steps" "[I") ∈ gw := gx_1 (List.mem_of_getElem? (i := 45) rfl) (by decide +kernel)
set_option maxRecDepth 100000 in
theorem gwi_179 : (Jvm.Cond.fieldLink "PlainMusic$Tokens" (41 : Nat) "PlainMusic$Tokens" "size" "I") ∈ gw := gx_1 (List.mem_of_getElem? (i := 46) rfl) (by decide +kernel)
set_option maxRecDepth 100000 in
theorem gwi_180 : (Jvm.Cond.fieldLink "PlainMusic$Tokens" (48 : Nat) "PlainMusic$Tokens" "now" "I") ∈ gw := gx_1 (List.mem_of_getElem? (i := 47) rfl) (by decide +kernel)
set_option maxRecDepth 100000 in
theorem gwi_181 : (Jvm.Cond.fieldLink "PlainMusic$Tokens" (25 : Nat) "PlainMusic$Tokens" "text" "[I") ∈ gw := gx_1 (List.mem_of_getElem? (i := 48) rfl) (by decide +kernel)
set_option maxRecDepth 100000 in
theorem gwi_182 : (Jvm.Cond.fieldLink "PlainMusic$Tokens" (34 : Nat) "PlainMusic$Tokens" "length" "I") ∈ gw := gx_1 (List.mem_of_getElem? (i := 49) rfl) (by decide +kernel)
set_option maxRecDepth 100000 in
theorem gwi_183 : (Jvm.Cond.fieldLink "PlainMusic$Tokens" (38 : Nat) "PlainMusic$Tokens" "at" "I") ∈ gw := gx_1 (List.mem_of_getElem? (i := 50) rfl) (by decide +kernel)
set_option maxRecDepth 100000 in
theorem gwi_184 : (Jvm.Cond.fieldLink "PlainMusic$Reader" (50 : Nat) "PlainMusic$Tokens" "kind" "I") ∈ gw := gx_1 (List.mem_of_getElem? (i := 51) rfl) (by decide +kernel)
set_option maxRecDepth 100000 in
theorem gwi_185 : (Jvm.Cond.fieldLink "PlainMusic$Tokens" (54 : Nat) "PlainMusic$Tokens" "kind" "I") ∈ gw := gx_1 (List.mem_of_getElem? (i := 52) rfl) (by decide +kernel)
set_option maxRecDepth 100000 in
theorem gwi_186 : (Jvm.Cond.fieldLink "PlainMusic$Tokens" (57 : Nat) "PlainMusic$Tokens" "place" "I") ∈ gw := gx_1 (List.mem_of_getElem? (i := 53) rfl) (by decide +kernel)
set_option maxRecDepth 100000 in
theorem gwi_187 : (Jvm.Cond.fieldLink "PlainMusic$Reader" (75 : Nat) "PlainMusic$Tokens" "place" "I") ∈ gw := gx_1 (List.mem_of_getElem? (i := 54) rfl) (by decide +kernel)
set_option maxRecDepth 100000 in
theorem gwi_188 : (Jvm.Cond.fieldLink "PlainMusic$Tokens" (60 : Nat) "PlainMusic$Tokens" "value" "J") ∈ gw := gx_1 (List.mem_of_getElem? (i := 55) rfl) (by decide +kernel)
set_option maxRecDepth 100000 in
theorem gwi_189 : (Jvm.Cond.fieldLink "PlainMusic$Reader" (81 : Nat) "PlainMusic$Tokens" "value" "J") ∈ gw := gx_1 (List.mem_of_getElem? (i := 56) rfl) (by decide +kernel)
set_option maxRecDepth 100000 in
theorem gwi_190 : (Jvm.Cond.fieldLink "PlainMusic$Tokens" (64 : Nat) "PlainMusic$Tokens" "step" "I") ∈ gw := gx_1 (List.mem_of_getElem? (i := 57) rfl) (by decide +kernel)
set_option maxRecDepth 100000 in
theorem gwi_191 : (Jvm.Cond.fieldLink "PlainMusic$Reader" (184 : Nat) "PlainMusic$Tokens" "step" "I") ∈ gw := gx_1 (List.mem_of_getElem? (i := 58) rfl) (by decide +kernel)
set_option maxRecDepth 100000 in
theorem gwi_219 : (Jvm.Cond.arrayClass Jvm.ClassFile.FieldType.int) ∈ gw := gx_1 (List.mem_of_getElem? (i := 86) rfl) (by decide +kernel)
set_option maxRecDepth 100000 in
theorem gwi_220 : (Jvm.Cond.arrayClass Jvm.ClassFile.FieldType.long) ∈ gw := gx_1 (List.mem_of_getElem? (i := 87) rfl) (by decide +kernel)
set_option maxRecDepth 100000 in
theorem gwi_221 : (Jvm.Cond.classLink "PlainMusic$Reader" (18 : Nat) "PlainMusic$Parts") ∈ gw := gx_1 (List.mem_of_getElem? (i := 88) rfl) (by decide +kernel)
set_option maxRecDepth 100000 in
theorem gwi_222 : (Jvm.Cond.instantiable "PlainMusic$Parts" (12 : Nat)) ∈ gw := gx_1 (List.mem_of_getElem? (i := 89) rfl) (by decide +kernel)
set_option maxRecDepth 100000 in
theorem gwi_224 : (Jvm.Cond.instanceMethod ({ cls := "PlainMusic$Parts", name := "<init>", desc := "()V" } : Jvm.MethodName)) ∈ gw := gx_1 (List.mem_of_getElem? (i := 91) rfl) (by decide +kernel)
set_option maxRecDepth 100000 in
theorem gwi_225 : (Jvm.Cond.code ({ cls := "PlainMusic$Parts", name := "<init>", desc := "()V" } : Jvm.MethodName) prog_6_method_1_code (1 : Nat) (Option.none : Option Jvm.ClassFile.FieldType)) ∈ gw := gx_1 (List.mem_of_getElem? (i := 92) rfl) (by decide +kernel)
set_option maxRecDepth 100000 in
theorem gwi_226 : (Jvm.Cond.methodLink "PlainMusic$Parts" (3 : Nat) ({ cls := "java/lang/Object", name := "<init>", desc := "()V" } : Jvm.MethodName)) ∈ gw := gx_1 (List.mem_of_getElem? (i := 93) rfl) (by decide +kernel)
set_option maxRecDepth 100000 in
theorem gwi_227 : (Jvm.Cond.fieldLink "PlainMusic$Parts" (9 : Nat) "PlainMusic$Parts" "kinds" "[I") ∈ gw := gx_1 (List.mem_of_getElem? (i := 94) rfl) (by decide +kernel)
set_option maxRecDepth 100000 in
theorem gwi_228 : (Jvm.Cond.fieldLink "PlainMusic$Parts" (15 : Nat) "PlainMusic$Parts" "links" "[I") ∈ gw := gx_1 (List.mem_of_getElem? (i := 95) rfl) (by decide +kernel)
set_option maxRecDepth 100000 in
theorem gwi_229 : (Jvm.Cond.fieldLink "PlainMusic$Parts" (18 : Nat) "PlainMusic$Parts" "values" "[I") ∈ gw := gx_1 (List.mem_of_getElem? (i := 96) rfl) (by decide +kernel)
set_option maxRecDepth 100000 in
theorem gwi_230 : (Jvm.Cond.fieldLink "PlainMusic$Parts" (21 : Nat) "PlainMusic$Parts" "others" "[I") ∈ gw := gx_1 (List.mem_of_getElem? (i := 97) rfl) (by decide +kernel)
set_option maxRecDepth 100000 in
theorem gwi_231 : (Jvm.Cond.fieldLink "PlainMusic$Parts" (30 : Nat) "PlainMusic$Parts" "size" "I") ∈ gw := gx_1 (List.mem_of_getElem? (i := 98) rfl) (by decide +kernel)
set_option maxRecDepth 100000 in
theorem gwi_232 : (Jvm.Cond.fieldLink "PlainMusic$Parts" (24 : Nat) "PlainMusic$Parts" "opened" "[I") ∈ gw := gx_1 (List.mem_of_getElem? (i := 99) rfl) (by decide +kernel)
set_option maxRecDepth 100000 in
theorem gwi_233 : (Jvm.Cond.fieldLink "PlainMusic$Parts" (27 : Nat) "PlainMusic$Parts" "lastMarks" "[I") ∈ gw := gx_1 (List.mem_of_getElem? (i := 100) rfl) (by decide +kernel)
set_option maxRecDepth 100000 in
theorem gwi_234 : (Jvm.Cond.fieldLink "PlainMusic$Parts" (34 : Nat) "PlainMusic$Parts" "depth" "I") ∈ gw := gx_1 (List.mem_of_getElem? (i := 101) rfl) (by decide +kernel)
set_option maxRecDepth 100000 in
theorem gwi_235 : (Jvm.Cond.fieldLink "PlainMusic$Reader" (156 : Nat) "PlainMusic$Parts" "depth" "I") ∈ gw := gx_1 (List.mem_of_getElem? (i := 102) rfl) (by decide +kernel)
set_option maxRecDepth 100000 in
theorem gwi_236 : (Jvm.Cond.fieldLink "PlainMusic$Parts" (46 : Nat) "PlainMusic$Parts" "steps" "I") ∈ gw := gx_1 (List.mem_of_getElem? (i := 103) rfl) (by decide +kernel)
set_option maxRecDepth 100000 in
theorem gwi_237 : (Jvm.Cond.fieldLink "PlainMusic$Parts" (49 : Nat) "PlainMusic$Parts" "eventsMet" "I") ∈ gw := gx_1 (List.mem_of_getElem? (i := 104) rfl) (by decide +kernel)
set_option maxRecDepth 100000 in
theorem gwi_238 : (Jvm.Cond.fieldLink "PlainMusic$Parts" (52 : Nat) "PlainMusic$Parts" "linesMet" "I") ∈ gw := gx_1 (List.mem_of_getElem? (i := 105) rfl) (by decide +kernel)
set_option maxRecDepth 100000 in
theorem gwi_239 : (Jvm.Cond.fieldLink "PlainMusic$Parts" (55 : Nat) "PlainMusic$Parts" "timely" "Z") ∈ gw := gx_1 (List.mem_of_getElem? (i := 106) rfl) (by decide +kernel)
set_option maxRecDepth 100000 in
theorem gwi_265 : (Jvm.Cond.classLink "PlainMusic$Reader" (29 : Nat) "PlainMusic$Score") ∈ gw := gx_1 (List.mem_of_getElem? (i := 132) rfl) (by decide +kernel)
set_option maxRecDepth 100000 in
theorem gwi_266 : (Jvm.Cond.instantiable "PlainMusic$Score" (13 : Nat)) ∈ gw := gx_1 (List.mem_of_getElem? (i := 133) rfl) (by decide +kernel)
set_option maxRecDepth 100000 in
theorem gwi_267 : (Jvm.Cond.methodLink "PlainMusic$Reader" (31 : Nat) ({ cls := "PlainMusic$Score", name := "<init>", desc := "()V" } : Jvm.MethodName)) ∈ gw := gx_1 (List.mem_of_getElem? (i := 134) rfl) (by decide +kernel)
set_option maxRecDepth 100000 in
theorem gwi_268 : (Jvm.Cond.instanceMethod ({ cls := "PlainMusic$Score", name := "<init>", desc := "()V" } : Jvm.MethodName)) ∈ gw := gx_1 (List.mem_of_getElem? (i := 135) rfl) (by decide +kernel)
set_option maxRecDepth 100000 in
theorem gwi_269 : (Jvm.Cond.code ({ cls := "PlainMusic$Score", name := "<init>", desc := "()V" } : Jvm.MethodName) prog_8_method_1_code (2 : Nat) (Option.none : Option Jvm.ClassFile.FieldType)) ∈ gw := gx_1 (List.mem_of_getElem? (i := 136) rfl) (by decide +kernel)
set_option maxRecDepth 100000 in
theorem gwi_270 : (Jvm.Cond.methodLink "PlainMusic$Score" (3 : Nat) ({ cls := "java/lang/Object", name := "<init>", desc := "()V" } : Jvm.MethodName)) ∈ gw := gx_1 (List.mem_of_getElem? (i := 137) rfl) (by decide +kernel)
set_option maxRecDepth 100000 in
theorem gwi_271 : (Jvm.Cond.classLink "PlainMusic$Score" (9 : Nat) "PlainMusic$Voice") ∈ gw := gx_1 (List.mem_of_getElem? (i := 138) rfl) (by decide +kernel)
set_option maxRecDepth 100000 in
theorem gwi_273 : (Jvm.Cond.instantiable "PlainMusic$Voice" (17 : Nat)) ∈ gw := gx_1 (List.mem_of_getElem? (i := 140) rfl) (by decide +kernel)
set_option maxRecDepth 100000 in
theorem gwi_275 : (Jvm.Cond.instanceMethod ({ cls := "PlainMusic$Voice", name := "<init>", desc := "()V" } : Jvm.MethodName)) ∈ gw := gx_1 (List.mem_of_getElem? (i := 142) rfl) (by decide +kernel)
set_option maxRecDepth 100000 in
theorem gwi_276 : (Jvm.Cond.code ({ cls := "PlainMusic$Voice", name := "<init>", desc := "()V" } : Jvm.MethodName) prog_12_method_1_code (1 : Nat) (Option.none : Option Jvm.ClassFile.FieldType)) ∈ gw := gx_1 (List.mem_of_getElem? (i := 143) rfl) (by decide +kernel)
set_option maxRecDepth 100000 in
theorem gwi_277 : (Jvm.Cond.methodLink "PlainMusic$Voice" (3 : Nat) ({ cls := "java/lang/Object", name := "<init>", desc := "()V" } : Jvm.MethodName)) ∈ gw := gx_1 (List.mem_of_getElem? (i := 144) rfl) (by decide +kernel)
set_option maxRecDepth 100000 in
theorem gwi_278 : (Jvm.Cond.fieldLink "PlainMusic$Voice" (9 : Nat) "PlainMusic$Voice" "pitchKeys" "[I") ∈ gw := gx_1 (List.mem_of_getElem? (i := 145) rfl) (by decide +kernel)
set_option maxRecDepth 100000 in
theorem gwi_279 : (Jvm.Cond.fieldLink "PlainMusic$Voice" (15 : Nat) "PlainMusic$Voice" "pitchSteps" "[I") ∈ gw := gx_1 (List.mem_of_getElem? (i := 146) rfl) (by decide +kernel)
set_option maxRecDepth 100000 in
theorem gwi_280 : (Jvm.Cond.fieldLink "PlainMusic$Voice" (53 : Nat) "PlainMusic$Voice" "pitches" "I") ∈ gw := gx_1 (List.mem_of_getElem? (i := 147) rfl) (by decide +kernel)
set_option maxRecDepth 100000 in
theorem gwi_281 : (Jvm.Cond.fieldLink "PlainMusic$Voice" (18 : Nat) "PlainMusic$Voice" "soundPitches" "[I") ∈ gw := gx_1 (List.mem_of_getElem? (i := 148) rfl) (by decide +kernel)
set_option maxRecDepth 100000 in
theorem gwi_282 : (Jvm.Cond.fieldLink "PlainMusic$Voice" (21 : Nat) "PlainMusic$Voice" "soundNumbers" "[I") ∈ gw := gx_1 (List.mem_of_getElem? (i := 149) rfl) (by decide +kernel)
set_option maxRecDepth 100000 in
theorem gwi_283 : (Jvm.Cond.fieldLink "PlainMusic$Voice" (24 : Nat) "PlainMusic$Voice" "soundDots" "[I") ∈ gw := gx_1 (List.mem_of_getElem? (i := 150) rfl) (by decide +kernel)
set_option maxRecDepth 100000 in
theorem gwi_284 : (Jvm.Cond.fieldLink "PlainMusic$Voice" (27 : Nat) "PlainMusic$Voice" "soundTied" "[Z") ∈ gw := gx_1 (List.mem_of_getElem? (i := 151) rfl) (by decide +kernel)
set_option maxRecDepth 100000 in
theorem gwi_285 : (Jvm.Cond.fieldLink "PlainMusic$Voice" (57 : Nat) "PlainMusic$Voice" "sounds" "I") ∈ gw := gx_1 (List.mem_of_getElem? (i := 152) rfl) (by decide +kernel)
set_option maxRecDepth 100000 in
theorem gwi_286 : (Jvm.Cond.fieldLink "PlainMusic$Voice" (31 : Nat) "PlainMusic$Voice" "eventSounds" "[I") ∈ gw := gx_1 (List.mem_of_getElem? (i := 153) rfl) (by decide +kernel)
set_option maxRecDepth 100000 in
theorem gwi_287 : (Jvm.Cond.fieldLink "PlainMusic$Voice" (34 : Nat) "PlainMusic$Voice" "eventBars" "[I") ∈ gw := gx_1 (List.mem_of_getElem? (i := 154) rfl) (by decide +kernel)
set_option maxRecDepth 100000 in
theorem gwi_288 : (Jvm.Cond.fieldLink "PlainMusic$Voice" (37 : Nat) "PlainMusic$Voice" "startTop" "[J") ∈ gw := gx_1 (List.mem_of_getElem? (i := 155) rfl) (by decide +kernel)
set_option maxRecDepth 100000 in
theorem gwi_289 : (Jvm.Cond.fieldLink "PlainMusic$Judge" (120 : Nat) "PlainMusic$Voice" "startTop" "[J") ∈ gw := gx_1 (List.mem_of_getElem? (i := 156) rfl) (by decide +kernel)
set_option maxRecDepth 100000 in
theorem gwi_290 : (Jvm.Cond.fieldLink "PlainMusic" (219 : Nat) "PlainMusic$Voice" "startTop" "[J") ∈ gw := gx_1 (List.mem_of_getElem? (i := 157) rfl) (by decide +kernel)
set_option maxRecDepth 100000 in
theorem gwi_291 : (Jvm.Cond.fieldLink "PlainMusic$Voice" (41 : Nat) "PlainMusic$Voice" "startBottom" "[J") ∈ gw := gx_1 (List.mem_of_getElem? (i := 158) rfl) (by decide +kernel)
set_option maxRecDepth 100000 in
theorem gwi_292 : (Jvm.Cond.fieldLink "PlainMusic$Judge" (124 : Nat) "PlainMusic$Voice" "startBottom" "[J") ∈ gw := gx_1 (List.mem_of_getElem? (i := 159) rfl) (by decide +kernel)
set_option maxRecDepth 100000 in
theorem gwi_293 : (Jvm.Cond.fieldLink "PlainMusic" (213 : Nat) "PlainMusic$Voice" "startBottom" "[J") ∈ gw := gx_1 (List.mem_of_getElem? (i := 160) rfl) (by decide +kernel)
set_option maxRecDepth 100000 in
theorem gwi_294 : (Jvm.Cond.fieldLink "PlainMusic$Voice" (44 : Nat) "PlainMusic$Voice" "lengthTop" "[J") ∈ gw := gx_1 (List.mem_of_getElem? (i := 161) rfl) (by decide +kernel)
set_option maxRecDepth 100000 in
theorem gwi_295 : (Jvm.Cond.fieldLink "PlainMusic$Pairing" (75 : Nat) "PlainMusic$Voice" "lengthTop" "[J") ∈ gw := gx_1 (List.mem_of_getElem? (i := 162) rfl) (by decide +kernel)
set_option maxRecDepth 100000 in
theorem gwi_296 : (Jvm.Cond.fieldLink "PlainMusic" (222 : Nat) "PlainMusic$Voice" "lengthTop" "[J") ∈ gw := gx_1 (List.mem_of_getElem? (i := 163) rfl) (by decide +kernel)
set_option maxRecDepth 100000 in
theorem gwi_297 : (Jvm.Cond.fieldLink "PlainMusic$Voice" (47 : Nat) "PlainMusic$Voice" "lengthBottom" "[J") ∈ gw := gx_1 (List.mem_of_getElem? (i := 164) rfl) (by decide +kernel)
set_option maxRecDepth 100000 in
theorem gwi_298 : (Jvm.Cond.fieldLink "PlainMusic$Pairing" (79 : Nat) "PlainMusic$Voice" "lengthBottom" "[J") ∈ gw := gx_1 (List.mem_of_getElem? (i := 165) rfl) (by decide +kernel)
set_option maxRecDepth 100000 in
theorem gwi_299 : (Jvm.Cond.fieldLink "PlainMusic" (225 : Nat) "PlainMusic$Voice" "lengthBottom" "[J") ∈ gw := gx_1 (List.mem_of_getElem? (i := 166) rfl) (by decide +kernel)
set_option maxRecDepth 100000 in
theorem gwi_300 : (Jvm.Cond.fieldLink "PlainMusic$Voice" (60 : Nat) "PlainMusic$Voice" "events" "I") ∈ gw := gx_1 (List.mem_of_getElem? (i := 167) rfl) (by decide +kernel)
set_option maxRecDepth 100000 in
theorem gwi_301 : (Jvm.Cond.fieldLink "PlainMusic$Pairing" (53 : Nat) "PlainMusic$Voice" "events" "I") ∈ gw := gx_1 (List.mem_of_getElem? (i := 168) rfl) (by decide +kernel)
set_option maxRecDepth 100000 in
theorem gwi_302 : (Jvm.Cond.fieldLink "PlainMusic$Judge" (35 : Nat) "PlainMusic$Voice" "events" "I") ∈ gw := gx_1 (List.mem_of_getElem? (i := 169) rfl) (by decide +kernel)
set_option maxRecDepth 100000 in
theorem gwi_303 : (Jvm.Cond.fieldLink "PlainMusic" (129 : Nat) "PlainMusic$Voice" "events" "I") ∈ gw := gx_1 (List.mem_of_getElem? (i := 170) rfl) (by decide +kernel)
set_option maxRecDepth 100000 in
theorem gwi_304 : (Jvm.Cond.fieldLink "PlainMusic$Score" (64 : Nat) "PlainMusic$Voice" "events" "I") ∈ gw := gx_1 (List.mem_of_getElem? (i := 171) rfl) (by decide +kernel)
set_option maxRecDepth 100000 in
theorem gwi_305 : (Jvm.Cond.fieldLink "PlainMusic$Voice" (50 : Nat) "PlainMusic$Voice" "barEvents" "[I") ∈ gw := gx_1 (List.mem_of_getElem? (i := 172) rfl) (by decide +kernel)
set_option maxRecDepth 100000 in
theorem gwi_306 : (Jvm.Cond.fieldLink "PlainMusic$Beams" (25 : Nat) "PlainMusic$Voice" "barEvents" "[I") ∈ gw := gx_1 (List.mem_of_getElem? (i := 173) rfl) (by decide +kernel)
set_option maxRecDepth 100000 in
theorem gwi_307 : (Jvm.Cond.fieldLink "PlainMusic$Judge" (43 : Nat) "PlainMusic$Voice" "barEvents" "[I") ∈ gw := gx_1 (List.mem_of_getElem? (i := 174) rfl) (by decide +kernel)
set_option maxRecDepth 100000 in
theorem gwi_308 : (Jvm.Cond.fieldLink "PlainMusic$Page" (70 : Nat) "PlainMusic$Voice" "barEvents" "[I") ∈ gw := gx_1 (List.mem_of_getElem? (i := 175) rfl) (by decide +kernel)
set_option maxRecDepth 100000 in
theorem gwi_309 : (Jvm.Cond.fieldLink "PlainMusic$Voice" (63 : Nat) "PlainMusic$Voice" "bars" "I") ∈ gw := gx_1 (List.mem_of_getElem? (i := 176) rfl) (by decide +kernel)
set_option maxRecDepth 100000 in
theorem gwi_310 : (Jvm.Cond.fieldLink "PlainMusic$Judge" (40 : Nat) "PlainMusic$Voice" "bars" "I") ∈ gw := gx_1 (List.mem_of_getElem? (i := 177) rfl) (by decide +kernel)
set_option maxRecDepth 100000 in
theorem gwi_311 : (Jvm.Cond.fieldLink "PlainMusic$Page" (65 : Nat) "PlainMusic$Voice" "bars" "I") ∈ gw := gx_1 (List.mem_of_getElem? (i := 178) rfl) (by decide +kernel)
set_option maxRecDepth 100000 in
theorem gwi_312 : (Jvm.Cond.fieldLink "PlainMusic" (134 : Nat) "PlainMusic$Voice" "bars" "I") ∈ gw := gx_1 (List.mem_of_getElem? (i := 179) rfl) (by decide +kernel)
set_option maxRecDepth 100000 in
theorem gwi_313 : (Jvm.Cond.fieldLink "PlainMusic$Score" (67 : Nat) "PlainMusic$Voice" "bars" "I") ∈ gw := gx_1 (List.mem_of_getElem? (i := 180) rfl) (by decide +kernel)
set_option maxRecDepth 100000 in
theorem gwi_349 : (Jvm.Cond.arrayClass Jvm.ClassFile.FieldType.boolean) ∈ gw := gx_1 (List.mem_of_getElem? (i := 216) rfl) (by decide +kernel)
set_option maxRecDepth 100000 in
theorem gwi_350 : (Jvm.Cond.fieldLink "PlainMusic$Score" (11 : Nat) "PlainMusic$Score" "voices" "[LPlainMusic$Voice;") ∈ gw := gx_1 (List.mem_of_getElem? (i := 217) rfl) (by decide +kernel)
set_option maxRecDepth 100000 in
theorem gwi_351 : (Jvm.Cond.fieldLink "PlainMusic$Score" (41 : Nat) "PlainMusic$Score" "voiceCount" "I") ∈ gw := gx_1 (List.mem_of_getElem? (i := 218) rfl) (by decide +kernel)
set_option maxRecDepth 100000 in
theorem gwi_352 : (Jvm.Cond.fieldLink "PlainMusic$Judge" (22 : Nat) "PlainMusic$Score" "voiceCount" "I") ∈ gw := gx_1 (List.mem_of_getElem? (i := 219) rfl) (by decide +kernel)
set_option maxRecDepth 100000 in
theorem gwi_353 : (Jvm.Cond.fieldLink "PlainMusic$Page" (58 : Nat) "PlainMusic$Score" "voiceCount" "I") ∈ gw := gx_1 (List.mem_of_getElem? (i := 220) rfl) (by decide +kernel)
set_option maxRecDepth 100000 in
theorem gwi_354 : (Jvm.Cond.fieldLink "PlainMusic" (104 : Nat) "PlainMusic$Score" "voiceCount" "I") ∈ gw := gx_1 (List.mem_of_getElem? (i := 221) rfl) (by decide +kernel)
set_option maxRecDepth 100000 in
theorem gwi_355 : (Jvm.Cond.fieldLink "PlainMusic$Score" (17 : Nat) "PlainMusic$Score" "timeTop" "I") ∈ gw := gx_1 (List.mem_of_getElem? (i := 222) rfl) (by decide +kernel)
set_option maxRecDepth 100000 in
theorem gwi_356 : (Jvm.Cond.fieldLink "PlainMusic$Judge" (65 : Nat) "PlainMusic$Score" "timeTop" "I") ∈ gw := gx_1 (List.mem_of_getElem? (i := 223) rfl) (by decide +kernel)
set_option maxRecDepth 100000 in
theorem gwi_357 : (Jvm.Cond.fieldLink "PlainMusic" (119 : Nat) "PlainMusic$Score" "timeTop" "I") ∈ gw := gx_1 (List.mem_of_getElem? (i := 224) rfl) (by decide +kernel)
set_option maxRecDepth 100000 in
theorem gwi_358 : (Jvm.Cond.fieldLink "PlainMusic$Score" (21 : Nat) "PlainMusic$Score" "timeBottom" "I") ∈ gw := gx_1 (List.mem_of_getElem? (i := 225) rfl) (by decide +kernel)
set_option maxRecDepth 100000 in
theorem gwi_359 : (Jvm.Cond.fieldLink "PlainMusic$Judge" (68 : Nat) "PlainMusic$Score" "timeBottom" "I") ∈ gw := gx_1 (List.mem_of_getElem? (i := 226) rfl) (by decide +kernel)
set_option maxRecDepth 100000 in
theorem gwi_360 : (Jvm.Cond.fieldLink "PlainMusic" (122 : Nat) "PlainMusic$Score" "timeBottom" "I") ∈ gw := gx_1 (List.mem_of_getElem? (i := 227) rfl) (by decide +kernel)
set_option maxRecDepth 100000 in
theorem gwi_361 : (Jvm.Cond.fieldLink "PlainMusic$Score" (44 : Nat) "PlainMusic$Score" "timed" "Z") ∈ gw := gx_1 (List.mem_of_getElem? (i := 228) rfl) (by decide +kernel)
set_option maxRecDepth 100000 in
theorem gwi_362 : (Jvm.Cond.fieldLink "PlainMusic$Reader" (95 : Nat) "PlainMusic$Score" "timed" "Z") ∈ gw := gx_1 (List.mem_of_getElem? (i := 229) rfl) (by decide +kernel)
set_option maxRecDepth 100000 in
theorem gwi_363 : (Jvm.Cond.fieldLink "PlainMusic$Score" (24 : Nat) "PlainMusic$Score" "lineKeys" "[I") ∈ gw := gx_1 (List.mem_of_getElem? (i := 230) rfl) (by decide +kernel)
set_option maxRecDepth 100000 in
theorem gwi_364 : (Jvm.Cond.fieldLink "PlainMusic$Seconds" (50 : Nat) "PlainMusic$Score" "lineKeys" "[I") ∈ gw := gx_1 (List.mem_of_getElem? (i := 231) rfl) (by decide +kernel)
set_option maxRecDepth 100000 in
theorem gwi_365 : (Jvm.Cond.fieldLink "PlainMusic$Score" (48 : Nat) "PlainMusic$Score" "lineLength" "I") ∈ gw := gx_1 (List.mem_of_getElem? (i := 232) rfl) (by decide +kernel)
set_option maxRecDepth 100000 in
theorem gwi_366 : (Jvm.Cond.fieldLink "PlainMusic$Seconds" (26 : Nat) "PlainMusic$Score" "lineLength" "I") ∈ gw := gx_1 (List.mem_of_getElem? (i := 233) rfl) (by decide +kernel)
set_option maxRecDepth 100000 in
theorem gwi_367 : (Jvm.Cond.fieldLink "PlainMusic" (107 : Nat) "PlainMusic$Score" "lineLength" "I") ∈ gw := gx_1 (List.mem_of_getElem? (i := 234) rfl) (by decide +kernel)
set_option maxRecDepth 100000 in
theorem gwi_368 : (Jvm.Cond.fieldLink "PlainMusic$Reader" (111 : Nat) "PlainMusic$Score" "lineLength" "I") ∈ gw := gx_1 (List.mem_of_getElem? (i := 235) rfl) (by decide +kernel)
set_option maxRecDepth 100000 in
theorem gwi_369 : (Jvm.Cond.fieldLink "PlainMusic$Score" (28 : Nat) "PlainMusic$Score" "ruleNames" "[I") ∈ gw := gx_1 (List.mem_of_getElem? (i := 236) rfl) (by decide +kernel)
set_option maxRecDepth 100000 in
theorem gwi_370 : (Jvm.Cond.fieldLink "PlainMusic$Trees" (32 : Nat) "PlainMusic$Score" "ruleNames" "[I") ∈ gw := gx_1 (List.mem_of_getElem? (i := 237) rfl) (by decide +kernel)
set_option maxRecDepth 100000 in
theorem gwi_371 : (Jvm.Cond.fieldLink "PlainMusic$Score" (31 : Nat) "PlainMusic$Score" "ruleLefts" "[I") ∈ gw := gx_1 (List.mem_of_getElem? (i := 238) rfl) (by decide +kernel)
set_option maxRecDepth 100000 in
theorem gwi_372 : (Jvm.Cond.fieldLink "PlainMusic$Trees" (60 : Nat) "PlainMusic$Score" "ruleLefts" "[I") ∈ gw := gx_1 (List.mem_of_getElem? (i := 239) rfl) (by decide +kernel)
theorem gwi_373 : (Jvm.Cond.fieldLink "PlainMusic$Score" (34 : Nat) "PlainMusic$Score" "ruleRights" "[I") ∈ gw := gx_2 (List.mem_of_getElem? (i := 0) rfl) (by decide +kernel)
theorem gwi_374 : (Jvm.Cond.fieldLink "PlainMusic$Trees" (54 : Nat) "PlainMusic$Score" "ruleRights" "[I") ∈ gw := gx_2 (List.mem_of_getElem? (i := 1) rfl) (by decide +kernel)
theorem gwi_375 : (Jvm.Cond.fieldLink "PlainMusic$Score" (51 : Nat) "PlainMusic$Score" "ruleCount" "I") ∈ gw := gx_2 (List.mem_of_getElem? (i := 2) rfl) (by decide +kernel)
theorem gwi_376 : (Jvm.Cond.fieldLink "PlainMusic$Trees" (39 : Nat) "PlainMusic$Score" "ruleCount" "I") ∈ gw := gx_2 (List.mem_of_getElem? (i := 3) rfl) (by decide +kernel)
theorem gwi_377 : (Jvm.Cond.fieldLink "PlainMusic" (110 : Nat) "PlainMusic$Score" "ruleCount" "I") ∈ gw := gx_2 (List.mem_of_getElem? (i := 4) rfl) (by decide +kernel)
theorem gwi_378 : (Jvm.Cond.fieldLink "PlainMusic$Reader" (117 : Nat) "PlainMusic$Score" "ruleCount" "I") ∈ gw := gx_2 (List.mem_of_getElem? (i := 5) rfl) (by decide +kernel)
theorem gwi_379 : (Jvm.Cond.fieldLink "PlainMusic$Score" (37 : Nat) "PlainMusic$Score" "row" "[I") ∈ gw := gx_2 (List.mem_of_getElem? (i := 6) rfl) (by decide +kernel)
theorem gwi_380 : (Jvm.Cond.fieldLink "PlainMusic$Trees" (57 : Nat) "PlainMusic$Score" "row" "[I") ∈ gw := gx_2 (List.mem_of_getElem? (i := 7) rfl) (by decide +kernel)
theorem gwi_381 : (Jvm.Cond.fieldLink "PlainMusic$Score" (54 : Nat) "PlainMusic$Score" "rowLength" "I") ∈ gw := gx_2 (List.mem_of_getElem? (i := 8) rfl) (by decide +kernel)
theorem gwi_382 : (Jvm.Cond.fieldLink "PlainMusic$Trees" (23 : Nat) "PlainMusic$Score" "rowLength" "I") ∈ gw := gx_2 (List.mem_of_getElem? (i := 9) rfl) (by decide +kernel)
theorem gwi_383 : (Jvm.Cond.fieldLink "PlainMusic" (113 : Nat) "PlainMusic$Score" "rowLength" "I") ∈ gw := gx_2 (List.mem_of_getElem? (i := 10) rfl) (by decide +kernel)
theorem gwi_384 : (Jvm.Cond.fieldLink "PlainMusic$Reader" (128 : Nat) "PlainMusic$Score" "rowLength" "I") ∈ gw := gx_2 (List.mem_of_getElem? (i := 11) rfl) (by decide +kernel)
theorem gwi_412 : (Jvm.Cond.fieldLink "PlainMusic$Reader" (12 : Nat) "PlainMusic$Reader" "tokens" "LPlainMusic$Tokens;") ∈ gw := gx_2 (List.mem_of_getElem? (i := 39) rfl) (by decide +kernel)
theorem gwi_413 : (Jvm.Cond.fieldLink "PlainMusic$Reader" (21 : Nat) "PlainMusic$Reader" "parts" "LPlainMusic$Parts;") ∈ gw := gx_2 (List.mem_of_getElem? (i := 40) rfl) (by decide +kernel)
set_option maxRecDepth 100000 in
theorem gwi_414 : (Jvm.Cond.fieldLink "PlainMusic$Reader" (25 : Nat) "PlainMusic$Reader" "names" "[J") ∈ gw := gx_2 (List.mem_of_getElem? (i := 41) rfl) (by decide +kernel)
set_option maxRecDepth 100000 in
theorem gwi_415 : (Jvm.Cond.fieldLink "PlainMusic$Reader" (39 : Nat) "PlainMusic$Reader" "nameCount" "I") ∈ gw := gx_2 (List.mem_of_getElem? (i := 42) rfl) (by decide +kernel)
set_option maxRecDepth 100000 in
theorem gwi_416 : (Jvm.Cond.fieldLink "PlainMusic$Reader" (140 : Nat) "PlainMusic$Reader" "soundsRead" "I") ∈ gw := gx_2 (List.mem_of_getElem? (i := 43) rfl) (by decide +kernel)
set_option maxRecDepth 100000 in
theorem gwi_417 : (Jvm.Cond.fieldLink "PlainMusic$Reader" (32 : Nat) "PlainMusic$Reader" "target" "LPlainMusic$Score;") ∈ gw := gx_2 (List.mem_of_getElem? (i := 44) rfl) (by decide +kernel)
set_option maxRecDepth 100000 in
theorem gwi_418 : (Jvm.Cond.fieldLink "PlainMusic$Reader" (43 : Nat) "PlainMusic$Reader" "fault" "I") ∈ gw := gx_2 (List.mem_of_getElem? (i := 45) rfl) (by decide +kernel)
set_option maxRecDepth 100000 in
theorem gwi_419 : (Jvm.Cond.fieldLink "PlainMusic$Reader" (72 : Nat) "PlainMusic$Reader" "faultPlace" "I") ∈ gw := gx_2 (List.mem_of_getElem? (i := 46) rfl) (by decide +kernel)
set_option maxRecDepth 100000 in
theorem gwi_420 : (Jvm.Cond.fieldLink "PlainMusic" (84 : Nat) "PlainMusic$Reader" "faultPlace" "I") ∈ gw := gx_2 (List.mem_of_getElem? (i := 47) rfl) (by decide +kernel)
set_option maxRecDepth 100000 in
theorem gwi_438 : (Jvm.Cond.classLink "PlainMusic" (24 : Nat) "PlainMusic$Score") ∈ gw := gx_2 (List.mem_of_getElem? (i := 65) rfl) (by decide +kernel)
set_option maxRecDepth 100000 in
theorem gwi_439 : (Jvm.Cond.methodLink "PlainMusic" (26 : Nat) ({ cls := "PlainMusic$Score", name := "<init>", desc := "()V" } : Jvm.MethodName)) ∈ gw := gx_2 (List.mem_of_getElem? (i := 66) rfl) (by decide +kernel)
set_option maxRecDepth 100000 in
theorem gwi_440 : (Jvm.Cond.classLink "PlainMusic" (34 : Nat) "PlainMusic$Judge") ∈ gw := gx_2 (List.mem_of_getElem? (i := 67) rfl) (by decide +kernel)
set_option maxRecDepth 100000 in
theorem gwi_441 : (Jvm.Cond.instantiable "PlainMusic$Judge" (3 : Nat)) ∈ gw := gx_2 (List.mem_of_getElem? (i := 68) rfl) (by decide +kernel)
set_option maxRecDepth 100000 in
theorem gwi_443 : (Jvm.Cond.instanceMethod ({ cls := "PlainMusic$Judge", name := "<init>", desc := "()V" } : Jvm.MethodName)) ∈ gw := gx_2 (List.mem_of_getElem? (i := 70) rfl) (by decide +kernel)
set_option maxRecDepth 100000 in
theorem gwi_444 : (Jvm.Cond.code ({ cls := "PlainMusic$Judge", name := "<init>", desc := "()V" } : Jvm.MethodName) prog_3_method_1_code (1 : Nat) (Option.none : Option Jvm.ClassFile.FieldType)) ∈ gw := gx_2 (List.mem_of_getElem? (i := 71) rfl) (by decide +kernel)
set_option maxRecDepth 100000 in
theorem gwi_445 : (Jvm.Cond.methodLink "PlainMusic$Judge" (3 : Nat) ({ cls := "java/lang/Object", name := "<init>", desc := "()V" } : Jvm.MethodName)) ∈ gw := gx_2 (List.mem_of_getElem? (i := 72) rfl) (by decide +kernel)
set_option maxRecDepth 100000 in
theorem gwi_446 : (Jvm.Cond.fieldLink "PlainMusic$Judge" (11 : Nat) "PlainMusic$Judge" "faults" "[I") ∈ gw := gx_2 (List.mem_of_getElem? (i := 73) rfl) (by decide +kernel)
set_option maxRecDepth 100000 in
theorem gwi_447 : (Jvm.Cond.fieldLink "PlainMusic$Judge" (18 : Nat) "PlainMusic$Judge" "size" "I") ∈ gw := gx_2 (List.mem_of_getElem? (i := 74) rfl) (by decide +kernel)
set_option maxRecDepth 100000 in
theorem gwi_448 : (Jvm.Cond.fieldLink "PlainMusic$Judge" (15 : Nat) "PlainMusic$Judge" "sounding" "[I") ∈ gw := gx_2 (List.mem_of_getElem? (i := 75) rfl) (by decide +kernel)
set_option maxRecDepth 100000 in
theorem gwi_456 : (Jvm.Cond.classLink "PlainMusic" (41 : Nat) "PlainMusic$Beams") ∈ gw := gx_2 (List.mem_of_getElem? (i := 83) rfl) (by decide +kernel)
set_option maxRecDepth 100000 in
theorem gwi_457 : (Jvm.Cond.instantiable "PlainMusic$Beams" (4 : Nat)) ∈ gw := gx_2 (List.mem_of_getElem? (i := 84) rfl) (by decide +kernel)
set_option maxRecDepth 100000 in
theorem gwi_459 : (Jvm.Cond.instanceMethod ({ cls := "PlainMusic$Beams", name := "<init>", desc := "()V" } : Jvm.MethodName)) ∈ gw := gx_2 (List.mem_of_getElem? (i := 86) rfl) (by decide +kernel)
set_option maxRecDepth 100000 in
theorem gwi_460 : (Jvm.Cond.code ({ cls := "PlainMusic$Beams", name := "<init>", desc := "()V" } : Jvm.MethodName) prog_2_method_1_code (1 : Nat) (Option.none : Option Jvm.ClassFile.FieldType)) ∈ gw := gx_2 (List.mem_of_getElem? (i := 87) rfl) (by decide +kernel)
set_option maxRecDepth 100000 in
theorem gwi_461 : (Jvm.Cond.methodLink "PlainMusic$Beams" (3 : Nat) ({ cls := "java/lang/Object", name := "<init>", desc := "()V" } : Jvm.MethodName)) ∈ gw := gx_2 (List.mem_of_getElem? (i := 88) rfl) (by decide +kernel)
set_option maxRecDepth 100000 in
theorem gwi_462 : (Jvm.Cond.fieldLink "PlainMusic$Beams" (11 : Nat) "PlainMusic$Beams" "groups" "[I") ∈ gw := gx_2 (List.mem_of_getElem? (i := 89) rfl) (by decide +kernel)
set_option maxRecDepth 100000 in
theorem gwi_463 : (Jvm.Cond.fieldLink "PlainMusic$Beams" (21 : Nat) "PlainMusic$Beams" "groupCount" "I") ∈ gw := gx_2 (List.mem_of_getElem? (i := 90) rfl) (by decide +kernel)
set_option maxRecDepth 100000 in
theorem gwi_464 : (Jvm.Cond.fieldLink "PlainMusic$Beams" (15 : Nat) "PlainMusic$Beams" "best" "[I") ∈ gw := gx_2 (List.mem_of_getElem? (i := 91) rfl) (by decide +kernel)
set_option maxRecDepth 100000 in
theorem gwi_465 : (Jvm.Cond.fieldLink "PlainMusic$Beams" (18 : Nat) "PlainMusic$Beams" "sizes" "[I") ∈ gw := gx_2 (List.mem_of_getElem? (i := 92) rfl) (by decide +kernel)
set_option maxRecDepth 100000 in
theorem gwi_475 : (Jvm.Cond.classLink "PlainMusic" (48 : Nat) "PlainMusic$Page") ∈ gw := gx_2 (List.mem_of_getElem? (i := 102) rfl) (by decide +kernel)
set_option maxRecDepth 100000 in
theorem gwi_476 : (Jvm.Cond.instantiable "PlainMusic$Page" (8 : Nat)) ∈ gw := gx_2 (List.mem_of_getElem? (i := 103) rfl) (by decide +kernel)
set_option maxRecDepth 100000 in
theorem gwi_478 : (Jvm.Cond.instanceMethod ({ cls := "PlainMusic$Page", name := "<init>", desc := "()V" } : Jvm.MethodName)) ∈ gw := gx_2 (List.mem_of_getElem? (i := 105) rfl) (by decide +kernel)
set_option maxRecDepth 100000 in
theorem gwi_479 : (Jvm.Cond.code ({ cls := "PlainMusic$Page", name := "<init>", desc := "()V" } : Jvm.MethodName) prog_4_method_1_code (1 : Nat) (Option.none : Option Jvm.ClassFile.FieldType)) ∈ gw := gx_2 (List.mem_of_getElem? (i := 106) rfl) (by decide +kernel)
set_option maxRecDepth 100000 in
theorem gwi_480 : (Jvm.Cond.methodLink "PlainMusic$Page" (3 : Nat) ({ cls := "java/lang/Object", name := "<init>", desc := "()V" } : Jvm.MethodName)) ∈ gw := gx_2 (List.mem_of_getElem? (i := 107) rfl) (by decide +kernel)
set_option maxRecDepth 100000 in
theorem gwi_481 : (Jvm.Cond.fieldLink "PlainMusic$Page" (11 : Nat) "PlainMusic$Page" "lineBars" "[I") ∈ gw := gx_2 (List.mem_of_getElem? (i := 108) rfl) (by decide +kernel)
set_option maxRecDepth 100000 in
theorem gwi_482 : (Jvm.Cond.fieldLink "PlainMusic$Page" (34 : Nat) "PlainMusic$Page" "lineCount" "I") ∈ gw := gx_2 (List.mem_of_getElem? (i := 109) rfl) (by decide +kernel)
set_option maxRecDepth 100000 in
theorem gwi_483 : (Jvm.Cond.fieldLink "PlainMusic$Page" (15 : Nat) "PlainMusic$Page" "widths" "[I") ∈ gw := gx_2 (List.mem_of_getElem? (i := 110) rfl) (by decide +kernel)
set_option maxRecDepth 100000 in
theorem gwi_484 : (Jvm.Cond.fieldLink "PlainMusic$Page" (18 : Nat) "PlainMusic$Page" "best" "[J") ∈ gw := gx_2 (List.mem_of_getElem? (i := 111) rfl) (by decide +kernel)
set_option maxRecDepth 100000 in
theorem gwi_485 : (Jvm.Cond.fieldLink "PlainMusic$Page" (22 : Nat) "PlainMusic$Page" "sizes" "[I") ∈ gw := gx_2 (List.mem_of_getElem? (i := 112) rfl) (by decide +kernel)
set_option maxRecDepth 100000 in
theorem gwi_486 : (Jvm.Cond.fieldLink "PlainMusic$Page" (25 : Nat) "PlainMusic$Page" "nextEvents" "[I") ∈ gw := gx_2 (List.mem_of_getElem? (i := 113) rfl) (by decide +kernel)
set_option maxRecDepth 100000 in
theorem gwi_487 : (Jvm.Cond.fieldLink "PlainMusic$Page" (28 : Nat) "PlainMusic$Page" "nextTops" "[J") ∈ gw := gx_2 (List.mem_of_getElem? (i := 114) rfl) (by decide +kernel)
set_option maxRecDepth 100000 in
theorem gwi_488 : (Jvm.Cond.fieldLink "PlainMusic$Page" (31 : Nat) "PlainMusic$Page" "nextBottoms" "[J") ∈ gw := gx_2 (List.mem_of_getElem? (i := 115) rfl) (by decide +kernel)
set_option maxRecDepth 100000 in
theorem gwi_506 : (Jvm.Cond.classLink "PlainMusic" (55 : Nat) "PlainMusic$Seconds") ∈ gw := gx_2 (List.mem_of_getElem? (i := 133) rfl) (by decide +kernel)
set_option maxRecDepth 100000 in
theorem gwi_507 : (Jvm.Cond.instantiable "PlainMusic$Seconds" (8 : Nat)) ∈ gw := gx_2 (List.mem_of_getElem? (i := 134) rfl) (by decide +kernel)
set_option maxRecDepth 100000 in
theorem gwi_509 : (Jvm.Cond.instanceMethod ({ cls := "PlainMusic$Seconds", name := "<init>", desc := "()V" } : Jvm.MethodName)) ∈ gw := gx_2 (List.mem_of_getElem? (i := 136) rfl) (by decide +kernel)
set_option maxRecDepth 100000 in
theorem gwi_510 : (Jvm.Cond.code ({ cls := "PlainMusic$Seconds", name := "<init>", desc := "()V" } : Jvm.MethodName) prog_9_method_1_code (1 : Nat) (Option.none : Option Jvm.ClassFile.FieldType)) ∈ gw := gx_2 (List.mem_of_getElem? (i := 137) rfl) (by decide +kernel)
set_option maxRecDepth 100000 in
theorem gwi_511 : (Jvm.Cond.methodLink "PlainMusic$Seconds" (3 : Nat) ({ cls := "java/lang/Object", name := "<init>", desc := "()V" } : Jvm.MethodName)) ∈ gw := gx_2 (List.mem_of_getElem? (i := 138) rfl) (by decide +kernel)
set_option maxRecDepth 100000 in
theorem gwi_512 : (Jvm.Cond.fieldLink "PlainMusic$Seconds" (11 : Nat) "PlainMusic$Seconds" "bits" "[J") ∈ gw := gx_2 (List.mem_of_getElem? (i := 139) rfl) (by decide +kernel)
set_option maxRecDepth 100000 in
theorem gwi_513 : (Jvm.Cond.fieldLink "PlainMusic$Seconds" (22 : Nat) "PlainMusic$Seconds" "found" "I") ∈ gw := gx_2 (List.mem_of_getElem? (i := 140) rfl) (by decide +kernel)
set_option maxRecDepth 100000 in
theorem gwi_514 : (Jvm.Cond.fieldLink "PlainMusic$Seconds" (32 : Nat) "PlainMusic$Seconds" "low" "I") ∈ gw := gx_2 (List.mem_of_getElem? (i := 141) rfl) (by decide +kernel)
set_option maxRecDepth 100000 in
theorem gwi_515 : (Jvm.Cond.fieldLink "PlainMusic$Seconds" (35 : Nat) "PlainMusic$Seconds" "span" "I") ∈ gw := gx_2 (List.mem_of_getElem? (i := 142) rfl) (by decide +kernel)
set_option maxRecDepth 100000 in
theorem gwi_516 : (Jvm.Cond.fieldLink "PlainMusic$Seconds" (47 : Nat) "PlainMusic$Seconds" "places" "I") ∈ gw := gx_2 (List.mem_of_getElem? (i := 143) rfl) (by decide +kernel)
set_option maxRecDepth 100000 in
theorem gwi_517 : (Jvm.Cond.fieldLink "PlainMusic$Seconds" (38 : Nat) "PlainMusic$Seconds" "rules" "I") ∈ gw := gx_2 (List.mem_of_getElem? (i := 144) rfl) (by decide +kernel)
set_option maxRecDepth 100000 in
theorem gwi_518 : (Jvm.Cond.fieldLink "PlainMusic$Seconds" (15 : Nat) "PlainMusic$Seconds" "line" "[I") ∈ gw := gx_2 (List.mem_of_getElem? (i := 145) rfl) (by decide +kernel)
set_option maxRecDepth 100000 in
theorem gwi_519 : (Jvm.Cond.fieldLink "PlainMusic$Seconds" (19 : Nat) "PlainMusic$Seconds" "keys" "[I") ∈ gw := gx_2 (List.mem_of_getElem? (i := 146) rfl) (by decide +kernel)
set_option maxRecDepth 100000 in
theorem gwi_537 : (Jvm.Cond.classLink "PlainMusic" (62 : Nat) "PlainMusic$Trees") ∈ gw := gx_2 (List.mem_of_getElem? (i := 164) rfl) (by decide +kernel)
set_option maxRecDepth 100000 in
theorem gwi_538 : (Jvm.Cond.instantiable "PlainMusic$Trees" (6 : Nat)) ∈ gw := gx_2 (List.mem_of_getElem? (i := 165) rfl) (by decide +kernel)
set_option maxRecDepth 100000 in
theorem gwi_540 : (Jvm.Cond.instanceMethod ({ cls := "PlainMusic$Trees", name := "<init>", desc := "()V" } : Jvm.MethodName)) ∈ gw := gx_2 (List.mem_of_getElem? (i := 167) rfl) (by decide +kernel)
set_option maxRecDepth 100000 in
theorem gwi_541 : (Jvm.Cond.code ({ cls := "PlainMusic$Trees", name := "<init>", desc := "()V" } : Jvm.MethodName) prog_11_method_1_code (1 : Nat) (Option.none : Option Jvm.ClassFile.FieldType)) ∈ gw := gx_2 (List.mem_of_getElem? (i := 168) rfl) (by decide +kernel)
set_option maxRecDepth 100000 in
theorem gwi_542 : (Jvm.Cond.methodLink "PlainMusic$Trees" (3 : Nat) ({ cls := "java/lang/Object", name := "<init>", desc := "()V" } : Jvm.MethodName)) ∈ gw := gx_2 (List.mem_of_getElem? (i := 169) rfl) (by decide +kernel)
set_option maxRecDepth 100000 in
theorem gwi_543 : (Jvm.Cond.fieldLink "PlainMusic$Trees" (11 : Nat) "PlainMusic$Trees" "counts" "[I") ∈ gw := gx_2 (List.mem_of_getElem? (i := 170) rfl) (by decide +kernel)
set_option maxRecDepth 100000 in
theorem gwi_544 : (Jvm.Cond.fieldLink "PlainMusic$Trees" (15 : Nat) "PlainMusic$Trees" "found" "I") ∈ gw := gx_2 (List.mem_of_getElem? (i := 171) rfl) (by decide +kernel)
set_option maxRecDepth 100000 in
theorem gwi_545 : (Jvm.Cond.fieldLink "PlainMusic$Trees" (67 : Nat) "PlainMusic$Trees" "partName" "I") ∈ gw := gx_2 (List.mem_of_getElem? (i := 172) rfl) (by decide +kernel)
set_option maxRecDepth 100000 in
theorem gwi_546 : (Jvm.Cond.fieldLink "PlainMusic$Trees" (70 : Nat) "PlainMusic$Trees" "partFrom" "I") ∈ gw := gx_2 (List.mem_of_getElem? (i := 173) rfl) (by decide +kernel)
set_option maxRecDepth 100000 in
theorem gwi_547 : (Jvm.Cond.fieldLink "PlainMusic$Trees" (73 : Nat) "PlainMusic$Trees" "partTo" "I") ∈ gw := gx_2 (List.mem_of_getElem? (i := 174) rfl) (by decide +kernel)
set_option maxRecDepth 100000 in
theorem gwi_548 : (Jvm.Cond.fieldLink "PlainMusic$Trees" (76 : Nat) "PlainMusic$Trees" "partTree" "J") ∈ gw := gx_2 (List.mem_of_getElem? (i := 175) rfl) (by decide +kernel)
set_option maxRecDepth 100000 in
theorem gwi_562 : (Jvm.Cond.classLink "PlainMusic" (69 : Nat) "PlainMusic$Pairing") ∈ gw := gx_2 (List.mem_of_getElem? (i := 189) rfl) (by decide +kernel)
set_option maxRecDepth 100000 in
theorem gwi_563 : (Jvm.Cond.instantiable "PlainMusic$Pairing" (8 : Nat)) ∈ gw := gx_2 (List.mem_of_getElem? (i := 190) rfl) (by decide +kernel)
set_option maxRecDepth 100000 in
theorem gwi_565 : (Jvm.Cond.instanceMethod ({ cls := "PlainMusic$Pairing", name := "<init>", desc := "()V" } : Jvm.MethodName)) ∈ gw := gx_2 (List.mem_of_getElem? (i := 192) rfl) (by decide +kernel)
set_option maxRecDepth 100000 in
theorem gwi_566 : (Jvm.Cond.code ({ cls := "PlainMusic$Pairing", name := "<init>", desc := "()V" } : Jvm.MethodName) prog_5_method_1_code (1 : Nat) (Option.none : Option Jvm.ClassFile.FieldType)) ∈ gw := gx_2 (List.mem_of_getElem? (i := 193) rfl) (by decide +kernel)
set_option maxRecDepth 100000 in
theorem gwi_567 : (Jvm.Cond.methodLink "PlainMusic$Pairing" (5 : Nat) ({ cls := "java/lang/Object", name := "<init>", desc := "()V" } : Jvm.MethodName)) ∈ gw := gx_2 (List.mem_of_getElem? (i := 194) rfl) (by decide +kernel)
set_option maxRecDepth 100000 in
theorem gwi_568 : (Jvm.Cond.fieldLink "PlainMusic$Pairing" (11 : Nat) "PlainMusic$Pairing" "firstEvents" "[I") ∈ gw := gx_2 (List.mem_of_getElem? (i := 195) rfl) (by decide +kernel)
set_option maxRecDepth 100000 in
theorem gwi_569 : (Jvm.Cond.fieldLink "PlainMusic$Pairing" (15 : Nat) "PlainMusic$Pairing" "otherEvents" "[I") ∈ gw := gx_2 (List.mem_of_getElem? (i := 196) rfl) (by decide +kernel)
set_option maxRecDepth 100000 in
theorem gwi_570 : (Jvm.Cond.fieldLink "PlainMusic$Pairing" (18 : Nat) "PlainMusic$Pairing" "costs" "[I") ∈ gw := gx_2 (List.mem_of_getElem? (i := 197) rfl) (by decide +kernel)
set_option maxRecDepth 100000 in
theorem gwi_571 : (Jvm.Cond.fieldLink "PlainMusic$Pairing" (21 : Nat) "PlainMusic$Pairing" "wayCounts" "[I") ∈ gw := gx_2 (List.mem_of_getElem? (i := 198) rfl) (by decide +kernel)
set_option maxRecDepth 100000 in
theorem gwi_572 : (Jvm.Cond.fieldLink "PlainMusic$Pairing" (24 : Nat) "PlainMusic$Pairing" "partners" "[I") ∈ gw := gx_2 (List.mem_of_getElem? (i := 199) rfl) (by decide +kernel)
set_option maxRecDepth 100000 in
theorem gwi_573 : (Jvm.Cond.fieldLink "PlainMusic$Pairing" (27 : Nat) "PlainMusic$Pairing" "firsts" "I") ∈ gw := gx_2 (List.mem_of_getElem? (i := 200) rfl) (by decide +kernel)
set_option maxRecDepth 100000 in
theorem gwi_574 : (Jvm.Cond.fieldLink "PlainMusic$Pairing" (42 : Nat) "PlainMusic$Pairing" "others" "I") ∈ gw := gx_2 (List.mem_of_getElem? (i := 201) rfl) (by decide +kernel)
set_option maxRecDepth 100000 in
theorem gwi_575 : (Jvm.Cond.fieldLink "PlainMusic$Pairing" (31 : Nat) "PlainMusic$Pairing" "leastWays" "I") ∈ gw := gx_2 (List.mem_of_getElem? (i := 202) rfl) (by decide +kernel)
set_option maxRecDepth 100000 in
theorem gwi_576 : (Jvm.Cond.fieldLink "PlainMusic" (198 : Nat) "PlainMusic$Pairing" "leastWays" "I") ∈ gw := gx_2 (List.mem_of_getElem? (i := 203) rfl) (by decide +kernel)
set_option maxRecDepth 100000 in
theorem gwi_594 : (Jvm.Cond.fieldLink "PlainMusic" (9 : Nat) "PlainMusic" "tape" "[I") ∈ gw := gx_2 (List.mem_of_getElem? (i := 221) rfl) (by decide +kernel)
set_option maxRecDepth 100000 in
theorem gwi_595 : (Jvm.Cond.fieldLink "PlainMusic" (13 : Nat) "PlainMusic" "taped" "I") ∈ gw := gx_2 (List.mem_of_getElem? (i := 222) rfl) (by decide +kernel)
set_option maxRecDepth 100000 in
theorem gwi_596 : (Jvm.Cond.fieldLink "PlainMusic" (20 : Nat) "PlainMusic" "reader" "LPlainMusic$Reader;") ∈ gw := gx_2 (List.mem_of_getElem? (i := 223) rfl) (by decide +kernel)
set_option maxRecDepth 100000 in
theorem gwi_597 : (Jvm.Cond.fieldLink "PlainMusic" (27 : Nat) "PlainMusic" "current" "LPlainMusic$Score;") ∈ gw := gx_2 (List.mem_of_getElem? (i := 224) rfl) (by decide +kernel)
set_option maxRecDepth 100000 in
theorem gwi_598 : (Jvm.Cond.fieldLink "PlainMusic" (31 : Nat) "PlainMusic" "faultPlace" "I") ∈ gw := gx_2 (List.mem_of_getElem? (i := 225) rfl) (by decide +kernel)
set_option maxRecDepth 100000 in
theorem gwi_599 : (Jvm.Cond.fieldLink "PlainMusic" (37 : Nat) "PlainMusic" "judge" "LPlainMusic$Judge;") ∈ gw := gx_2 (List.mem_of_getElem? (i := 226) rfl) (by decide +kernel)
set_option maxRecDepth 100000 in
theorem gwi_600 : (Jvm.Cond.fieldLink "PlainMusic" (44 : Nat) "PlainMusic" "beams" "LPlainMusic$Beams;") ∈ gw := gx_2 (List.mem_of_getElem? (i := 227) rfl) (by decide +kernel)
set_option maxRecDepth 100000 in
theorem gwi_601 : (Jvm.Cond.fieldLink "PlainMusic" (51 : Nat) "PlainMusic" "page" "LPlainMusic$Page;") ∈ gw := gx_2 (List.mem_of_getElem? (i := 228) rfl) (by decide +kernel)
set_option maxRecDepth 100000 in
theorem gwi_602 : (Jvm.Cond.fieldLink "PlainMusic" (58 : Nat) "PlainMusic" "seconds" "LPlainMusic$Seconds;") ∈ gw := gx_2 (List.mem_of_getElem? (i := 229) rfl) (by decide +kernel)
set_option maxRecDepth 100000 in
theorem gwi_603 : (Jvm.Cond.fieldLink "PlainMusic" (65 : Nat) "PlainMusic" "trees" "LPlainMusic$Trees;") ∈ gw := gx_2 (List.mem_of_getElem? (i := 230) rfl) (by decide +kernel)
set_option maxRecDepth 100000 in
theorem gwi_604 : (Jvm.Cond.fieldLink "PlainMusic" (72 : Nat) "PlainMusic" "pairing" "LPlainMusic$Pairing;") ∈ gw := gx_2 (List.mem_of_getElem? (i := 231) rfl) (by decide +kernel)
theorem gwi_628 : (Jvm.Cond.methodLink "PlainMusicLaw" (13 : Nat) ({ cls := "PlainMusic", name := "feed", desc := "(IIIII)I" } : Jvm.MethodName)) ∈ gw := gx_3 (List.mem_of_getElem? (i := 15) rfl) (by decide +kernel)
theorem gwi_629 : (Jvm.Cond.instanceMethod ({ cls := "PlainMusic", name := "feed", desc := "(IIIII)I" } : Jvm.MethodName)) ∈ gw := gx_3 (List.mem_of_getElem? (i := 16) rfl) (by decide +kernel)
theorem gwi_630 : (Jvm.Cond.selects "PlainMusic" ({ cls := "PlainMusic", name := "feed", desc := "(IIIII)I" } : Jvm.MethodName) ({ cls := "PlainMusic", name := "feed", desc := "(IIIII)I" } : Jvm.MethodName)) ∈ gw := gx_3 (List.mem_of_getElem? (i := 17) rfl) (by decide +kernel)
theorem gwi_631 : (Jvm.Cond.code ({ cls := "PlainMusic", name := "feed", desc := "(IIIII)I" } : Jvm.MethodName) prog_1_method_2_code (6 : Nat) (Option.some Jvm.ClassFile.FieldType.int)) ∈ gw := gx_3 (List.mem_of_getElem? (i := 18) rfl) (by decide +kernel)
theorem gwi_632 : (Jvm.Cond.methodLink "PlainMusic" (76 : Nat) ({ cls := "PlainMusic", name := "putBytes", desc := "(I)V" } : Jvm.MethodName)) ∈ gw := gx_3 (List.mem_of_getElem? (i := 19) rfl) (by decide +kernel)
theorem gwi_634 : (Jvm.Cond.instanceMethod ({ cls := "PlainMusic", name := "putBytes", desc := "(I)V" } : Jvm.MethodName)) ∈ gw := gx_3 (List.mem_of_getElem? (i := 21) rfl) (by decide +kernel)
theorem gwi_635 : (Jvm.Cond.code ({ cls := "PlainMusic", name := "putBytes", desc := "(I)V" } : Jvm.MethodName) prog_1_method_3_code (3 : Nat) (Option.none : Option Jvm.ClassFile.FieldType)) ∈ gw := gx_3 (List.mem_of_getElem? (i := 22) rfl) (by decide +kernel)
theorem gwi_636 : (Jvm.Cond.methodLink "PlainMusicLaw" (18 : Nat) ({ cls := "PlainMusic", name := "cut", desc := "(I)I" } : Jvm.MethodName)) ∈ gw := gx_3 (List.mem_of_getElem? (i := 23) rfl) (by decide +kernel)
theorem gwi_637 : (Jvm.Cond.instanceMethod ({ cls := "PlainMusic", name := "cut", desc := "(I)I" } : Jvm.MethodName)) ∈ gw := gx_3 (List.mem_of_getElem? (i := 24) rfl) (by decide +kernel)
theorem gwi_638 : (Jvm.Cond.selects "PlainMusic" ({ cls := "PlainMusic", name := "cut", desc := "(I)I" } : Jvm.MethodName) ({ cls := "PlainMusic", name := "cut", desc := "(I)I" } : Jvm.MethodName)) ∈ gw := gx_3 (List.mem_of_getElem? (i := 25) rfl) (by decide +kernel)
theorem gwi_639 : (Jvm.Cond.code ({ cls := "PlainMusic", name := "cut", desc := "(I)I" } : Jvm.MethodName) prog_1_method_4_code (2 : Nat) (Option.some Jvm.ClassFile.FieldType.int)) ∈ gw := gx_3 (List.mem_of_getElem? (i := 26) rfl) (by decide +kernel)
theorem gwi_640 : (Jvm.Cond.methodLink "PlainMusicLaw" (23 : Nat) ({ cls := "PlainMusic", name := "score", desc := "()I" } : Jvm.MethodName)) ∈ gw := gx_3 (List.mem_of_getElem? (i := 27) rfl) (by decide +kernel)
theorem gwi_641 : (Jvm.Cond.instanceMethod ({ cls := "PlainMusic", name := "score", desc := "()I" } : Jvm.MethodName)) ∈ gw := gx_3 (List.mem_of_getElem? (i := 28) rfl) (by decide +kernel)
theorem gwi_642 : (Jvm.Cond.selects "PlainMusic" ({ cls := "PlainMusic", name := "score", desc := "()I" } : Jvm.MethodName) ({ cls := "PlainMusic", name := "score", desc := "()I" } : Jvm.MethodName)) ∈ gw := gx_3 (List.mem_of_getElem? (i := 29) rfl) (by decide +kernel)
theorem gwi_643 : (Jvm.Cond.code ({ cls := "PlainMusic", name := "score", desc := "()I" } : Jvm.MethodName) prog_1_method_5_code (2 : Nat) (Option.some Jvm.ClassFile.FieldType.int)) ∈ gw := gx_3 (List.mem_of_getElem? (i := 30) rfl) (by decide +kernel)
theorem gwi_644 : (Jvm.Cond.methodLink "PlainMusic" (80 : Nat) ({ cls := "PlainMusic$Reader", name := "read", desc := "([II)I" } : Jvm.MethodName)) ∈ gw := gx_3 (List.mem_of_getElem? (i := 31) rfl) (by decide +kernel)
theorem gwi_645 : (Jvm.Cond.instanceMethod ({ cls := "PlainMusic$Reader", name := "read", desc := "([II)I" } : Jvm.MethodName)) ∈ gw := gx_3 (List.mem_of_getElem? (i := 32) rfl) (by decide +kernel)
theorem gwi_646 : (Jvm.Cond.selects "PlainMusic$Reader" ({ cls := "PlainMusic$Reader", name := "read", desc := "([II)I" } : Jvm.MethodName) ({ cls := "PlainMusic$Reader", name := "read", desc := "([II)I" } : Jvm.MethodName)) ∈ gw := gx_3 (List.mem_of_getElem? (i := 33) rfl) (by decide +kernel)
theorem gwi_647 : (Jvm.Cond.code ({ cls := "PlainMusic$Reader", name := "read", desc := "([II)I" } : Jvm.MethodName) prog_7_method_2_code (5 : Nat) (Option.some Jvm.ClassFile.FieldType.int)) ∈ gw := gx_3 (List.mem_of_getElem? (i := 34) rfl) (by decide +kernel)
theorem gwi_648 : (Jvm.Cond.methodLink "PlainMusic$Reader" (36 : Nat) ({ cls := "PlainMusic$Score", name := "clear", desc := "()V" } : Jvm.MethodName)) ∈ gw := gx_3 (List.mem_of_getElem? (i := 35) rfl) (by decide +kernel)
theorem gwi_649 : (Jvm.Cond.instanceMethod ({ cls := "PlainMusic$Score", name := "clear", desc := "()V" } : Jvm.MethodName)) ∈ gw := gx_3 (List.mem_of_getElem? (i := 36) rfl) (by decide +kernel)
theorem gwi_650 : (Jvm.Cond.selects "PlainMusic$Score" ({ cls := "PlainMusic$Score", name := "clear", desc := "()V" } : Jvm.MethodName) ({ cls := "PlainMusic$Score", name := "clear", desc := "()V" } : Jvm.MethodName)) ∈ gw := gx_3 (List.mem_of_getElem? (i := 37) rfl) (by decide +kernel)
theorem gwi_651 : (Jvm.Cond.code ({ cls := "PlainMusic$Score", name := "clear", desc := "()V" } : Jvm.MethodName) prog_8_method_2_code (1 : Nat) (Option.none : Option Jvm.ClassFile.FieldType)) ∈ gw := gx_3 (List.mem_of_getElem? (i := 38) rfl) (by decide +kernel)
theorem gwi_652 : (Jvm.Cond.methodLink "PlainMusic$Reader" (46 : Nat) ({ cls := "PlainMusic$Tokens", name := "cutAll", desc := "([II)V" } : Jvm.MethodName)) ∈ gw := gx_3 (List.mem_of_getElem? (i := 39) rfl) (by decide +kernel)
theorem gwi_653 : (Jvm.Cond.instanceMethod ({ cls := "PlainMusic$Tokens", name := "cutAll", desc := "([II)V" } : Jvm.MethodName)) ∈ gw := gx_3 (List.mem_of_getElem? (i := 40) rfl) (by decide +kernel)
set_option maxRecDepth 100000 in
theorem gwi_654 : (Jvm.Cond.selects "PlainMusic$Tokens" ({ cls := "PlainMusic$Tokens", name := "cutAll", desc := "([II)V" } : Jvm.MethodName) ({ cls := "PlainMusic$Tokens", name := "cutAll", desc := "([II)V" } : Jvm.MethodName)) ∈ gw := gx_3 (List.mem_of_getElem? (i := 41) rfl) (by decide +kernel)
set_option maxRecDepth 100000 in
theorem gwi_655 : (Jvm.Cond.code ({ cls := "PlainMusic$Tokens", name := "cutAll", desc := "([II)V" } : Jvm.MethodName) prog_10_method_2_code (5 : Nat) (Option.none : Option Jvm.ClassFile.FieldType)) ∈ gw := gx_3 (List.mem_of_getElem? (i := 42) rfl) (by decide +kernel)
set_option maxRecDepth 100000 in
theorem gwi_656 : (Jvm.Cond.methodLink "PlainMusic$Tokens" (28 : Nat) ({ cls := "java/lang/Math", name := "min", desc := "(II)I" } : Jvm.MethodName)) ∈ gw := gx_3 (List.mem_of_getElem? (i := 43) rfl) (by decide +kernel)
set_option maxRecDepth 100000 in
theorem gwi_657 : (Jvm.Cond.static ({ cls := "java/lang/Math", name := "min", desc := "(II)I" } : Jvm.MethodName)) ∈ gw := gx_3 (List.mem_of_getElem? (i := 44) rfl) (by decide +kernel)
set_option maxRecDepth 100000 in
theorem gwi_658 : (Jvm.Cond.code ({ cls := "java/lang/Math", name := "min", desc := "(II)I" } : Jvm.MethodName) prog_18_method_69_code (2 : Nat) (Option.some Jvm.ClassFile.FieldType.int)) ∈ gw := gx_3 (List.mem_of_getElem? (i := 45) rfl) (by decide +kernel)
set_option maxRecDepth 100000 in
theorem gwi_659 : (Jvm.Cond.methodLink "PlainMusic$Tokens" (44 : Nat) ({ cls := "PlainMusic$Tokens", name := "cutOne", desc := "()Z" } : Jvm.MethodName)) ∈ gw := gx_3 (List.mem_of_getElem? (i := 46) rfl) (by decide +kernel)
set_option maxRecDepth 100000 in
theorem gwi_661 : (Jvm.Cond.instanceMethod ({ cls := "PlainMusic$Tokens", name := "cutOne", desc := "()Z" } : Jvm.MethodName)) ∈ gw := gx_3 (List.mem_of_getElem? (i := 48) rfl) (by decide +kernel)
set_option maxRecDepth 100000 in
theorem gwi_662 : (Jvm.Cond.code ({ cls := "PlainMusic$Tokens", name := "cutOne", desc := "()Z" } : Jvm.MethodName) prog_10_method_4_code (3 : Nat) (Option.some Jvm.ClassFile.FieldType.boolean)) ∈ gw := gx_3 (List.mem_of_getElem? (i := 49) rfl) (by decide +kernel)
set_option maxRecDepth 100000 in
theorem gwi_663 : (Jvm.Cond.methodLink "PlainMusic$Tokens" (67 : Nat) ({ cls := "PlainMusic$Tokens", name := "skipBlanks", desc := "()V" } : Jvm.MethodName)) ∈ gw := gx_3 (List.mem_of_getElem? (i := 50) rfl) (by decide +kernel)
set_option maxRecDepth 100000 in
theorem gwi_665 : (Jvm.Cond.instanceMethod ({ cls := "PlainMusic$Tokens", name := "skipBlanks", desc := "()V" } : Jvm.MethodName)) ∈ gw := gx_3 (List.mem_of_getElem? (i := 52) rfl) (by decide +kernel)
set_option maxRecDepth 100000 in
theorem gwi_666 : (Jvm.Cond.code ({ cls := "PlainMusic$Tokens", name := "skipBlanks", desc := "()V" } : Jvm.MethodName) prog_10_method_6_code (3 : Nat) (Option.none : Option Jvm.ClassFile.FieldType)) ∈ gw := gx_3 (List.mem_of_getElem? (i := 53) rfl) (by decide +kernel)
set_option maxRecDepth 100000 in
theorem gwi_667 : (Jvm.Cond.methodLink "PlainMusic$Tokens" (70 : Nat) ({ cls := "PlainMusic$Tokens", name := "byteAt", desc := "(I)I" } : Jvm.MethodName)) ∈ gw := gx_3 (List.mem_of_getElem? (i := 54) rfl) (by decide +kernel)
set_option maxRecDepth 100000 in
theorem gwi_669 : (Jvm.Cond.instanceMethod ({ cls := "PlainMusic$Tokens", name := "byteAt", desc := "(I)I" } : Jvm.MethodName)) ∈ gw := gx_3 (List.mem_of_getElem? (i := 56) rfl) (by decide +kernel)
set_option maxRecDepth 100000 in
theorem gwi_670 : (Jvm.Cond.code ({ cls := "PlainMusic$Tokens", name := "byteAt", desc := "(I)I" } : Jvm.MethodName) prog_10_method_5_code (2 : Nat) (Option.some Jvm.ClassFile.FieldType.int)) ∈ gw := gx_3 (List.mem_of_getElem? (i := 57) rfl) (by decide +kernel)
set_option maxRecDepth 100000 in
theorem gwi_671 : (Jvm.Cond.methodLink "PlainMusic$Tokens" (74 : Nat) ({ cls := "PlainMusic$Tokens", name := "cutPitch", desc := "(I)V" } : Jvm.MethodName)) ∈ gw := gx_3 (List.mem_of_getElem? (i := 58) rfl) (by decide +kernel)
set_option maxRecDepth 100000 in
theorem gwi_673 : (Jvm.Cond.instanceMethod ({ cls := "PlainMusic$Tokens", name := "cutPitch", desc := "(I)V" } : Jvm.MethodName)) ∈ gw := gx_3 (List.mem_of_getElem? (i := 60) rfl) (by decide +kernel)
set_option maxRecDepth 100000 in
theorem gwi_674 : (Jvm.Cond.code ({ cls := "PlainMusic$Tokens", name := "cutPitch", desc := "(I)V" } : Jvm.MethodName) prog_10_method_7_code (7 : Nat) (Option.none : Option Jvm.ClassFile.FieldType)) ∈ gw := gx_3 (List.mem_of_getElem? (i := 61) rfl) (by decide +kernel)
set_option maxRecDepth 100000 in
theorem gwi_677 : (Jvm.Cond.methodLink "PlainMusic$Tokens" (101 : Nat) ({ cls := "java/lang/Math", name := "floorMod", desc := "(II)I" } : Jvm.MethodName)) ∈ gw := gx_3 (List.mem_of_getElem? (i := 64) rfl) (by decide +kernel)
set_option maxRecDepth 100000 in
theorem gwi_678 : (Jvm.Cond.static ({ cls := "java/lang/Math", name := "floorMod", desc := "(II)I" } : Jvm.MethodName)) ∈ gw := gx_3 (List.mem_of_getElem? (i := 65) rfl) (by decide +kernel)
set_option maxRecDepth 100000 in
theorem gwi_679 : (Jvm.Cond.code ({ cls := "java/lang/Math", name := "floorMod", desc := "(II)I" } : Jvm.MethodName) prog_18_method_50_code (3 : Nat) (Option.some Jvm.ClassFile.FieldType.int)) ∈ gw := gx_3 (List.mem_of_getElem? (i := 66) rfl) (by decide +kernel)
set_option maxRecDepth 100000 in
theorem gwi_680 : (Jvm.Cond.methodLink "PlainMusic$Tokens" (78 : Nat) ({ cls := "PlainMusic$Tokens", name := "isSmall", desc := "(I)Z" } : Jvm.MethodName)) ∈ gw := gx_3 (List.mem_of_getElem? (i := 67) rfl) (by decide +kernel)
set_option maxRecDepth 100000 in
theorem gwi_681 : (Jvm.Cond.static ({ cls := "PlainMusic$Tokens", name := "isSmall", desc := "(I)Z" } : Jvm.MethodName)) ∈ gw := gx_3 (List.mem_of_getElem? (i := 68) rfl) (by decide +kernel)
set_option maxRecDepth 100000 in
theorem gwi_682 : (Jvm.Cond.code ({ cls := "PlainMusic$Tokens", name := "isSmall", desc := "(I)Z" } : Jvm.MethodName) prog_10_method_12_code (1 : Nat) (Option.some Jvm.ClassFile.FieldType.boolean)) ∈ gw := gx_3 (List.mem_of_getElem? (i := 69) rfl) (by decide +kernel)
set_option maxRecDepth 100000 in
theorem gwi_683 : (Jvm.Cond.methodLink "PlainMusic$Tokens" (82 : Nat) ({ cls := "PlainMusic$Tokens", name := "cutName", desc := "()V" } : Jvm.MethodName)) ∈ gw := gx_3 (List.mem_of_getElem? (i := 70) rfl) (by decide +kernel)
set_option maxRecDepth 100000 in
theorem gwi_685 : (Jvm.Cond.instanceMethod ({ cls := "PlainMusic$Tokens", name := "cutName", desc := "()V" } : Jvm.MethodName)) ∈ gw := gx_3 (List.mem_of_getElem? (i := 72) rfl) (by decide +kernel)
set_option maxRecDepth 100000 in
theorem gwi_686 : (Jvm.Cond.code ({ cls := "PlainMusic$Tokens", name := "cutName", desc := "()V" } : Jvm.MethodName) prog_10_method_8_code (4 : Nat) (Option.none : Option Jvm.ClassFile.FieldType)) ∈ gw := gx_3 (List.mem_of_getElem? (i := 73) rfl) (by decide +kernel)
set_option maxRecDepth 100000 in
theorem gwi_687 : (Jvm.Cond.methodLink "PlainMusic$Tokens" (104 : Nat) ({ cls := "PlainMusic$Tokens", name := "kindOfName", desc := "(J)I" } : Jvm.MethodName)) ∈ gw := gx_3 (List.mem_of_getElem? (i := 74) rfl) (by decide +kernel)
set_option maxRecDepth 100000 in
theorem gwi_688 : (Jvm.Cond.static ({ cls := "PlainMusic$Tokens", name := "kindOfName", desc := "(J)I" } : Jvm.MethodName)) ∈ gw := gx_3 (List.mem_of_getElem? (i := 75) rfl) (by decide +kernel)
set_option maxRecDepth 100000 in
theorem gwi_689 : (Jvm.Cond.code ({ cls := "PlainMusic$Tokens", name := "kindOfName", desc := "(J)I" } : Jvm.MethodName) prog_10_method_9_code (2 : Nat) (Option.some Jvm.ClassFile.FieldType.int)) ∈ gw := gx_3 (List.mem_of_getElem? (i := 76) rfl) (by decide +kernel)
set_option maxRecDepth 100000 in
theorem gwi_691 : (Jvm.Cond.methodLink "PlainMusic$Tokens" (110 : Nat) ({ cls := "PlainMusic$Tokens", name := "lettersOf", desc := "(Ljava/lang/String;)J" } : Jvm.MethodName)) ∈ gw := gx_3 (List.mem_of_getElem? (i := 78) rfl) (by decide +kernel)
set_option maxRecDepth 100000 in
theorem gwi_692 : (Jvm.Cond.static ({ cls := "PlainMusic$Tokens", name := "lettersOf", desc := "(Ljava/lang/String;)J" } : Jvm.MethodName)) ∈ gw := gx_3 (List.mem_of_getElem? (i := 79) rfl) (by decide +kernel)
set_option maxRecDepth 100000 in
theorem gwi_693 : (Jvm.Cond.code ({ cls := "PlainMusic$Tokens", name := "lettersOf", desc := "(Ljava/lang/String;)J" } : Jvm.MethodName) prog_10_method_10_code (4 : Nat) (Option.some Jvm.ClassFile.FieldType.long)) ∈ gw := gx_3 (List.mem_of_getElem? (i := 80) rfl) (by decide +kernel)
set_option maxRecDepth 100000 in
theorem gwi_694 : (Jvm.Cond.methodLink "PlainMusic$Tokens" (124 : Nat) ({ cls := "java/lang/String", name := "length", desc := "()I" } : Jvm.MethodName)) ∈ gw := gx_3 (List.mem_of_getElem? (i := 81) rfl) (by decide +kernel)
set_option maxRecDepth 100000 in
theorem gwi_695 : (Jvm.Cond.instanceMethod ({ cls := "java/lang/String", name := "length", desc := "()I" } : Jvm.MethodName)) ∈ gw := gx_3 (List.mem_of_getElem? (i := 82) rfl) (by decide +kernel)
set_option maxRecDepth 100000 in
theorem gwi_696 : (Jvm.Cond.selects "java/lang/String" ({ cls := "java/lang/String", name := "length", desc := "()I" } : Jvm.MethodName) ({ cls := "java/lang/String", name := "length", desc := "()I" } : Jvm.MethodName)) ∈ gw := gx_3 (List.mem_of_getElem? (i := 83) rfl) (by decide +kernel)
set_option maxRecDepth 100000 in
theorem gwi_697 : (Jvm.Cond.code ({ cls := "java/lang/String", name := "length", desc := "()I" } : Jvm.MethodName) prog_19_method_54_code (1 : Nat) (Option.some Jvm.ClassFile.FieldType.int)) ∈ gw := gx_3 (List.mem_of_getElem? (i := 84) rfl) (by decide +kernel)
set_option maxRecDepth 100000 in
theorem gwi_698 : (Jvm.Cond.methodLink "java/lang/String" (335 : Nat) ({ cls := "java/lang/String", name := "coder", desc := "()B" } : Jvm.MethodName)) ∈ gw := gx_3 (List.mem_of_getElem? (i := 85) rfl) (by decide +kernel)
set_option maxRecDepth 100000 in
theorem gwi_699 : (Jvm.Cond.instanceMethod ({ cls := "java/lang/String", name := "coder", desc := "()B" } : Jvm.MethodName)) ∈ gw := gx_3 (List.mem_of_getElem? (i := 86) rfl) (by decide +kernel)
set_option maxRecDepth 100000 in
theorem gwi_700 : (Jvm.Cond.selects "java/lang/String" ({ cls := "java/lang/String", name := "coder", desc := "()B" } : Jvm.MethodName) ({ cls := "java/lang/String", name := "coder", desc := "()B" } : Jvm.MethodName)) ∈ gw := gx_3 (List.mem_of_getElem? (i := 87) rfl) (by decide +kernel)
set_option maxRecDepth 100000 in
theorem gwi_701 : (Jvm.Cond.code ({ cls := "java/lang/String", name := "coder", desc := "()B" } : Jvm.MethodName) prog_19_method_152_code (1 : Nat) (Option.some Jvm.ClassFile.FieldType.byte)) ∈ gw := gx_3 (List.mem_of_getElem? (i := 88) rfl) (by decide +kernel)
set_option maxRecDepth 100000 in
theorem gwi_702 : (Jvm.Cond.fieldLink "java/lang/String" (38 : Nat) "java/lang/String" "COMPACT_STRINGS" "Z") ∈ gw := gx_3 (List.mem_of_getElem? (i := 89) rfl) (by decide +kernel)
set_option maxRecDepth 100000 in
theorem gwi_704 : (Jvm.Cond.methodLink "PlainMusic$Tokens" (127 : Nat) ({ cls := "java/lang/String", name := "charAt", desc := "(I)C" } : Jvm.MethodName)) ∈ gw := gx_3 (List.mem_of_getElem? (i := 91) rfl) (by decide +kernel)
set_option maxRecDepth 100000 in
theorem gwi_705 : (Jvm.Cond.instanceMethod ({ cls := "java/lang/String", name := "charAt", desc := "(I)C" } : Jvm.MethodName)) ∈ gw := gx_3 (List.mem_of_getElem? (i := 92) rfl) (by decide +kernel)
set_option maxRecDepth 100000 in
theorem gwi_706 : (Jvm.Cond.selects "java/lang/String" ({ cls := "java/lang/String", name := "charAt", desc := "(I)C" } : Jvm.MethodName) ({ cls := "java/lang/String", name := "charAt", desc := "(I)C" } : Jvm.MethodName)) ∈ gw := gx_3 (List.mem_of_getElem? (i := 93) rfl) (by decide +kernel)
set_option maxRecDepth 100000 in
theorem gwi_707 : (Jvm.Cond.code ({ cls := "java/lang/String", name := "charAt", desc := "(I)C" } : Jvm.MethodName) prog_19_method_56_code (2 : Nat) (Option.some Jvm.ClassFile.FieldType.char)) ∈ gw := gx_3 (List.mem_of_getElem? (i := 94) rfl) (by decide +kernel)
set_option maxRecDepth 100000 in
theorem gwi_708 : (Jvm.Cond.methodLink "java/lang/String" (492 : Nat) ({ cls := "java/lang/String", name := "isLatin1", desc := "()Z" } : Jvm.MethodName)) ∈ gw := gx_3 (List.mem_of_getElem? (i := 95) rfl) (by decide +kernel)
set_option maxRecDepth 100000 in
theorem gwi_709 : (Jvm.Cond.instanceMethod ({ cls := "java/lang/String", name := "isLatin1", desc := "()Z" } : Jvm.MethodName)) ∈ gw := gx_3 (List.mem_of_getElem? (i := 96) rfl) (by decide +kernel)
set_option maxRecDepth 100000 in
theorem gwi_710 : (Jvm.Cond.selects "java/lang/String" ({ cls := "java/lang/String", name := "isLatin1", desc := "()Z" } : Jvm.MethodName) ({ cls := "java/lang/String", name := "isLatin1", desc := "()Z" } : Jvm.MethodName)) ∈ gw := gx_3 (List.mem_of_getElem? (i := 97) rfl) (by decide +kernel)
set_option maxRecDepth 100000 in
theorem gwi_711 : (Jvm.Cond.code ({ cls := "java/lang/String", name := "isLatin1", desc := "()Z" } : Jvm.MethodName) prog_19_method_154_code (1 : Nat) (Option.some Jvm.ClassFile.FieldType.boolean)) ∈ gw := gx_3 (List.mem_of_getElem? (i := 98) rfl) (by decide +kernel)
set_option maxRecDepth 100000 in
theorem gwi_712 : (Jvm.Cond.methodLink "java/lang/String" (495 : Nat) ({ cls := "java/lang/StringLatin1", name := "charAt", desc := "([BI)C" } : Jvm.MethodName)) ∈ gw := gx_3 (List.mem_of_getElem? (i := 99) rfl) (by decide +kernel)
set_option maxRecDepth 100000 in
theorem gwi_713 : (Jvm.Cond.static ({ cls := "java/lang/StringLatin1", name := "charAt", desc := "([BI)C" } : Jvm.MethodName)) ∈ gw := gx_3 (List.mem_of_getElem? (i := 100) rfl) (by decide +kernel)
set_option maxRecDepth 100000 in
theorem gwi_714 : (Jvm.Cond.code ({ cls := "java/lang/StringLatin1", name := "charAt", desc := "([BI)C" } : Jvm.MethodName) prog_20_method_2_code (2 : Nat) (Option.some Jvm.ClassFile.FieldType.char)) ∈ gw := gx_3 (List.mem_of_getElem? (i := 101) rfl) (by decide +kernel)
set_option maxRecDepth 100000 in
theorem gwi_715 : (Jvm.Cond.methodLink "java/lang/StringLatin1" (9 : Nat) ({ cls := "java/lang/String", name := "checkIndex", desc := "(II)V" } : Jvm.MethodName)) ∈ gw := gx_3 (List.mem_of_getElem? (i := 102) rfl) (by decide +kernel)
set_option maxRecDepth 100000 in
theorem gwi_716 : (Jvm.Cond.static ({ cls := "java/lang/String", name := "checkIndex", desc := "(II)V" } : Jvm.MethodName)) ∈ gw := gx_3 (List.mem_of_getElem? (i := 103) rfl) (by decide +kernel)
set_option maxRecDepth 100000 in
theorem gwi_717 : (Jvm.Cond.code ({ cls := "java/lang/String", name := "checkIndex", desc := "(II)V" } : Jvm.MethodName) prog_19_method_155_code (2 : Nat) (Option.none : Option Jvm.ClassFile.FieldType)) ∈ gw := gx_3 (List.mem_of_getElem? (i := 104) rfl) (by decide +kernel)
set_option maxRecDepth 100000 in
theorem gwi_718 : (Jvm.Cond.fieldLink "java/lang/String" (1053 : Nat) "jdk/internal/util/Preconditions" "SIOOBE_FORMATTER" "Ljava/util/function/BiFunction;") ∈ gw := gx_3 (List.mem_of_getElem? (i := 105) rfl) (by decide +kernel)
set_option maxRecDepth 100000 in
theorem gwi_720 : (Jvm.Cond.methodLink "java/lang/String" (1059 : Nat) ({ cls := "jdk/internal/util/Preconditions", name := "checkIndex", desc := "(IILjava/util/function/BiFunction;)I" } : Jvm.MethodName)) ∈ gw := gx_3 (List.mem_of_getElem? (i := 107) rfl) (by decide +kernel)
set_option maxRecDepth 100000 in
theorem gwi_721 : (Jvm.Cond.static ({ cls := "jdk/internal/util/Preconditions", name := "checkIndex", desc := "(IILjava/util/function/BiFunction;)I" } : Jvm.MethodName)) ∈ gw := gx_3 (List.mem_of_getElem? (i := 108) rfl) (by decide +kernel)
set_option maxRecDepth 100000 in
theorem gwi_722 : (Jvm.Cond.code ({ cls := "jdk/internal/util/Preconditions", name := "checkIndex", desc := "(IILjava/util/function/BiFunction;)I" } : Jvm.MethodName) prog_22_method_11_code (3 : Nat) (Option.some Jvm.ClassFile.FieldType.int)) ∈ gw := gx_3 (List.mem_of_getElem? (i := 109) rfl) (by decide +kernel)
set_option maxRecDepth 100000 in
theorem gwi_747 : (Jvm.Cond.methodLink "PlainMusic$Tokens" (85 : Nat) ({ cls := "PlainMusic$Tokens", name := "isDigit", desc := "(I)Z" } : Jvm.MethodName)) ∈ gw := gx_3 (List.mem_of_getElem? (i := 134) rfl) (by decide +kernel)
set_option maxRecDepth 100000 in
theorem gwi_748 : (Jvm.Cond.static ({ cls := "PlainMusic$Tokens", name := "isDigit", desc := "(I)Z" } : Jvm.MethodName)) ∈ gw := gx_3 (List.mem_of_getElem? (i := 135) rfl) (by decide +kernel)
set_option maxRecDepth 100000 in
theorem gwi_749 : (Jvm.Cond.code ({ cls := "PlainMusic$Tokens", name := "isDigit", desc := "(I)Z" } : Jvm.MethodName) prog_10_method_13_code (1 : Nat) (Option.some Jvm.ClassFile.FieldType.boolean)) ∈ gw := gx_3 (List.mem_of_getElem? (i := 136) rfl) (by decide +kernel)
set_option maxRecDepth 100000 in
theorem gwi_750 : (Jvm.Cond.methodLink "PlainMusic$Tokens" (88 : Nat) ({ cls := "PlainMusic$Tokens", name := "cutNumber", desc := "()V" } : Jvm.MethodName)) ∈ gw := gx_3 (List.mem_of_getElem? (i := 137) rfl) (by decide +kernel)
set_option maxRecDepth 100000 in
theorem gwi_752 : (Jvm.Cond.instanceMethod ({ cls := "PlainMusic$Tokens", name := "cutNumber", desc := "()V" } : Jvm.MethodName)) ∈ gw := gx_3 (List.mem_of_getElem? (i := 139) rfl) (by decide +kernel)
set_option maxRecDepth 100000 in
theorem gwi_753 : (Jvm.Cond.code ({ cls := "PlainMusic$Tokens", name := "cutNumber", desc := "()V" } : Jvm.MethodName) prog_10_method_11_code (3 : Nat) (Option.none : Option Jvm.ClassFile.FieldType)) ∈ gw := gx_3 (List.mem_of_getElem? (i := 140) rfl) (by decide +kernel)
set_option maxRecDepth 100000 in
theorem gwi_755 : (Jvm.Cond.methodLink "PlainMusic$Tokens" (93 : Nat) ({ cls := "java/lang/String", name := "indexOf", desc := "(I)I" } : Jvm.MethodName)) ∈ gw := gx_3 (List.mem_of_getElem? (i := 142) rfl) (by decide +kernel)
set_option maxRecDepth 100000 in
theorem gwi_756 : (Jvm.Cond.instanceMethod ({ cls := "java/lang/String", name := "indexOf", desc := "(I)I" } : Jvm.MethodName)) ∈ gw := gx_3 (List.mem_of_getElem? (i := 143) rfl) (by decide +kernel)
set_option maxRecDepth 100000 in
theorem gwi_757 : (Jvm.Cond.selects "java/lang/String" ({ cls := "java/lang/String", name := "indexOf", desc := "(I)I" } : Jvm.MethodName) ({ cls := "java/lang/String", name := "indexOf", desc := "(I)I" } : Jvm.MethodName)) ∈ gw := gx_3 (List.mem_of_getElem? (i := 144) rfl) (by decide +kernel)
set_option maxRecDepth 100000 in
theorem gwi_758 : (Jvm.Cond.code ({ cls := "java/lang/String", name := "indexOf", desc := "(I)I" } : Jvm.MethodName) prog_19_method_79_code (2 : Nat) (Option.some Jvm.ClassFile.FieldType.int)) ∈ gw := gx_3 (List.mem_of_getElem? (i := 145) rfl) (by decide +kernel)
set_option maxRecDepth 100000 in
theorem gwi_759 : (Jvm.Cond.methodLink "java/lang/String" (633 : Nat) ({ cls := "java/lang/String", name := "indexOf", desc := "(II)I" } : Jvm.MethodName)) ∈ gw := gx_3 (List.mem_of_getElem? (i := 146) rfl) (by decide +kernel)
set_option maxRecDepth 100000 in
theorem gwi_760 : (Jvm.Cond.instanceMethod ({ cls := "java/lang/String", name := "indexOf", desc := "(II)I" } : Jvm.MethodName)) ∈ gw := gx_3 (List.mem_of_getElem? (i := 147) rfl) (by decide +kernel)
set_option maxRecDepth 100000 in
theorem gwi_761 : (Jvm.Cond.selects "java/lang/String" ({ cls := "java/lang/String", name := "indexOf", desc := "(II)I" } : Jvm.MethodName) ({ cls := "java/lang/String", name := "indexOf", desc := "(II)I" } : Jvm.MethodName)) ∈ gw := gx_3 (List.mem_of_getElem? (i := 148) rfl) (by decide +kernel)
set_option maxRecDepth 100000 in
theorem gwi_762 : (Jvm.Cond.code ({ cls := "java/lang/String", name := "indexOf", desc := "(II)I" } : Jvm.MethodName) prog_19_method_80_code (3 : Nat) (Option.some Jvm.ClassFile.FieldType.int)) ∈ gw := gx_3 (List.mem_of_getElem? (i := 149) rfl) (by decide +kernel)
set_option maxRecDepth 100000 in
theorem gwi_763 : (Jvm.Cond.methodLink "java/lang/String" (505 : Nat) ({ cls := "java/lang/String", name := "length", desc := "()I" } : Jvm.MethodName)) ∈ gw := gx_3 (List.mem_of_getElem? (i := 150) rfl) (by decide +kernel)
set_option maxRecDepth 100000 in
theorem gwi_764 : (Jvm.Cond.methodLink "java/lang/String" (637 : Nat) ({ cls := "java/lang/StringLatin1", name := "indexOf", desc := "([BIII)I" } : Jvm.MethodName)) ∈ gw := gx_3 (List.mem_of_getElem? (i := 151) rfl) (by decide +kernel)
set_option maxRecDepth 100000 in
theorem gwi_765 : (Jvm.Cond.static ({ cls := "java/lang/StringLatin1", name := "indexOf", desc := "([BIII)I" } : Jvm.MethodName)) ∈ gw := gx_3 (List.mem_of_getElem? (i := 152) rfl) (by decide +kernel)
set_option maxRecDepth 100000 in
theorem gwi_766 : (Jvm.Cond.code ({ cls := "java/lang/StringLatin1", name := "indexOf", desc := "([BIII)I" } : Jvm.MethodName) prog_20_method_22_code (4 : Nat) (Option.some Jvm.ClassFile.FieldType.int)) ∈ gw := gx_3 (List.mem_of_getElem? (i := 153) rfl) (by decide +kernel)
set_option maxRecDepth 100000 in
theorem gwi_767 : (Jvm.Cond.methodLink "java/lang/StringLatin1" (88 : Nat) ({ cls := "java/lang/StringLatin1", name := "canEncode", desc := "(I)Z" } : Jvm.MethodName)) ∈ gw := gx_3 (List.mem_of_getElem? (i := 154) rfl) (by decide +kernel)
set_option maxRecDepth 100000 in
theorem gwi_768 : (Jvm.Cond.static ({ cls := "java/lang/StringLatin1", name := "canEncode", desc := "(I)Z" } : Jvm.MethodName)) ∈ gw := gx_3 (List.mem_of_getElem? (i := 155) rfl) (by decide +kernel)
set_option maxRecDepth 100000 in
theorem gwi_769 : (Jvm.Cond.code ({ cls := "java/lang/StringLatin1", name := "canEncode", desc := "(I)Z" } : Jvm.MethodName) prog_20_method_4_code (1 : Nat) (Option.some Jvm.ClassFile.FieldType.boolean)) ∈ gw := gx_3 (List.mem_of_getElem? (i := 156) rfl) (by decide +kernel)
set_option maxRecDepth 100000 in
theorem gwi_770 : (Jvm.Cond.methodLink "java/lang/StringLatin1" (92 : Nat) ({ cls := "java/lang/Math", name := "max", desc := "(II)I" } : Jvm.MethodName)) ∈ gw := gx_3 (List.mem_of_getElem? (i := 157) rfl) (by decide +kernel)
set_option maxRecDepth 100000 in
theorem gwi_771 : (Jvm.Cond.static ({ cls := "java/lang/Math", name := "max", desc := "(II)I" } : Jvm.MethodName)) ∈ gw := gx_3 (List.mem_of_getElem? (i := 158) rfl) (by decide +kernel)
set_option maxRecDepth 100000 in
theorem gwi_772 : (Jvm.Cond.code ({ cls := "java/lang/Math", name := "max", desc := "(II)I" } : Jvm.MethodName) prog_18_method_65_code (2 : Nat) (Option.some Jvm.ClassFile.FieldType.int)) ∈ gw := gx_3 (List.mem_of_getElem? (i := 159) rfl) (by decide +kernel)
set_option maxRecDepth 100000 in
theorem gwi_773 : (Jvm.Cond.methodLink "java/lang/StringLatin1" (38 : Nat) ({ cls := "java/lang/Math", name := "min", desc := "(II)I" } : Jvm.MethodName)) ∈ gw := gx_3 (List.mem_of_getElem? (i := 160) rfl) (by decide +kernel)
set_option maxRecDepth 100000 in
theorem gwi_774 : (Jvm.Cond.methodLink "java/lang/StringLatin1" (95 : Nat) ({ cls := "java/lang/StringLatin1", name := "indexOfChar", desc := "([BIII)I" } : Jvm.MethodName)) ∈ gw := gx_3 (List.mem_of_getElem? (i := 161) rfl) (by decide +kernel)
set_option maxRecDepth 100000 in
theorem gwi_775 : (Jvm.Cond.static ({ cls := "java/lang/StringLatin1", name := "indexOfChar", desc := "([BIII)I" } : Jvm.MethodName)) ∈ gw := gx_3 (List.mem_of_getElem? (i := 162) rfl) (by decide +kernel)
set_option maxRecDepth 100000 in
theorem gwi_776 : (Jvm.Cond.code ({ cls := "java/lang/StringLatin1", name := "indexOfChar", desc := "([BIII)I" } : Jvm.MethodName) prog_20_method_23_code (6 : Nat) (Option.some Jvm.ClassFile.FieldType.int)) ∈ gw := gx_3 (List.mem_of_getElem? (i := 163) rfl) (by decide +kernel)
set_option maxRecDepth 100000 in
theorem gwi_777 : (Jvm.Cond.methodLink "java/lang/String" (640 : Nat) ({ cls := "java/lang/StringUTF16", name := "indexOf", desc := "([BIII)I" } : Jvm.MethodName)) ∈ gw := gx_3 (List.mem_of_getElem? (i := 164) rfl) (by decide +kernel)
set_option maxRecDepth 100000 in
theorem gwi_778 : (Jvm.Cond.static ({ cls := "java/lang/StringUTF16", name := "indexOf", desc := "([BIII)I" } : Jvm.MethodName)) ∈ gw := gx_3 (List.mem_of_getElem? (i := 165) rfl) (by decide +kernel)
set_option maxRecDepth 100000 in
theorem gwi_779 : (Jvm.Cond.code ({ cls := "java/lang/StringUTF16", name := "indexOf", desc := "([BIII)I" } : Jvm.MethodName) prog_21_method_40_code (4 : Nat) (Option.some Jvm.ClassFile.FieldType.int)) ∈ gw := gx_3 (List.mem_of_getElem? (i := 166) rfl) (by decide +kernel)
set_option maxRecDepth 100000 in
theorem gwi_812 : (Jvm.Cond.methodLink "PlainMusic$Tokens" (51 : Nat) ({ cls := "PlainMusic$Tokens", name := "next", desc := "()V" } : Jvm.MethodName)) ∈ gw := gx_3 (List.mem_of_getElem? (i := 199) rfl) (by decide +kernel)
set_option maxRecDepth 100000 in
theorem gwi_813 : (Jvm.Cond.instanceMethod ({ cls := "PlainMusic$Tokens", name := "next", desc := "()V" } : Jvm.MethodName)) ∈ gw := gx_3 (List.mem_of_getElem? (i := 200) rfl) (by decide +kernel)
set_option maxRecDepth 100000 in
theorem gwi_814 : (Jvm.Cond.selects "PlainMusic$Tokens" ({ cls := "PlainMusic$Tokens", name := "next", desc := "()V" } : Jvm.MethodName) ({ cls := "PlainMusic$Tokens", name := "next", desc := "()V" } : Jvm.MethodName)) ∈ gw := gx_3 (List.mem_of_getElem? (i := 201) rfl) (by decide +kernel)
set_option maxRecDepth 100000 in
theorem gwi_815 : (Jvm.Cond.code ({ cls := "PlainMusic$Tokens", name := "next", desc := "()V" } : Jvm.MethodName) prog_10_method_3_code (1 : Nat) (Option.none : Option Jvm.ClassFile.FieldType)) ∈ gw := gx_3 (List.mem_of_getElem? (i := 202) rfl) (by decide +kernel)
set_option maxRecDepth 100000 in
theorem gwi_816 : (Jvm.Cond.methodLink "PlainMusic$Reader" (53 : Nat) ({ cls := "PlainMusic$Reader", name := "readTime", desc := "()Z" } : Jvm.MethodName)) ∈ gw := gx_3 (List.mem_of_getElem? (i := 203) rfl) (by decide +kernel)
set_option maxRecDepth 100000 in
theorem gwi_818 : (Jvm.Cond.instanceMethod ({ cls := "PlainMusic$Reader", name := "readTime", desc := "()Z" } : Jvm.MethodName)) ∈ gw := gx_3 (List.mem_of_getElem? (i := 205) rfl) (by decide +kernel)
set_option maxRecDepth 100000 in
theorem gwi_819 : (Jvm.Cond.code ({ cls := "PlainMusic$Reader", name := "readTime", desc := "()Z" } : Jvm.MethodName) prog_7_method_8_code (3 : Nat) (Option.some Jvm.ClassFile.FieldType.boolean)) ∈ gw := gx_3 (List.mem_of_getElem? (i := 206) rfl) (by decide +kernel)
set_option maxRecDepth 100000 in
theorem gwi_820 : (Jvm.Cond.methodLink "PlainMusic$Reader" (91 : Nat) ({ cls := "PlainMusic$Reader", name := "blame", desc := "(II)Z" } : Jvm.MethodName)) ∈ gw := gx_3 (List.mem_of_getElem? (i := 207) rfl) (by decide +kernel)
set_option maxRecDepth 100000 in
theorem gwi_822 : (Jvm.Cond.instanceMethod ({ cls := "PlainMusic$Reader", name := "blame", desc := "(II)Z" } : Jvm.MethodName)) ∈ gw := gx_3 (List.mem_of_getElem? (i := 209) rfl) (by decide +kernel)
set_option maxRecDepth 100000 in
theorem gwi_823 : (Jvm.Cond.code ({ cls := "PlainMusic$Reader", name := "blame", desc := "(II)Z" } : Jvm.MethodName) prog_7_method_4_code (3 : Nat) (Option.some Jvm.ClassFile.FieldType.boolean)) ∈ gw := gx_3 (List.mem_of_getElem? (i := 210) rfl) (by decide +kernel)
set_option maxRecDepth 100000 in
theorem gwi_824 : (Jvm.Cond.methodLink "PlainMusic$Reader" (78 : Nat) ({ cls := "PlainMusic$Tokens", name := "next", desc := "()V" } : Jvm.MethodName)) ∈ gw := gx_3 (List.mem_of_getElem? (i := 211) rfl) (by decide +kernel)
set_option maxRecDepth 100000 in
theorem gwi_825 : (Jvm.Cond.methodLink "PlainMusic$Reader" (99 : Nat) ({ cls := "PlainMusic$Reader", name := "readNumber", desc := "(IZ)I" } : Jvm.MethodName)) ∈ gw := gx_3 (List.mem_of_getElem? (i := 212) rfl) (by decide +kernel)
set_option maxRecDepth 100000 in
theorem gwi_827 : (Jvm.Cond.instanceMethod ({ cls := "PlainMusic$Reader", name := "readNumber", desc := "(IZ)I" } : Jvm.MethodName)) ∈ gw := gx_3 (List.mem_of_getElem? (i := 214) rfl) (by decide +kernel)
set_option maxRecDepth 100000 in
theorem gwi_828 : (Jvm.Cond.code ({ cls := "PlainMusic$Reader", name := "readNumber", desc := "(IZ)I" } : Jvm.MethodName) prog_7_method_7_code (4 : Nat) (Option.some Jvm.ClassFile.FieldType.int)) ∈ gw := gx_3 (List.mem_of_getElem? (i := 215) rfl) (by decide +kernel)
set_option maxRecDepth 100000 in
theorem gwi_829 : (Jvm.Cond.methodLink "PlainMusic$Reader" (69 : Nat) ({ cls := "PlainMusic$Reader", name := "refuse", desc := "()Z" } : Jvm.MethodName)) ∈ gw := gx_3 (List.mem_of_getElem? (i := 216) rfl) (by decide +kernel)
set_option maxRecDepth 100000 in
theorem gwi_831 : (Jvm.Cond.instanceMethod ({ cls := "PlainMusic$Reader", name := "refuse", desc := "()Z" } : Jvm.MethodName)) ∈ gw := gx_3 (List.mem_of_getElem? (i := 218) rfl) (by decide +kernel)
set_option maxRecDepth 100000 in
theorem gwi_832 : (Jvm.Cond.code ({ cls := "PlainMusic$Reader", name := "refuse", desc := "()Z" } : Jvm.MethodName) prog_7_method_5_code (1 : Nat) (Option.some Jvm.ClassFile.FieldType.boolean)) ∈ gw := gx_3 (List.mem_of_getElem? (i := 219) rfl) (by decide +kernel)
set_option maxRecDepth 100000 in
theorem gwi_833 : (Jvm.Cond.methodLink "PlainMusic$Reader" (85 : Nat) ({ cls := "java/lang/Integer", name := "bitCount", desc := "(I)I" } : Jvm.MethodName)) ∈ gw := gx_3 (List.mem_of_getElem? (i := 220) rfl) (by decide +kernel)
set_option maxRecDepth 100000 in
theorem gwi_834 : (Jvm.Cond.static ({ cls := "java/lang/Integer", name := "bitCount", desc := "(I)I" } : Jvm.MethodName)) ∈ gw := gx_3 (List.mem_of_getElem? (i := 221) rfl) (by decide +kernel)
set_option maxRecDepth 100000 in
theorem gwi_835 : (Jvm.Cond.code ({ cls := "java/lang/Integer", name := "bitCount", desc := "(I)I" } : Jvm.MethodName) prog_16_method_49_code (1 : Nat) (Option.some Jvm.ClassFile.FieldType.int)) ∈ gw := gx_3 (List.mem_of_getElem? (i := 222) rfl) (by decide +kernel)
set_option maxRecDepth 100000 in
theorem gwi_836 : (Jvm.Cond.constant "java/lang/Integer" (265 : Nat) (1431655765 : Int32)) ∈ gw := gx_3 (List.mem_of_getElem? (i := 223) rfl) (by decide +kernel)
set_option maxRecDepth 100000 in
theorem gwi_837 : (Jvm.Cond.constant "java/lang/Integer" (266 : Nat) (858993459 : Int32)) ∈ gw := gx_3 (List.mem_of_getElem? (i := 224) rfl) (by decide +kernel)
set_option maxRecDepth 100000 in
theorem gwi_838 : (Jvm.Cond.constant "java/lang/Integer" (267 : Nat) (252645135 : Int32)) ∈ gw := gx_3 (List.mem_of_getElem? (i := 225) rfl) (by decide +kernel)
set_option maxRecDepth 100000 in
theorem gwi_839 : (Jvm.Cond.methodLink "PlainMusic$Reader" (103 : Nat) ({ cls := "PlainMusic$Reader", name := "take", desc := "(I)Z" } : Jvm.MethodName)) ∈ gw := gx_3 (List.mem_of_getElem? (i := 226) rfl) (by decide +kernel)
set_option maxRecDepth 100000 in
theorem gwi_841 : (Jvm.Cond.instanceMethod ({ cls := "PlainMusic$Reader", name := "take", desc := "(I)Z" } : Jvm.MethodName)) ∈ gw := gx_3 (List.mem_of_getElem? (i := 228) rfl) (by decide +kernel)
set_option maxRecDepth 100000 in
theorem gwi_842 : (Jvm.Cond.code ({ cls := "PlainMusic$Reader", name := "take", desc := "(I)Z" } : Jvm.MethodName) prog_7_method_6_code (2 : Nat) (Option.some Jvm.ClassFile.FieldType.boolean)) ∈ gw := gx_3 (List.mem_of_getElem? (i := 229) rfl) (by decide +kernel)
set_option maxRecDepth 100000 in
theorem gwi_843 : (Jvm.Cond.methodLink "PlainMusic$Reader" (107 : Nat) ({ cls := "PlainMusic$Score", name := "setTime", desc := "(II)V" } : Jvm.MethodName)) ∈ gw := gx_3 (List.mem_of_getElem? (i := 230) rfl) (by decide +kernel)
set_option maxRecDepth 100000 in
theorem gwi_844 : (Jvm.Cond.instanceMethod ({ cls := "PlainMusic$Score", name := "setTime", desc := "(II)V" } : Jvm.MethodName)) ∈ gw := gx_3 (List.mem_of_getElem? (i := 231) rfl) (by decide +kernel)
set_option maxRecDepth 100000 in
theorem gwi_845 : (Jvm.Cond.selects "PlainMusic$Score" ({ cls := "PlainMusic$Score", name := "setTime", desc := "(II)V" } : Jvm.MethodName) ({ cls := "PlainMusic$Score", name := "setTime", desc := "(II)V" } : Jvm.MethodName)) ∈ gw := gx_3 (List.mem_of_getElem? (i := 232) rfl) (by decide +kernel)
set_option maxRecDepth 100000 in
theorem gwi_846 : (Jvm.Cond.code ({ cls := "PlainMusic$Score", name := "setTime", desc := "(II)V" } : Jvm.MethodName) prog_8_method_3_code (3 : Nat) (Option.none : Option Jvm.ClassFile.FieldType)) ∈ gw := gx_3 (List.mem_of_getElem? (i := 233) rfl) (by decide +kernel)
set_option maxRecDepth 100000 in
theorem gwi_847 : (Jvm.Cond.methodLink "PlainMusic$Reader" (57 : Nat) ({ cls := "PlainMusic$Reader", name := "readVoice", desc := "()Z" } : Jvm.MethodName)) ∈ gw := gx_3 (List.mem_of_getElem? (i := 234) rfl) (by decide +kernel)
set_option maxRecDepth 100000 in
theorem gwi_849 : (Jvm.Cond.instanceMethod ({ cls := "PlainMusic$Reader", name := "readVoice", desc := "()Z" } : Jvm.MethodName)) ∈ gw := gx_3 (List.mem_of_getElem? (i := 236) rfl) (by decide +kernel)
set_option maxRecDepth 100000 in
theorem gwi_850 : (Jvm.Cond.code ({ cls := "PlainMusic$Reader", name := "readVoice", desc := "()Z" } : Jvm.MethodName) prog_7_method_13_code (5 : Nat) (Option.some Jvm.ClassFile.FieldType.boolean)) ∈ gw := gx_3 (List.mem_of_getElem? (i := 237) rfl) (by decide +kernel)
set_option maxRecDepth 100000 in
theorem gwi_851 : (Jvm.Cond.methodLink "PlainMusic$Reader" (135 : Nat) ({ cls := "PlainMusic$Score", name := "newVoice", desc := "()LPlainMusic$Voice;" } : Jvm.MethodName)) ∈ gw := gx_3 (List.mem_of_getElem? (i := 238) rfl) (by decide +kernel)
set_option maxRecDepth 100000 in
theorem gwi_852 : (Jvm.Cond.instanceMethod ({ cls := "PlainMusic$Score", name := "newVoice", desc := "()LPlainMusic$Voice;" } : Jvm.MethodName)) ∈ gw := gx_3 (List.mem_of_getElem? (i := 239) rfl) (by decide +kernel)
theorem gwi_853 : (Jvm.Cond.selects "PlainMusic$Score" ({ cls := "PlainMusic$Score", name := "newVoice", desc := "()LPlainMusic$Voice;" } : Jvm.MethodName) ({ cls := "PlainMusic$Score", name := "newVoice", desc := "()LPlainMusic$Voice;" } : Jvm.MethodName)) ∈ gw := gx_4 (List.mem_of_getElem? (i := 0) rfl) (by decide +kernel)
theorem gwi_854 : (Jvm.Cond.code ({ cls := "PlainMusic$Score", name := "newVoice", desc := "()LPlainMusic$Voice;" } : Jvm.MethodName) prog_8_method_4_code (2 : Nat) (Option.some (Jvm.ClassFile.FieldType.object "PlainMusic$Voice"))) ∈ gw := gx_4 (List.mem_of_getElem? (i := 1) rfl) (by decide +kernel)
theorem gwi_855 : (Jvm.Cond.methodLink "PlainMusic$Score" (57 : Nat) ({ cls := "PlainMusic$Voice", name := "clear", desc := "()V" } : Jvm.MethodName)) ∈ gw := gx_4 (List.mem_of_getElem? (i := 2) rfl) (by decide +kernel)
theorem gwi_856 : (Jvm.Cond.instanceMethod ({ cls := "PlainMusic$Voice", name := "clear", desc := "()V" } : Jvm.MethodName)) ∈ gw := gx_4 (List.mem_of_getElem? (i := 3) rfl) (by decide +kernel)
theorem gwi_857 : (Jvm.Cond.selects "PlainMusic$Voice" ({ cls := "PlainMusic$Voice", name := "clear", desc := "()V" } : Jvm.MethodName) ({ cls := "PlainMusic$Voice", name := "clear", desc := "()V" } : Jvm.MethodName)) ∈ gw := gx_4 (List.mem_of_getElem? (i := 4) rfl) (by decide +kernel)
theorem gwi_858 : (Jvm.Cond.code ({ cls := "PlainMusic$Voice", name := "clear", desc := "()V" } : Jvm.MethodName) prog_12_method_2_code (1 : Nat) (Option.none : Option Jvm.ClassFile.FieldType)) ∈ gw := gx_4 (List.mem_of_getElem? (i := 5) rfl) (by decide +kernel)
theorem gwi_859 : (Jvm.Cond.methodLink "PlainMusic$Reader" (139 : Nat) ({ cls := "PlainMusic$Parts", name := "clear", desc := "()V" } : Jvm.MethodName)) ∈ gw := gx_4 (List.mem_of_getElem? (i := 6) rfl) (by decide +kernel)
theorem gwi_860 : (Jvm.Cond.instanceMethod ({ cls := "PlainMusic$Parts", name := "clear", desc := "()V" } : Jvm.MethodName)) ∈ gw := gx_4 (List.mem_of_getElem? (i := 7) rfl) (by decide +kernel)
theorem gwi_861 : (Jvm.Cond.selects "PlainMusic$Parts" ({ cls := "PlainMusic$Parts", name := "clear", desc := "()V" } : Jvm.MethodName) ({ cls := "PlainMusic$Parts", name := "clear", desc := "()V" } : Jvm.MethodName)) ∈ gw := gx_4 (List.mem_of_getElem? (i := 8) rfl) (by decide +kernel)
theorem gwi_862 : (Jvm.Cond.code ({ cls := "PlainMusic$Parts", name := "clear", desc := "()V" } : Jvm.MethodName) prog_6_method_2_code (1 : Nat) (Option.none : Option Jvm.ClassFile.FieldType)) ∈ gw := gx_4 (List.mem_of_getElem? (i := 9) rfl) (by decide +kernel)
theorem gwi_863 : (Jvm.Cond.methodLink "PlainMusic$Reader" (143 : Nat) ({ cls := "PlainMusic$Reader", name := "beginsEvent", desc := "()Z" } : Jvm.MethodName)) ∈ gw := gx_4 (List.mem_of_getElem? (i := 10) rfl) (by decide +kernel)
theorem gwi_865 : (Jvm.Cond.instanceMethod ({ cls := "PlainMusic$Reader", name := "beginsEvent", desc := "()Z" } : Jvm.MethodName)) ∈ gw := gx_4 (List.mem_of_getElem? (i := 12) rfl) (by decide +kernel)
theorem gwi_866 : (Jvm.Cond.code ({ cls := "PlainMusic$Reader", name := "beginsEvent", desc := "()Z" } : Jvm.MethodName) prog_7_method_14_code (1 : Nat) (Option.some Jvm.ClassFile.FieldType.boolean)) ∈ gw := gx_4 (List.mem_of_getElem? (i := 13) rfl) (by decide +kernel)
theorem gwi_867 : (Jvm.Cond.methodLink "PlainMusic$Reader" (146 : Nat) ({ cls := "PlainMusic$Reader", name := "isShallow", desc := "()Z" } : Jvm.MethodName)) ∈ gw := gx_4 (List.mem_of_getElem? (i := 14) rfl) (by decide +kernel)
theorem gwi_869 : (Jvm.Cond.instanceMethod ({ cls := "PlainMusic$Reader", name := "isShallow", desc := "()Z" } : Jvm.MethodName)) ∈ gw := gx_4 (List.mem_of_getElem? (i := 16) rfl) (by decide +kernel)
theorem gwi_870 : (Jvm.Cond.code ({ cls := "PlainMusic$Reader", name := "isShallow", desc := "()Z" } : Jvm.MethodName) prog_7_method_15_code (1 : Nat) (Option.some Jvm.ClassFile.FieldType.boolean)) ∈ gw := gx_4 (List.mem_of_getElem? (i := 17) rfl) (by decide +kernel)
theorem gwi_871 : (Jvm.Cond.methodLink "PlainMusic$Reader" (149 : Nat) ({ cls := "PlainMusic$Reader", name := "readEvent", desc := "(LPlainMusic$Voice;)Z" } : Jvm.MethodName)) ∈ gw := gx_4 (List.mem_of_getElem? (i := 18) rfl) (by decide +kernel)
theorem gwi_873 : (Jvm.Cond.instanceMethod ({ cls := "PlainMusic$Reader", name := "readEvent", desc := "(LPlainMusic$Voice;)Z" } : Jvm.MethodName)) ∈ gw := gx_4 (List.mem_of_getElem? (i := 20) rfl) (by decide +kernel)
theorem gwi_874 : (Jvm.Cond.code ({ cls := "PlainMusic$Reader", name := "readEvent", desc := "(LPlainMusic$Voice;)Z" } : Jvm.MethodName) prog_7_method_18_code (6 : Nat) (Option.some Jvm.ClassFile.FieldType.boolean)) ∈ gw := gx_4 (List.mem_of_getElem? (i := 21) rfl) (by decide +kernel)
theorem gwi_875 : (Jvm.Cond.methodLink "PlainMusic$Reader" (172 : Nat) ({ cls := "PlainMusic$Reader", name := "readSound", desc := "(LPlainMusic$Voice;)Z" } : Jvm.MethodName)) ∈ gw := gx_4 (List.mem_of_getElem? (i := 22) rfl) (by decide +kernel)
theorem gwi_877 : (Jvm.Cond.instanceMethod ({ cls := "PlainMusic$Reader", name := "readSound", desc := "(LPlainMusic$Voice;)Z" } : Jvm.MethodName)) ∈ gw := gx_4 (List.mem_of_getElem? (i := 24) rfl) (by decide +kernel)
theorem gwi_878 : (Jvm.Cond.code ({ cls := "PlainMusic$Reader", name := "readSound", desc := "(LPlainMusic$Voice;)Z" } : Jvm.MethodName) prog_7_method_19_code (6 : Nat) (Option.some Jvm.ClassFile.FieldType.boolean)) ∈ gw := gx_4 (List.mem_of_getElem? (i := 25) rfl) (by decide +kernel)
theorem gwi_883 : (Jvm.Cond.methodLink "PlainMusic$Reader" (187 : Nat) ({ cls := "PlainMusic$Voice", name := "addPitch", desc := "(II)V" } : Jvm.MethodName)) ∈ gw := gx_4 (List.mem_of_getElem? (i := 30) rfl) (by decide +kernel)
theorem gwi_884 : (Jvm.Cond.instanceMethod ({ cls := "PlainMusic$Voice", name := "addPitch", desc := "(II)V" } : Jvm.MethodName)) ∈ gw := gx_4 (List.mem_of_getElem? (i := 31) rfl) (by decide +kernel)
theorem gwi_885 : (Jvm.Cond.selects "PlainMusic$Voice" ({ cls := "PlainMusic$Voice", name := "addPitch", desc := "(II)V" } : Jvm.MethodName) ({ cls := "PlainMusic$Voice", name := "addPitch", desc := "(II)V" } : Jvm.MethodName)) ∈ gw := gx_4 (List.mem_of_getElem? (i := 32) rfl) (by decide +kernel)
theorem gwi_886 : (Jvm.Cond.code ({ cls := "PlainMusic$Voice", name := "addPitch", desc := "(II)V" } : Jvm.MethodName) prog_12_method_3_code (3 : Nat) (Option.none : Option Jvm.ClassFile.FieldType)) ∈ gw := gx_4 (List.mem_of_getElem? (i := 33) rfl) (by decide +kernel)
theorem gwi_887 : (Jvm.Cond.constant "PlainMusic$Reader" (190 : Nat) (-2147483648 : Int32)) ∈ gw := gx_4 (List.mem_of_getElem? (i := 34) rfl) (by decide +kernel)
theorem gwi_888 : (Jvm.Cond.methodLink "PlainMusic$Reader" (175 : Nat) ({ cls := "PlainMusic$Voice", name := "endSound", desc := "(IIZ)I" } : Jvm.MethodName)) ∈ gw := gx_4 (List.mem_of_getElem? (i := 35) rfl) (by decide +kernel)
theorem gwi_889 : (Jvm.Cond.instanceMethod ({ cls := "PlainMusic$Voice", name := "endSound", desc := "(IIZ)I" } : Jvm.MethodName)) ∈ gw := gx_4 (List.mem_of_getElem? (i := 36) rfl) (by decide +kernel)
theorem gwi_890 : (Jvm.Cond.selects "PlainMusic$Voice" ({ cls := "PlainMusic$Voice", name := "endSound", desc := "(IIZ)I" } : Jvm.MethodName) ({ cls := "PlainMusic$Voice", name := "endSound", desc := "(IIZ)I" } : Jvm.MethodName)) ∈ gw := gx_4 (List.mem_of_getElem? (i := 37) rfl) (by decide +kernel)
theorem gwi_891 : (Jvm.Cond.code ({ cls := "PlainMusic$Voice", name := "endSound", desc := "(IIZ)I" } : Jvm.MethodName) prog_12_method_4_code (4 : Nat) (Option.some Jvm.ClassFile.FieldType.int)) ∈ gw := gx_4 (List.mem_of_getElem? (i := 38) rfl) (by decide +kernel)
theorem gwi_892 : (Jvm.Cond.methodLink "PlainMusic$Reader" (169 : Nat) ({ cls := "PlainMusic$Parts", name := "add", desc := "(III)V" } : Jvm.MethodName)) ∈ gw := gx_4 (List.mem_of_getElem? (i := 39) rfl) (by decide +kernel)
theorem gwi_893 : (Jvm.Cond.instanceMethod ({ cls := "PlainMusic$Parts", name := "add", desc := "(III)V" } : Jvm.MethodName)) ∈ gw := gx_4 (List.mem_of_getElem? (i := 40) rfl) (by decide +kernel)
set_option maxRecDepth 100000 in
theorem gwi_894 : (Jvm.Cond.selects "PlainMusic$Parts" ({ cls := "PlainMusic$Parts", name := "add", desc := "(III)V" } : Jvm.MethodName) ({ cls := "PlainMusic$Parts", name := "add", desc := "(III)V" } : Jvm.MethodName)) ∈ gw := gx_4 (List.mem_of_getElem? (i := 41) rfl) (by decide +kernel)
set_option maxRecDepth 100000 in
theorem gwi_895 : (Jvm.Cond.code ({ cls := "PlainMusic$Parts", name := "add", desc := "(III)V" } : Jvm.MethodName) prog_6_method_3_code (4 : Nat) (Option.none : Option Jvm.ClassFile.FieldType)) ∈ gw := gx_4 (List.mem_of_getElem? (i := 42) rfl) (by decide +kernel)
set_option maxRecDepth 100000 in
theorem gwi_896 : (Jvm.Cond.methodLink "PlainMusic$Reader" (153 : Nat) ({ cls := "PlainMusic$Reader", name := "readPart", desc := "()Z" } : Jvm.MethodName)) ∈ gw := gx_4 (List.mem_of_getElem? (i := 43) rfl) (by decide +kernel)
set_option maxRecDepth 100000 in
theorem gwi_898 : (Jvm.Cond.instanceMethod ({ cls := "PlainMusic$Reader", name := "readPart", desc := "()Z" } : Jvm.MethodName)) ∈ gw := gx_4 (List.mem_of_getElem? (i := 45) rfl) (by decide +kernel)
set_option maxRecDepth 100000 in
theorem gwi_899 : (Jvm.Cond.code ({ cls := "PlainMusic$Reader", name := "readPart", desc := "()Z" } : Jvm.MethodName) prog_7_method_16_code (2 : Nat) (Option.some Jvm.ClassFile.FieldType.boolean)) ∈ gw := gx_4 (List.mem_of_getElem? (i := 46) rfl) (by decide +kernel)
set_option maxRecDepth 100000 in
theorem gwi_900 : (Jvm.Cond.methodLink "PlainMusic$Reader" (163 : Nat) ({ cls := "PlainMusic$Parts", name := "addMark", desc := "(I)Z" } : Jvm.MethodName)) ∈ gw := gx_4 (List.mem_of_getElem? (i := 47) rfl) (by decide +kernel)
set_option maxRecDepth 100000 in
theorem gwi_901 : (Jvm.Cond.instanceMethod ({ cls := "PlainMusic$Parts", name := "addMark", desc := "(I)Z" } : Jvm.MethodName)) ∈ gw := gx_4 (List.mem_of_getElem? (i := 48) rfl) (by decide +kernel)
set_option maxRecDepth 100000 in
theorem gwi_902 : (Jvm.Cond.selects "PlainMusic$Parts" ({ cls := "PlainMusic$Parts", name := "addMark", desc := "(I)Z" } : Jvm.MethodName) ({ cls := "PlainMusic$Parts", name := "addMark", desc := "(I)Z" } : Jvm.MethodName)) ∈ gw := gx_4 (List.mem_of_getElem? (i := 49) rfl) (by decide +kernel)
set_option maxRecDepth 100000 in
theorem gwi_903 : (Jvm.Cond.code ({ cls := "PlainMusic$Parts", name := "addMark", desc := "(I)Z" } : Jvm.MethodName) prog_6_method_4_code (3 : Nat) (Option.some Jvm.ClassFile.FieldType.boolean)) ∈ gw := gx_4 (List.mem_of_getElem? (i := 50) rfl) (by decide +kernel)
set_option maxRecDepth 100000 in
theorem gwi_904 : (Jvm.Cond.methodLink "PlainMusic$Parts" (37 : Nat) ({ cls := "PlainMusic$Parts", name := "add", desc := "(III)V" } : Jvm.MethodName)) ∈ gw := gx_4 (List.mem_of_getElem? (i := 51) rfl) (by decide +kernel)
set_option maxRecDepth 100000 in
theorem gwi_905 : (Jvm.Cond.methodLink "PlainMusic$Reader" (166 : Nat) ({ cls := "PlainMusic$Reader", name := "readStretch", desc := "()Z" } : Jvm.MethodName)) ∈ gw := gx_4 (List.mem_of_getElem? (i := 52) rfl) (by decide +kernel)
set_option maxRecDepth 100000 in
theorem gwi_907 : (Jvm.Cond.instanceMethod ({ cls := "PlainMusic$Reader", name := "readStretch", desc := "()Z" } : Jvm.MethodName)) ∈ gw := gx_4 (List.mem_of_getElem? (i := 54) rfl) (by decide +kernel)
set_option maxRecDepth 100000 in
theorem gwi_908 : (Jvm.Cond.code ({ cls := "PlainMusic$Reader", name := "readStretch", desc := "()Z" } : Jvm.MethodName) prog_7_method_17_code (3 : Nat) (Option.some Jvm.ClassFile.FieldType.boolean)) ∈ gw := gx_4 (List.mem_of_getElem? (i := 55) rfl) (by decide +kernel)
set_option maxRecDepth 100000 in
theorem gwi_909 : (Jvm.Cond.methodLink "PlainMusic$Reader" (159 : Nat) ({ cls := "PlainMusic$Parts", name := "walkInto", desc := "(LPlainMusic$Voice;)I" } : Jvm.MethodName)) ∈ gw := gx_4 (List.mem_of_getElem? (i := 56) rfl) (by decide +kernel)
set_option maxRecDepth 100000 in
theorem gwi_910 : (Jvm.Cond.instanceMethod ({ cls := "PlainMusic$Parts", name := "walkInto", desc := "(LPlainMusic$Voice;)I" } : Jvm.MethodName)) ∈ gw := gx_4 (List.mem_of_getElem? (i := 57) rfl) (by decide +kernel)
set_option maxRecDepth 100000 in
theorem gwi_911 : (Jvm.Cond.selects "PlainMusic$Parts" ({ cls := "PlainMusic$Parts", name := "walkInto", desc := "(LPlainMusic$Voice;)I" } : Jvm.MethodName) ({ cls := "PlainMusic$Parts", name := "walkInto", desc := "(LPlainMusic$Voice;)I" } : Jvm.MethodName)) ∈ gw := gx_4 (List.mem_of_getElem? (i := 58) rfl) (by decide +kernel)
set_option maxRecDepth 100000 in
theorem gwi_912 : (Jvm.Cond.code ({ cls := "PlainMusic$Parts", name := "walkInto", desc := "(LPlainMusic$Voice;)I" } : Jvm.MethodName) prog_6_method_5_code (2 : Nat) (Option.some Jvm.ClassFile.FieldType.int)) ∈ gw := gx_4 (List.mem_of_getElem? (i := 59) rfl) (by decide +kernel)
set_option maxRecDepth 100000 in
theorem gwi_913 : (Jvm.Cond.methodLink "PlainMusic$Parts" (41 : Nat) ({ cls := "PlainMusic$Voice", name := "beginWalk", desc := "()V" } : Jvm.MethodName)) ∈ gw := gx_4 (List.mem_of_getElem? (i := 60) rfl) (by decide +kernel)
set_option maxRecDepth 100000 in
theorem gwi_914 : (Jvm.Cond.instanceMethod ({ cls := "PlainMusic$Voice", name := "beginWalk", desc := "()V" } : Jvm.MethodName)) ∈ gw := gx_4 (List.mem_of_getElem? (i := 61) rfl) (by decide +kernel)
set_option maxRecDepth 100000 in
theorem gwi_915 : (Jvm.Cond.selects "PlainMusic$Voice" ({ cls := "PlainMusic$Voice", name := "beginWalk", desc := "()V" } : Jvm.MethodName) ({ cls := "PlainMusic$Voice", name := "beginWalk", desc := "()V" } : Jvm.MethodName)) ∈ gw := gx_4 (List.mem_of_getElem? (i := 62) rfl) (by decide +kernel)
set_option maxRecDepth 100000 in
theorem gwi_916 : (Jvm.Cond.code ({ cls := "PlainMusic$Voice", name := "beginWalk", desc := "()V" } : Jvm.MethodName) prog_12_method_5_code (1 : Nat) (Option.none : Option Jvm.ClassFile.FieldType)) ∈ gw := gx_4 (List.mem_of_getElem? (i := 63) rfl) (by decide +kernel)
set_option maxRecDepth 100000 in
theorem gwi_917 : (Jvm.Cond.methodLink "PlainMusic$Parts" (59 : Nat) ({ cls := "PlainMusic$Parts", name := "walkThrough", desc := "(LPlainMusic$Voice;IIIJJ)V" } : Jvm.MethodName)) ∈ gw := gx_4 (List.mem_of_getElem? (i := 64) rfl) (by decide +kernel)
set_option maxRecDepth 100000 in
theorem gwi_919 : (Jvm.Cond.instanceMethod ({ cls := "PlainMusic$Parts", name := "walkThrough", desc := "(LPlainMusic$Voice;IIIJJ)V" } : Jvm.MethodName)) ∈ gw := gx_4 (List.mem_of_getElem? (i := 66) rfl) (by decide +kernel)
set_option maxRecDepth 100000 in
theorem gwi_920 : (Jvm.Cond.code ({ cls := "PlainMusic$Parts", name := "walkThrough", desc := "(LPlainMusic$Voice;IIIJJ)V" } : Jvm.MethodName) prog_6_method_6_code (11 : Nat) (Option.none : Option Jvm.ClassFile.FieldType)) ∈ gw := gx_4 (List.mem_of_getElem? (i := 67) rfl) (by decide +kernel)
set_option maxRecDepth 100000 in
theorem gwi_921 : (Jvm.Cond.methodLink "PlainMusic$Parts" (66 : Nat) ({ cls := "PlainMusic$Parts", name := "walkRepeat", desc := "(LPlainMusic$Voice;IIJJ)I" } : Jvm.MethodName)) ∈ gw := gx_4 (List.mem_of_getElem? (i := 68) rfl) (by decide +kernel)
set_option maxRecDepth 100000 in
theorem gwi_923 : (Jvm.Cond.instanceMethod ({ cls := "PlainMusic$Parts", name := "walkRepeat", desc := "(LPlainMusic$Voice;IIJJ)I" } : Jvm.MethodName)) ∈ gw := gx_4 (List.mem_of_getElem? (i := 70) rfl) (by decide +kernel)
set_option maxRecDepth 100000 in
theorem gwi_924 : (Jvm.Cond.code ({ cls := "PlainMusic$Parts", name := "walkRepeat", desc := "(LPlainMusic$Voice;IIJJ)I" } : Jvm.MethodName) prog_6_method_7_code (11 : Nat) (Option.some Jvm.ClassFile.FieldType.int)) ∈ gw := gx_4 (List.mem_of_getElem? (i := 71) rfl) (by decide +kernel)
set_option maxRecDepth 100000 in
theorem gwi_925 : (Jvm.Cond.methodLink "PlainMusic$Parts" (70 : Nat) ({ cls := "java/lang/Math", name := "max", desc := "(II)I" } : Jvm.MethodName)) ∈ gw := gx_4 (List.mem_of_getElem? (i := 72) rfl) (by decide +kernel)
set_option maxRecDepth 100000 in
theorem gwi_926 : (Jvm.Cond.methodLink "PlainMusic$Parts" (76 : Nat) ({ cls := "PlainMusic$Parts", name := "meetLine", desc := "(LPlainMusic$Voice;)V" } : Jvm.MethodName)) ∈ gw := gx_4 (List.mem_of_getElem? (i := 73) rfl) (by decide +kernel)
set_option maxRecDepth 100000 in
theorem gwi_928 : (Jvm.Cond.instanceMethod ({ cls := "PlainMusic$Parts", name := "meetLine", desc := "(LPlainMusic$Voice;)V" } : Jvm.MethodName)) ∈ gw := gx_4 (List.mem_of_getElem? (i := 75) rfl) (by decide +kernel)
set_option maxRecDepth 100000 in
theorem gwi_929 : (Jvm.Cond.code ({ cls := "PlainMusic$Parts", name := "meetLine", desc := "(LPlainMusic$Voice;)V" } : Jvm.MethodName) prog_6_method_8_code (2 : Nat) (Option.none : Option Jvm.ClassFile.FieldType)) ∈ gw := gx_4 (List.mem_of_getElem? (i := 76) rfl) (by decide +kernel)
set_option maxRecDepth 100000 in
theorem gwi_930 : (Jvm.Cond.methodLink "PlainMusic$Parts" (84 : Nat) ({ cls := "PlainMusic$Voice", name := "addBar", desc := "()V" } : Jvm.MethodName)) ∈ gw := gx_4 (List.mem_of_getElem? (i := 77) rfl) (by decide +kernel)
set_option maxRecDepth 100000 in
theorem gwi_931 : (Jvm.Cond.instanceMethod ({ cls := "PlainMusic$Voice", name := "addBar", desc := "()V" } : Jvm.MethodName)) ∈ gw := gx_4 (List.mem_of_getElem? (i := 78) rfl) (by decide +kernel)
set_option maxRecDepth 100000 in
theorem gwi_932 : (Jvm.Cond.selects "PlainMusic$Voice" ({ cls := "PlainMusic$Voice", name := "addBar", desc := "()V" } : Jvm.MethodName) ({ cls := "PlainMusic$Voice", name := "addBar", desc := "()V" } : Jvm.MethodName)) ∈ gw := gx_4 (List.mem_of_getElem? (i := 79) rfl) (by decide +kernel)
set_option maxRecDepth 100000 in
theorem gwi_933 : (Jvm.Cond.code ({ cls := "PlainMusic$Voice", name := "addBar", desc := "()V" } : Jvm.MethodName) prog_12_method_6_code (1 : Nat) (Option.none : Option Jvm.ClassFile.FieldType)) ∈ gw := gx_4 (List.mem_of_getElem? (i := 80) rfl) (by decide +kernel)
set_option maxRecDepth 100000 in
theorem gwi_934 : (Jvm.Cond.methodLink "PlainMusic$Parts" (80 : Nat) ({ cls := "PlainMusic$Voice", name := "addEvent", desc := "(IJJ)Z" } : Jvm.MethodName)) ∈ gw := gx_4 (List.mem_of_getElem? (i := 81) rfl) (by decide +kernel)
set_option maxRecDepth 100000 in
theorem gwi_935 : (Jvm.Cond.instanceMethod ({ cls := "PlainMusic$Voice", name := "addEvent", desc := "(IJJ)Z" } : Jvm.MethodName)) ∈ gw := gx_4 (List.mem_of_getElem? (i := 82) rfl) (by decide +kernel)
set_option maxRecDepth 100000 in
theorem gwi_936 : (Jvm.Cond.selects "PlainMusic$Voice" ({ cls := "PlainMusic$Voice", name := "addEvent", desc := "(IJJ)Z" } : Jvm.MethodName) ({ cls := "PlainMusic$Voice", name := "addEvent", desc := "(IJJ)Z" } : Jvm.MethodName)) ∈ gw := gx_4 (List.mem_of_getElem? (i := 83) rfl) (by decide +kernel)
set_option maxRecDepth 100000 in
theorem gwi_937 : (Jvm.Cond.code ({ cls := "PlainMusic$Voice", name := "addEvent", desc := "(IJJ)Z" } : Jvm.MethodName) prog_12_method_8_code (19 : Nat) (Option.some Jvm.ClassFile.FieldType.boolean)) ∈ gw := gx_4 (List.mem_of_getElem? (i := 84) rfl) (by decide +kernel)
set_option maxRecDepth 100000 in
theorem gwi_938 : (Jvm.Cond.constantLong "PlainMusic$Voice" (66 : Nat) (2 : Int64)) ∈ gw := gx_4 (List.mem_of_getElem? (i := 85) rfl) (by decide +kernel)
set_option maxRecDepth 100000 in
theorem gwi_940 : (Jvm.Cond.static ({ cls := "PlainMusic", name := "greatestDivisor", desc := "(JJ)J" } : Jvm.MethodName)) ∈ gw := gx_4 (List.mem_of_getElem? (i := 87) rfl) (by decide +kernel)
set_option maxRecDepth 100000 in
theorem gwi_941 : (Jvm.Cond.code ({ cls := "PlainMusic", name := "greatestDivisor", desc := "(JJ)J" } : Jvm.MethodName) prog_1_method_30_code (11 : Nat) (Option.some Jvm.ClassFile.FieldType.long)) ∈ gw := gx_4 (List.mem_of_getElem? (i := 88) rfl) (by decide +kernel)
set_option maxRecDepth 100000 in
theorem gwi_942 : (Jvm.Cond.methodLink "PlainMusic$Voice" (72 : Nat) ({ cls := "PlainMusic$Voice", name := "isTold", desc := "(JJ)Z" } : Jvm.MethodName)) ∈ gw := gx_4 (List.mem_of_getElem? (i := 89) rfl) (by decide +kernel)
set_option maxRecDepth 100000 in
theorem gwi_943 : (Jvm.Cond.static ({ cls := "PlainMusic$Voice", name := "isTold", desc := "(JJ)Z" } : Jvm.MethodName)) ∈ gw := gx_4 (List.mem_of_getElem? (i := 90) rfl) (by decide +kernel)
set_option maxRecDepth 100000 in
theorem gwi_944 : (Jvm.Cond.code ({ cls := "PlainMusic$Voice", name := "isTold", desc := "(JJ)Z" } : Jvm.MethodName) prog_12_method_9_code (4 : Nat) (Option.some Jvm.ClassFile.FieldType.boolean)) ∈ gw := gx_4 (List.mem_of_getElem? (i := 91) rfl) (by decide +kernel)
set_option maxRecDepth 100000 in
theorem gwi_945 : (Jvm.Cond.constantLong "PlainMusic$Voice" (76 : Nat) (1000000 : Int64)) ∈ gw := gx_4 (List.mem_of_getElem? (i := 92) rfl) (by decide +kernel)
set_option maxRecDepth 100000 in
theorem gwi_946 : (Jvm.Cond.constantLong "PlainMusic$Voice" (78 : Nat) (1000 : Int64)) ∈ gw := gx_4 (List.mem_of_getElem? (i := 93) rfl) (by decide +kernel)
set_option maxRecDepth 100000 in
theorem gwi_947 : (Jvm.Cond.methodLink "PlainMusic$Parts" (63 : Nat) ({ cls := "PlainMusic$Voice", name := "endWalk", desc := "()V" } : Jvm.MethodName)) ∈ gw := gx_4 (List.mem_of_getElem? (i := 94) rfl) (by decide +kernel)
set_option maxRecDepth 100000 in
theorem gwi_948 : (Jvm.Cond.instanceMethod ({ cls := "PlainMusic$Voice", name := "endWalk", desc := "()V" } : Jvm.MethodName)) ∈ gw := gx_4 (List.mem_of_getElem? (i := 95) rfl) (by decide +kernel)
set_option maxRecDepth 100000 in
theorem gwi_949 : (Jvm.Cond.selects "PlainMusic$Voice" ({ cls := "PlainMusic$Voice", name := "endWalk", desc := "()V" } : Jvm.MethodName) ({ cls := "PlainMusic$Voice", name := "endWalk", desc := "()V" } : Jvm.MethodName)) ∈ gw := gx_4 (List.mem_of_getElem? (i := 96) rfl) (by decide +kernel)
set_option maxRecDepth 100000 in
theorem gwi_950 : (Jvm.Cond.code ({ cls := "PlainMusic$Voice", name := "endWalk", desc := "()V" } : Jvm.MethodName) prog_12_method_7_code (1 : Nat) (Option.none : Option Jvm.ClassFile.FieldType)) ∈ gw := gx_4 (List.mem_of_getElem? (i := 97) rfl) (by decide +kernel)
set_option maxRecDepth 100000 in
theorem gwi_951 : (Jvm.Cond.methodLink "PlainMusic$Reader" (60 : Nat) ({ cls := "PlainMusic$Reader", name := "readLine", desc := "()Z" } : Jvm.MethodName)) ∈ gw := gx_4 (List.mem_of_getElem? (i := 98) rfl) (by decide +kernel)
set_option maxRecDepth 100000 in
theorem gwi_953 : (Jvm.Cond.instanceMethod ({ cls := "PlainMusic$Reader", name := "readLine", desc := "()Z" } : Jvm.MethodName)) ∈ gw := gx_4 (List.mem_of_getElem? (i := 100) rfl) (by decide +kernel)
set_option maxRecDepth 100000 in
theorem gwi_954 : (Jvm.Cond.code ({ cls := "PlainMusic$Reader", name := "readLine", desc := "()Z" } : Jvm.MethodName) prog_7_method_9_code (2 : Nat) (Option.some Jvm.ClassFile.FieldType.boolean)) ∈ gw := gx_4 (List.mem_of_getElem? (i := 101) rfl) (by decide +kernel)
set_option maxRecDepth 100000 in
theorem gwi_955 : (Jvm.Cond.methodLink "PlainMusic$Reader" (114 : Nat) ({ cls := "PlainMusic$Score", name := "addToLine", desc := "(I)Z" } : Jvm.MethodName)) ∈ gw := gx_4 (List.mem_of_getElem? (i := 102) rfl) (by decide +kernel)
set_option maxRecDepth 100000 in
theorem gwi_956 : (Jvm.Cond.instanceMethod ({ cls := "PlainMusic$Score", name := "addToLine", desc := "(I)Z" } : Jvm.MethodName)) ∈ gw := gx_4 (List.mem_of_getElem? (i := 103) rfl) (by decide +kernel)
set_option maxRecDepth 100000 in
theorem gwi_957 : (Jvm.Cond.selects "PlainMusic$Score" ({ cls := "PlainMusic$Score", name := "addToLine", desc := "(I)Z" } : Jvm.MethodName) ({ cls := "PlainMusic$Score", name := "addToLine", desc := "(I)Z" } : Jvm.MethodName)) ∈ gw := gx_4 (List.mem_of_getElem? (i := 104) rfl) (by decide +kernel)
set_option maxRecDepth 100000 in
theorem gwi_958 : (Jvm.Cond.code ({ cls := "PlainMusic$Score", name := "addToLine", desc := "(I)Z" } : Jvm.MethodName) prog_8_method_6_code (2 : Nat) (Option.some Jvm.ClassFile.FieldType.boolean)) ∈ gw := gx_4 (List.mem_of_getElem? (i := 105) rfl) (by decide +kernel)
set_option maxRecDepth 100000 in
theorem gwi_959 : (Jvm.Cond.methodLink "PlainMusic$Reader" (63 : Nat) ({ cls := "PlainMusic$Reader", name := "readRule", desc := "()Z" } : Jvm.MethodName)) ∈ gw := gx_4 (List.mem_of_getElem? (i := 106) rfl) (by decide +kernel)
set_option maxRecDepth 100000 in
theorem gwi_961 : (Jvm.Cond.instanceMethod ({ cls := "PlainMusic$Reader", name := "readRule", desc := "()Z" } : Jvm.MethodName)) ∈ gw := gx_4 (List.mem_of_getElem? (i := 108) rfl) (by decide +kernel)
set_option maxRecDepth 100000 in
theorem gwi_962 : (Jvm.Cond.code ({ cls := "PlainMusic$Reader", name := "readRule", desc := "()Z" } : Jvm.MethodName) prog_7_method_10_code (4 : Nat) (Option.some Jvm.ClassFile.FieldType.boolean)) ∈ gw := gx_4 (List.mem_of_getElem? (i := 109) rfl) (by decide +kernel)
set_option maxRecDepth 100000 in
theorem gwi_963 : (Jvm.Cond.methodLink "PlainMusic$Reader" (120 : Nat) ({ cls := "PlainMusic$Reader", name := "readName", desc := "()I" } : Jvm.MethodName)) ∈ gw := gx_4 (List.mem_of_getElem? (i := 110) rfl) (by decide +kernel)
set_option maxRecDepth 100000 in
theorem gwi_965 : (Jvm.Cond.instanceMethod ({ cls := "PlainMusic$Reader", name := "readName", desc := "()I" } : Jvm.MethodName)) ∈ gw := gx_4 (List.mem_of_getElem? (i := 112) rfl) (by decide +kernel)
set_option maxRecDepth 100000 in
theorem gwi_966 : (Jvm.Cond.code ({ cls := "PlainMusic$Reader", name := "readName", desc := "()I" } : Jvm.MethodName) prog_7_method_12_code (2 : Nat) (Option.some Jvm.ClassFile.FieldType.int)) ∈ gw := gx_4 (List.mem_of_getElem? (i := 113) rfl) (by decide +kernel)
set_option maxRecDepth 100000 in
theorem gwi_967 : (Jvm.Cond.methodLink "PlainMusic$Reader" (124 : Nat) ({ cls := "PlainMusic$Score", name := "addRule", desc := "(III)V" } : Jvm.MethodName)) ∈ gw := gx_4 (List.mem_of_getElem? (i := 114) rfl) (by decide +kernel)
set_option maxRecDepth 100000 in
theorem gwi_968 : (Jvm.Cond.instanceMethod ({ cls := "PlainMusic$Score", name := "addRule", desc := "(III)V" } : Jvm.MethodName)) ∈ gw := gx_4 (List.mem_of_getElem? (i := 115) rfl) (by decide +kernel)
set_option maxRecDepth 100000 in
theorem gwi_969 : (Jvm.Cond.selects "PlainMusic$Score" ({ cls := "PlainMusic$Score", name := "addRule", desc := "(III)V" } : Jvm.MethodName) ({ cls := "PlainMusic$Score", name := "addRule", desc := "(III)V" } : Jvm.MethodName)) ∈ gw := gx_4 (List.mem_of_getElem? (i := 116) rfl) (by decide +kernel)
set_option maxRecDepth 100000 in
theorem gwi_970 : (Jvm.Cond.code ({ cls := "PlainMusic$Score", name := "addRule", desc := "(III)V" } : Jvm.MethodName) prog_8_method_7_code (4 : Nat) (Option.none : Option Jvm.ClassFile.FieldType)) ∈ gw := gx_4 (List.mem_of_getElem? (i := 117) rfl) (by decide +kernel)
set_option maxRecDepth 100000 in
theorem gwi_971 : (Jvm.Cond.methodLink "PlainMusic$Reader" (66 : Nat) ({ cls := "PlainMusic$Reader", name := "readRow", desc := "()Z" } : Jvm.MethodName)) ∈ gw := gx_4 (List.mem_of_getElem? (i := 118) rfl) (by decide +kernel)
set_option maxRecDepth 100000 in
theorem gwi_973 : (Jvm.Cond.instanceMethod ({ cls := "PlainMusic$Reader", name := "readRow", desc := "()Z" } : Jvm.MethodName)) ∈ gw := gx_4 (List.mem_of_getElem? (i := 120) rfl) (by decide +kernel)
set_option maxRecDepth 100000 in
theorem gwi_974 : (Jvm.Cond.code ({ cls := "PlainMusic$Reader", name := "readRow", desc := "()Z" } : Jvm.MethodName) prog_7_method_11_code (3 : Nat) (Option.some Jvm.ClassFile.FieldType.boolean)) ∈ gw := gx_4 (List.mem_of_getElem? (i := 121) rfl) (by decide +kernel)
set_option maxRecDepth 100000 in
theorem gwi_975 : (Jvm.Cond.methodLink "PlainMusic$Reader" (131 : Nat) ({ cls := "PlainMusic$Score", name := "addToRow", desc := "(I)V" } : Jvm.MethodName)) ∈ gw := gx_4 (List.mem_of_getElem? (i := 122) rfl) (by decide +kernel)
set_option maxRecDepth 100000 in
theorem gwi_976 : (Jvm.Cond.instanceMethod ({ cls := "PlainMusic$Score", name := "addToRow", desc := "(I)V" } : Jvm.MethodName)) ∈ gw := gx_4 (List.mem_of_getElem? (i := 123) rfl) (by decide +kernel)
set_option maxRecDepth 100000 in
theorem gwi_977 : (Jvm.Cond.selects "PlainMusic$Score" ({ cls := "PlainMusic$Score", name := "addToRow", desc := "(I)V" } : Jvm.MethodName) ({ cls := "PlainMusic$Score", name := "addToRow", desc := "(I)V" } : Jvm.MethodName)) ∈ gw := gx_4 (List.mem_of_getElem? (i := 124) rfl) (by decide +kernel)
set_option maxRecDepth 100000 in
theorem gwi_978 : (Jvm.Cond.code ({ cls := "PlainMusic$Score", name := "addToRow", desc := "(I)V" } : Jvm.MethodName) prog_8_method_8_code (2 : Nat) (Option.none : Option Jvm.ClassFile.FieldType)) ∈ gw := gx_4 (List.mem_of_getElem? (i := 125) rfl) (by decide +kernel)
set_option maxRecDepth 100000 in
theorem gwi_979 : (Jvm.Cond.methodLink "PlainMusic" (85 : Nat) ({ cls := "PlainMusic$Reader", name := "swap", desc := "(LPlainMusic$Score;)LPlainMusic$Score;" } : Jvm.MethodName)) ∈ gw := gx_4 (List.mem_of_getElem? (i := 126) rfl) (by decide +kernel)
set_option maxRecDepth 100000 in
theorem gwi_980 : (Jvm.Cond.instanceMethod ({ cls := "PlainMusic$Reader", name := "swap", desc := "(LPlainMusic$Score;)LPlainMusic$Score;" } : Jvm.MethodName)) ∈ gw := gx_4 (List.mem_of_getElem? (i := 127) rfl) (by decide +kernel)
set_option maxRecDepth 100000 in
theorem gwi_981 : (Jvm.Cond.selects "PlainMusic$Reader" ({ cls := "PlainMusic$Reader", name := "swap", desc := "(LPlainMusic$Score;)LPlainMusic$Score;" } : Jvm.MethodName) ({ cls := "PlainMusic$Reader", name := "swap", desc := "(LPlainMusic$Score;)LPlainMusic$Score;" } : Jvm.MethodName)) ∈ gw := gx_4 (List.mem_of_getElem? (i := 128) rfl) (by decide +kernel)
set_option maxRecDepth 100000 in
theorem gwi_982 : (Jvm.Cond.code ({ cls := "PlainMusic$Reader", name := "swap", desc := "(LPlainMusic$Score;)LPlainMusic$Score;" } : Jvm.MethodName) prog_7_method_3_code (3 : Nat) (Option.some (Jvm.ClassFile.FieldType.object "PlainMusic$Score"))) ∈ gw := gx_4 (List.mem_of_getElem? (i := 129) rfl) (by decide +kernel)
set_option maxRecDepth 100000 in
theorem gwi_983 : (Jvm.Cond.methodLink "PlainMusic" (89 : Nat) ({ cls := "PlainMusic", name := "forgetFindings", desc := "()V" } : Jvm.MethodName)) ∈ gw := gx_4 (List.mem_of_getElem? (i := 130) rfl) (by decide +kernel)
set_option maxRecDepth 100000 in
theorem gwi_985 : (Jvm.Cond.instanceMethod ({ cls := "PlainMusic", name := "forgetFindings", desc := "()V" } : Jvm.MethodName)) ∈ gw := gx_4 (List.mem_of_getElem? (i := 132) rfl) (by decide +kernel)
set_option maxRecDepth 100000 in
theorem gwi_986 : (Jvm.Cond.code ({ cls := "PlainMusic", name := "forgetFindings", desc := "()V" } : Jvm.MethodName) prog_1_method_6_code (1 : Nat) (Option.none : Option Jvm.ClassFile.FieldType)) ∈ gw := gx_4 (List.mem_of_getElem? (i := 133) rfl) (by decide +kernel)
set_option maxRecDepth 100000 in
theorem gwi_987 : (Jvm.Cond.methodLink "PlainMusic" (96 : Nat) ({ cls := "PlainMusic$Judge", name := "forget", desc := "()V" } : Jvm.MethodName)) ∈ gw := gx_4 (List.mem_of_getElem? (i := 134) rfl) (by decide +kernel)
set_option maxRecDepth 100000 in
theorem gwi_988 : (Jvm.Cond.instanceMethod ({ cls := "PlainMusic$Judge", name := "forget", desc := "()V" } : Jvm.MethodName)) ∈ gw := gx_4 (List.mem_of_getElem? (i := 135) rfl) (by decide +kernel)
set_option maxRecDepth 100000 in
theorem gwi_989 : (Jvm.Cond.selects "PlainMusic$Judge" ({ cls := "PlainMusic$Judge", name := "forget", desc := "()V" } : Jvm.MethodName) ({ cls := "PlainMusic$Judge", name := "forget", desc := "()V" } : Jvm.MethodName)) ∈ gw := gx_4 (List.mem_of_getElem? (i := 136) rfl) (by decide +kernel)
set_option maxRecDepth 100000 in
theorem gwi_990 : (Jvm.Cond.code ({ cls := "PlainMusic$Judge", name := "forget", desc := "()V" } : Jvm.MethodName) prog_3_method_2_code (1 : Nat) (Option.none : Option Jvm.ClassFile.FieldType)) ∈ gw := gx_4 (List.mem_of_getElem? (i := 137) rfl) (by decide +kernel)
set_option maxRecDepth 100000 in
theorem gwi_991 : (Jvm.Cond.methodLink "PlainMusic" (99 : Nat) ({ cls := "PlainMusic$Beams", name := "forget", desc := "()V" } : Jvm.MethodName)) ∈ gw := gx_4 (List.mem_of_getElem? (i := 138) rfl) (by decide +kernel)
set_option maxRecDepth 100000 in
theorem gwi_992 : (Jvm.Cond.instanceMethod ({ cls := "PlainMusic$Beams", name := "forget", desc := "()V" } : Jvm.MethodName)) ∈ gw := gx_4 (List.mem_of_getElem? (i := 139) rfl) (by decide +kernel)
set_option maxRecDepth 100000 in
theorem gwi_993 : (Jvm.Cond.selects "PlainMusic$Beams" ({ cls := "PlainMusic$Beams", name := "forget", desc := "()V" } : Jvm.MethodName) ({ cls := "PlainMusic$Beams", name := "forget", desc := "()V" } : Jvm.MethodName)) ∈ gw := gx_4 (List.mem_of_getElem? (i := 140) rfl) (by decide +kernel)
set_option maxRecDepth 100000 in
theorem gwi_994 : (Jvm.Cond.code ({ cls := "PlainMusic$Beams", name := "forget", desc := "()V" } : Jvm.MethodName) prog_2_method_2_code (1 : Nat) (Option.none : Option Jvm.ClassFile.FieldType)) ∈ gw := gx_4 (List.mem_of_getElem? (i := 141) rfl) (by decide +kernel)
set_option maxRecDepth 100000 in
theorem gwi_995 : (Jvm.Cond.methodLink "PlainMusic" (100 : Nat) ({ cls := "PlainMusic$Page", name := "forget", desc := "()V" } : Jvm.MethodName)) ∈ gw := gx_4 (List.mem_of_getElem? (i := 142) rfl) (by decide +kernel)
set_option maxRecDepth 100000 in
theorem gwi_996 : (Jvm.Cond.instanceMethod ({ cls := "PlainMusic$Page", name := "forget", desc := "()V" } : Jvm.MethodName)) ∈ gw := gx_4 (List.mem_of_getElem? (i := 143) rfl) (by decide +kernel)
set_option maxRecDepth 100000 in
theorem gwi_997 : (Jvm.Cond.selects "PlainMusic$Page" ({ cls := "PlainMusic$Page", name := "forget", desc := "()V" } : Jvm.MethodName) ({ cls := "PlainMusic$Page", name := "forget", desc := "()V" } : Jvm.MethodName)) ∈ gw := gx_4 (List.mem_of_getElem? (i := 144) rfl) (by decide +kernel)
set_option maxRecDepth 100000 in
theorem gwi_998 : (Jvm.Cond.code ({ cls := "PlainMusic$Page", name := "forget", desc := "()V" } : Jvm.MethodName) prog_4_method_2_code (1 : Nat) (Option.none : Option Jvm.ClassFile.FieldType)) ∈ gw := gx_4 (List.mem_of_getElem? (i := 145) rfl) (by decide +kernel)
set_option maxRecDepth 100000 in
theorem gwi_999 : (Jvm.Cond.methodLink "PlainMusic" (101 : Nat) ({ cls := "PlainMusic$Seconds", name := "forget", desc := "()V" } : Jvm.MethodName)) ∈ gw := gx_4 (List.mem_of_getElem? (i := 146) rfl) (by decide +kernel)
set_option maxRecDepth 100000 in
theorem gwi_1000 : (Jvm.Cond.instanceMethod ({ cls := "PlainMusic$Seconds", name := "forget", desc := "()V" } : Jvm.MethodName)) ∈ gw := gx_4 (List.mem_of_getElem? (i := 147) rfl) (by decide +kernel)
set_option maxRecDepth 100000 in
theorem gwi_1001 : (Jvm.Cond.selects "PlainMusic$Seconds" ({ cls := "PlainMusic$Seconds", name := "forget", desc := "()V" } : Jvm.MethodName) ({ cls := "PlainMusic$Seconds", name := "forget", desc := "()V" } : Jvm.MethodName)) ∈ gw := gx_4 (List.mem_of_getElem? (i := 148) rfl) (by decide +kernel)
set_option maxRecDepth 100000 in
theorem gwi_1002 : (Jvm.Cond.code ({ cls := "PlainMusic$Seconds", name := "forget", desc := "()V" } : Jvm.MethodName) prog_9_method_2_code (1 : Nat) (Option.none : Option Jvm.ClassFile.FieldType)) ∈ gw := gx_4 (List.mem_of_getElem? (i := 149) rfl) (by decide +kernel)
set_option maxRecDepth 100000 in
theorem gwi_1003 : (Jvm.Cond.methodLink "PlainMusic" (102 : Nat) ({ cls := "PlainMusic$Trees", name := "forget", desc := "()V" } : Jvm.MethodName)) ∈ gw := gx_4 (List.mem_of_getElem? (i := 150) rfl) (by decide +kernel)
set_option maxRecDepth 100000 in
theorem gwi_1004 : (Jvm.Cond.instanceMethod ({ cls := "PlainMusic$Trees", name := "forget", desc := "()V" } : Jvm.MethodName)) ∈ gw := gx_4 (List.mem_of_getElem? (i := 151) rfl) (by decide +kernel)
set_option maxRecDepth 100000 in
theorem gwi_1005 : (Jvm.Cond.selects "PlainMusic$Trees" ({ cls := "PlainMusic$Trees", name := "forget", desc := "()V" } : Jvm.MethodName) ({ cls := "PlainMusic$Trees", name := "forget", desc := "()V" } : Jvm.MethodName)) ∈ gw := gx_4 (List.mem_of_getElem? (i := 152) rfl) (by decide +kernel)
set_option maxRecDepth 100000 in
theorem gwi_1006 : (Jvm.Cond.code ({ cls := "PlainMusic$Trees", name := "forget", desc := "()V" } : Jvm.MethodName) prog_11_method_2_code (1 : Nat) (Option.none : Option Jvm.ClassFile.FieldType)) ∈ gw := gx_4 (List.mem_of_getElem? (i := 153) rfl) (by decide +kernel)
set_option maxRecDepth 100000 in
theorem gwi_1007 : (Jvm.Cond.methodLink "PlainMusic" (103 : Nat) ({ cls := "PlainMusic$Pairing", name := "forget", desc := "()V" } : Jvm.MethodName)) ∈ gw := gx_4 (List.mem_of_getElem? (i := 154) rfl) (by decide +kernel)
set_option maxRecDepth 100000 in
theorem gwi_1008 : (Jvm.Cond.instanceMethod ({ cls := "PlainMusic$Pairing", name := "forget", desc := "()V" } : Jvm.MethodName)) ∈ gw := gx_4 (List.mem_of_getElem? (i := 155) rfl) (by decide +kernel)
set_option maxRecDepth 100000 in
theorem gwi_1009 : (Jvm.Cond.selects "PlainMusic$Pairing" ({ cls := "PlainMusic$Pairing", name := "forget", desc := "()V" } : Jvm.MethodName) ({ cls := "PlainMusic$Pairing", name := "forget", desc := "()V" } : Jvm.MethodName)) ∈ gw := gx_4 (List.mem_of_getElem? (i := 156) rfl) (by decide +kernel)
set_option maxRecDepth 100000 in
theorem gwi_1010 : (Jvm.Cond.code ({ cls := "PlainMusic$Pairing", name := "forget", desc := "()V" } : Jvm.MethodName) prog_5_method_2_code (1 : Nat) (Option.none : Option Jvm.ClassFile.FieldType)) ∈ gw := gx_4 (List.mem_of_getElem? (i := 157) rfl) (by decide +kernel)
set_option maxRecDepth 100000 in
theorem gwi_1011 : (Jvm.Cond.methodLink "PlainMusic" (92 : Nat) ({ cls := "PlainMusic$Score", name := "allEvents", desc := "()I" } : Jvm.MethodName)) ∈ gw := gx_4 (List.mem_of_getElem? (i := 158) rfl) (by decide +kernel)
set_option maxRecDepth 100000 in
theorem gwi_1012 : (Jvm.Cond.instanceMethod ({ cls := "PlainMusic$Score", name := "allEvents", desc := "()I" } : Jvm.MethodName)) ∈ gw := gx_4 (List.mem_of_getElem? (i := 159) rfl) (by decide +kernel)
set_option maxRecDepth 100000 in
theorem gwi_1013 : (Jvm.Cond.selects "PlainMusic$Score" ({ cls := "PlainMusic$Score", name := "allEvents", desc := "()I" } : Jvm.MethodName) ({ cls := "PlainMusic$Score", name := "allEvents", desc := "()I" } : Jvm.MethodName)) ∈ gw := gx_4 (List.mem_of_getElem? (i := 160) rfl) (by decide +kernel)
set_option maxRecDepth 100000 in
theorem gwi_1014 : (Jvm.Cond.code ({ cls := "PlainMusic$Score", name := "allEvents", desc := "()I" } : Jvm.MethodName) prog_8_method_9_code (4 : Nat) (Option.some Jvm.ClassFile.FieldType.int)) ∈ gw := gx_4 (List.mem_of_getElem? (i := 161) rfl) (by decide +kernel)
set_option maxRecDepth 100000 in
theorem gwi_1015 : (Jvm.Cond.methodLink "PlainMusic$Score" (60 : Nat) ({ cls := "PlainMusic$Score", name := "voiceAt", desc := "(I)LPlainMusic$Voice;" } : Jvm.MethodName)) ∈ gw := gx_4 (List.mem_of_getElem? (i := 162) rfl) (by decide +kernel)
set_option maxRecDepth 100000 in
theorem gwi_1016 : (Jvm.Cond.instanceMethod ({ cls := "PlainMusic$Score", name := "voiceAt", desc := "(I)LPlainMusic$Voice;" } : Jvm.MethodName)) ∈ gw := gx_4 (List.mem_of_getElem? (i := 163) rfl) (by decide +kernel)
set_option maxRecDepth 100000 in
theorem gwi_1017 : (Jvm.Cond.selects "PlainMusic$Score" ({ cls := "PlainMusic$Score", name := "voiceAt", desc := "(I)LPlainMusic$Voice;" } : Jvm.MethodName) ({ cls := "PlainMusic$Score", name := "voiceAt", desc := "(I)LPlainMusic$Voice;" } : Jvm.MethodName)) ∈ gw := gx_4 (List.mem_of_getElem? (i := 164) rfl) (by decide +kernel)
set_option maxRecDepth 100000 in
theorem gwi_1018 : (Jvm.Cond.code ({ cls := "PlainMusic$Score", name := "voiceAt", desc := "(I)LPlainMusic$Voice;" } : Jvm.MethodName) prog_8_method_5_code (2 : Nat) (Option.some (Jvm.ClassFile.FieldType.object "PlainMusic$Voice"))) ∈ gw := gx_4 (List.mem_of_getElem? (i := 165) rfl) (by decide +kernel)
set_option maxRecDepth 100000 in
theorem gwi_1020 : (Jvm.Cond.methodLink "PlainMusicLaw" (28 : Nat) ({ cls := "PlainMusic", name := "place", desc := "()I" } : Jvm.MethodName)) ∈ gw := gx_4 (List.mem_of_getElem? (i := 167) rfl) (by decide +kernel)
set_option maxRecDepth 100000 in
theorem gwi_1021 : (Jvm.Cond.instanceMethod ({ cls := "PlainMusic", name := "place", desc := "()I" } : Jvm.MethodName)) ∈ gw := gx_4 (List.mem_of_getElem? (i := 168) rfl) (by decide +kernel)
set_option maxRecDepth 100000 in
theorem gwi_1022 : (Jvm.Cond.selects "PlainMusic" ({ cls := "PlainMusic", name := "place", desc := "()I" } : Jvm.MethodName) ({ cls := "PlainMusic", name := "place", desc := "()I" } : Jvm.MethodName)) ∈ gw := gx_4 (List.mem_of_getElem? (i := 169) rfl) (by decide +kernel)
set_option maxRecDepth 100000 in
theorem gwi_1023 : (Jvm.Cond.code ({ cls := "PlainMusic", name := "place", desc := "()I" } : Jvm.MethodName) prog_1_method_7_code (1 : Nat) (Option.some Jvm.ClassFile.FieldType.int)) ∈ gw := gx_4 (List.mem_of_getElem? (i := 170) rfl) (by decide +kernel)
set_option maxRecDepth 100000 in
theorem gwi_1024 : (Jvm.Cond.methodLink "PlainMusicLaw" (32 : Nat) ({ cls := "PlainMusic", name := "told", desc := "(I)I" } : Jvm.MethodName)) ∈ gw := gx_4 (List.mem_of_getElem? (i := 171) rfl) (by decide +kernel)
set_option maxRecDepth 100000 in
theorem gwi_1025 : (Jvm.Cond.instanceMethod ({ cls := "PlainMusic", name := "told", desc := "(I)I" } : Jvm.MethodName)) ∈ gw := gx_4 (List.mem_of_getElem? (i := 172) rfl) (by decide +kernel)
set_option maxRecDepth 100000 in
theorem gwi_1026 : (Jvm.Cond.selects "PlainMusic" ({ cls := "PlainMusic", name := "told", desc := "(I)I" } : Jvm.MethodName) ({ cls := "PlainMusic", name := "told", desc := "(I)I" } : Jvm.MethodName)) ∈ gw := gx_4 (List.mem_of_getElem? (i := 173) rfl) (by decide +kernel)
set_option maxRecDepth 100000 in
theorem gwi_1027 : (Jvm.Cond.code ({ cls := "PlainMusic", name := "told", desc := "(I)I" } : Jvm.MethodName) prog_1_method_8_code (2 : Nat) (Option.some Jvm.ClassFile.FieldType.int)) ∈ gw := gx_4 (List.mem_of_getElem? (i := 174) rfl) (by decide +kernel)
set_option maxRecDepth 100000 in
theorem gwi_1028 : (Jvm.Cond.methodLink "PlainMusic" (116 : Nat) ({ cls := "PlainMusic$Score", name := "mostBars", desc := "()I" } : Jvm.MethodName)) ∈ gw := gx_4 (List.mem_of_getElem? (i := 175) rfl) (by decide +kernel)
set_option maxRecDepth 100000 in
theorem gwi_1029 : (Jvm.Cond.instanceMethod ({ cls := "PlainMusic$Score", name := "mostBars", desc := "()I" } : Jvm.MethodName)) ∈ gw := gx_4 (List.mem_of_getElem? (i := 176) rfl) (by decide +kernel)
set_option maxRecDepth 100000 in
theorem gwi_1030 : (Jvm.Cond.selects "PlainMusic$Score" ({ cls := "PlainMusic$Score", name := "mostBars", desc := "()I" } : Jvm.MethodName) ({ cls := "PlainMusic$Score", name := "mostBars", desc := "()I" } : Jvm.MethodName)) ∈ gw := gx_4 (List.mem_of_getElem? (i := 177) rfl) (by decide +kernel)
set_option maxRecDepth 100000 in
theorem gwi_1031 : (Jvm.Cond.code ({ cls := "PlainMusic$Score", name := "mostBars", desc := "()I" } : Jvm.MethodName) prog_8_method_10_code (4 : Nat) (Option.some Jvm.ClassFile.FieldType.int)) ∈ gw := gx_4 (List.mem_of_getElem? (i := 178) rfl) (by decide +kernel)
set_option maxRecDepth 100000 in
theorem gwi_1032 : (Jvm.Cond.methodLink "PlainMusic$Score" (70 : Nat) ({ cls := "java/lang/Math", name := "max", desc := "(II)I" } : Jvm.MethodName)) ∈ gw := gx_4 (List.mem_of_getElem? (i := 179) rfl) (by decide +kernel)
set_option maxRecDepth 100000 in
theorem gwi_1033 : (Jvm.Cond.methodLink "PlainMusicLaw" (36 : Nat) ({ cls := "PlainMusic", name := "count", desc := "(II)I" } : Jvm.MethodName)) ∈ gw := gx_4 (List.mem_of_getElem? (i := 180) rfl) (by decide +kernel)
set_option maxRecDepth 100000 in
theorem gwi_1034 : (Jvm.Cond.instanceMethod ({ cls := "PlainMusic", name := "count", desc := "(II)I" } : Jvm.MethodName)) ∈ gw := gx_4 (List.mem_of_getElem? (i := 181) rfl) (by decide +kernel)
set_option maxRecDepth 100000 in
theorem gwi_1035 : (Jvm.Cond.selects "PlainMusic" ({ cls := "PlainMusic", name := "count", desc := "(II)I" } : Jvm.MethodName) ({ cls := "PlainMusic", name := "count", desc := "(II)I" } : Jvm.MethodName)) ∈ gw := gx_4 (List.mem_of_getElem? (i := 182) rfl) (by decide +kernel)
set_option maxRecDepth 100000 in
theorem gwi_1036 : (Jvm.Cond.code ({ cls := "PlainMusic", name := "count", desc := "(II)I" } : Jvm.MethodName) prog_1_method_9_code (4 : Nat) (Option.some Jvm.ClassFile.FieldType.int)) ∈ gw := gx_4 (List.mem_of_getElem? (i := 183) rfl) (by decide +kernel)
set_option maxRecDepth 100000 in
theorem gwi_1037 : (Jvm.Cond.methodLink "PlainMusic" (125 : Nat) ({ cls := "PlainMusic$Score", name := "voiceAt", desc := "(I)LPlainMusic$Voice;" } : Jvm.MethodName)) ∈ gw := gx_4 (List.mem_of_getElem? (i := 184) rfl) (by decide +kernel)
set_option maxRecDepth 100000 in
theorem gwi_1038 : (Jvm.Cond.methodLink "PlainMusicLaw" (41 : Nat) ({ cls := "PlainMusic", name := "event", desc := "(III)J" } : Jvm.MethodName)) ∈ gw := gx_4 (List.mem_of_getElem? (i := 185) rfl) (by decide +kernel)
set_option maxRecDepth 100000 in
theorem gwi_1039 : (Jvm.Cond.instanceMethod ({ cls := "PlainMusic", name := "event", desc := "(III)J" } : Jvm.MethodName)) ∈ gw := gx_4 (List.mem_of_getElem? (i := 186) rfl) (by decide +kernel)
set_option maxRecDepth 100000 in
theorem gwi_1040 : (Jvm.Cond.selects "PlainMusic" ({ cls := "PlainMusic", name := "event", desc := "(III)J" } : Jvm.MethodName) ({ cls := "PlainMusic", name := "event", desc := "(III)J" } : Jvm.MethodName)) ∈ gw := gx_4 (List.mem_of_getElem? (i := 187) rfl) (by decide +kernel)
set_option maxRecDepth 100000 in
theorem gwi_1041 : (Jvm.Cond.code ({ cls := "PlainMusic", name := "event", desc := "(III)J" } : Jvm.MethodName) prog_1_method_10_code (5 : Nat) (Option.some Jvm.ClassFile.FieldType.long)) ∈ gw := gx_4 (List.mem_of_getElem? (i := 188) rfl) (by decide +kernel)
set_option maxRecDepth 100000 in
theorem gwi_1042 : (Jvm.Cond.constantLong "PlainMusic" (137 : Nat) (10000 : Int64)) ∈ gw := gx_4 (List.mem_of_getElem? (i := 189) rfl) (by decide +kernel)
set_option maxRecDepth 100000 in
theorem gwi_1043 : (Jvm.Cond.methodLink "PlainMusic" (139 : Nat) ({ cls := "PlainMusic$Voice", name := "timeOf", desc := "(II)J" } : Jvm.MethodName)) ∈ gw := gx_4 (List.mem_of_getElem? (i := 190) rfl) (by decide +kernel)
set_option maxRecDepth 100000 in
theorem gwi_1044 : (Jvm.Cond.instanceMethod ({ cls := "PlainMusic$Voice", name := "timeOf", desc := "(II)J" } : Jvm.MethodName)) ∈ gw := gx_4 (List.mem_of_getElem? (i := 191) rfl) (by decide +kernel)
set_option maxRecDepth 100000 in
theorem gwi_1045 : (Jvm.Cond.selects "PlainMusic$Voice" ({ cls := "PlainMusic$Voice", name := "timeOf", desc := "(II)J" } : Jvm.MethodName) ({ cls := "PlainMusic$Voice", name := "timeOf", desc := "(II)J" } : Jvm.MethodName)) ∈ gw := gx_4 (List.mem_of_getElem? (i := 192) rfl) (by decide +kernel)
set_option maxRecDepth 100000 in
theorem gwi_1046 : (Jvm.Cond.code ({ cls := "PlainMusic$Voice", name := "timeOf", desc := "(II)J" } : Jvm.MethodName) prog_12_method_10_code (3 : Nat) (Option.some Jvm.ClassFile.FieldType.long)) ∈ gw := gx_4 (List.mem_of_getElem? (i := 193) rfl) (by decide +kernel)
set_option maxRecDepth 100000 in
theorem gwi_1047 : (Jvm.Cond.methodLink "PlainMusic" (143 : Nat) ({ cls := "PlainMusic$Voice", name := "writingOf", desc := "(II)I" } : Jvm.MethodName)) ∈ gw := gx_4 (List.mem_of_getElem? (i := 194) rfl) (by decide +kernel)
set_option maxRecDepth 100000 in
theorem gwi_1048 : (Jvm.Cond.instanceMethod ({ cls := "PlainMusic$Voice", name := "writingOf", desc := "(II)I" } : Jvm.MethodName)) ∈ gw := gx_4 (List.mem_of_getElem? (i := 195) rfl) (by decide +kernel)
set_option maxRecDepth 100000 in
theorem gwi_1049 : (Jvm.Cond.selects "PlainMusic$Voice" ({ cls := "PlainMusic$Voice", name := "writingOf", desc := "(II)I" } : Jvm.MethodName) ({ cls := "PlainMusic$Voice", name := "writingOf", desc := "(II)I" } : Jvm.MethodName)) ∈ gw := gx_4 (List.mem_of_getElem? (i := 196) rfl) (by decide +kernel)
set_option maxRecDepth 100000 in
theorem gwi_1050 : (Jvm.Cond.code ({ cls := "PlainMusic$Voice", name := "writingOf", desc := "(II)I" } : Jvm.MethodName) prog_12_method_11_code (3 : Nat) (Option.some Jvm.ClassFile.FieldType.int)) ∈ gw := gx_4 (List.mem_of_getElem? (i := 197) rfl) (by decide +kernel)
set_option maxRecDepth 100000 in
theorem gwi_1051 : (Jvm.Cond.methodLink "PlainMusic$Voice" (80 : Nat) ({ cls := "PlainMusic$Voice", name := "pitchesOf", desc := "(I)I" } : Jvm.MethodName)) ∈ gw := gx_4 (List.mem_of_getElem? (i := 198) rfl) (by decide +kernel)
set_option maxRecDepth 100000 in
theorem gwi_1052 : (Jvm.Cond.instanceMethod ({ cls := "PlainMusic$Voice", name := "pitchesOf", desc := "(I)I" } : Jvm.MethodName)) ∈ gw := gx_4 (List.mem_of_getElem? (i := 199) rfl) (by decide +kernel)
set_option maxRecDepth 100000 in
theorem gwi_1053 : (Jvm.Cond.selects "PlainMusic$Voice" ({ cls := "PlainMusic$Voice", name := "pitchesOf", desc := "(I)I" } : Jvm.MethodName) ({ cls := "PlainMusic$Voice", name := "pitchesOf", desc := "(I)I" } : Jvm.MethodName)) ∈ gw := gx_4 (List.mem_of_getElem? (i := 200) rfl) (by decide +kernel)
set_option maxRecDepth 100000 in
theorem gwi_1054 : (Jvm.Cond.code ({ cls := "PlainMusic$Voice", name := "pitchesOf", desc := "(I)I" } : Jvm.MethodName) prog_12_method_12_code (3 : Nat) (Option.some Jvm.ClassFile.FieldType.int)) ∈ gw := gx_4 (List.mem_of_getElem? (i := 201) rfl) (by decide +kernel)
set_option maxRecDepth 100000 in
theorem gwi_1055 : (Jvm.Cond.methodLink "PlainMusic$Voice" (84 : Nat) ({ cls := "PlainMusic$Voice", name := "isTied", desc := "(I)Z" } : Jvm.MethodName)) ∈ gw := gx_4 (List.mem_of_getElem? (i := 202) rfl) (by decide +kernel)
set_option maxRecDepth 100000 in
theorem gwi_1056 : (Jvm.Cond.instanceMethod ({ cls := "PlainMusic$Voice", name := "isTied", desc := "(I)Z" } : Jvm.MethodName)) ∈ gw := gx_4 (List.mem_of_getElem? (i := 203) rfl) (by decide +kernel)
set_option maxRecDepth 100000 in
theorem gwi_1057 : (Jvm.Cond.selects "PlainMusic$Voice" ({ cls := "PlainMusic$Voice", name := "isTied", desc := "(I)Z" } : Jvm.MethodName) ({ cls := "PlainMusic$Voice", name := "isTied", desc := "(I)Z" } : Jvm.MethodName)) ∈ gw := gx_4 (List.mem_of_getElem? (i := 204) rfl) (by decide +kernel)
set_option maxRecDepth 100000 in
theorem gwi_1058 : (Jvm.Cond.code ({ cls := "PlainMusic$Voice", name := "isTied", desc := "(I)Z" } : Jvm.MethodName) prog_12_method_20_code (2 : Nat) (Option.some Jvm.ClassFile.FieldType.boolean)) ∈ gw := gx_4 (List.mem_of_getElem? (i := 205) rfl) (by decide +kernel)
set_option maxRecDepth 100000 in
theorem gwi_1059 : (Jvm.Cond.methodLink "PlainMusic$Voice" (88 : Nat) ({ cls := "PlainMusic$Voice", name := "numberOf", desc := "(I)I" } : Jvm.MethodName)) ∈ gw := gx_4 (List.mem_of_getElem? (i := 206) rfl) (by decide +kernel)
set_option maxRecDepth 100000 in
theorem gwi_1060 : (Jvm.Cond.instanceMethod ({ cls := "PlainMusic$Voice", name := "numberOf", desc := "(I)I" } : Jvm.MethodName)) ∈ gw := gx_4 (List.mem_of_getElem? (i := 207) rfl) (by decide +kernel)
set_option maxRecDepth 100000 in
theorem gwi_1061 : (Jvm.Cond.selects "PlainMusic$Voice" ({ cls := "PlainMusic$Voice", name := "numberOf", desc := "(I)I" } : Jvm.MethodName) ({ cls := "PlainMusic$Voice", name := "numberOf", desc := "(I)I" } : Jvm.MethodName)) ∈ gw := gx_4 (List.mem_of_getElem? (i := 208) rfl) (by decide +kernel)
set_option maxRecDepth 100000 in
theorem gwi_1062 : (Jvm.Cond.code ({ cls := "PlainMusic$Voice", name := "numberOf", desc := "(I)I" } : Jvm.MethodName) prog_12_method_19_code (2 : Nat) (Option.some Jvm.ClassFile.FieldType.int)) ∈ gw := gx_4 (List.mem_of_getElem? (i := 209) rfl) (by decide +kernel)
set_option maxRecDepth 100000 in
theorem gwi_1063 : (Jvm.Cond.methodLink "PlainMusic" (147 : Nat) ({ cls := "PlainMusic$Voice", name := "pitchesOf", desc := "(I)I" } : Jvm.MethodName)) ∈ gw := gx_4 (List.mem_of_getElem? (i := 210) rfl) (by decide +kernel)
set_option maxRecDepth 100000 in
theorem gwi_1064 : (Jvm.Cond.methodLink "PlainMusic" (151 : Nat) ({ cls := "PlainMusic$Voice", name := "keyOf", desc := "(II)I" } : Jvm.MethodName)) ∈ gw := gx_4 (List.mem_of_getElem? (i := 211) rfl) (by decide +kernel)
set_option maxRecDepth 100000 in
theorem gwi_1065 : (Jvm.Cond.instanceMethod ({ cls := "PlainMusic$Voice", name := "keyOf", desc := "(II)I" } : Jvm.MethodName)) ∈ gw := gx_4 (List.mem_of_getElem? (i := 212) rfl) (by decide +kernel)
set_option maxRecDepth 100000 in
theorem gwi_1066 : (Jvm.Cond.selects "PlainMusic$Voice" ({ cls := "PlainMusic$Voice", name := "keyOf", desc := "(II)I" } : Jvm.MethodName) ({ cls := "PlainMusic$Voice", name := "keyOf", desc := "(II)I" } : Jvm.MethodName)) ∈ gw := gx_4 (List.mem_of_getElem? (i := 213) rfl) (by decide +kernel)
set_option maxRecDepth 100000 in
theorem gwi_1067 : (Jvm.Cond.code ({ cls := "PlainMusic$Voice", name := "keyOf", desc := "(II)I" } : Jvm.MethodName) prog_12_method_14_code (4 : Nat) (Option.some Jvm.ClassFile.FieldType.int)) ∈ gw := gx_4 (List.mem_of_getElem? (i := 214) rfl) (by decide +kernel)
set_option maxRecDepth 100000 in
theorem gwi_1068 : (Jvm.Cond.methodLink "PlainMusic" (154 : Nat) ({ cls := "PlainMusic$Voice", name := "stepOf", desc := "(II)I" } : Jvm.MethodName)) ∈ gw := gx_4 (List.mem_of_getElem? (i := 215) rfl) (by decide +kernel)
set_option maxRecDepth 100000 in
theorem gwi_1069 : (Jvm.Cond.instanceMethod ({ cls := "PlainMusic$Voice", name := "stepOf", desc := "(II)I" } : Jvm.MethodName)) ∈ gw := gx_4 (List.mem_of_getElem? (i := 216) rfl) (by decide +kernel)
set_option maxRecDepth 100000 in
theorem gwi_1070 : (Jvm.Cond.selects "PlainMusic$Voice" ({ cls := "PlainMusic$Voice", name := "stepOf", desc := "(II)I" } : Jvm.MethodName) ({ cls := "PlainMusic$Voice", name := "stepOf", desc := "(II)I" } : Jvm.MethodName)) ∈ gw := gx_4 (List.mem_of_getElem? (i := 217) rfl) (by decide +kernel)
set_option maxRecDepth 100000 in
theorem gwi_1071 : (Jvm.Cond.code ({ cls := "PlainMusic$Voice", name := "stepOf", desc := "(II)I" } : Jvm.MethodName) prog_12_method_15_code (4 : Nat) (Option.some Jvm.ClassFile.FieldType.int)) ∈ gw := gx_4 (List.mem_of_getElem? (i := 218) rfl) (by decide +kernel)
set_option maxRecDepth 100000 in
theorem gwi_1072 : (Jvm.Cond.methodLink "PlainMusicLaw" (46 : Nat) ({ cls := "PlainMusic", name := "judge", desc := "()I" } : Jvm.MethodName)) ∈ gw := gx_4 (List.mem_of_getElem? (i := 219) rfl) (by decide +kernel)
set_option maxRecDepth 100000 in
theorem gwi_1073 : (Jvm.Cond.instanceMethod ({ cls := "PlainMusic", name := "judge", desc := "()I" } : Jvm.MethodName)) ∈ gw := gx_4 (List.mem_of_getElem? (i := 220) rfl) (by decide +kernel)
set_option maxRecDepth 100000 in
theorem gwi_1074 : (Jvm.Cond.selects "PlainMusic" ({ cls := "PlainMusic", name := "judge", desc := "()I" } : Jvm.MethodName) ({ cls := "PlainMusic", name := "judge", desc := "()I" } : Jvm.MethodName)) ∈ gw := gx_4 (List.mem_of_getElem? (i := 221) rfl) (by decide +kernel)
set_option maxRecDepth 100000 in
theorem gwi_1075 : (Jvm.Cond.code ({ cls := "PlainMusic", name := "judge", desc := "()I" } : Jvm.MethodName) prog_1_method_11_code (1 : Nat) (Option.some Jvm.ClassFile.FieldType.int)) ∈ gw := gx_4 (List.mem_of_getElem? (i := 222) rfl) (by decide +kernel)
set_option maxRecDepth 100000 in
theorem gwi_1076 : (Jvm.Cond.methodLink "PlainMusic" (157 : Nat) ({ cls := "PlainMusic$Judge", name := "hear", desc := "(LPlainMusic$Score;)I" } : Jvm.MethodName)) ∈ gw := gx_4 (List.mem_of_getElem? (i := 223) rfl) (by decide +kernel)
set_option maxRecDepth 100000 in
theorem gwi_1077 : (Jvm.Cond.instanceMethod ({ cls := "PlainMusic$Judge", name := "hear", desc := "(LPlainMusic$Score;)I" } : Jvm.MethodName)) ∈ gw := gx_4 (List.mem_of_getElem? (i := 224) rfl) (by decide +kernel)
set_option maxRecDepth 100000 in
theorem gwi_1078 : (Jvm.Cond.selects "PlainMusic$Judge" ({ cls := "PlainMusic$Judge", name := "hear", desc := "(LPlainMusic$Score;)I" } : Jvm.MethodName) ({ cls := "PlainMusic$Judge", name := "hear", desc := "(LPlainMusic$Score;)I" } : Jvm.MethodName)) ∈ gw := gx_4 (List.mem_of_getElem? (i := 225) rfl) (by decide +kernel)
set_option maxRecDepth 100000 in
theorem gwi_1079 : (Jvm.Cond.code ({ cls := "PlainMusic$Judge", name := "hear", desc := "(LPlainMusic$Score;)I" } : Jvm.MethodName) prog_3_method_3_code (4 : Nat) (Option.some Jvm.ClassFile.FieldType.int)) ∈ gw := gx_4 (List.mem_of_getElem? (i := 226) rfl) (by decide +kernel)
set_option maxRecDepth 100000 in
theorem gwi_1080 : (Jvm.Cond.methodLink "PlainMusic$Judge" (27 : Nat) ({ cls := "PlainMusic$Score", name := "voiceAt", desc := "(I)LPlainMusic$Voice;" } : Jvm.MethodName)) ∈ gw := gx_4 (List.mem_of_getElem? (i := 227) rfl) (by decide +kernel)
set_option maxRecDepth 100000 in
theorem gwi_1081 : (Jvm.Cond.methodLink "PlainMusic$Judge" (31 : Nat) ({ cls := "PlainMusic$Judge", name := "hearVoice", desc := "(LPlainMusic$Score;LPlainMusic$Voice;I)V" } : Jvm.MethodName)) ∈ gw := gx_4 (List.mem_of_getElem? (i := 228) rfl) (by decide +kernel)
set_option maxRecDepth 100000 in
theorem gwi_1083 : (Jvm.Cond.instanceMethod ({ cls := "PlainMusic$Judge", name := "hearVoice", desc := "(LPlainMusic$Score;LPlainMusic$Voice;I)V" } : Jvm.MethodName)) ∈ gw := gx_4 (List.mem_of_getElem? (i := 230) rfl) (by decide +kernel)
set_option maxRecDepth 100000 in
theorem gwi_1084 : (Jvm.Cond.code ({ cls := "PlainMusic$Judge", name := "hearVoice", desc := "(LPlainMusic$Score;LPlainMusic$Voice;I)V" } : Jvm.MethodName) prog_3_method_6_code (6 : Nat) (Option.none : Option Jvm.ClassFile.FieldType)) ∈ gw := gx_4 (List.mem_of_getElem? (i := 231) rfl) (by decide +kernel)
set_option maxRecDepth 100000 in
theorem gwi_1085 : (Jvm.Cond.methodLink "PlainMusic$Judge" (46 : Nat) ({ cls := "PlainMusic$Judge", name := "isWhole", desc := "(LPlainMusic$Score;LPlainMusic$Voice;I)Z" } : Jvm.MethodName)) ∈ gw := gx_4 (List.mem_of_getElem? (i := 232) rfl) (by decide +kernel)
set_option maxRecDepth 100000 in
theorem gwi_1086 : (Jvm.Cond.static ({ cls := "PlainMusic$Judge", name := "isWhole", desc := "(LPlainMusic$Score;LPlainMusic$Voice;I)Z" } : Jvm.MethodName)) ∈ gw := gx_4 (List.mem_of_getElem? (i := 233) rfl) (by decide +kernel)
set_option maxRecDepth 100000 in
theorem gwi_1087 : (Jvm.Cond.code ({ cls := "PlainMusic$Judge", name := "isWhole", desc := "(LPlainMusic$Score;LPlainMusic$Voice;I)Z" } : Jvm.MethodName) prog_3_method_7_code (4 : Nat) (Option.some Jvm.ClassFile.FieldType.boolean)) ∈ gw := gx_4 (List.mem_of_getElem? (i := 234) rfl) (by decide +kernel)
set_option maxRecDepth 100000 in
theorem gwi_1088 : (Jvm.Cond.methodLink "PlainMusic$Judge" (71 : Nat) ({ cls := "PlainMusic$Voice", name := "compareBar", desc := "(III)I" } : Jvm.MethodName)) ∈ gw := gx_4 (List.mem_of_getElem? (i := 235) rfl) (by decide +kernel)
set_option maxRecDepth 100000 in
theorem gwi_1089 : (Jvm.Cond.instanceMethod ({ cls := "PlainMusic$Voice", name := "compareBar", desc := "(III)I" } : Jvm.MethodName)) ∈ gw := gx_4 (List.mem_of_getElem? (i := 236) rfl) (by decide +kernel)
set_option maxRecDepth 100000 in
theorem gwi_1090 : (Jvm.Cond.selects "PlainMusic$Voice" ({ cls := "PlainMusic$Voice", name := "compareBar", desc := "(III)I" } : Jvm.MethodName) ({ cls := "PlainMusic$Voice", name := "compareBar", desc := "(III)I" } : Jvm.MethodName)) ∈ gw := gx_4 (List.mem_of_getElem? (i := 237) rfl) (by decide +kernel)
set_option maxRecDepth 100000 in
theorem gwi_1091 : (Jvm.Cond.code ({ cls := "PlainMusic$Voice", name := "compareBar", desc := "(III)I" } : Jvm.MethodName) prog_12_method_26_code (5 : Nat) (Option.some Jvm.ClassFile.FieldType.int)) ∈ gw := gx_4 (List.mem_of_getElem? (i := 238) rfl) (by decide +kernel)
set_option maxRecDepth 100000 in
theorem gwi_1092 : (Jvm.Cond.methodLink "PlainMusic$Voice" (115 : Nat) ({ cls := "PlainMusic$Voice", name := "sinceBarTop", desc := "(II)J" } : Jvm.MethodName)) ∈ gw := gx_4 (List.mem_of_getElem? (i := 239) rfl) (by decide +kernel)
theorem gwi_1093 : (Jvm.Cond.instanceMethod ({ cls := "PlainMusic$Voice", name := "sinceBarTop", desc := "(II)J" } : Jvm.MethodName)) ∈ gw := gx_5 (List.mem_of_getElem? (i := 0) rfl) (by decide +kernel)
theorem gwi_1094 : (Jvm.Cond.selects "PlainMusic$Voice" ({ cls := "PlainMusic$Voice", name := "sinceBarTop", desc := "(II)J" } : Jvm.MethodName) ({ cls := "PlainMusic$Voice", name := "sinceBarTop", desc := "(II)J" } : Jvm.MethodName)) ∈ gw := gx_5 (List.mem_of_getElem? (i := 1) rfl) (by decide +kernel)
theorem gwi_1095 : (Jvm.Cond.code ({ cls := "PlainMusic$Voice", name := "sinceBarTop", desc := "(II)J" } : Jvm.MethodName) prog_12_method_24_code (4 : Nat) (Option.some Jvm.ClassFile.FieldType.long)) ∈ gw := gx_5 (List.mem_of_getElem? (i := 2) rfl) (by decide +kernel)
theorem gwi_1096 : (Jvm.Cond.methodLink "PlainMusic$Voice" (119 : Nat) ({ cls := "PlainMusic$Voice", name := "sinceBarBottom", desc := "(II)J" } : Jvm.MethodName)) ∈ gw := gx_5 (List.mem_of_getElem? (i := 3) rfl) (by decide +kernel)
theorem gwi_1097 : (Jvm.Cond.instanceMethod ({ cls := "PlainMusic$Voice", name := "sinceBarBottom", desc := "(II)J" } : Jvm.MethodName)) ∈ gw := gx_5 (List.mem_of_getElem? (i := 4) rfl) (by decide +kernel)
theorem gwi_1098 : (Jvm.Cond.selects "PlainMusic$Voice" ({ cls := "PlainMusic$Voice", name := "sinceBarBottom", desc := "(II)J" } : Jvm.MethodName) ({ cls := "PlainMusic$Voice", name := "sinceBarBottom", desc := "(II)J" } : Jvm.MethodName)) ∈ gw := gx_5 (List.mem_of_getElem? (i := 5) rfl) (by decide +kernel)
theorem gwi_1099 : (Jvm.Cond.code ({ cls := "PlainMusic$Voice", name := "sinceBarBottom", desc := "(II)J" } : Jvm.MethodName) prog_12_method_25_code (3 : Nat) (Option.some Jvm.ClassFile.FieldType.long)) ∈ gw := gx_5 (List.mem_of_getElem? (i := 6) rfl) (by decide +kernel)
theorem gwi_1100 : (Jvm.Cond.methodLink "PlainMusic$Voice" (122 : Nat) ({ cls := "java/lang/Long", name := "compare", desc := "(JJ)I" } : Jvm.MethodName)) ∈ gw := gx_5 (List.mem_of_getElem? (i := 7) rfl) (by decide +kernel)
theorem gwi_1101 : (Jvm.Cond.static ({ cls := "java/lang/Long", name := "compare", desc := "(JJ)I" } : Jvm.MethodName)) ∈ gw := gx_5 (List.mem_of_getElem? (i := 8) rfl) (by decide +kernel)
theorem gwi_1102 : (Jvm.Cond.code ({ cls := "java/lang/Long", name := "compare", desc := "(JJ)I" } : Jvm.MethodName) prog_17_method_42_code (4 : Nat) (Option.some Jvm.ClassFile.FieldType.int)) ∈ gw := gx_5 (List.mem_of_getElem? (i := 9) rfl) (by decide +kernel)
theorem gwi_1103 : (Jvm.Cond.methodLink "PlainMusic$Judge" (50 : Nat) ({ cls := "PlainMusic$Judge", name := "add", desc := "(IIII)V" } : Jvm.MethodName)) ∈ gw := gx_5 (List.mem_of_getElem? (i := 10) rfl) (by decide +kernel)
theorem gwi_1105 : (Jvm.Cond.instanceMethod ({ cls := "PlainMusic$Judge", name := "add", desc := "(IIII)V" } : Jvm.MethodName)) ∈ gw := gx_5 (List.mem_of_getElem? (i := 12) rfl) (by decide +kernel)
theorem gwi_1106 : (Jvm.Cond.code ({ cls := "PlainMusic$Judge", name := "add", desc := "(IIII)V" } : Jvm.MethodName) prog_3_method_5_code (5 : Nat) (Option.none : Option Jvm.ClassFile.FieldType)) ∈ gw := gx_5 (List.mem_of_getElem? (i := 13) rfl) (by decide +kernel)
theorem gwi_1107 : (Jvm.Cond.methodLink "PlainMusic$Judge" (54 : Nat) ({ cls := "PlainMusic$Judge", name := "hearAlone", desc := "(LPlainMusic$Voice;II)V" } : Jvm.MethodName)) ∈ gw := gx_5 (List.mem_of_getElem? (i := 14) rfl) (by decide +kernel)
theorem gwi_1109 : (Jvm.Cond.instanceMethod ({ cls := "PlainMusic$Judge", name := "hearAlone", desc := "(LPlainMusic$Voice;II)V" } : Jvm.MethodName)) ∈ gw := gx_5 (List.mem_of_getElem? (i := 16) rfl) (by decide +kernel)
theorem gwi_1110 : (Jvm.Cond.code ({ cls := "PlainMusic$Judge", name := "hearAlone", desc := "(LPlainMusic$Voice;II)V" } : Jvm.MethodName) prog_3_method_8_code (4 : Nat) (Option.none : Option Jvm.ClassFile.FieldType)) ∈ gw := gx_5 (List.mem_of_getElem? (i := 17) rfl) (by decide +kernel)
theorem gwi_1111 : (Jvm.Cond.methodLink "PlainMusic$Judge" (75 : Nat) ({ cls := "PlainMusic$Voice", name := "isTied", desc := "(I)Z" } : Jvm.MethodName)) ∈ gw := gx_5 (List.mem_of_getElem? (i := 18) rfl) (by decide +kernel)
theorem gwi_1112 : (Jvm.Cond.methodLink "PlainMusic$Judge" (79 : Nat) ({ cls := "PlainMusic$Judge", name := "isHeld", desc := "(LPlainMusic$Voice;I)Z" } : Jvm.MethodName)) ∈ gw := gx_5 (List.mem_of_getElem? (i := 19) rfl) (by decide +kernel)
theorem gwi_1113 : (Jvm.Cond.static ({ cls := "PlainMusic$Judge", name := "isHeld", desc := "(LPlainMusic$Voice;I)Z" } : Jvm.MethodName)) ∈ gw := gx_5 (List.mem_of_getElem? (i := 20) rfl) (by decide +kernel)
theorem gwi_1114 : (Jvm.Cond.code ({ cls := "PlainMusic$Judge", name := "isHeld", desc := "(LPlainMusic$Voice;I)Z" } : Jvm.MethodName) prog_3_method_9_code (3 : Nat) (Option.some Jvm.ClassFile.FieldType.boolean)) ∈ gw := gx_5 (List.mem_of_getElem? (i := 21) rfl) (by decide +kernel)
theorem gwi_1115 : (Jvm.Cond.methodLink "PlainMusic$Judge" (95 : Nat) ({ cls := "PlainMusic$Voice", name := "pitchesOf", desc := "(I)I" } : Jvm.MethodName)) ∈ gw := gx_5 (List.mem_of_getElem? (i := 22) rfl) (by decide +kernel)
theorem gwi_1116 : (Jvm.Cond.methodLink "PlainMusic$Judge" (98 : Nat) ({ cls := "PlainMusic$Voice", name := "keyOf", desc := "(II)I" } : Jvm.MethodName)) ∈ gw := gx_5 (List.mem_of_getElem? (i := 23) rfl) (by decide +kernel)
theorem gwi_1117 : (Jvm.Cond.methodLink "PlainMusic$Judge" (102 : Nat) ({ cls := "PlainMusic$Voice", name := "hasKey", desc := "(II)Z" } : Jvm.MethodName)) ∈ gw := gx_5 (List.mem_of_getElem? (i := 24) rfl) (by decide +kernel)
theorem gwi_1118 : (Jvm.Cond.instanceMethod ({ cls := "PlainMusic$Voice", name := "hasKey", desc := "(II)Z" } : Jvm.MethodName)) ∈ gw := gx_5 (List.mem_of_getElem? (i := 25) rfl) (by decide +kernel)
theorem gwi_1119 : (Jvm.Cond.selects "PlainMusic$Voice" ({ cls := "PlainMusic$Voice", name := "hasKey", desc := "(II)Z" } : Jvm.MethodName) ({ cls := "PlainMusic$Voice", name := "hasKey", desc := "(II)Z" } : Jvm.MethodName)) ∈ gw := gx_5 (List.mem_of_getElem? (i := 26) rfl) (by decide +kernel)
theorem gwi_1120 : (Jvm.Cond.code ({ cls := "PlainMusic$Voice", name := "hasKey", desc := "(II)Z" } : Jvm.MethodName) prog_12_method_18_code (4 : Nat) (Option.some Jvm.ClassFile.FieldType.boolean)) ∈ gw := gx_5 (List.mem_of_getElem? (i := 27) rfl) (by decide +kernel)
theorem gwi_1121 : (Jvm.Cond.methodLink "PlainMusic$Voice" (91 : Nat) ({ cls := "PlainMusic$Voice", name := "keyOf", desc := "(II)I" } : Jvm.MethodName)) ∈ gw := gx_5 (List.mem_of_getElem? (i := 28) rfl) (by decide +kernel)
theorem gwi_1122 : (Jvm.Cond.methodLink "PlainMusic$Judge" (83 : Nat) ({ cls := "PlainMusic$Voice", name := "isRest", desc := "(I)Z" } : Jvm.MethodName)) ∈ gw := gx_5 (List.mem_of_getElem? (i := 29) rfl) (by decide +kernel)
theorem gwi_1123 : (Jvm.Cond.instanceMethod ({ cls := "PlainMusic$Voice", name := "isRest", desc := "(I)Z" } : Jvm.MethodName)) ∈ gw := gx_5 (List.mem_of_getElem? (i := 30) rfl) (by decide +kernel)
theorem gwi_1124 : (Jvm.Cond.selects "PlainMusic$Voice" ({ cls := "PlainMusic$Voice", name := "isRest", desc := "(I)Z" } : Jvm.MethodName) ({ cls := "PlainMusic$Voice", name := "isRest", desc := "(I)Z" } : Jvm.MethodName)) ∈ gw := gx_5 (List.mem_of_getElem? (i := 31) rfl) (by decide +kernel)
theorem gwi_1125 : (Jvm.Cond.code ({ cls := "PlainMusic$Voice", name := "isRest", desc := "(I)Z" } : Jvm.MethodName) prog_12_method_13_code (2 : Nat) (Option.some Jvm.ClassFile.FieldType.boolean)) ∈ gw := gx_5 (List.mem_of_getElem? (i := 32) rfl) (by decide +kernel)
theorem gwi_1126 : (Jvm.Cond.methodLink "PlainMusic$Judge" (86 : Nat) ({ cls := "PlainMusic$Voice", name := "lowestKey", desc := "(I)I" } : Jvm.MethodName)) ∈ gw := gx_5 (List.mem_of_getElem? (i := 33) rfl) (by decide +kernel)
theorem gwi_1127 : (Jvm.Cond.instanceMethod ({ cls := "PlainMusic$Voice", name := "lowestKey", desc := "(I)I" } : Jvm.MethodName)) ∈ gw := gx_5 (List.mem_of_getElem? (i := 34) rfl) (by decide +kernel)
theorem gwi_1128 : (Jvm.Cond.selects "PlainMusic$Voice" ({ cls := "PlainMusic$Voice", name := "lowestKey", desc := "(I)I" } : Jvm.MethodName) ({ cls := "PlainMusic$Voice", name := "lowestKey", desc := "(I)I" } : Jvm.MethodName)) ∈ gw := gx_5 (List.mem_of_getElem? (i := 35) rfl) (by decide +kernel)
theorem gwi_1129 : (Jvm.Cond.code ({ cls := "PlainMusic$Voice", name := "lowestKey", desc := "(I)I" } : Jvm.MethodName) prog_12_method_16_code (2 : Nat) (Option.some Jvm.ClassFile.FieldType.int)) ∈ gw := gx_5 (List.mem_of_getElem? (i := 36) rfl) (by decide +kernel)
theorem gwi_1130 : (Jvm.Cond.methodLink "PlainMusic$Judge" (90 : Nat) ({ cls := "java/lang/Math", name := "abs", desc := "(I)I" } : Jvm.MethodName)) ∈ gw := gx_5 (List.mem_of_getElem? (i := 37) rfl) (by decide +kernel)
theorem gwi_1131 : (Jvm.Cond.static ({ cls := "java/lang/Math", name := "abs", desc := "(I)I" } : Jvm.MethodName)) ∈ gw := gx_5 (List.mem_of_getElem? (i := 38) rfl) (by decide +kernel)
theorem gwi_1132 : (Jvm.Cond.code ({ cls := "java/lang/Math", name := "abs", desc := "(I)I" } : Jvm.MethodName) prog_18_method_59_code (1 : Nat) (Option.some Jvm.ClassFile.FieldType.int)) ∈ gw := gx_5 (List.mem_of_getElem? (i := 39) rfl) (by decide +kernel)
theorem gwi_1133 : (Jvm.Cond.methodLink "PlainMusic$Judge" (58 : Nat) ({ cls := "PlainMusic$Judge", name := "hearCrossings", desc := "(LPlainMusic$Score;LPlainMusic$Voice;II)V" } : Jvm.MethodName)) ∈ gw := gx_5 (List.mem_of_getElem? (i := 40) rfl) (by decide +kernel)
set_option maxRecDepth 100000 in
theorem gwi_1135 : (Jvm.Cond.instanceMethod ({ cls := "PlainMusic$Judge", name := "hearCrossings", desc := "(LPlainMusic$Score;LPlainMusic$Voice;II)V" } : Jvm.MethodName)) ∈ gw := gx_5 (List.mem_of_getElem? (i := 42) rfl) (by decide +kernel)
set_option maxRecDepth 100000 in
theorem gwi_1136 : (Jvm.Cond.code ({ cls := "PlainMusic$Judge", name := "hearCrossings", desc := "(LPlainMusic$Score;LPlainMusic$Voice;II)V" } : Jvm.MethodName) prog_3_method_10_code (7 : Nat) (Option.none : Option Jvm.ClassFile.FieldType)) ∈ gw := gx_5 (List.mem_of_getElem? (i := 43) rfl) (by decide +kernel)
set_option maxRecDepth 100000 in
theorem gwi_1137 : (Jvm.Cond.methodLink "PlainMusic$Judge" (106 : Nat) ({ cls := "PlainMusic$Judge", name := "firstNotEnded", desc := "(LPlainMusic$Voice;ILPlainMusic$Voice;I)I" } : Jvm.MethodName)) ∈ gw := gx_5 (List.mem_of_getElem? (i := 44) rfl) (by decide +kernel)
set_option maxRecDepth 100000 in
theorem gwi_1138 : (Jvm.Cond.static ({ cls := "PlainMusic$Judge", name := "firstNotEnded", desc := "(LPlainMusic$Voice;ILPlainMusic$Voice;I)I" } : Jvm.MethodName)) ∈ gw := gx_5 (List.mem_of_getElem? (i := 45) rfl) (by decide +kernel)
set_option maxRecDepth 100000 in
theorem gwi_1139 : (Jvm.Cond.code ({ cls := "PlainMusic$Judge", name := "firstNotEnded", desc := "(LPlainMusic$Voice;ILPlainMusic$Voice;I)I" } : Jvm.MethodName) prog_3_method_11_code (5 : Nat) (Option.some Jvm.ClassFile.FieldType.int)) ∈ gw := gx_5 (List.mem_of_getElem? (i := 46) rfl) (by decide +kernel)
set_option maxRecDepth 100000 in
theorem gwi_1140 : (Jvm.Cond.methodLink "PlainMusic$Judge" (114 : Nat) ({ cls := "PlainMusic$Judge", name := "compareStarts", desc := "(LPlainMusic$Voice;ILPlainMusic$Voice;I)I" } : Jvm.MethodName)) ∈ gw := gx_5 (List.mem_of_getElem? (i := 47) rfl) (by decide +kernel)
set_option maxRecDepth 100000 in
theorem gwi_1141 : (Jvm.Cond.static ({ cls := "PlainMusic$Judge", name := "compareStarts", desc := "(LPlainMusic$Voice;ILPlainMusic$Voice;I)I" } : Jvm.MethodName)) ∈ gw := gx_5 (List.mem_of_getElem? (i := 48) rfl) (by decide +kernel)
set_option maxRecDepth 100000 in
theorem gwi_1142 : (Jvm.Cond.code ({ cls := "PlainMusic$Judge", name := "compareStarts", desc := "(LPlainMusic$Voice;ILPlainMusic$Voice;I)I" } : Jvm.MethodName) prog_3_method_13_code (4 : Nat) (Option.some Jvm.ClassFile.FieldType.int)) ∈ gw := gx_5 (List.mem_of_getElem? (i := 49) rfl) (by decide +kernel)
set_option maxRecDepth 100000 in
theorem gwi_1143 : (Jvm.Cond.methodLink "PlainMusic$Judge" (127 : Nat) ({ cls := "java/lang/Long", name := "compare", desc := "(JJ)I" } : Jvm.MethodName)) ∈ gw := gx_5 (List.mem_of_getElem? (i := 50) rfl) (by decide +kernel)
set_option maxRecDepth 100000 in
theorem gwi_1144 : (Jvm.Cond.methodLink "PlainMusic$Judge" (110 : Nat) ({ cls := "PlainMusic$Judge", name := "isCrossed", desc := "(LPlainMusic$Voice;ILPlainMusic$Voice;I)Z" } : Jvm.MethodName)) ∈ gw := gx_5 (List.mem_of_getElem? (i := 51) rfl) (by decide +kernel)
set_option maxRecDepth 100000 in
theorem gwi_1145 : (Jvm.Cond.static ({ cls := "PlainMusic$Judge", name := "isCrossed", desc := "(LPlainMusic$Voice;ILPlainMusic$Voice;I)Z" } : Jvm.MethodName)) ∈ gw := gx_5 (List.mem_of_getElem? (i := 52) rfl) (by decide +kernel)
set_option maxRecDepth 100000 in
theorem gwi_1146 : (Jvm.Cond.code ({ cls := "PlainMusic$Judge", name := "isCrossed", desc := "(LPlainMusic$Voice;ILPlainMusic$Voice;I)Z" } : Jvm.MethodName) prog_3_method_12_code (5 : Nat) (Option.some Jvm.ClassFile.FieldType.boolean)) ∈ gw := gx_5 (List.mem_of_getElem? (i := 53) rfl) (by decide +kernel)
set_option maxRecDepth 100000 in
theorem gwi_1147 : (Jvm.Cond.methodLink "PlainMusic$Judge" (117 : Nat) ({ cls := "PlainMusic$Voice", name := "highestKey", desc := "(I)I" } : Jvm.MethodName)) ∈ gw := gx_5 (List.mem_of_getElem? (i := 54) rfl) (by decide +kernel)
set_option maxRecDepth 100000 in
theorem gwi_1148 : (Jvm.Cond.instanceMethod ({ cls := "PlainMusic$Voice", name := "highestKey", desc := "(I)I" } : Jvm.MethodName)) ∈ gw := gx_5 (List.mem_of_getElem? (i := 55) rfl) (by decide +kernel)
set_option maxRecDepth 100000 in
theorem gwi_1149 : (Jvm.Cond.selects "PlainMusic$Voice" ({ cls := "PlainMusic$Voice", name := "highestKey", desc := "(I)I" } : Jvm.MethodName) ({ cls := "PlainMusic$Voice", name := "highestKey", desc := "(I)I" } : Jvm.MethodName)) ∈ gw := gx_5 (List.mem_of_getElem? (i := 56) rfl) (by decide +kernel)
set_option maxRecDepth 100000 in
theorem gwi_1150 : (Jvm.Cond.code ({ cls := "PlainMusic$Voice", name := "highestKey", desc := "(I)I" } : Jvm.MethodName) prog_12_method_17_code (2 : Nat) (Option.some Jvm.ClassFile.FieldType.int)) ∈ gw := gx_5 (List.mem_of_getElem? (i := 57) rfl) (by decide +kernel)
set_option maxRecDepth 100000 in
theorem gwi_1151 : (Jvm.Cond.methodLink "PlainMusic$Judge" (62 : Nat) ({ cls := "PlainMusic$Judge", name := "hearParallels", desc := "(LPlainMusic$Score;LPlainMusic$Voice;II)V" } : Jvm.MethodName)) ∈ gw := gx_5 (List.mem_of_getElem? (i := 58) rfl) (by decide +kernel)
set_option maxRecDepth 100000 in
theorem gwi_1153 : (Jvm.Cond.instanceMethod ({ cls := "PlainMusic$Judge", name := "hearParallels", desc := "(LPlainMusic$Score;LPlainMusic$Voice;II)V" } : Jvm.MethodName)) ∈ gw := gx_5 (List.mem_of_getElem? (i := 60) rfl) (by decide +kernel)
set_option maxRecDepth 100000 in
theorem gwi_1154 : (Jvm.Cond.code ({ cls := "PlainMusic$Judge", name := "hearParallels", desc := "(LPlainMusic$Score;LPlainMusic$Voice;II)V" } : Jvm.MethodName) prog_3_method_14_code (7 : Nat) (Option.none : Option Jvm.ClassFile.FieldType)) ∈ gw := gx_5 (List.mem_of_getElem? (i := 61) rfl) (by decide +kernel)
set_option maxRecDepth 100000 in
theorem gwi_1155 : (Jvm.Cond.methodLink "PlainMusic$Judge" (133 : Nat) ({ cls := "PlainMusic$Judge", name := "isParallel", desc := "(LPlainMusic$Voice;ILPlainMusic$Voice;I)Z" } : Jvm.MethodName)) ∈ gw := gx_5 (List.mem_of_getElem? (i := 62) rfl) (by decide +kernel)
set_option maxRecDepth 100000 in
theorem gwi_1156 : (Jvm.Cond.static ({ cls := "PlainMusic$Judge", name := "isParallel", desc := "(LPlainMusic$Voice;ILPlainMusic$Voice;I)Z" } : Jvm.MethodName)) ∈ gw := gx_5 (List.mem_of_getElem? (i := 63) rfl) (by decide +kernel)
set_option maxRecDepth 100000 in
theorem gwi_1157 : (Jvm.Cond.code ({ cls := "PlainMusic$Judge", name := "isParallel", desc := "(LPlainMusic$Voice;ILPlainMusic$Voice;I)Z" } : Jvm.MethodName) prog_3_method_15_code (6 : Nat) (Option.some Jvm.ClassFile.FieldType.boolean)) ∈ gw := gx_5 (List.mem_of_getElem? (i := 64) rfl) (by decide +kernel)
set_option maxRecDepth 100000 in
theorem gwi_1158 : (Jvm.Cond.methodLink "PlainMusic$Judge" (136 : Nat) ({ cls := "java/lang/Math", name := "floorMod", desc := "(II)I" } : Jvm.MethodName)) ∈ gw := gx_5 (List.mem_of_getElem? (i := 65) rfl) (by decide +kernel)
set_option maxRecDepth 100000 in
theorem gwi_1159 : (Jvm.Cond.methodLink "PlainMusicLaw" (50 : Nat) ({ cls := "PlainMusic", name := "fault", desc := "(II)I" } : Jvm.MethodName)) ∈ gw := gx_5 (List.mem_of_getElem? (i := 66) rfl) (by decide +kernel)
set_option maxRecDepth 100000 in
theorem gwi_1160 : (Jvm.Cond.instanceMethod ({ cls := "PlainMusic", name := "fault", desc := "(II)I" } : Jvm.MethodName)) ∈ gw := gx_5 (List.mem_of_getElem? (i := 67) rfl) (by decide +kernel)
set_option maxRecDepth 100000 in
theorem gwi_1161 : (Jvm.Cond.selects "PlainMusic" ({ cls := "PlainMusic", name := "fault", desc := "(II)I" } : Jvm.MethodName) ({ cls := "PlainMusic", name := "fault", desc := "(II)I" } : Jvm.MethodName)) ∈ gw := gx_5 (List.mem_of_getElem? (i := 68) rfl) (by decide +kernel)
set_option maxRecDepth 100000 in
theorem gwi_1162 : (Jvm.Cond.code ({ cls := "PlainMusic", name := "fault", desc := "(II)I" } : Jvm.MethodName) prog_1_method_12_code (3 : Nat) (Option.some Jvm.ClassFile.FieldType.int)) ∈ gw := gx_5 (List.mem_of_getElem? (i := 69) rfl) (by decide +kernel)
set_option maxRecDepth 100000 in
theorem gwi_1163 : (Jvm.Cond.methodLink "PlainMusic" (161 : Nat) ({ cls := "PlainMusic$Judge", name := "detailOf", desc := "(II)I" } : Jvm.MethodName)) ∈ gw := gx_5 (List.mem_of_getElem? (i := 70) rfl) (by decide +kernel)
set_option maxRecDepth 100000 in
theorem gwi_1164 : (Jvm.Cond.instanceMethod ({ cls := "PlainMusic$Judge", name := "detailOf", desc := "(II)I" } : Jvm.MethodName)) ∈ gw := gx_5 (List.mem_of_getElem? (i := 71) rfl) (by decide +kernel)
set_option maxRecDepth 100000 in
theorem gwi_1165 : (Jvm.Cond.selects "PlainMusic$Judge" ({ cls := "PlainMusic$Judge", name := "detailOf", desc := "(II)I" } : Jvm.MethodName) ({ cls := "PlainMusic$Judge", name := "detailOf", desc := "(II)I" } : Jvm.MethodName)) ∈ gw := gx_5 (List.mem_of_getElem? (i := 72) rfl) (by decide +kernel)
set_option maxRecDepth 100000 in
theorem gwi_1166 : (Jvm.Cond.code ({ cls := "PlainMusic$Judge", name := "detailOf", desc := "(II)I" } : Jvm.MethodName) prog_3_method_4_code (4 : Nat) (Option.some Jvm.ClassFile.FieldType.int)) ∈ gw := gx_5 (List.mem_of_getElem? (i := 73) rfl) (by decide +kernel)
set_option maxRecDepth 100000 in
theorem gwi_1167 : (Jvm.Cond.methodLink "PlainMusicLaw" (54 : Nat) ({ cls := "PlainMusic", name := "beam", desc := "(II)I" } : Jvm.MethodName)) ∈ gw := gx_5 (List.mem_of_getElem? (i := 74) rfl) (by decide +kernel)
set_option maxRecDepth 100000 in
theorem gwi_1168 : (Jvm.Cond.instanceMethod ({ cls := "PlainMusic", name := "beam", desc := "(II)I" } : Jvm.MethodName)) ∈ gw := gx_5 (List.mem_of_getElem? (i := 75) rfl) (by decide +kernel)
set_option maxRecDepth 100000 in
theorem gwi_1169 : (Jvm.Cond.selects "PlainMusic" ({ cls := "PlainMusic", name := "beam", desc := "(II)I" } : Jvm.MethodName) ({ cls := "PlainMusic", name := "beam", desc := "(II)I" } : Jvm.MethodName)) ∈ gw := gx_5 (List.mem_of_getElem? (i := 76) rfl) (by decide +kernel)
set_option maxRecDepth 100000 in
theorem gwi_1170 : (Jvm.Cond.code ({ cls := "PlainMusic", name := "beam", desc := "(II)I" } : Jvm.MethodName) prog_1_method_13_code (4 : Nat) (Option.some Jvm.ClassFile.FieldType.int)) ∈ gw := gx_5 (List.mem_of_getElem? (i := 77) rfl) (by decide +kernel)
set_option maxRecDepth 100000 in
theorem gwi_1171 : (Jvm.Cond.methodLink "PlainMusic" (164 : Nat) ({ cls := "PlainMusic$Beams", name := "find", desc := "(LPlainMusic$Voice;II)I" } : Jvm.MethodName)) ∈ gw := gx_5 (List.mem_of_getElem? (i := 78) rfl) (by decide +kernel)
set_option maxRecDepth 100000 in
theorem gwi_1172 : (Jvm.Cond.instanceMethod ({ cls := "PlainMusic$Beams", name := "find", desc := "(LPlainMusic$Voice;II)I" } : Jvm.MethodName)) ∈ gw := gx_5 (List.mem_of_getElem? (i := 79) rfl) (by decide +kernel)
set_option maxRecDepth 100000 in
theorem gwi_1173 : (Jvm.Cond.selects "PlainMusic$Beams" ({ cls := "PlainMusic$Beams", name := "find", desc := "(LPlainMusic$Voice;II)I" } : Jvm.MethodName) ({ cls := "PlainMusic$Beams", name := "find", desc := "(LPlainMusic$Voice;II)I" } : Jvm.MethodName)) ∈ gw := gx_5 (List.mem_of_getElem? (i := 80) rfl) (by decide +kernel)
set_option maxRecDepth 100000 in
theorem gwi_1174 : (Jvm.Cond.code ({ cls := "PlainMusic$Beams", name := "find", desc := "(LPlainMusic$Voice;II)I" } : Jvm.MethodName) prog_2_method_4_code (9 : Nat) (Option.some Jvm.ClassFile.FieldType.int)) ∈ gw := gx_5 (List.mem_of_getElem? (i := 81) rfl) (by decide +kernel)
set_option maxRecDepth 100000 in
theorem gwi_1175 : (Jvm.Cond.methodLink "PlainMusic$Beams" (30 : Nat) ({ cls := "PlainMusic$Beams", name := "shortOnes", desc := "(LPlainMusic$Voice;II)I" } : Jvm.MethodName)) ∈ gw := gx_5 (List.mem_of_getElem? (i := 82) rfl) (by decide +kernel)
set_option maxRecDepth 100000 in
theorem gwi_1176 : (Jvm.Cond.static ({ cls := "PlainMusic$Beams", name := "shortOnes", desc := "(LPlainMusic$Voice;II)I" } : Jvm.MethodName)) ∈ gw := gx_5 (List.mem_of_getElem? (i := 83) rfl) (by decide +kernel)
set_option maxRecDepth 100000 in
theorem gwi_1177 : (Jvm.Cond.code ({ cls := "PlainMusic$Beams", name := "shortOnes", desc := "(LPlainMusic$Voice;II)I" } : Jvm.MethodName) prog_2_method_5_code (5 : Nat) (Option.some Jvm.ClassFile.FieldType.int)) ∈ gw := gx_5 (List.mem_of_getElem? (i := 84) rfl) (by decide +kernel)
set_option maxRecDepth 100000 in
theorem gwi_1178 : (Jvm.Cond.methodLink "PlainMusic$Beams" (34 : Nat) ({ cls := "PlainMusic$Voice", name := "isShort", desc := "(I)Z" } : Jvm.MethodName)) ∈ gw := gx_5 (List.mem_of_getElem? (i := 85) rfl) (by decide +kernel)
set_option maxRecDepth 100000 in
theorem gwi_1179 : (Jvm.Cond.instanceMethod ({ cls := "PlainMusic$Voice", name := "isShort", desc := "(I)Z" } : Jvm.MethodName)) ∈ gw := gx_5 (List.mem_of_getElem? (i := 86) rfl) (by decide +kernel)
set_option maxRecDepth 100000 in
theorem gwi_1180 : (Jvm.Cond.selects "PlainMusic$Voice" ({ cls := "PlainMusic$Voice", name := "isShort", desc := "(I)Z" } : Jvm.MethodName) ({ cls := "PlainMusic$Voice", name := "isShort", desc := "(I)Z" } : Jvm.MethodName)) ∈ gw := gx_5 (List.mem_of_getElem? (i := 87) rfl) (by decide +kernel)
set_option maxRecDepth 100000 in
theorem gwi_1181 : (Jvm.Cond.code ({ cls := "PlainMusic$Voice", name := "isShort", desc := "(I)Z" } : Jvm.MethodName) prog_12_method_21_code (2 : Nat) (Option.some Jvm.ClassFile.FieldType.boolean)) ∈ gw := gx_5 (List.mem_of_getElem? (i := 88) rfl) (by decide +kernel)
set_option maxRecDepth 100000 in
theorem gwi_1182 : (Jvm.Cond.methodLink "PlainMusic$Voice" (95 : Nat) ({ cls := "PlainMusic$Voice", name := "isRest", desc := "(I)Z" } : Jvm.MethodName)) ∈ gw := gx_5 (List.mem_of_getElem? (i := 89) rfl) (by decide +kernel)
set_option maxRecDepth 100000 in
theorem gwi_1183 : (Jvm.Cond.methodLink "PlainMusic$Beams" (38 : Nat) ({ cls := "PlainMusic$Beams", name := "cutRun", desc := "(LPlainMusic$Voice;IIII)I" } : Jvm.MethodName)) ∈ gw := gx_5 (List.mem_of_getElem? (i := 90) rfl) (by decide +kernel)
set_option maxRecDepth 100000 in
theorem gwi_1185 : (Jvm.Cond.instanceMethod ({ cls := "PlainMusic$Beams", name := "cutRun", desc := "(LPlainMusic$Voice;IIII)I" } : Jvm.MethodName)) ∈ gw := gx_5 (List.mem_of_getElem? (i := 92) rfl) (by decide +kernel)
set_option maxRecDepth 100000 in
theorem gwi_1186 : (Jvm.Cond.code ({ cls := "PlainMusic$Beams", name := "cutRun", desc := "(LPlainMusic$Voice;IIII)I" } : Jvm.MethodName) prog_2_method_6_code (10 : Nat) (Option.some Jvm.ClassFile.FieldType.int)) ∈ gw := gx_5 (List.mem_of_getElem? (i := 93) rfl) (by decide +kernel)
set_option maxRecDepth 100000 in
theorem gwi_1187 : (Jvm.Cond.methodLink "PlainMusic$Beams" (42 : Nat) ({ cls := "java/lang/Math", name := "min", desc := "(II)I" } : Jvm.MethodName)) ∈ gw := gx_5 (List.mem_of_getElem? (i := 94) rfl) (by decide +kernel)
set_option maxRecDepth 100000 in
theorem gwi_1188 : (Jvm.Cond.methodLink "PlainMusic$Beams" (48 : Nat) ({ cls := "PlainMusic$Beams", name := "joinCost", desc := "(LPlainMusic$Voice;III)I" } : Jvm.MethodName)) ∈ gw := gx_5 (List.mem_of_getElem? (i := 95) rfl) (by decide +kernel)
set_option maxRecDepth 100000 in
theorem gwi_1189 : (Jvm.Cond.static ({ cls := "PlainMusic$Beams", name := "joinCost", desc := "(LPlainMusic$Voice;III)I" } : Jvm.MethodName)) ∈ gw := gx_5 (List.mem_of_getElem? (i := 96) rfl) (by decide +kernel)
set_option maxRecDepth 100000 in
theorem gwi_1190 : (Jvm.Cond.code ({ cls := "PlainMusic$Beams", name := "joinCost", desc := "(LPlainMusic$Voice;III)I" } : Jvm.MethodName) prog_2_method_7_code (8 : Nat) (Option.some Jvm.ClassFile.FieldType.int)) ∈ gw := gx_5 (List.mem_of_getElem? (i := 97) rfl) (by decide +kernel)
set_option maxRecDepth 100000 in
theorem gwi_1191 : (Jvm.Cond.methodLink "PlainMusic$Beams" (52 : Nat) ({ cls := "PlainMusic$Voice", name := "sinceBarBottom", desc := "(II)J" } : Jvm.MethodName)) ∈ gw := gx_5 (List.mem_of_getElem? (i := 98) rfl) (by decide +kernel)
set_option maxRecDepth 100000 in
theorem gwi_1192 : (Jvm.Cond.methodLink "PlainMusic$Beams" (56 : Nat) ({ cls := "PlainMusic$Voice", name := "sinceBarTop", desc := "(II)J" } : Jvm.MethodName)) ∈ gw := gx_5 (List.mem_of_getElem? (i := 99) rfl) (by decide +kernel)
set_option maxRecDepth 100000 in
theorem gwi_1193 : (Jvm.Cond.methodLink "PlainMusic$Beams" (59 : Nat) ({ cls := "PlainMusic$Voice", name := "numberOf", desc := "(I)I" } : Jvm.MethodName)) ∈ gw := gx_5 (List.mem_of_getElem? (i := 100) rfl) (by decide +kernel)
set_option maxRecDepth 100000 in
theorem gwi_1194 : (Jvm.Cond.methodLink "PlainMusic$Beams" (63 : Nat) ({ cls := "PlainMusic$Voice", name := "stepOf", desc := "(II)I" } : Jvm.MethodName)) ∈ gw := gx_5 (List.mem_of_getElem? (i := 101) rfl) (by decide +kernel)
set_option maxRecDepth 100000 in
theorem gwi_1195 : (Jvm.Cond.methodLink "PlainMusic$Beams" (66 : Nat) ({ cls := "java/lang/Math", name := "abs", desc := "(I)I" } : Jvm.MethodName)) ∈ gw := gx_5 (List.mem_of_getElem? (i := 102) rfl) (by decide +kernel)
set_option maxRecDepth 100000 in
theorem gwi_1196 : (Jvm.Cond.methodLink "PlainMusic$Beams" (69 : Nat) ({ cls := "java/lang/Math", name := "max", desc := "(II)I" } : Jvm.MethodName)) ∈ gw := gx_5 (List.mem_of_getElem? (i := 103) rfl) (by decide +kernel)
set_option maxRecDepth 100000 in
theorem gwi_1197 : (Jvm.Cond.methodLink "PlainMusicLaw" (58 : Nat) ({ cls := "PlainMusic", name := "group", desc := "(I)I" } : Jvm.MethodName)) ∈ gw := gx_5 (List.mem_of_getElem? (i := 104) rfl) (by decide +kernel)
set_option maxRecDepth 100000 in
theorem gwi_1198 : (Jvm.Cond.instanceMethod ({ cls := "PlainMusic", name := "group", desc := "(I)I" } : Jvm.MethodName)) ∈ gw := gx_5 (List.mem_of_getElem? (i := 105) rfl) (by decide +kernel)
set_option maxRecDepth 100000 in
theorem gwi_1199 : (Jvm.Cond.selects "PlainMusic" ({ cls := "PlainMusic", name := "group", desc := "(I)I" } : Jvm.MethodName) ({ cls := "PlainMusic", name := "group", desc := "(I)I" } : Jvm.MethodName)) ∈ gw := gx_5 (List.mem_of_getElem? (i := 106) rfl) (by decide +kernel)
set_option maxRecDepth 100000 in
theorem gwi_1200 : (Jvm.Cond.code ({ cls := "PlainMusic", name := "group", desc := "(I)I" } : Jvm.MethodName) prog_1_method_14_code (2 : Nat) (Option.some Jvm.ClassFile.FieldType.int)) ∈ gw := gx_5 (List.mem_of_getElem? (i := 107) rfl) (by decide +kernel)
set_option maxRecDepth 100000 in
theorem gwi_1201 : (Jvm.Cond.methodLink "PlainMusic" (168 : Nat) ({ cls := "PlainMusic$Beams", name := "eventsIn", desc := "(I)I" } : Jvm.MethodName)) ∈ gw := gx_5 (List.mem_of_getElem? (i := 108) rfl) (by decide +kernel)
set_option maxRecDepth 100000 in
theorem gwi_1202 : (Jvm.Cond.instanceMethod ({ cls := "PlainMusic$Beams", name := "eventsIn", desc := "(I)I" } : Jvm.MethodName)) ∈ gw := gx_5 (List.mem_of_getElem? (i := 109) rfl) (by decide +kernel)
set_option maxRecDepth 100000 in
theorem gwi_1203 : (Jvm.Cond.selects "PlainMusic$Beams" ({ cls := "PlainMusic$Beams", name := "eventsIn", desc := "(I)I" } : Jvm.MethodName) ({ cls := "PlainMusic$Beams", name := "eventsIn", desc := "(I)I" } : Jvm.MethodName)) ∈ gw := gx_5 (List.mem_of_getElem? (i := 110) rfl) (by decide +kernel)
set_option maxRecDepth 100000 in
theorem gwi_1204 : (Jvm.Cond.code ({ cls := "PlainMusic$Beams", name := "eventsIn", desc := "(I)I" } : Jvm.MethodName) prog_2_method_3_code (2 : Nat) (Option.some Jvm.ClassFile.FieldType.int)) ∈ gw := gx_5 (List.mem_of_getElem? (i := 111) rfl) (by decide +kernel)
set_option maxRecDepth 100000 in
theorem gwi_1205 : (Jvm.Cond.methodLink "PlainMusicLaw" (62 : Nat) ({ cls := "PlainMusic", name := "breaks", desc := "(I)I" } : Jvm.MethodName)) ∈ gw := gx_5 (List.mem_of_getElem? (i := 112) rfl) (by decide +kernel)
set_option maxRecDepth 100000 in
theorem gwi_1206 : (Jvm.Cond.instanceMethod ({ cls := "PlainMusic", name := "breaks", desc := "(I)I" } : Jvm.MethodName)) ∈ gw := gx_5 (List.mem_of_getElem? (i := 113) rfl) (by decide +kernel)
set_option maxRecDepth 100000 in
theorem gwi_1207 : (Jvm.Cond.selects "PlainMusic" ({ cls := "PlainMusic", name := "breaks", desc := "(I)I" } : Jvm.MethodName) ({ cls := "PlainMusic", name := "breaks", desc := "(I)I" } : Jvm.MethodName)) ∈ gw := gx_5 (List.mem_of_getElem? (i := 114) rfl) (by decide +kernel)
set_option maxRecDepth 100000 in
theorem gwi_1208 : (Jvm.Cond.code ({ cls := "PlainMusic", name := "breaks", desc := "(I)I" } : Jvm.MethodName) prog_1_method_15_code (2 : Nat) (Option.some Jvm.ClassFile.FieldType.int)) ∈ gw := gx_5 (List.mem_of_getElem? (i := 115) rfl) (by decide +kernel)
set_option maxRecDepth 100000 in
theorem gwi_1209 : (Jvm.Cond.methodLink "PlainMusic" (171 : Nat) ({ cls := "PlainMusic$Page", name := "find", desc := "(LPlainMusic$Score;I)I" } : Jvm.MethodName)) ∈ gw := gx_5 (List.mem_of_getElem? (i := 116) rfl) (by decide +kernel)
set_option maxRecDepth 100000 in
theorem gwi_1210 : (Jvm.Cond.instanceMethod ({ cls := "PlainMusic$Page", name := "find", desc := "(LPlainMusic$Score;I)I" } : Jvm.MethodName)) ∈ gw := gx_5 (List.mem_of_getElem? (i := 117) rfl) (by decide +kernel)
set_option maxRecDepth 100000 in
theorem gwi_1211 : (Jvm.Cond.selects "PlainMusic$Page" ({ cls := "PlainMusic$Page", name := "find", desc := "(LPlainMusic$Score;I)I" } : Jvm.MethodName) ({ cls := "PlainMusic$Page", name := "find", desc := "(LPlainMusic$Score;I)I" } : Jvm.MethodName)) ∈ gw := gx_5 (List.mem_of_getElem? (i := 118) rfl) (by decide +kernel)
set_option maxRecDepth 100000 in
theorem gwi_1212 : (Jvm.Cond.code ({ cls := "PlainMusic$Page", name := "find", desc := "(LPlainMusic$Score;I)I" } : Jvm.MethodName) prog_4_method_4_code (5 : Nat) (Option.some Jvm.ClassFile.FieldType.int)) ∈ gw := gx_5 (List.mem_of_getElem? (i := 119) rfl) (by decide +kernel)
set_option maxRecDepth 100000 in
theorem gwi_1213 : (Jvm.Cond.methodLink "PlainMusic$Page" (38 : Nat) ({ cls := "PlainMusic$Score", name := "mostBars", desc := "()I" } : Jvm.MethodName)) ∈ gw := gx_5 (List.mem_of_getElem? (i := 120) rfl) (by decide +kernel)
set_option maxRecDepth 100000 in
theorem gwi_1214 : (Jvm.Cond.methodLink "PlainMusic$Page" (44 : Nat) ({ cls := "PlainMusic$Page", name := "widthOf", desc := "(LPlainMusic$Score;I)I" } : Jvm.MethodName)) ∈ gw := gx_5 (List.mem_of_getElem? (i := 121) rfl) (by decide +kernel)
set_option maxRecDepth 100000 in
theorem gwi_1215 : (Jvm.Cond.instanceMethod ({ cls := "PlainMusic$Page", name := "widthOf", desc := "(LPlainMusic$Score;I)I" } : Jvm.MethodName)) ∈ gw := gx_5 (List.mem_of_getElem? (i := 122) rfl) (by decide +kernel)
set_option maxRecDepth 100000 in
theorem gwi_1216 : (Jvm.Cond.selects "PlainMusic$Page" ({ cls := "PlainMusic$Page", name := "widthOf", desc := "(LPlainMusic$Score;I)I" } : Jvm.MethodName) ({ cls := "PlainMusic$Page", name := "widthOf", desc := "(LPlainMusic$Score;I)I" } : Jvm.MethodName)) ∈ gw := gx_5 (List.mem_of_getElem? (i := 123) rfl) (by decide +kernel)
set_option maxRecDepth 100000 in
theorem gwi_1217 : (Jvm.Cond.code ({ cls := "PlainMusic$Page", name := "widthOf", desc := "(LPlainMusic$Score;I)I" } : Jvm.MethodName) prog_4_method_7_code (7 : Nat) (Option.some Jvm.ClassFile.FieldType.int)) ∈ gw := gx_5 (List.mem_of_getElem? (i := 124) rfl) (by decide +kernel)
set_option maxRecDepth 100000 in
theorem gwi_1218 : (Jvm.Cond.methodLink "PlainMusic$Page" (61 : Nat) ({ cls := "PlainMusic$Score", name := "voiceAt", desc := "(I)LPlainMusic$Voice;" } : Jvm.MethodName)) ∈ gw := gx_5 (List.mem_of_getElem? (i := 125) rfl) (by decide +kernel)
set_option maxRecDepth 100000 in
theorem gwi_1219 : (Jvm.Cond.methodLink "PlainMusic$Page" (73 : Nat) ({ cls := "PlainMusic$Voice", name := "signsOf", desc := "(I)I" } : Jvm.MethodName)) ∈ gw := gx_5 (List.mem_of_getElem? (i := 126) rfl) (by decide +kernel)
set_option maxRecDepth 100000 in
theorem gwi_1220 : (Jvm.Cond.instanceMethod ({ cls := "PlainMusic$Voice", name := "signsOf", desc := "(I)I" } : Jvm.MethodName)) ∈ gw := gx_5 (List.mem_of_getElem? (i := 127) rfl) (by decide +kernel)
set_option maxRecDepth 100000 in
theorem gwi_1221 : (Jvm.Cond.selects "PlainMusic$Voice" ({ cls := "PlainMusic$Voice", name := "signsOf", desc := "(I)I" } : Jvm.MethodName) ({ cls := "PlainMusic$Voice", name := "signsOf", desc := "(I)I" } : Jvm.MethodName)) ∈ gw := gx_5 (List.mem_of_getElem? (i := 128) rfl) (by decide +kernel)
set_option maxRecDepth 100000 in
theorem gwi_1222 : (Jvm.Cond.code ({ cls := "PlainMusic$Voice", name := "signsOf", desc := "(I)I" } : Jvm.MethodName) prog_12_method_22_code (6 : Nat) (Option.some Jvm.ClassFile.FieldType.int)) ∈ gw := gx_5 (List.mem_of_getElem? (i := 129) rfl) (by decide +kernel)
set_option maxRecDepth 100000 in
theorem gwi_1223 : (Jvm.Cond.methodLink "PlainMusic$Voice" (98 : Nat) ({ cls := "PlainMusic$Voice", name := "stepOf", desc := "(II)I" } : Jvm.MethodName)) ∈ gw := gx_5 (List.mem_of_getElem? (i := 130) rfl) (by decide +kernel)
set_option maxRecDepth 100000 in
theorem gwi_1224 : (Jvm.Cond.methodLink "PlainMusic$Voice" (101 : Nat) ({ cls := "java/lang/Math", name := "floorDiv", desc := "(II)I" } : Jvm.MethodName)) ∈ gw := gx_5 (List.mem_of_getElem? (i := 131) rfl) (by decide +kernel)
set_option maxRecDepth 100000 in
theorem gwi_1225 : (Jvm.Cond.static ({ cls := "java/lang/Math", name := "floorDiv", desc := "(II)I" } : Jvm.MethodName)) ∈ gw := gx_5 (List.mem_of_getElem? (i := 132) rfl) (by decide +kernel)
set_option maxRecDepth 100000 in
theorem gwi_1226 : (Jvm.Cond.code ({ cls := "java/lang/Math", name := "floorDiv", desc := "(II)I" } : Jvm.MethodName) prog_18_method_47_code (3 : Nat) (Option.some Jvm.ClassFile.FieldType.int)) ∈ gw := gx_5 (List.mem_of_getElem? (i := 133) rfl) (by decide +kernel)
set_option maxRecDepth 100000 in
theorem gwi_1228 : (Jvm.Cond.methodLink "PlainMusic$Voice" (109 : Nat) ({ cls := "java/lang/Math", name := "floorMod", desc := "(II)I" } : Jvm.MethodName)) ∈ gw := gx_5 (List.mem_of_getElem? (i := 135) rfl) (by decide +kernel)
set_option maxRecDepth 100000 in
theorem gwi_1229 : (Jvm.Cond.methodLink "PlainMusic$Voice" (112 : Nat) ({ cls := "java/lang/Math", name := "abs", desc := "(I)I" } : Jvm.MethodName)) ∈ gw := gx_5 (List.mem_of_getElem? (i := 136) rfl) (by decide +kernel)
set_option maxRecDepth 100000 in
theorem gwi_1230 : (Jvm.Cond.methodLink "PlainMusic$Page" (77 : Nat) ({ cls := "PlainMusic$Page", name := "timesIn", desc := "(LPlainMusic$Score;I)I" } : Jvm.MethodName)) ∈ gw := gx_5 (List.mem_of_getElem? (i := 137) rfl) (by decide +kernel)
set_option maxRecDepth 100000 in
theorem gwi_1232 : (Jvm.Cond.instanceMethod ({ cls := "PlainMusic$Page", name := "timesIn", desc := "(LPlainMusic$Score;I)I" } : Jvm.MethodName)) ∈ gw := gx_5 (List.mem_of_getElem? (i := 139) rfl) (by decide +kernel)
set_option maxRecDepth 100000 in
theorem gwi_1233 : (Jvm.Cond.code ({ cls := "PlainMusic$Page", name := "timesIn", desc := "(LPlainMusic$Score;I)I" } : Jvm.MethodName) prog_4_method_8_code (6 : Nat) (Option.some Jvm.ClassFile.FieldType.int)) ∈ gw := gx_5 (List.mem_of_getElem? (i := 140) rfl) (by decide +kernel)
set_option maxRecDepth 100000 in
theorem gwi_1234 : (Jvm.Cond.methodLink "PlainMusic$Page" (80 : Nat) ({ cls := "PlainMusic$Page", name := "setNext", desc := "(LPlainMusic$Voice;II)V" } : Jvm.MethodName)) ∈ gw := gx_5 (List.mem_of_getElem? (i := 141) rfl) (by decide +kernel)
set_option maxRecDepth 100000 in
theorem gwi_1236 : (Jvm.Cond.instanceMethod ({ cls := "PlainMusic$Page", name := "setNext", desc := "(LPlainMusic$Voice;II)V" } : Jvm.MethodName)) ∈ gw := gx_5 (List.mem_of_getElem? (i := 143) rfl) (by decide +kernel)
set_option maxRecDepth 100000 in
theorem gwi_1237 : (Jvm.Cond.code ({ cls := "PlainMusic$Page", name := "setNext", desc := "(LPlainMusic$Voice;II)V" } : Jvm.MethodName) prog_4_method_9_code (11 : Nat) (Option.none : Option Jvm.ClassFile.FieldType)) ∈ gw := gx_5 (List.mem_of_getElem? (i := 144) rfl) (by decide +kernel)
set_option maxRecDepth 100000 in
theorem gwi_1238 : (Jvm.Cond.constantLong "PlainMusic$Page" (91 : Nat) (-1 : Int64)) ∈ gw := gx_5 (List.mem_of_getElem? (i := 145) rfl) (by decide +kernel)
set_option maxRecDepth 100000 in
theorem gwi_1239 : (Jvm.Cond.methodLink "PlainMusic$Page" (93 : Nat) ({ cls := "PlainMusic$Voice", name := "sinceBarTop", desc := "(II)J" } : Jvm.MethodName)) ∈ gw := gx_5 (List.mem_of_getElem? (i := 146) rfl) (by decide +kernel)
set_option maxRecDepth 100000 in
theorem gwi_1240 : (Jvm.Cond.methodLink "PlainMusic$Page" (97 : Nat) ({ cls := "PlainMusic$Voice", name := "sinceBarBottom", desc := "(II)J" } : Jvm.MethodName)) ∈ gw := gx_5 (List.mem_of_getElem? (i := 147) rfl) (by decide +kernel)
set_option maxRecDepth 100000 in
theorem gwi_1242 : (Jvm.Cond.methodLink "PlainMusic$Page" (84 : Nat) ({ cls := "PlainMusic$Page", name := "earliest", desc := "()I" } : Jvm.MethodName)) ∈ gw := gx_5 (List.mem_of_getElem? (i := 149) rfl) (by decide +kernel)
set_option maxRecDepth 100000 in
theorem gwi_1244 : (Jvm.Cond.instanceMethod ({ cls := "PlainMusic$Page", name := "earliest", desc := "()I" } : Jvm.MethodName)) ∈ gw := gx_5 (List.mem_of_getElem? (i := 151) rfl) (by decide +kernel)
set_option maxRecDepth 100000 in
theorem gwi_1245 : (Jvm.Cond.code ({ cls := "PlainMusic$Page", name := "earliest", desc := "()I" } : Jvm.MethodName) prog_4_method_10_code (3 : Nat) (Option.some Jvm.ClassFile.FieldType.int)) ∈ gw := gx_5 (List.mem_of_getElem? (i := 152) rfl) (by decide +kernel)
set_option maxRecDepth 100000 in
theorem gwi_1247 : (Jvm.Cond.static ({ cls := "PlainMusic", name := "compareFractions", desc := "(JJJJ)I" } : Jvm.MethodName)) ∈ gw := gx_5 (List.mem_of_getElem? (i := 154) rfl) (by decide +kernel)
set_option maxRecDepth 100000 in
theorem gwi_1248 : (Jvm.Cond.code ({ cls := "PlainMusic", name := "compareFractions", desc := "(JJJJ)I" } : Jvm.MethodName) prog_1_method_31_code (25 : Nat) (Option.some Jvm.ClassFile.FieldType.int)) ∈ gw := gx_5 (List.mem_of_getElem? (i := 155) rfl) (by decide +kernel)
set_option maxRecDepth 100000 in
theorem gwi_1249 : (Jvm.Cond.methodLink "PlainMusic" (270 : Nat) ({ cls := "java/lang/Long", name := "compare", desc := "(JJ)I" } : Jvm.MethodName)) ∈ gw := gx_5 (List.mem_of_getElem? (i := 156) rfl) (by decide +kernel)
set_option maxRecDepth 100000 in
theorem gwi_1250 : (Jvm.Cond.methodLink "PlainMusic$Page" (87 : Nat) ({ cls := "PlainMusic$Page", name := "passTime", desc := "(LPlainMusic$Score;IJJ)V" } : Jvm.MethodName)) ∈ gw := gx_5 (List.mem_of_getElem? (i := 157) rfl) (by decide +kernel)
set_option maxRecDepth 100000 in
theorem gwi_1252 : (Jvm.Cond.instanceMethod ({ cls := "PlainMusic$Page", name := "passTime", desc := "(LPlainMusic$Score;IJJ)V" } : Jvm.MethodName)) ∈ gw := gx_5 (List.mem_of_getElem? (i := 159) rfl) (by decide +kernel)
set_option maxRecDepth 100000 in
theorem gwi_1253 : (Jvm.Cond.code ({ cls := "PlainMusic$Page", name := "passTime", desc := "(LPlainMusic$Score;IJJ)V" } : Jvm.MethodName) prog_4_method_11_code (8 : Nat) (Option.none : Option Jvm.ClassFile.FieldType)) ∈ gw := gx_5 (List.mem_of_getElem? (i := 160) rfl) (by decide +kernel)
set_option maxRecDepth 100000 in
theorem gwi_1254 : (Jvm.Cond.methodLink "PlainMusic$Page" (48 : Nat) ({ cls := "PlainMusic$Page", name := "findFrom", desc := "(III)V" } : Jvm.MethodName)) ∈ gw := gx_5 (List.mem_of_getElem? (i := 161) rfl) (by decide +kernel)
set_option maxRecDepth 100000 in
theorem gwi_1256 : (Jvm.Cond.instanceMethod ({ cls := "PlainMusic$Page", name := "findFrom", desc := "(III)V" } : Jvm.MethodName)) ∈ gw := gx_5 (List.mem_of_getElem? (i := 163) rfl) (by decide +kernel)
set_option maxRecDepth 100000 in
theorem gwi_1257 : (Jvm.Cond.code ({ cls := "PlainMusic$Page", name := "findFrom", desc := "(III)V" } : Jvm.MethodName) prog_4_method_5_code (9 : Nat) (Option.none : Option Jvm.ClassFile.FieldType)) ∈ gw := gx_5 (List.mem_of_getElem? (i := 164) rfl) (by decide +kernel)
set_option maxRecDepth 100000 in
theorem gwi_1258 : (Jvm.Cond.methodLink "PlainMusic$Page" (52 : Nat) ({ cls := "PlainMusic$Page", name := "lineCost", desc := "(JZ)J" } : Jvm.MethodName)) ∈ gw := gx_5 (List.mem_of_getElem? (i := 165) rfl) (by decide +kernel)
set_option maxRecDepth 100000 in
theorem gwi_1259 : (Jvm.Cond.static ({ cls := "PlainMusic$Page", name := "lineCost", desc := "(JZ)J" } : Jvm.MethodName)) ∈ gw := gx_5 (List.mem_of_getElem? (i := 166) rfl) (by decide +kernel)
set_option maxRecDepth 100000 in
theorem gwi_1260 : (Jvm.Cond.code ({ cls := "PlainMusic$Page", name := "lineCost", desc := "(JZ)J" } : Jvm.MethodName) prog_4_method_6_code (3 : Nat) (Option.some Jvm.ClassFile.FieldType.long)) ∈ gw := gx_5 (List.mem_of_getElem? (i := 167) rfl) (by decide +kernel)
set_option maxRecDepth 100000 in
theorem gwi_1261 : (Jvm.Cond.constantLong "PlainMusic$Page" (56 : Nat) (10000 : Int64)) ∈ gw := gx_5 (List.mem_of_getElem? (i := 168) rfl) (by decide +kernel)
set_option maxRecDepth 100000 in
theorem gwi_1262 : (Jvm.Cond.methodLink "PlainMusicLaw" (66 : Nat) ({ cls := "PlainMusic", name := "line", desc := "(I)I" } : Jvm.MethodName)) ∈ gw := gx_5 (List.mem_of_getElem? (i := 169) rfl) (by decide +kernel)
set_option maxRecDepth 100000 in
theorem gwi_1263 : (Jvm.Cond.instanceMethod ({ cls := "PlainMusic", name := "line", desc := "(I)I" } : Jvm.MethodName)) ∈ gw := gx_5 (List.mem_of_getElem? (i := 170) rfl) (by decide +kernel)
set_option maxRecDepth 100000 in
theorem gwi_1264 : (Jvm.Cond.selects "PlainMusic" ({ cls := "PlainMusic", name := "line", desc := "(I)I" } : Jvm.MethodName) ({ cls := "PlainMusic", name := "line", desc := "(I)I" } : Jvm.MethodName)) ∈ gw := gx_5 (List.mem_of_getElem? (i := 171) rfl) (by decide +kernel)
set_option maxRecDepth 100000 in
theorem gwi_1265 : (Jvm.Cond.code ({ cls := "PlainMusic", name := "line", desc := "(I)I" } : Jvm.MethodName) prog_1_method_16_code (2 : Nat) (Option.some Jvm.ClassFile.FieldType.int)) ∈ gw := gx_5 (List.mem_of_getElem? (i := 172) rfl) (by decide +kernel)
set_option maxRecDepth 100000 in
theorem gwi_1266 : (Jvm.Cond.methodLink "PlainMusic" (174 : Nat) ({ cls := "PlainMusic$Page", name := "barsIn", desc := "(I)I" } : Jvm.MethodName)) ∈ gw := gx_5 (List.mem_of_getElem? (i := 173) rfl) (by decide +kernel)
set_option maxRecDepth 100000 in
theorem gwi_1267 : (Jvm.Cond.instanceMethod ({ cls := "PlainMusic$Page", name := "barsIn", desc := "(I)I" } : Jvm.MethodName)) ∈ gw := gx_5 (List.mem_of_getElem? (i := 174) rfl) (by decide +kernel)
set_option maxRecDepth 100000 in
theorem gwi_1268 : (Jvm.Cond.selects "PlainMusic$Page" ({ cls := "PlainMusic$Page", name := "barsIn", desc := "(I)I" } : Jvm.MethodName) ({ cls := "PlainMusic$Page", name := "barsIn", desc := "(I)I" } : Jvm.MethodName)) ∈ gw := gx_5 (List.mem_of_getElem? (i := 175) rfl) (by decide +kernel)
set_option maxRecDepth 100000 in
theorem gwi_1269 : (Jvm.Cond.code ({ cls := "PlainMusic$Page", name := "barsIn", desc := "(I)I" } : Jvm.MethodName) prog_4_method_3_code (2 : Nat) (Option.some Jvm.ClassFile.FieldType.int)) ∈ gw := gx_5 (List.mem_of_getElem? (i := 176) rfl) (by decide +kernel)
set_option maxRecDepth 100000 in
theorem gwi_1270 : (Jvm.Cond.methodLink "PlainMusicLaw" (70 : Nat) ({ cls := "PlainMusic", name := "width", desc := "(I)I" } : Jvm.MethodName)) ∈ gw := gx_5 (List.mem_of_getElem? (i := 177) rfl) (by decide +kernel)
set_option maxRecDepth 100000 in
theorem gwi_1271 : (Jvm.Cond.instanceMethod ({ cls := "PlainMusic", name := "width", desc := "(I)I" } : Jvm.MethodName)) ∈ gw := gx_5 (List.mem_of_getElem? (i := 178) rfl) (by decide +kernel)
set_option maxRecDepth 100000 in
theorem gwi_1272 : (Jvm.Cond.selects "PlainMusic" ({ cls := "PlainMusic", name := "width", desc := "(I)I" } : Jvm.MethodName) ({ cls := "PlainMusic", name := "width", desc := "(I)I" } : Jvm.MethodName)) ∈ gw := gx_5 (List.mem_of_getElem? (i := 179) rfl) (by decide +kernel)
set_option maxRecDepth 100000 in
theorem gwi_1273 : (Jvm.Cond.code ({ cls := "PlainMusic", name := "width", desc := "(I)I" } : Jvm.MethodName) prog_1_method_17_code (2 : Nat) (Option.some Jvm.ClassFile.FieldType.int)) ∈ gw := gx_5 (List.mem_of_getElem? (i := 180) rfl) (by decide +kernel)
set_option maxRecDepth 100000 in
theorem gwi_1274 : (Jvm.Cond.methodLink "PlainMusic" (177 : Nat) ({ cls := "PlainMusic$Page", name := "widthOf", desc := "(LPlainMusic$Score;I)I" } : Jvm.MethodName)) ∈ gw := gx_5 (List.mem_of_getElem? (i := 181) rfl) (by decide +kernel)
set_option maxRecDepth 100000 in
theorem gwi_1275 : (Jvm.Cond.methodLink "PlainMusicLaw" (74 : Nat) ({ cls := "PlainMusic", name := "lines", desc := "(III)I" } : Jvm.MethodName)) ∈ gw := gx_5 (List.mem_of_getElem? (i := 182) rfl) (by decide +kernel)
set_option maxRecDepth 100000 in
theorem gwi_1276 : (Jvm.Cond.instanceMethod ({ cls := "PlainMusic", name := "lines", desc := "(III)I" } : Jvm.MethodName)) ∈ gw := gx_5 (List.mem_of_getElem? (i := 183) rfl) (by decide +kernel)
set_option maxRecDepth 100000 in
theorem gwi_1277 : (Jvm.Cond.selects "PlainMusic" ({ cls := "PlainMusic", name := "lines", desc := "(III)I" } : Jvm.MethodName) ({ cls := "PlainMusic", name := "lines", desc := "(III)I" } : Jvm.MethodName)) ∈ gw := gx_5 (List.mem_of_getElem? (i := 184) rfl) (by decide +kernel)
set_option maxRecDepth 100000 in
theorem gwi_1278 : (Jvm.Cond.code ({ cls := "PlainMusic", name := "lines", desc := "(III)I" } : Jvm.MethodName) prog_1_method_18_code (4 : Nat) (Option.some Jvm.ClassFile.FieldType.int)) ∈ gw := gx_5 (List.mem_of_getElem? (i := 185) rfl) (by decide +kernel)
set_option maxRecDepth 100000 in
theorem gwi_1279 : (Jvm.Cond.methodLink "PlainMusic" (180 : Nat) ({ cls := "PlainMusic$Seconds", name := "find", desc := "(LPlainMusic$Score;III)I" } : Jvm.MethodName)) ∈ gw := gx_5 (List.mem_of_getElem? (i := 186) rfl) (by decide +kernel)
set_option maxRecDepth 100000 in
theorem gwi_1280 : (Jvm.Cond.instanceMethod ({ cls := "PlainMusic$Seconds", name := "find", desc := "(LPlainMusic$Score;III)I" } : Jvm.MethodName)) ∈ gw := gx_5 (List.mem_of_getElem? (i := 187) rfl) (by decide +kernel)
set_option maxRecDepth 100000 in
theorem gwi_1281 : (Jvm.Cond.selects "PlainMusic$Seconds" ({ cls := "PlainMusic$Seconds", name := "find", desc := "(LPlainMusic$Score;III)I" } : Jvm.MethodName) ({ cls := "PlainMusic$Seconds", name := "find", desc := "(LPlainMusic$Score;III)I" } : Jvm.MethodName)) ∈ gw := gx_5 (List.mem_of_getElem? (i := 188) rfl) (by decide +kernel)
set_option maxRecDepth 100000 in
theorem gwi_1282 : (Jvm.Cond.code ({ cls := "PlainMusic$Seconds", name := "find", desc := "(LPlainMusic$Score;III)I" } : Jvm.MethodName) prog_9_method_3_code (8 : Nat) (Option.some Jvm.ClassFile.FieldType.int)) ∈ gw := gx_5 (List.mem_of_getElem? (i := 189) rfl) (by decide +kernel)
set_option maxRecDepth 100000 in
theorem gwi_1283 : (Jvm.Cond.constant "PlainMusic$Seconds" (31 : Nat) (100000 : Int32)) ∈ gw := gx_5 (List.mem_of_getElem? (i := 190) rfl) (by decide +kernel)
set_option maxRecDepth 100000 in
theorem gwi_1284 : (Jvm.Cond.methodLink "PlainMusic$Seconds" (41 : Nat) ({ cls := "java/lang/Math", name := "min", desc := "(II)I" } : Jvm.MethodName)) ∈ gw := gx_5 (List.mem_of_getElem? (i := 191) rfl) (by decide +kernel)
set_option maxRecDepth 100000 in
theorem gwi_1285 : (Jvm.Cond.methodLink "PlainMusic$Seconds" (53 : Nat) ({ cls := "PlainMusic$Seconds", name := "extend", desc := "(II)V" } : Jvm.MethodName)) ∈ gw := gx_5 (List.mem_of_getElem? (i := 192) rfl) (by decide +kernel)
set_option maxRecDepth 100000 in
theorem gwi_1287 : (Jvm.Cond.instanceMethod ({ cls := "PlainMusic$Seconds", name := "extend", desc := "(II)V" } : Jvm.MethodName)) ∈ gw := gx_5 (List.mem_of_getElem? (i := 194) rfl) (by decide +kernel)
set_option maxRecDepth 100000 in
theorem gwi_1288 : (Jvm.Cond.code ({ cls := "PlainMusic$Seconds", name := "extend", desc := "(II)V" } : Jvm.MethodName) prog_9_method_4_code (4 : Nat) (Option.none : Option Jvm.ClassFile.FieldType)) ∈ gw := gx_5 (List.mem_of_getElem? (i := 195) rfl) (by decide +kernel)
set_option maxRecDepth 100000 in
theorem gwi_1289 : (Jvm.Cond.methodLink "PlainMusic$Seconds" (57 : Nat) ({ cls := "PlainMusic$Seconds", name := "keep", desc := "(I)V" } : Jvm.MethodName)) ∈ gw := gx_5 (List.mem_of_getElem? (i := 196) rfl) (by decide +kernel)
set_option maxRecDepth 100000 in
theorem gwi_1291 : (Jvm.Cond.instanceMethod ({ cls := "PlainMusic$Seconds", name := "keep", desc := "(I)V" } : Jvm.MethodName)) ∈ gw := gx_5 (List.mem_of_getElem? (i := 198) rfl) (by decide +kernel)
set_option maxRecDepth 100000 in
theorem gwi_1292 : (Jvm.Cond.code ({ cls := "PlainMusic$Seconds", name := "keep", desc := "(I)V" } : Jvm.MethodName) prog_9_method_5_code (3 : Nat) (Option.none : Option Jvm.ClassFile.FieldType)) ∈ gw := gx_5 (List.mem_of_getElem? (i := 199) rfl) (by decide +kernel)
set_option maxRecDepth 100000 in
theorem gwi_1293 : (Jvm.Cond.methodLink "PlainMusic$Seconds" (61 : Nat) ({ cls := "PlainMusic$Seconds", name := "fitsAlone", desc := "(I)Z" } : Jvm.MethodName)) ∈ gw := gx_5 (List.mem_of_getElem? (i := 200) rfl) (by decide +kernel)
set_option maxRecDepth 100000 in
theorem gwi_1295 : (Jvm.Cond.instanceMethod ({ cls := "PlainMusic$Seconds", name := "fitsAlone", desc := "(I)Z" } : Jvm.MethodName)) ∈ gw := gx_5 (List.mem_of_getElem? (i := 202) rfl) (by decide +kernel)
set_option maxRecDepth 100000 in
theorem gwi_1296 : (Jvm.Cond.code ({ cls := "PlainMusic$Seconds", name := "fitsAlone", desc := "(I)Z" } : Jvm.MethodName) prog_9_method_8_code (4 : Nat) (Option.some Jvm.ClassFile.FieldType.boolean)) ∈ gw := gx_5 (List.mem_of_getElem? (i := 203) rfl) (by decide +kernel)
set_option maxRecDepth 100000 in
theorem gwi_1297 : (Jvm.Cond.methodLink "PlainMusic$Seconds" (74 : Nat) ({ cls := "PlainMusic$Seconds", name := "asks", desc := "(I)Z" } : Jvm.MethodName)) ∈ gw := gx_5 (List.mem_of_getElem? (i := 204) rfl) (by decide +kernel)
set_option maxRecDepth 100000 in
theorem gwi_1299 : (Jvm.Cond.instanceMethod ({ cls := "PlainMusic$Seconds", name := "asks", desc := "(I)Z" } : Jvm.MethodName)) ∈ gw := gx_5 (List.mem_of_getElem? (i := 206) rfl) (by decide +kernel)
set_option maxRecDepth 100000 in
theorem gwi_1300 : (Jvm.Cond.code ({ cls := "PlainMusic$Seconds", name := "asks", desc := "(I)Z" } : Jvm.MethodName) prog_9_method_6_code (2 : Nat) (Option.some Jvm.ClassFile.FieldType.boolean)) ∈ gw := gx_5 (List.mem_of_getElem? (i := 207) rfl) (by decide +kernel)
set_option maxRecDepth 100000 in
theorem gwi_1301 : (Jvm.Cond.methodLink "PlainMusic$Seconds" (77 : Nat) ({ cls := "PlainMusic$Seconds", name := "isAmong", desc := "(II)Z" } : Jvm.MethodName)) ∈ gw := gx_5 (List.mem_of_getElem? (i := 208) rfl) (by decide +kernel)
set_option maxRecDepth 100000 in
theorem gwi_1302 : (Jvm.Cond.static ({ cls := "PlainMusic$Seconds", name := "isAmong", desc := "(II)Z" } : Jvm.MethodName)) ∈ gw := gx_5 (List.mem_of_getElem? (i := 209) rfl) (by decide +kernel)
set_option maxRecDepth 100000 in
theorem gwi_1303 : (Jvm.Cond.code ({ cls := "PlainMusic$Seconds", name := "isAmong", desc := "(II)Z" } : Jvm.MethodName) prog_9_method_7_code (2 : Nat) (Option.some Jvm.ClassFile.FieldType.boolean)) ∈ gw := gx_5 (List.mem_of_getElem? (i := 210) rfl) (by decide +kernel)
set_option maxRecDepth 100000 in
theorem gwi_1304 : (Jvm.Cond.methodLink "PlainMusic$Seconds" (71 : Nat) ({ cls := "java/lang/Math", name := "floorMod", desc := "(II)I" } : Jvm.MethodName)) ∈ gw := gx_5 (List.mem_of_getElem? (i := 211) rfl) (by decide +kernel)
set_option maxRecDepth 100000 in
theorem gwi_1305 : (Jvm.Cond.methodLink "PlainMusic$Seconds" (65 : Nat) ({ cls := "PlainMusic$Seconds", name := "fitsBehind", desc := "(I)Z" } : Jvm.MethodName)) ∈ gw := gx_5 (List.mem_of_getElem? (i := 212) rfl) (by decide +kernel)
set_option maxRecDepth 100000 in
theorem gwi_1307 : (Jvm.Cond.instanceMethod ({ cls := "PlainMusic$Seconds", name := "fitsBehind", desc := "(I)Z" } : Jvm.MethodName)) ∈ gw := gx_5 (List.mem_of_getElem? (i := 214) rfl) (by decide +kernel)
set_option maxRecDepth 100000 in
theorem gwi_1308 : (Jvm.Cond.code ({ cls := "PlainMusic$Seconds", name := "fitsBehind", desc := "(I)Z" } : Jvm.MethodName) prog_9_method_9_code (7 : Nat) (Option.some Jvm.ClassFile.FieldType.boolean)) ∈ gw := gx_5 (List.mem_of_getElem? (i := 215) rfl) (by decide +kernel)
set_option maxRecDepth 100000 in
theorem gwi_1309 : (Jvm.Cond.methodLink "PlainMusic$Seconds" (81 : Nat) ({ cls := "java/lang/Math", name := "abs", desc := "(I)I" } : Jvm.MethodName)) ∈ gw := gx_5 (List.mem_of_getElem? (i := 216) rfl) (by decide +kernel)
set_option maxRecDepth 100000 in
theorem gwi_1310 : (Jvm.Cond.methodLink "PlainMusic$Seconds" (68 : Nat) ({ cls := "PlainMusic$Seconds", name := "fitsLeap", desc := "(I)Z" } : Jvm.MethodName)) ∈ gw := gx_5 (List.mem_of_getElem? (i := 217) rfl) (by decide +kernel)
set_option maxRecDepth 100000 in
theorem gwi_1312 : (Jvm.Cond.instanceMethod ({ cls := "PlainMusic$Seconds", name := "fitsLeap", desc := "(I)Z" } : Jvm.MethodName)) ∈ gw := gx_5 (List.mem_of_getElem? (i := 219) rfl) (by decide +kernel)
set_option maxRecDepth 100000 in
theorem gwi_1313 : (Jvm.Cond.code ({ cls := "PlainMusic$Seconds", name := "fitsLeap", desc := "(I)Z" } : Jvm.MethodName) prog_9_method_10_code (4 : Nat) (Option.some Jvm.ClassFile.FieldType.boolean)) ∈ gw := gx_5 (List.mem_of_getElem? (i := 220) rfl) (by decide +kernel)
set_option maxRecDepth 100000 in
theorem gwi_1314 : (Jvm.Cond.methodLink "PlainMusicLaw" (79 : Nat) ({ cls := "PlainMusic", name := "second", desc := "(II)I" } : Jvm.MethodName)) ∈ gw := gx_5 (List.mem_of_getElem? (i := 221) rfl) (by decide +kernel)
set_option maxRecDepth 100000 in
theorem gwi_1315 : (Jvm.Cond.instanceMethod ({ cls := "PlainMusic", name := "second", desc := "(II)I" } : Jvm.MethodName)) ∈ gw := gx_5 (List.mem_of_getElem? (i := 222) rfl) (by decide +kernel)
set_option maxRecDepth 100000 in
theorem gwi_1316 : (Jvm.Cond.selects "PlainMusic" ({ cls := "PlainMusic", name := "second", desc := "(II)I" } : Jvm.MethodName) ({ cls := "PlainMusic", name := "second", desc := "(II)I" } : Jvm.MethodName)) ∈ gw := gx_5 (List.mem_of_getElem? (i := 223) rfl) (by decide +kernel)
set_option maxRecDepth 100000 in
theorem gwi_1317 : (Jvm.Cond.code ({ cls := "PlainMusic", name := "second", desc := "(II)I" } : Jvm.MethodName) prog_1_method_19_code (3 : Nat) (Option.some Jvm.ClassFile.FieldType.int)) ∈ gw := gx_5 (List.mem_of_getElem? (i := 224) rfl) (by decide +kernel)
set_option maxRecDepth 100000 in
theorem gwi_1318 : (Jvm.Cond.methodLink "PlainMusic" (183 : Nat) ({ cls := "PlainMusic$Seconds", name := "keyIn", desc := "(II)I" } : Jvm.MethodName)) ∈ gw := gx_5 (List.mem_of_getElem? (i := 225) rfl) (by decide +kernel)
set_option maxRecDepth 100000 in
theorem gwi_1319 : (Jvm.Cond.instanceMethod ({ cls := "PlainMusic$Seconds", name := "keyIn", desc := "(II)I" } : Jvm.MethodName)) ∈ gw := gx_5 (List.mem_of_getElem? (i := 226) rfl) (by decide +kernel)
set_option maxRecDepth 100000 in
theorem gwi_1320 : (Jvm.Cond.selects "PlainMusic$Seconds" ({ cls := "PlainMusic$Seconds", name := "keyIn", desc := "(II)I" } : Jvm.MethodName) ({ cls := "PlainMusic$Seconds", name := "keyIn", desc := "(II)I" } : Jvm.MethodName)) ∈ gw := gx_5 (List.mem_of_getElem? (i := 227) rfl) (by decide +kernel)
set_option maxRecDepth 100000 in
theorem gwi_1321 : (Jvm.Cond.code ({ cls := "PlainMusic$Seconds", name := "keyIn", desc := "(II)I" } : Jvm.MethodName) prog_9_method_11_code (5 : Nat) (Option.some Jvm.ClassFile.FieldType.int)) ∈ gw := gx_5 (List.mem_of_getElem? (i := 228) rfl) (by decide +kernel)
set_option maxRecDepth 100000 in
theorem gwi_1322 : (Jvm.Cond.methodLink "PlainMusic$Seconds" (85 : Nat) ({ cls := "PlainMusic$Seconds", name := "rowAt", desc := "(I)I" } : Jvm.MethodName)) ∈ gw := gx_5 (List.mem_of_getElem? (i := 229) rfl) (by decide +kernel)
set_option maxRecDepth 100000 in
theorem gwi_1324 : (Jvm.Cond.instanceMethod ({ cls := "PlainMusic$Seconds", name := "rowAt", desc := "(I)I" } : Jvm.MethodName)) ∈ gw := gx_5 (List.mem_of_getElem? (i := 231) rfl) (by decide +kernel)
set_option maxRecDepth 100000 in
theorem gwi_1325 : (Jvm.Cond.code ({ cls := "PlainMusic$Seconds", name := "rowAt", desc := "(I)I" } : Jvm.MethodName) prog_9_method_12_code (5 : Nat) (Option.some Jvm.ClassFile.FieldType.int)) ∈ gw := gx_5 (List.mem_of_getElem? (i := 232) rfl) (by decide +kernel)
set_option maxRecDepth 100000 in
theorem gwi_1326 : (Jvm.Cond.methodLink "PlainMusic$Seconds" (88 : Nat) ({ cls := "java/lang/Long", name := "bitCount", desc := "(J)I" } : Jvm.MethodName)) ∈ gw := gx_5 (List.mem_of_getElem? (i := 233) rfl) (by decide +kernel)
set_option maxRecDepth 100000 in
theorem gwi_1327 : (Jvm.Cond.static ({ cls := "java/lang/Long", name := "bitCount", desc := "(J)I" } : Jvm.MethodName)) ∈ gw := gx_5 (List.mem_of_getElem? (i := 234) rfl) (by decide +kernel)
set_option maxRecDepth 100000 in
theorem gwi_1328 : (Jvm.Cond.code ({ cls := "java/lang/Long", name := "bitCount", desc := "(J)I" } : Jvm.MethodName) prog_17_method_50_code (2 : Nat) (Option.some Jvm.ClassFile.FieldType.int)) ∈ gw := gx_5 (List.mem_of_getElem? (i := 235) rfl) (by decide +kernel)
set_option maxRecDepth 100000 in
theorem gwi_1329 : (Jvm.Cond.constantLong "java/lang/Long" (314 : Nat) (6148914691236517205 : Int64)) ∈ gw := gx_5 (List.mem_of_getElem? (i := 236) rfl) (by decide +kernel)
set_option maxRecDepth 100000 in
theorem gwi_1330 : (Jvm.Cond.constantLong "java/lang/Long" (316 : Nat) (3689348814741910323 : Int64)) ∈ gw := gx_5 (List.mem_of_getElem? (i := 237) rfl) (by decide +kernel)
set_option maxRecDepth 100000 in
theorem gwi_1331 : (Jvm.Cond.constantLong "java/lang/Long" (318 : Nat) (1085102592571150095 : Int64)) ∈ gw := gx_5 (List.mem_of_getElem? (i := 238) rfl) (by decide +kernel)
set_option maxRecDepth 100000 in
theorem gwi_1332 : (Jvm.Cond.methodLink "PlainMusicLaw" (83 : Nat) ({ cls := "PlainMusic", name := "readings", desc := "()I" } : Jvm.MethodName)) ∈ gw := gx_5 (List.mem_of_getElem? (i := 239) rfl) (by decide +kernel)
theorem gwi_1333 : (Jvm.Cond.instanceMethod ({ cls := "PlainMusic", name := "readings", desc := "()I" } : Jvm.MethodName)) ∈ gw := gx_6 (List.mem_of_getElem? (i := 0) rfl) (by decide +kernel)
theorem gwi_1334 : (Jvm.Cond.selects "PlainMusic" ({ cls := "PlainMusic", name := "readings", desc := "()I" } : Jvm.MethodName) ({ cls := "PlainMusic", name := "readings", desc := "()I" } : Jvm.MethodName)) ∈ gw := gx_6 (List.mem_of_getElem? (i := 1) rfl) (by decide +kernel)
theorem gwi_1335 : (Jvm.Cond.code ({ cls := "PlainMusic", name := "readings", desc := "()I" } : Jvm.MethodName) prog_1_method_20_code (1 : Nat) (Option.some Jvm.ClassFile.FieldType.int)) ∈ gw := gx_6 (List.mem_of_getElem? (i := 2) rfl) (by decide +kernel)
theorem gwi_1336 : (Jvm.Cond.methodLink "PlainMusic" (186 : Nat) ({ cls := "PlainMusic$Trees", name := "find", desc := "(LPlainMusic$Score;)I" } : Jvm.MethodName)) ∈ gw := gx_6 (List.mem_of_getElem? (i := 3) rfl) (by decide +kernel)
theorem gwi_1337 : (Jvm.Cond.instanceMethod ({ cls := "PlainMusic$Trees", name := "find", desc := "(LPlainMusic$Score;)I" } : Jvm.MethodName)) ∈ gw := gx_6 (List.mem_of_getElem? (i := 4) rfl) (by decide +kernel)
theorem gwi_1338 : (Jvm.Cond.selects "PlainMusic$Trees" ({ cls := "PlainMusic$Trees", name := "find", desc := "(LPlainMusic$Score;)I" } : Jvm.MethodName) ({ cls := "PlainMusic$Trees", name := "find", desc := "(LPlainMusic$Score;)I" } : Jvm.MethodName)) ∈ gw := gx_6 (List.mem_of_getElem? (i := 5) rfl) (by decide +kernel)
theorem gwi_1339 : (Jvm.Cond.code ({ cls := "PlainMusic$Trees", name := "find", desc := "(LPlainMusic$Score;)I" } : Jvm.MethodName) prog_11_method_5_code (4 : Nat) (Option.some Jvm.ClassFile.FieldType.int)) ∈ gw := gx_6 (List.mem_of_getElem? (i := 6) rfl) (by decide +kernel)
theorem gwi_1340 : (Jvm.Cond.methodLink "PlainMusic$Trees" (28 : Nat) ({ cls := "PlainMusic$Trees", name := "fill", desc := "(LPlainMusic$Score;II)V" } : Jvm.MethodName)) ∈ gw := gx_6 (List.mem_of_getElem? (i := 7) rfl) (by decide +kernel)
theorem gwi_1342 : (Jvm.Cond.instanceMethod ({ cls := "PlainMusic$Trees", name := "fill", desc := "(LPlainMusic$Score;II)V" } : Jvm.MethodName)) ∈ gw := gx_6 (List.mem_of_getElem? (i := 9) rfl) (by decide +kernel)
theorem gwi_1343 : (Jvm.Cond.code ({ cls := "PlainMusic$Trees", name := "fill", desc := "(LPlainMusic$Score;II)V" } : Jvm.MethodName) prog_11_method_6_code (6 : Nat) (Option.none : Option Jvm.ClassFile.FieldType)) ∈ gw := gx_6 (List.mem_of_getElem? (i := 10) rfl) (by decide +kernel)
theorem gwi_1344 : (Jvm.Cond.methodLink "PlainMusic$Trees" (19 : Nat) ({ cls := "PlainMusic$Trees", name := "slot", desc := "(III)I" } : Jvm.MethodName)) ∈ gw := gx_6 (List.mem_of_getElem? (i := 11) rfl) (by decide +kernel)
theorem gwi_1345 : (Jvm.Cond.static ({ cls := "PlainMusic$Trees", name := "slot", desc := "(III)I" } : Jvm.MethodName)) ∈ gw := gx_6 (List.mem_of_getElem? (i := 12) rfl) (by decide +kernel)
theorem gwi_1346 : (Jvm.Cond.code ({ cls := "PlainMusic$Trees", name := "slot", desc := "(III)I" } : Jvm.MethodName) prog_11_method_3_code (3 : Nat) (Option.some Jvm.ClassFile.FieldType.int)) ∈ gw := gx_6 (List.mem_of_getElem? (i := 13) rfl) (by decide +kernel)
theorem gwi_1347 : (Jvm.Cond.methodLink "PlainMusic$Trees" (42 : Nat) ({ cls := "PlainMusic$Trees", name := "treesBy", desc := "(LPlainMusic$Score;III)J" } : Jvm.MethodName)) ∈ gw := gx_6 (List.mem_of_getElem? (i := 14) rfl) (by decide +kernel)
theorem gwi_1349 : (Jvm.Cond.instanceMethod ({ cls := "PlainMusic$Trees", name := "treesBy", desc := "(LPlainMusic$Score;III)J" } : Jvm.MethodName)) ∈ gw := gx_6 (List.mem_of_getElem? (i := 16) rfl) (by decide +kernel)
theorem gwi_1350 : (Jvm.Cond.code ({ cls := "PlainMusic$Trees", name := "treesBy", desc := "(LPlainMusic$Score;III)J" } : Jvm.MethodName) prog_11_method_7_code (8 : Nat) (Option.some Jvm.ClassFile.FieldType.long)) ∈ gw := gx_6 (List.mem_of_getElem? (i := 17) rfl) (by decide +kernel)
theorem gwi_1351 : (Jvm.Cond.methodLink "PlainMusic$Trees" (63 : Nat) ({ cls := "PlainMusic$Trees", name := "treesCut", desc := "(LPlainMusic$Score;IIII)J" } : Jvm.MethodName)) ∈ gw := gx_6 (List.mem_of_getElem? (i := 18) rfl) (by decide +kernel)
theorem gwi_1353 : (Jvm.Cond.instanceMethod ({ cls := "PlainMusic$Trees", name := "treesCut", desc := "(LPlainMusic$Score;IIII)J" } : Jvm.MethodName)) ∈ gw := gx_6 (List.mem_of_getElem? (i := 20) rfl) (by decide +kernel)
theorem gwi_1354 : (Jvm.Cond.code ({ cls := "PlainMusic$Trees", name := "treesCut", desc := "(LPlainMusic$Score;IIII)J" } : Jvm.MethodName) prog_11_method_8_code (8 : Nat) (Option.some Jvm.ClassFile.FieldType.long)) ∈ gw := gx_6 (List.mem_of_getElem? (i := 21) rfl) (by decide +kernel)
theorem gwi_1355 : (Jvm.Cond.methodLink "PlainMusic$Trees" (35 : Nat) ({ cls := "PlainMusic$Trees", name := "treesOf", desc := "(III)I" } : Jvm.MethodName)) ∈ gw := gx_6 (List.mem_of_getElem? (i := 22) rfl) (by decide +kernel)
theorem gwi_1357 : (Jvm.Cond.instanceMethod ({ cls := "PlainMusic$Trees", name := "treesOf", desc := "(III)I" } : Jvm.MethodName)) ∈ gw := gx_6 (List.mem_of_getElem? (i := 24) rfl) (by decide +kernel)
theorem gwi_1358 : (Jvm.Cond.code ({ cls := "PlainMusic$Trees", name := "treesOf", desc := "(III)I" } : Jvm.MethodName) prog_11_method_4_code (5 : Nat) (Option.some Jvm.ClassFile.FieldType.int)) ∈ gw := gx_6 (List.mem_of_getElem? (i := 25) rfl) (by decide +kernel)
theorem gwi_1359 : (Jvm.Cond.constantLong "PlainMusic$Trees" (46 : Nat) (1000001 : Int64)) ∈ gw := gx_6 (List.mem_of_getElem? (i := 26) rfl) (by decide +kernel)
theorem gwi_1360 : (Jvm.Cond.methodLink "PlainMusic$Trees" (48 : Nat) ({ cls := "java/lang/Math", name := "min", desc := "(JJ)J" } : Jvm.MethodName)) ∈ gw := gx_6 (List.mem_of_getElem? (i := 27) rfl) (by decide +kernel)
theorem gwi_1361 : (Jvm.Cond.static ({ cls := "java/lang/Math", name := "min", desc := "(JJ)J" } : Jvm.MethodName)) ∈ gw := gx_6 (List.mem_of_getElem? (i := 28) rfl) (by decide +kernel)
theorem gwi_1362 : (Jvm.Cond.code ({ cls := "java/lang/Math", name := "min", desc := "(JJ)J" } : Jvm.MethodName) prog_18_method_70_code (4 : Nat) (Option.some Jvm.ClassFile.FieldType.long)) ∈ gw := gx_6 (List.mem_of_getElem? (i := 29) rfl) (by decide +kernel)
theorem gwi_1363 : (Jvm.Cond.constant "PlainMusic$Trees" (38 : Nat) (1000000 : Int32)) ∈ gw := gx_6 (List.mem_of_getElem? (i := 30) rfl) (by decide +kernel)
theorem gwi_1364 : (Jvm.Cond.methodLink "PlainMusicLaw" (87 : Nat) ({ cls := "PlainMusic", name := "tree", desc := "(II)I" } : Jvm.MethodName)) ∈ gw := gx_6 (List.mem_of_getElem? (i := 31) rfl) (by decide +kernel)
theorem gwi_1365 : (Jvm.Cond.instanceMethod ({ cls := "PlainMusic", name := "tree", desc := "(II)I" } : Jvm.MethodName)) ∈ gw := gx_6 (List.mem_of_getElem? (i := 32) rfl) (by decide +kernel)
theorem gwi_1366 : (Jvm.Cond.selects "PlainMusic" ({ cls := "PlainMusic", name := "tree", desc := "(II)I" } : Jvm.MethodName) ({ cls := "PlainMusic", name := "tree", desc := "(II)I" } : Jvm.MethodName)) ∈ gw := gx_6 (List.mem_of_getElem? (i := 33) rfl) (by decide +kernel)
theorem gwi_1367 : (Jvm.Cond.code ({ cls := "PlainMusic", name := "tree", desc := "(II)I" } : Jvm.MethodName) prog_1_method_21_code (3 : Nat) (Option.some Jvm.ClassFile.FieldType.int)) ∈ gw := gx_6 (List.mem_of_getElem? (i := 34) rfl) (by decide +kernel)
theorem gwi_1368 : (Jvm.Cond.methodLink "PlainMusic" (188 : Nat) ({ cls := "PlainMusic$Trees", name := "ruleIn", desc := "(LPlainMusic$Score;II)I" } : Jvm.MethodName)) ∈ gw := gx_6 (List.mem_of_getElem? (i := 35) rfl) (by decide +kernel)
theorem gwi_1369 : (Jvm.Cond.instanceMethod ({ cls := "PlainMusic$Trees", name := "ruleIn", desc := "(LPlainMusic$Score;II)I" } : Jvm.MethodName)) ∈ gw := gx_6 (List.mem_of_getElem? (i := 36) rfl) (by decide +kernel)
theorem gwi_1370 : (Jvm.Cond.selects "PlainMusic$Trees" ({ cls := "PlainMusic$Trees", name := "ruleIn", desc := "(LPlainMusic$Score;II)I" } : Jvm.MethodName) ({ cls := "PlainMusic$Trees", name := "ruleIn", desc := "(LPlainMusic$Score;II)I" } : Jvm.MethodName)) ∈ gw := gx_6 (List.mem_of_getElem? (i := 37) rfl) (by decide +kernel)
theorem gwi_1371 : (Jvm.Cond.code ({ cls := "PlainMusic$Trees", name := "ruleIn", desc := "(LPlainMusic$Score;II)I" } : Jvm.MethodName) prog_11_method_9_code (10 : Nat) (Option.some Jvm.ClassFile.FieldType.int)) ∈ gw := gx_6 (List.mem_of_getElem? (i := 38) rfl) (by decide +kernel)
theorem gwi_1372 : (Jvm.Cond.methodLink "PlainMusic$Trees" (80 : Nat) ({ cls := "PlainMusic$Trees", name := "findRule", desc := "(LPlainMusic$Score;)I" } : Jvm.MethodName)) ∈ gw := gx_6 (List.mem_of_getElem? (i := 39) rfl) (by decide +kernel)
set_option maxRecDepth 100000 in
theorem gwi_1374 : (Jvm.Cond.instanceMethod ({ cls := "PlainMusic$Trees", name := "findRule", desc := "(LPlainMusic$Score;)I" } : Jvm.MethodName)) ∈ gw := gx_6 (List.mem_of_getElem? (i := 41) rfl) (by decide +kernel)
set_option maxRecDepth 100000 in
theorem gwi_1375 : (Jvm.Cond.code ({ cls := "PlainMusic$Trees", name := "findRule", desc := "(LPlainMusic$Score;)I" } : Jvm.MethodName) prog_11_method_10_code (5 : Nat) (Option.some Jvm.ClassFile.FieldType.int)) ∈ gw := gx_6 (List.mem_of_getElem? (i := 42) rfl) (by decide +kernel)
set_option maxRecDepth 100000 in
theorem gwi_1376 : (Jvm.Cond.methodLink "PlainMusic$Trees" (84 : Nat) ({ cls := "PlainMusic$Trees", name := "findCut", desc := "(LPlainMusic$Score;I)I" } : Jvm.MethodName)) ∈ gw := gx_6 (List.mem_of_getElem? (i := 43) rfl) (by decide +kernel)
set_option maxRecDepth 100000 in
theorem gwi_1378 : (Jvm.Cond.instanceMethod ({ cls := "PlainMusic$Trees", name := "findCut", desc := "(LPlainMusic$Score;I)I" } : Jvm.MethodName)) ∈ gw := gx_6 (List.mem_of_getElem? (i := 45) rfl) (by decide +kernel)
set_option maxRecDepth 100000 in
theorem gwi_1379 : (Jvm.Cond.code ({ cls := "PlainMusic$Trees", name := "findCut", desc := "(LPlainMusic$Score;I)I" } : Jvm.MethodName) prog_11_method_11_code (6 : Nat) (Option.some Jvm.ClassFile.FieldType.int)) ∈ gw := gx_6 (List.mem_of_getElem? (i := 46) rfl) (by decide +kernel)
set_option maxRecDepth 100000 in
theorem gwi_1380 : (Jvm.Cond.methodLink "PlainMusic$Trees" (88 : Nat) ({ cls := "PlainMusic$Trees", name := "goDown", desc := "(LPlainMusic$Score;IIZ)V" } : Jvm.MethodName)) ∈ gw := gx_6 (List.mem_of_getElem? (i := 47) rfl) (by decide +kernel)
set_option maxRecDepth 100000 in
theorem gwi_1382 : (Jvm.Cond.instanceMethod ({ cls := "PlainMusic$Trees", name := "goDown", desc := "(LPlainMusic$Score;IIZ)V" } : Jvm.MethodName)) ∈ gw := gx_6 (List.mem_of_getElem? (i := 49) rfl) (by decide +kernel)
set_option maxRecDepth 100000 in
theorem gwi_1383 : (Jvm.Cond.code ({ cls := "PlainMusic$Trees", name := "goDown", desc := "(LPlainMusic$Score;IIZ)V" } : Jvm.MethodName) prog_11_method_12_code (7 : Nat) (Option.none : Option Jvm.ClassFile.FieldType)) ∈ gw := gx_6 (List.mem_of_getElem? (i := 50) rfl) (by decide +kernel)
set_option maxRecDepth 100000 in
theorem gwi_1384 : (Jvm.Cond.methodLink "PlainMusic$Trees" (92 : Nat) ({ cls := "java/lang/Math", name := "max", desc := "(II)I" } : Jvm.MethodName)) ∈ gw := gx_6 (List.mem_of_getElem? (i := 51) rfl) (by decide +kernel)
set_option maxRecDepth 100000 in
theorem gwi_1385 : (Jvm.Cond.methodLink "PlainMusicLaw" (91 : Nat) ({ cls := "PlainMusic", name := "beside", desc := "(II)I" } : Jvm.MethodName)) ∈ gw := gx_6 (List.mem_of_getElem? (i := 52) rfl) (by decide +kernel)
set_option maxRecDepth 100000 in
theorem gwi_1386 : (Jvm.Cond.instanceMethod ({ cls := "PlainMusic", name := "beside", desc := "(II)I" } : Jvm.MethodName)) ∈ gw := gx_6 (List.mem_of_getElem? (i := 53) rfl) (by decide +kernel)
set_option maxRecDepth 100000 in
theorem gwi_1387 : (Jvm.Cond.selects "PlainMusic" ({ cls := "PlainMusic", name := "beside", desc := "(II)I" } : Jvm.MethodName) ({ cls := "PlainMusic", name := "beside", desc := "(II)I" } : Jvm.MethodName)) ∈ gw := gx_6 (List.mem_of_getElem? (i := 54) rfl) (by decide +kernel)
set_option maxRecDepth 100000 in
theorem gwi_1388 : (Jvm.Cond.code ({ cls := "PlainMusic", name := "beside", desc := "(II)I" } : Jvm.MethodName) prog_1_method_22_code (5 : Nat) (Option.some Jvm.ClassFile.FieldType.int)) ∈ gw := gx_6 (List.mem_of_getElem? (i := 55) rfl) (by decide +kernel)
set_option maxRecDepth 100000 in
theorem gwi_1389 : (Jvm.Cond.methodLink "PlainMusic" (192 : Nat) ({ cls := "PlainMusic$Pairing", name := "find", desc := "(LPlainMusic$Voice;LPlainMusic$Voice;)I" } : Jvm.MethodName)) ∈ gw := gx_6 (List.mem_of_getElem? (i := 56) rfl) (by decide +kernel)
set_option maxRecDepth 100000 in
theorem gwi_1390 : (Jvm.Cond.instanceMethod ({ cls := "PlainMusic$Pairing", name := "find", desc := "(LPlainMusic$Voice;LPlainMusic$Voice;)I" } : Jvm.MethodName)) ∈ gw := gx_6 (List.mem_of_getElem? (i := 57) rfl) (by decide +kernel)
set_option maxRecDepth 100000 in
theorem gwi_1391 : (Jvm.Cond.selects "PlainMusic$Pairing" ({ cls := "PlainMusic$Pairing", name := "find", desc := "(LPlainMusic$Voice;LPlainMusic$Voice;)I" } : Jvm.MethodName) ({ cls := "PlainMusic$Pairing", name := "find", desc := "(LPlainMusic$Voice;LPlainMusic$Voice;)I" } : Jvm.MethodName)) ∈ gw := gx_6 (List.mem_of_getElem? (i := 58) rfl) (by decide +kernel)
set_option maxRecDepth 100000 in
theorem gwi_1392 : (Jvm.Cond.code ({ cls := "PlainMusic$Pairing", name := "find", desc := "(LPlainMusic$Voice;LPlainMusic$Voice;)I" } : Jvm.MethodName) prog_5_method_4_code (5 : Nat) (Option.some Jvm.ClassFile.FieldType.int)) ∈ gw := gx_6 (List.mem_of_getElem? (i := 59) rfl) (by decide +kernel)
set_option maxRecDepth 100000 in
theorem gwi_1393 : (Jvm.Cond.methodLink "PlainMusic$Pairing" (34 : Nat) ({ cls := "PlainMusic$Pairing", name := "soundsOf", desc := "(LPlainMusic$Voice;)I" } : Jvm.MethodName)) ∈ gw := gx_6 (List.mem_of_getElem? (i := 60) rfl) (by decide +kernel)
set_option maxRecDepth 100000 in
theorem gwi_1394 : (Jvm.Cond.static ({ cls := "PlainMusic$Pairing", name := "soundsOf", desc := "(LPlainMusic$Voice;)I" } : Jvm.MethodName)) ∈ gw := gx_6 (List.mem_of_getElem? (i := 61) rfl) (by decide +kernel)
set_option maxRecDepth 100000 in
theorem gwi_1395 : (Jvm.Cond.code ({ cls := "PlainMusic$Pairing", name := "soundsOf", desc := "(LPlainMusic$Voice;)I" } : Jvm.MethodName) prog_5_method_5_code (3 : Nat) (Option.some Jvm.ClassFile.FieldType.int)) ∈ gw := gx_6 (List.mem_of_getElem? (i := 62) rfl) (by decide +kernel)
set_option maxRecDepth 100000 in
theorem gwi_1396 : (Jvm.Cond.methodLink "PlainMusic$Pairing" (58 : Nat) ({ cls := "PlainMusic$Voice", name := "isRest", desc := "(I)Z" } : Jvm.MethodName)) ∈ gw := gx_6 (List.mem_of_getElem? (i := 63) rfl) (by decide +kernel)
set_option maxRecDepth 100000 in
theorem gwi_1397 : (Jvm.Cond.methodLink "PlainMusic$Pairing" (38 : Nat) ({ cls := "PlainMusic$Pairing", name := "gather", desc := "(LPlainMusic$Voice;[I)I" } : Jvm.MethodName)) ∈ gw := gx_6 (List.mem_of_getElem? (i := 64) rfl) (by decide +kernel)
set_option maxRecDepth 100000 in
theorem gwi_1398 : (Jvm.Cond.static ({ cls := "PlainMusic$Pairing", name := "gather", desc := "(LPlainMusic$Voice;[I)I" } : Jvm.MethodName)) ∈ gw := gx_6 (List.mem_of_getElem? (i := 65) rfl) (by decide +kernel)
set_option maxRecDepth 100000 in
theorem gwi_1399 : (Jvm.Cond.code ({ cls := "PlainMusic$Pairing", name := "gather", desc := "(LPlainMusic$Voice;[I)I" } : Jvm.MethodName) prog_5_method_6_code (4 : Nat) (Option.some Jvm.ClassFile.FieldType.int)) ∈ gw := gx_6 (List.mem_of_getElem? (i := 66) rfl) (by decide +kernel)
set_option maxRecDepth 100000 in
theorem gwi_1400 : (Jvm.Cond.methodLink "PlainMusic$Pairing" (45 : Nat) ({ cls := "PlainMusic$Pairing", name := "weigh", desc := "(LPlainMusic$Voice;LPlainMusic$Voice;II)V" } : Jvm.MethodName)) ∈ gw := gx_6 (List.mem_of_getElem? (i := 67) rfl) (by decide +kernel)
set_option maxRecDepth 100000 in
theorem gwi_1402 : (Jvm.Cond.instanceMethod ({ cls := "PlainMusic$Pairing", name := "weigh", desc := "(LPlainMusic$Voice;LPlainMusic$Voice;II)V" } : Jvm.MethodName)) ∈ gw := gx_6 (List.mem_of_getElem? (i := 69) rfl) (by decide +kernel)
set_option maxRecDepth 100000 in
theorem gwi_1403 : (Jvm.Cond.code ({ cls := "PlainMusic$Pairing", name := "weigh", desc := "(LPlainMusic$Voice;LPlainMusic$Voice;II)V" } : Jvm.MethodName) prog_5_method_9_code (12 : Nat) (Option.none : Option Jvm.ClassFile.FieldType)) ∈ gw := gx_6 (List.mem_of_getElem? (i := 70) rfl) (by decide +kernel)
set_option maxRecDepth 100000 in
theorem gwi_1404 : (Jvm.Cond.methodLink "PlainMusic$Pairing" (82 : Nat) ({ cls := "PlainMusic$Pairing", name := "slot", desc := "(II)I" } : Jvm.MethodName)) ∈ gw := gx_6 (List.mem_of_getElem? (i := 71) rfl) (by decide +kernel)
set_option maxRecDepth 100000 in
theorem gwi_1406 : (Jvm.Cond.instanceMethod ({ cls := "PlainMusic$Pairing", name := "slot", desc := "(II)I" } : Jvm.MethodName)) ∈ gw := gx_6 (List.mem_of_getElem? (i := 73) rfl) (by decide +kernel)
set_option maxRecDepth 100000 in
theorem gwi_1407 : (Jvm.Cond.code ({ cls := "PlainMusic$Pairing", name := "slot", desc := "(II)I" } : Jvm.MethodName) prog_5_method_7_code (3 : Nat) (Option.some Jvm.ClassFile.FieldType.int)) ∈ gw := gx_6 (List.mem_of_getElem? (i := 74) rfl) (by decide +kernel)
set_option maxRecDepth 100000 in
theorem gwi_1408 : (Jvm.Cond.methodLink "PlainMusic$Pairing" (62 : Nat) ({ cls := "java/lang/Math", name := "min", desc := "(II)I" } : Jvm.MethodName)) ∈ gw := gx_6 (List.mem_of_getElem? (i := 75) rfl) (by decide +kernel)
set_option maxRecDepth 100000 in
theorem gwi_1409 : (Jvm.Cond.methodLink "PlainMusic$Pairing" (85 : Nat) ({ cls := "PlainMusic$Pairing", name := "pairCost", desc := "(LPlainMusic$Voice;LPlainMusic$Voice;II)I" } : Jvm.MethodName)) ∈ gw := gx_6 (List.mem_of_getElem? (i := 76) rfl) (by decide +kernel)
set_option maxRecDepth 100000 in
theorem gwi_1411 : (Jvm.Cond.instanceMethod ({ cls := "PlainMusic$Pairing", name := "pairCost", desc := "(LPlainMusic$Voice;LPlainMusic$Voice;II)I" } : Jvm.MethodName)) ∈ gw := gx_6 (List.mem_of_getElem? (i := 78) rfl) (by decide +kernel)
set_option maxRecDepth 100000 in
theorem gwi_1412 : (Jvm.Cond.code ({ cls := "PlainMusic$Pairing", name := "pairCost", desc := "(LPlainMusic$Voice;LPlainMusic$Voice;II)I" } : Jvm.MethodName) prog_5_method_8_code (9 : Nat) (Option.some Jvm.ClassFile.FieldType.int)) ∈ gw := gx_6 (List.mem_of_getElem? (i := 79) rfl) (by decide +kernel)
set_option maxRecDepth 100000 in
theorem gwi_1413 : (Jvm.Cond.methodLink "PlainMusic$Pairing" (68 : Nat) ({ cls := "PlainMusic$Voice", name := "lowestKey", desc := "(I)I" } : Jvm.MethodName)) ∈ gw := gx_6 (List.mem_of_getElem? (i := 80) rfl) (by decide +kernel)
set_option maxRecDepth 100000 in
theorem gwi_1414 : (Jvm.Cond.methodLink "PlainMusic$Pairing" (72 : Nat) ({ cls := "java/lang/Math", name := "abs", desc := "(I)I" } : Jvm.MethodName)) ∈ gw := gx_6 (List.mem_of_getElem? (i := 81) rfl) (by decide +kernel)
set_option maxRecDepth 100000 in
theorem gwi_1415 : (Jvm.Cond.constant "PlainMusic$Pairing" (91 : Nat) (2147483647 : Int32)) ∈ gw := gx_6 (List.mem_of_getElem? (i := 82) rfl) (by decide +kernel)
set_option maxRecDepth 100000 in
theorem gwi_1416 : (Jvm.Cond.constantLong "PlainMusic$Pairing" (92 : Nat) (1000000007 : Int64)) ∈ gw := gx_6 (List.mem_of_getElem? (i := 83) rfl) (by decide +kernel)
set_option maxRecDepth 100000 in
theorem gwi_1417 : (Jvm.Cond.methodLink "PlainMusic$Pairing" (49 : Nat) ({ cls := "PlainMusic$Pairing", name := "choose", desc := "(LPlainMusic$Voice;LPlainMusic$Voice;)V" } : Jvm.MethodName)) ∈ gw := gx_6 (List.mem_of_getElem? (i := 84) rfl) (by decide +kernel)
set_option maxRecDepth 100000 in
theorem gwi_1419 : (Jvm.Cond.instanceMethod ({ cls := "PlainMusic$Pairing", name := "choose", desc := "(LPlainMusic$Voice;LPlainMusic$Voice;)V" } : Jvm.MethodName)) ∈ gw := gx_6 (List.mem_of_getElem? (i := 86) rfl) (by decide +kernel)
set_option maxRecDepth 100000 in
theorem gwi_1420 : (Jvm.Cond.code ({ cls := "PlainMusic$Pairing", name := "choose", desc := "(LPlainMusic$Voice;LPlainMusic$Voice;)V" } : Jvm.MethodName) prog_5_method_10_code (5 : Nat) (Option.none : Option Jvm.ClassFile.FieldType)) ∈ gw := gx_6 (List.mem_of_getElem? (i := 87) rfl) (by decide +kernel)
set_option maxRecDepth 100000 in
theorem gwi_1421 : (Jvm.Cond.methodLink "PlainMusic$Pairing" (94 : Nat) ({ cls := "PlainMusic$Pairing", name := "isPair", desc := "(LPlainMusic$Voice;LPlainMusic$Voice;II)Z" } : Jvm.MethodName)) ∈ gw := gx_6 (List.mem_of_getElem? (i := 88) rfl) (by decide +kernel)
set_option maxRecDepth 100000 in
theorem gwi_1423 : (Jvm.Cond.instanceMethod ({ cls := "PlainMusic$Pairing", name := "isPair", desc := "(LPlainMusic$Voice;LPlainMusic$Voice;II)Z" } : Jvm.MethodName)) ∈ gw := gx_6 (List.mem_of_getElem? (i := 90) rfl) (by decide +kernel)
set_option maxRecDepth 100000 in
theorem gwi_1424 : (Jvm.Cond.code ({ cls := "PlainMusic$Pairing", name := "isPair", desc := "(LPlainMusic$Voice;LPlainMusic$Voice;II)Z" } : Jvm.MethodName) prog_5_method_11_code (5 : Nat) (Option.some Jvm.ClassFile.FieldType.boolean)) ∈ gw := gx_6 (List.mem_of_getElem? (i := 91) rfl) (by decide +kernel)
set_option maxRecDepth 100000 in
theorem gwi_1425 : (Jvm.Cond.methodLink "PlainMusic$Pairing" (98 : Nat) ({ cls := "PlainMusic$Pairing", name := "isFirstAlone", desc := "(II)Z" } : Jvm.MethodName)) ∈ gw := gx_6 (List.mem_of_getElem? (i := 92) rfl) (by decide +kernel)
set_option maxRecDepth 100000 in
theorem gwi_1427 : (Jvm.Cond.instanceMethod ({ cls := "PlainMusic$Pairing", name := "isFirstAlone", desc := "(II)Z" } : Jvm.MethodName)) ∈ gw := gx_6 (List.mem_of_getElem? (i := 94) rfl) (by decide +kernel)
set_option maxRecDepth 100000 in
theorem gwi_1428 : (Jvm.Cond.code ({ cls := "PlainMusic$Pairing", name := "isFirstAlone", desc := "(II)Z" } : Jvm.MethodName) prog_5_method_12_code (3 : Nat) (Option.some Jvm.ClassFile.FieldType.boolean)) ∈ gw := gx_6 (List.mem_of_getElem? (i := 95) rfl) (by decide +kernel)
set_option maxRecDepth 100000 in
theorem gwi_1429 : (Jvm.Cond.methodLink "PlainMusicLaw" (95 : Nat) ({ cls := "PlainMusic", name := "partner", desc := "(I)I" } : Jvm.MethodName)) ∈ gw := gx_6 (List.mem_of_getElem? (i := 96) rfl) (by decide +kernel)
set_option maxRecDepth 100000 in
theorem gwi_1430 : (Jvm.Cond.instanceMethod ({ cls := "PlainMusic", name := "partner", desc := "(I)I" } : Jvm.MethodName)) ∈ gw := gx_6 (List.mem_of_getElem? (i := 97) rfl) (by decide +kernel)
set_option maxRecDepth 100000 in
theorem gwi_1431 : (Jvm.Cond.selects "PlainMusic" ({ cls := "PlainMusic", name := "partner", desc := "(I)I" } : Jvm.MethodName) ({ cls := "PlainMusic", name := "partner", desc := "(I)I" } : Jvm.MethodName)) ∈ gw := gx_6 (List.mem_of_getElem? (i := 98) rfl) (by decide +kernel)
set_option maxRecDepth 100000 in
theorem gwi_1432 : (Jvm.Cond.code ({ cls := "PlainMusic", name := "partner", desc := "(I)I" } : Jvm.MethodName) prog_1_method_23_code (2 : Nat) (Option.some Jvm.ClassFile.FieldType.int)) ∈ gw := gx_6 (List.mem_of_getElem? (i := 99) rfl) (by decide +kernel)
set_option maxRecDepth 100000 in
theorem gwi_1433 : (Jvm.Cond.methodLink "PlainMusic" (195 : Nat) ({ cls := "PlainMusic$Pairing", name := "partnerOf", desc := "(I)I" } : Jvm.MethodName)) ∈ gw := gx_6 (List.mem_of_getElem? (i := 100) rfl) (by decide +kernel)
set_option maxRecDepth 100000 in
theorem gwi_1434 : (Jvm.Cond.instanceMethod ({ cls := "PlainMusic$Pairing", name := "partnerOf", desc := "(I)I" } : Jvm.MethodName)) ∈ gw := gx_6 (List.mem_of_getElem? (i := 101) rfl) (by decide +kernel)
set_option maxRecDepth 100000 in
theorem gwi_1435 : (Jvm.Cond.selects "PlainMusic$Pairing" ({ cls := "PlainMusic$Pairing", name := "partnerOf", desc := "(I)I" } : Jvm.MethodName) ({ cls := "PlainMusic$Pairing", name := "partnerOf", desc := "(I)I" } : Jvm.MethodName)) ∈ gw := gx_6 (List.mem_of_getElem? (i := 102) rfl) (by decide +kernel)
set_option maxRecDepth 100000 in
theorem gwi_1436 : (Jvm.Cond.code ({ cls := "PlainMusic$Pairing", name := "partnerOf", desc := "(I)I" } : Jvm.MethodName) prog_5_method_3_code (2 : Nat) (Option.some Jvm.ClassFile.FieldType.int)) ∈ gw := gx_6 (List.mem_of_getElem? (i := 103) rfl) (by decide +kernel)
set_option maxRecDepth 100000 in
theorem gwi_1437 : (Jvm.Cond.methodLink "PlainMusicLaw" (99 : Nat) ({ cls := "PlainMusic", name := "ways", desc := "()I" } : Jvm.MethodName)) ∈ gw := gx_6 (List.mem_of_getElem? (i := 104) rfl) (by decide +kernel)
set_option maxRecDepth 100000 in
theorem gwi_1438 : (Jvm.Cond.instanceMethod ({ cls := "PlainMusic", name := "ways", desc := "()I" } : Jvm.MethodName)) ∈ gw := gx_6 (List.mem_of_getElem? (i := 105) rfl) (by decide +kernel)
set_option maxRecDepth 100000 in
theorem gwi_1439 : (Jvm.Cond.selects "PlainMusic" ({ cls := "PlainMusic", name := "ways", desc := "()I" } : Jvm.MethodName) ({ cls := "PlainMusic", name := "ways", desc := "()I" } : Jvm.MethodName)) ∈ gw := gx_6 (List.mem_of_getElem? (i := 106) rfl) (by decide +kernel)
set_option maxRecDepth 100000 in
theorem gwi_1440 : (Jvm.Cond.code ({ cls := "PlainMusic", name := "ways", desc := "()I" } : Jvm.MethodName) prog_1_method_24_code (1 : Nat) (Option.some Jvm.ClassFile.FieldType.int)) ∈ gw := gx_6 (List.mem_of_getElem? (i := 107) rfl) (by decide +kernel)
set_option maxRecDepth 100000 in
theorem gwi_1441 : (Jvm.Cond.methodLink "PlainMusicLaw" (103 : Nat) ({ cls := "PlainMusic", name := "sample", desc := "(II)D" } : Jvm.MethodName)) ∈ gw := gx_6 (List.mem_of_getElem? (i := 108) rfl) (by decide +kernel)
set_option maxRecDepth 100000 in
theorem gwi_1442 : (Jvm.Cond.instanceMethod ({ cls := "PlainMusic", name := "sample", desc := "(II)D" } : Jvm.MethodName)) ∈ gw := gx_6 (List.mem_of_getElem? (i := 109) rfl) (by decide +kernel)
set_option maxRecDepth 100000 in
theorem gwi_1443 : (Jvm.Cond.selects "PlainMusic" ({ cls := "PlainMusic", name := "sample", desc := "(II)D" } : Jvm.MethodName) ({ cls := "PlainMusic", name := "sample", desc := "(II)D" } : Jvm.MethodName)) ∈ gw := gx_6 (List.mem_of_getElem? (i := 110) rfl) (by decide +kernel)
set_option maxRecDepth 100000 in
theorem gwi_1444 : (Jvm.Cond.code ({ cls := "PlainMusic", name := "sample", desc := "(II)D" } : Jvm.MethodName) prog_1_method_25_code (7 : Nat) (Option.some Jvm.ClassFile.FieldType.double)) ∈ gw := gx_6 (List.mem_of_getElem? (i := 111) rfl) (by decide +kernel)
set_option maxRecDepth 100000 in
theorem gwi_1445 : (Jvm.Cond.methodLink "PlainMusic" (201 : Nat) ({ cls := "PlainMusic", name := "addVoice", desc := "(DLPlainMusic$Voice;II)D" } : Jvm.MethodName)) ∈ gw := gx_6 (List.mem_of_getElem? (i := 112) rfl) (by decide +kernel)
set_option maxRecDepth 100000 in
theorem gwi_1446 : (Jvm.Cond.static ({ cls := "PlainMusic", name := "addVoice", desc := "(DLPlainMusic$Voice;II)D" } : Jvm.MethodName)) ∈ gw := gx_6 (List.mem_of_getElem? (i := 113) rfl) (by decide +kernel)
set_option maxRecDepth 100000 in
theorem gwi_1447 : (Jvm.Cond.code ({ cls := "PlainMusic", name := "addVoice", desc := "(DLPlainMusic$Voice;II)D" } : Jvm.MethodName) prog_1_method_26_code (8 : Nat) (Option.some Jvm.ClassFile.FieldType.double)) ∈ gw := gx_6 (List.mem_of_getElem? (i := 114) rfl) (by decide +kernel)
set_option maxRecDepth 100000 in
theorem gwi_1448 : (Jvm.Cond.methodLink "PlainMusic" (205 : Nat) ({ cls := "PlainMusic$Voice", name := "isReached", desc := "(IJJ)Z" } : Jvm.MethodName)) ∈ gw := gx_6 (List.mem_of_getElem? (i := 115) rfl) (by decide +kernel)
set_option maxRecDepth 100000 in
theorem gwi_1449 : (Jvm.Cond.instanceMethod ({ cls := "PlainMusic$Voice", name := "isReached", desc := "(IJJ)Z" } : Jvm.MethodName)) ∈ gw := gx_6 (List.mem_of_getElem? (i := 116) rfl) (by decide +kernel)
set_option maxRecDepth 100000 in
theorem gwi_1450 : (Jvm.Cond.selects "PlainMusic$Voice" ({ cls := "PlainMusic$Voice", name := "isReached", desc := "(IJJ)Z" } : Jvm.MethodName) ({ cls := "PlainMusic$Voice", name := "isReached", desc := "(IJJ)Z" } : Jvm.MethodName)) ∈ gw := gx_6 (List.mem_of_getElem? (i := 117) rfl) (by decide +kernel)
set_option maxRecDepth 100000 in
theorem gwi_1451 : (Jvm.Cond.code ({ cls := "PlainMusic$Voice", name := "isReached", desc := "(IJJ)Z" } : Jvm.MethodName) prog_12_method_23_code (6 : Nat) (Option.some Jvm.ClassFile.FieldType.boolean)) ∈ gw := gx_6 (List.mem_of_getElem? (i := 118) rfl) (by decide +kernel)
set_option maxRecDepth 100000 in
theorem gwi_1452 : (Jvm.Cond.methodLink "PlainMusic" (209 : Nat) ({ cls := "PlainMusic", name := "addEvent", desc := "(DLPlainMusic$Voice;III)D" } : Jvm.MethodName)) ∈ gw := gx_6 (List.mem_of_getElem? (i := 119) rfl) (by decide +kernel)
set_option maxRecDepth 100000 in
theorem gwi_1453 : (Jvm.Cond.static ({ cls := "PlainMusic", name := "addEvent", desc := "(DLPlainMusic$Voice;III)D" } : Jvm.MethodName)) ∈ gw := gx_6 (List.mem_of_getElem? (i := 120) rfl) (by decide +kernel)
set_option maxRecDepth 100000 in
theorem gwi_1454 : (Jvm.Cond.code ({ cls := "PlainMusic", name := "addEvent", desc := "(DLPlainMusic$Voice;III)D" } : Jvm.MethodName) prog_1_method_27_code (17 : Nat) (Option.some Jvm.ClassFile.FieldType.double)) ∈ gw := gx_6 (List.mem_of_getElem? (i := 121) rfl) (by decide +kernel)
set_option maxRecDepth 100000 in
theorem gwi_1455 : (Jvm.Cond.constantLong "PlainMusic" (217 : Nat) (2 : Int64)) ∈ gw := gx_6 (List.mem_of_getElem? (i := 122) rfl) (by decide +kernel)
set_option maxRecDepth 100000 in
theorem gwi_1456 : (Jvm.Cond.methodLink "PlainMusic" (228 : Nat) ({ cls := "PlainMusic", name := "divided", desc := "(JJ)D" } : Jvm.MethodName)) ∈ gw := gx_6 (List.mem_of_getElem? (i := 123) rfl) (by decide +kernel)
set_option maxRecDepth 100000 in
theorem gwi_1457 : (Jvm.Cond.static ({ cls := "PlainMusic", name := "divided", desc := "(JJ)D" } : Jvm.MethodName)) ∈ gw := gx_6 (List.mem_of_getElem? (i := 124) rfl) (by decide +kernel)
set_option maxRecDepth 100000 in
theorem gwi_1458 : (Jvm.Cond.code ({ cls := "PlainMusic", name := "divided", desc := "(JJ)D" } : Jvm.MethodName) prog_1_method_29_code (6 : Nat) (Option.some Jvm.ClassFile.FieldType.double)) ∈ gw := gx_6 (List.mem_of_getElem? (i := 125) rfl) (by decide +kernel)
set_option maxRecDepth 100000 in
theorem gwi_1459 : (Jvm.Cond.methodLink "PlainMusic" (266 : Nat) ({ cls := "PlainMusic", name := "greatestDivisor", desc := "(JJ)J" } : Jvm.MethodName)) ∈ gw := gx_6 (List.mem_of_getElem? (i := 126) rfl) (by decide +kernel)
set_option maxRecDepth 100000 in
theorem gwi_1460 : (Jvm.Cond.constantDouble "PlainMusic" (232 : Nat) (4598175219545276416 : UInt64)) ∈ gw := gx_6 (List.mem_of_getElem? (i := 127) rfl) (by decide +kernel)
set_option maxRecDepth 100000 in
theorem gwi_1461 : (Jvm.Cond.methodLink "PlainMusic" (234 : Nat) ({ cls := "PlainMusic", name := "waveAt", desc := "(IJJ)D" } : Jvm.MethodName)) ∈ gw := gx_6 (List.mem_of_getElem? (i := 128) rfl) (by decide +kernel)
set_option maxRecDepth 100000 in
theorem gwi_1462 : (Jvm.Cond.static ({ cls := "PlainMusic", name := "waveAt", desc := "(IJJ)D" } : Jvm.MethodName)) ∈ gw := gx_6 (List.mem_of_getElem? (i := 129) rfl) (by decide +kernel)
set_option maxRecDepth 100000 in
theorem gwi_1463 : (Jvm.Cond.code ({ cls := "PlainMusic", name := "waveAt", desc := "(IJJ)D" } : Jvm.MethodName) prog_1_method_28_code (15 : Nat) (Option.some Jvm.ClassFile.FieldType.double)) ∈ gw := gx_6 (List.mem_of_getElem? (i := 130) rfl) (by decide +kernel)
set_option maxRecDepth 100000 in
theorem gwi_1464 : (Jvm.Cond.methodLink "PlainMusic" (238 : Nat) ({ cls := "java/lang/Math", name := "floorMod", desc := "(II)I" } : Jvm.MethodName)) ∈ gw := gx_6 (List.mem_of_getElem? (i := 131) rfl) (by decide +kernel)
set_option maxRecDepth 100000 in
theorem gwi_1465 : (Jvm.Cond.methodLink "PlainMusic" (243 : Nat) ({ cls := "java/lang/Math", name := "floorDiv", desc := "(II)I" } : Jvm.MethodName)) ∈ gw := gx_6 (List.mem_of_getElem? (i := 132) rfl) (by decide +kernel)
set_option maxRecDepth 100000 in
theorem gwi_1466 : (Jvm.Cond.methodLink "PlainMusic" (246 : Nat) ({ cls := "java/lang/Math", name := "max", desc := "(II)I" } : Jvm.MethodName)) ∈ gw := gx_6 (List.mem_of_getElem? (i := 133) rfl) (by decide +kernel)
set_option maxRecDepth 100000 in
theorem gwi_1467 : (Jvm.Cond.methodLink "PlainMusic" (249 : Nat) ({ cls := "java/lang/Math", name := "min", desc := "(II)I" } : Jvm.MethodName)) ∈ gw := gx_6 (List.mem_of_getElem? (i := 134) rfl) (by decide +kernel)
set_option maxRecDepth 100000 in
theorem gwi_1468 : (Jvm.Cond.constantLong "PlainMusic" (252 : Nat) (8 : Int64)) ∈ gw := gx_6 (List.mem_of_getElem? (i := 135) rfl) (by decide +kernel)
set_option maxRecDepth 100000 in
theorem gwi_1469 : (Jvm.Cond.fieldLink "PlainMusic" (254 : Nat) "PlainMusic" "RATIO_TOPS" "[I") ∈ gw := gx_6 (List.mem_of_getElem? (i := 136) rfl) (by decide +kernel)
set_option maxRecDepth 100000 in
theorem gwi_1471 : (Jvm.Cond.fieldLink "PlainMusic" (257 : Nat) "PlainMusic" "RATIO_BOTTOMS" "[I") ∈ gw := gx_6 (List.mem_of_getElem? (i := 138) rfl) (by decide +kernel)
set_option maxRecDepth 100000 in
theorem gwi_1473 : (Jvm.Cond.constantDouble "PlainMusic" (260 : Nat) (4616189618054758400 : UInt64)) ∈ gw := gx_6 (List.mem_of_getElem? (i := 140) rfl) (by decide +kernel)
set_option maxRecDepth 100000 in
theorem gwi_1474 : (Jvm.Cond.constantDouble "PlainMusic" (262 : Nat) (4604930618986332160 : UInt64)) ∈ gw := gx_6 (List.mem_of_getElem? (i := 141) rfl) (by decide +kernel)
set_option maxRecDepth 100000 in
theorem gwi_1475 : (Jvm.Cond.constantDouble "PlainMusic" (264 : Nat) (4611686018427387904 : UInt64)) ∈ gw := gx_6 (List.mem_of_getElem? (i := 142) rfl) (by decide +kernel)
set_option maxRecDepth 100000 in
theorem gwi_1476 : (Jvm.Cond.classLink "PlainMusicLaw" (10 : Nat) "PlainMusicModel") ∈ gw := gx_6 (List.mem_of_getElem? (i := 143) rfl) (by decide +kernel)
set_option maxRecDepth 100000 in
theorem gwi_1477 : (Jvm.Cond.instantiable "PlainMusicModel" (111 : Nat)) ∈ gw := gx_6 (List.mem_of_getElem? (i := 144) rfl) (by decide +kernel)
set_option maxRecDepth 100000 in
theorem gwi_1478 : (Jvm.Cond.methodLink "PlainMusicLaw" (12 : Nat) ({ cls := "PlainMusicModel", name := "<init>", desc := "()V" } : Jvm.MethodName)) ∈ gw := gx_6 (List.mem_of_getElem? (i := 145) rfl) (by decide +kernel)
set_option maxRecDepth 100000 in
theorem gwi_1479 : (Jvm.Cond.instanceMethod ({ cls := "PlainMusicModel", name := "<init>", desc := "()V" } : Jvm.MethodName)) ∈ gw := gx_6 (List.mem_of_getElem? (i := 146) rfl) (by decide +kernel)
set_option maxRecDepth 100000 in
theorem gwi_1480 : (Jvm.Cond.code ({ cls := "PlainMusicModel", name := "<init>", desc := "()V" } : Jvm.MethodName) prog_14_method_1_code (1 : Nat) (Option.none : Option Jvm.ClassFile.FieldType)) ∈ gw := gx_6 (List.mem_of_getElem? (i := 147) rfl) (by decide +kernel)
set_option maxRecDepth 100000 in
theorem gwi_1481 : (Jvm.Cond.methodLink "PlainMusicModel" (1 : Nat) ({ cls := "java/lang/Object", name := "<init>", desc := "()V" } : Jvm.MethodName)) ∈ gw := gx_6 (List.mem_of_getElem? (i := 148) rfl) (by decide +kernel)
set_option maxRecDepth 100000 in
theorem gwi_1482 : (Jvm.Cond.fieldLink "PlainMusicModel" (7 : Nat) "PlainMusicModel" "tape" "[I") ∈ gw := gx_6 (List.mem_of_getElem? (i := 149) rfl) (by decide +kernel)
set_option maxRecDepth 100000 in
theorem gwi_1483 : (Jvm.Cond.fieldLink "PlainMusicModel" (226 : Nat) "PlainMusicModel" "taped" "I") ∈ gw := gx_6 (List.mem_of_getElem? (i := 150) rfl) (by decide +kernel)
set_option maxRecDepth 100000 in
theorem gwi_1484 : (Jvm.Cond.fieldLink "PlainMusicModel" (249 : Nat) "PlainMusicModel" "end" "I") ∈ gw := gx_6 (List.mem_of_getElem? (i := 151) rfl) (by decide +kernel)
set_option maxRecDepth 100000 in
theorem gwi_1485 : (Jvm.Cond.fieldLink "PlainMusicModel" (252 : Nat) "PlainMusicModel" "scan" "I") ∈ gw := gx_6 (List.mem_of_getElem? (i := 152) rfl) (by decide +kernel)
set_option maxRecDepth 100000 in
theorem gwi_1486 : (Jvm.Cond.fieldLink "PlainMusicModel" (239 : Nat) "PlainMusicModel" "kind" "I") ∈ gw := gx_6 (List.mem_of_getElem? (i := 153) rfl) (by decide +kernel)
set_option maxRecDepth 100000 in
theorem gwi_1487 : (Jvm.Cond.fieldLink "PlainMusicModel" (242 : Nat) "PlainMusicModel" "from" "I") ∈ gw := gx_6 (List.mem_of_getElem? (i := 154) rfl) (by decide +kernel)
set_option maxRecDepth 100000 in
theorem gwi_1488 : (Jvm.Cond.fieldLink "PlainMusicModel" (271 : Nat) "PlainMusicModel" "value" "I") ∈ gw := gx_6 (List.mem_of_getElem? (i := 155) rfl) (by decide +kernel)
set_option maxRecDepth 100000 in
theorem gwi_1489 : (Jvm.Cond.fieldLink "PlainMusicModel" (290 : Nat) "PlainMusicModel" "name" "J") ∈ gw := gx_6 (List.mem_of_getElem? (i := 156) rfl) (by decide +kernel)
set_option maxRecDepth 100000 in
theorem gwi_1490 : (Jvm.Cond.fieldLink "PlainMusicModel" (284 : Nat) "PlainMusicModel" "key" "I") ∈ gw := gx_6 (List.mem_of_getElem? (i := 157) rfl) (by decide +kernel)
set_option maxRecDepth 100000 in
theorem gwi_1491 : (Jvm.Cond.fieldLink "PlainMusicModel" (287 : Nat) "PlainMusicModel" "step" "I") ∈ gw := gx_6 (List.mem_of_getElem? (i := 158) rfl) (by decide +kernel)
set_option maxRecDepth 100000 in
theorem gwi_1492 : (Jvm.Cond.fieldLink "PlainMusicModel" (278 : Nat) "PlainMusicModel" "signs" "I") ∈ gw := gx_6 (List.mem_of_getElem? (i := 159) rfl) (by decide +kernel)
set_option maxRecDepth 100000 in
theorem gwi_1493 : (Jvm.Cond.fieldLink "PlainMusicModel" (233 : Nat) "PlainMusicModel" "fault" "I") ∈ gw := gx_6 (List.mem_of_getElem? (i := 160) rfl) (by decide +kernel)
set_option maxRecDepth 100000 in
theorem gwi_1494 : (Jvm.Cond.fieldLink "PlainMusicModel" (236 : Nat) "PlainMusicModel" "faultAt" "I") ∈ gw := gx_6 (List.mem_of_getElem? (i := 161) rfl) (by decide +kernel)
set_option maxRecDepth 100000 in
theorem gwi_1495 : (Jvm.Cond.fieldLink "PlainMusicModel" (13 : Nat) "PlainMusicModel" "placed" "I") ∈ gw := gx_6 (List.mem_of_getElem? (i := 162) rfl) (by decide +kernel)
set_option maxRecDepth 100000 in
theorem gwi_1496 : (Jvm.Cond.fieldLink "PlainMusicModel" (17 : Nat) "PlainMusicModel" "voices" "[I") ∈ gw := gx_6 (List.mem_of_getElem? (i := 163) rfl) (by decide +kernel)
set_option maxRecDepth 100000 in
theorem gwi_1497 : (Jvm.Cond.fieldLink "PlainMusicModel" (20 : Nat) "PlainMusicModel" "timeTop" "[I") ∈ gw := gx_6 (List.mem_of_getElem? (i := 164) rfl) (by decide +kernel)
set_option maxRecDepth 100000 in
theorem gwi_1498 : (Jvm.Cond.fieldLink "PlainMusicModel" (23 : Nat) "PlainMusicModel" "timeLow" "[I") ∈ gw := gx_6 (List.mem_of_getElem? (i := 165) rfl) (by decide +kernel)
set_option maxRecDepth 100000 in
theorem gwi_1499 : (Jvm.Cond.fieldLink "PlainMusicModel" (26 : Nat) "PlainMusicModel" "lineSize" "[I") ∈ gw := gx_6 (List.mem_of_getElem? (i := 166) rfl) (by decide +kernel)
set_option maxRecDepth 100000 in
theorem gwi_1500 : (Jvm.Cond.fieldLink "PlainMusicModel" (29 : Nat) "PlainMusicModel" "lineKey" "[I") ∈ gw := gx_6 (List.mem_of_getElem? (i := 167) rfl) (by decide +kernel)
set_option maxRecDepth 100000 in
theorem gwi_1501 : (Jvm.Cond.fieldLink "PlainMusicModel" (32 : Nat) "PlainMusicModel" "rules" "[I") ∈ gw := gx_6 (List.mem_of_getElem? (i := 168) rfl) (by decide +kernel)
set_option maxRecDepth 100000 in
theorem gwi_1502 : (Jvm.Cond.fieldLink "PlainMusicModel" (35 : Nat) "PlainMusicModel" "ruleOf" "[I") ∈ gw := gx_6 (List.mem_of_getElem? (i := 169) rfl) (by decide +kernel)
set_option maxRecDepth 100000 in
theorem gwi_1503 : (Jvm.Cond.fieldLink "PlainMusicModel" (38 : Nat) "PlainMusicModel" "ruleLeft" "[I") ∈ gw := gx_6 (List.mem_of_getElem? (i := 170) rfl) (by decide +kernel)
set_option maxRecDepth 100000 in
theorem gwi_1504 : (Jvm.Cond.fieldLink "PlainMusicModel" (41 : Nat) "PlainMusicModel" "ruleRight" "[I") ∈ gw := gx_6 (List.mem_of_getElem? (i := 171) rfl) (by decide +kernel)
set_option maxRecDepth 100000 in
theorem gwi_1505 : (Jvm.Cond.fieldLink "PlainMusicModel" (44 : Nat) "PlainMusicModel" "rowSize" "[I") ∈ gw := gx_6 (List.mem_of_getElem? (i := 172) rfl) (by decide +kernel)
set_option maxRecDepth 100000 in
theorem gwi_1506 : (Jvm.Cond.fieldLink "PlainMusicModel" (47 : Nat) "PlainMusicModel" "row" "[I") ∈ gw := gx_6 (List.mem_of_getElem? (i := 173) rfl) (by decide +kernel)
set_option maxRecDepth 100000 in
theorem gwi_1507 : (Jvm.Cond.fieldLink "PlainMusicModel" (50 : Nat) "PlainMusicModel" "nameCount" "[I") ∈ gw := gx_6 (List.mem_of_getElem? (i := 174) rfl) (by decide +kernel)
set_option maxRecDepth 100000 in
theorem gwi_1508 : (Jvm.Cond.fieldLink "PlainMusicModel" (53 : Nat) "PlainMusicModel" "names" "[J") ∈ gw := gx_6 (List.mem_of_getElem? (i := 175) rfl) (by decide +kernel)
set_option maxRecDepth 100000 in
theorem gwi_1509 : (Jvm.Cond.fieldLink "PlainMusicModel" (57 : Nat) "PlainMusicModel" "count" "[I") ∈ gw := gx_6 (List.mem_of_getElem? (i := 176) rfl) (by decide +kernel)
set_option maxRecDepth 100000 in
theorem gwi_1510 : (Jvm.Cond.fieldLink "PlainMusicModel" (60 : Nat) "PlainMusicModel" "bars" "[I") ∈ gw := gx_6 (List.mem_of_getElem? (i := 177) rfl) (by decide +kernel)
set_option maxRecDepth 100000 in
theorem gwi_1511 : (Jvm.Cond.fieldLink "PlainMusicModel" (63 : Nat) "PlainMusicModel" "startTop" "[J") ∈ gw := gx_6 (List.mem_of_getElem? (i := 178) rfl) (by decide +kernel)
set_option maxRecDepth 100000 in
theorem gwi_1512 : (Jvm.Cond.fieldLink "PlainMusicModel" (66 : Nat) "PlainMusicModel" "startLow" "[J") ∈ gw := gx_6 (List.mem_of_getElem? (i := 179) rfl) (by decide +kernel)
set_option maxRecDepth 100000 in
theorem gwi_1513 : (Jvm.Cond.fieldLink "PlainMusicModel" (69 : Nat) "PlainMusicModel" "lengthTop" "[J") ∈ gw := gx_6 (List.mem_of_getElem? (i := 180) rfl) (by decide +kernel)
set_option maxRecDepth 100000 in
theorem gwi_1514 : (Jvm.Cond.fieldLink "PlainMusicModel" (72 : Nat) "PlainMusicModel" "lengthLow" "[J") ∈ gw := gx_6 (List.mem_of_getElem? (i := 181) rfl) (by decide +kernel)
set_option maxRecDepth 100000 in
theorem gwi_1515 : (Jvm.Cond.fieldLink "PlainMusicModel" (75 : Nat) "PlainMusicModel" "pitches" "[I") ∈ gw := gx_6 (List.mem_of_getElem? (i := 182) rfl) (by decide +kernel)
set_option maxRecDepth 100000 in
theorem gwi_1516 : (Jvm.Cond.fieldLink "PlainMusicModel" (78 : Nat) "PlainMusicModel" "keys" "[I") ∈ gw := gx_6 (List.mem_of_getElem? (i := 183) rfl) (by decide +kernel)
set_option maxRecDepth 100000 in
theorem gwi_1517 : (Jvm.Cond.fieldLink "PlainMusicModel" (81 : Nat) "PlainMusicModel" "steps" "[I") ∈ gw := gx_6 (List.mem_of_getElem? (i := 184) rfl) (by decide +kernel)
set_option maxRecDepth 100000 in
theorem gwi_1518 : (Jvm.Cond.fieldLink "PlainMusicModel" (84 : Nat) "PlainMusicModel" "accidents" "[I") ∈ gw := gx_6 (List.mem_of_getElem? (i := 185) rfl) (by decide +kernel)
set_option maxRecDepth 100000 in
theorem gwi_1519 : (Jvm.Cond.fieldLink "PlainMusicModel" (87 : Nat) "PlainMusicModel" "tied" "[Z") ∈ gw := gx_6 (List.mem_of_getElem? (i := 186) rfl) (by decide +kernel)
set_option maxRecDepth 100000 in
theorem gwi_1520 : (Jvm.Cond.fieldLink "PlainMusicModel" (91 : Nat) "PlainMusicModel" "barOf" "[I") ∈ gw := gx_6 (List.mem_of_getElem? (i := 187) rfl) (by decide +kernel)
set_option maxRecDepth 100000 in
theorem gwi_1521 : (Jvm.Cond.fieldLink "PlainMusicModel" (94 : Nat) "PlainMusicModel" "told" "[I") ∈ gw := gx_6 (List.mem_of_getElem? (i := 188) rfl) (by decide +kernel)
set_option maxRecDepth 100000 in
theorem gwi_1522 : (Jvm.Cond.fieldLink "PlainMusicModel" (97 : Nat) "PlainMusicModel" "dots" "[I") ∈ gw := gx_6 (List.mem_of_getElem? (i := 189) rfl) (by decide +kernel)
set_option maxRecDepth 100000 in
theorem gwi_1523 : (Jvm.Cond.fieldLink "PlainMusicModel" (100 : Nat) "PlainMusicModel" "barTop" "[J") ∈ gw := gx_6 (List.mem_of_getElem? (i := 190) rfl) (by decide +kernel)
set_option maxRecDepth 100000 in
theorem gwi_1524 : (Jvm.Cond.fieldLink "PlainMusicModel" (103 : Nat) "PlainMusicModel" "barLow" "[J") ∈ gw := gx_6 (List.mem_of_getElem? (i := 191) rfl) (by decide +kernel)
set_option maxRecDepth 100000 in
theorem gwi_1525 : (Jvm.Cond.fieldLink "PlainMusicModel" (354 : Nat) "PlainMusicModel" "parts" "I") ∈ gw := gx_6 (List.mem_of_getElem? (i := 192) rfl) (by decide +kernel)
set_option maxRecDepth 100000 in
theorem gwi_1526 : (Jvm.Cond.fieldLink "PlainMusicModel" (106 : Nat) "PlainMusicModel" "part" "[I") ∈ gw := gx_6 (List.mem_of_getElem? (i := 193) rfl) (by decide +kernel)
set_option maxRecDepth 100000 in
theorem gwi_1527 : (Jvm.Cond.fieldLink "PlainMusicModel" (109 : Nat) "PlainMusicModel" "partTop" "[I") ∈ gw := gx_6 (List.mem_of_getElem? (i := 194) rfl) (by decide +kernel)
set_option maxRecDepth 100000 in
theorem gwi_1528 : (Jvm.Cond.fieldLink "PlainMusicModel" (112 : Nat) "PlainMusicModel" "partLow" "[I") ∈ gw := gx_6 (List.mem_of_getElem? (i := 195) rfl) (by decide +kernel)
set_option maxRecDepth 100000 in
theorem gwi_1529 : (Jvm.Cond.fieldLink "PlainMusicModel" (115 : Nat) "PlainMusicModel" "partPitches" "[I") ∈ gw := gx_6 (List.mem_of_getElem? (i := 196) rfl) (by decide +kernel)
set_option maxRecDepth 100000 in
theorem gwi_1530 : (Jvm.Cond.fieldLink "PlainMusicModel" (118 : Nat) "PlainMusicModel" "partKeys" "[I") ∈ gw := gx_6 (List.mem_of_getElem? (i := 197) rfl) (by decide +kernel)
set_option maxRecDepth 100000 in
theorem gwi_1531 : (Jvm.Cond.fieldLink "PlainMusicModel" (121 : Nat) "PlainMusicModel" "partSteps" "[I") ∈ gw := gx_6 (List.mem_of_getElem? (i := 198) rfl) (by decide +kernel)
set_option maxRecDepth 100000 in
theorem gwi_1532 : (Jvm.Cond.fieldLink "PlainMusicModel" (124 : Nat) "PlainMusicModel" "partSigns" "[I") ∈ gw := gx_6 (List.mem_of_getElem? (i := 199) rfl) (by decide +kernel)
set_option maxRecDepth 100000 in
theorem gwi_1533 : (Jvm.Cond.fieldLink "PlainMusicModel" (127 : Nat) "PlainMusicModel" "partTied" "[Z") ∈ gw := gx_6 (List.mem_of_getElem? (i := 200) rfl) (by decide +kernel)
set_option maxRecDepth 100000 in
theorem gwi_1534 : (Jvm.Cond.fieldLink "PlainMusicModel" (130 : Nat) "PlainMusicModel" "partDots" "[I") ∈ gw := gx_6 (List.mem_of_getElem? (i := 201) rfl) (by decide +kernel)
set_option maxRecDepth 100000 in
theorem gwi_1535 : (Jvm.Cond.fieldLink "PlainMusicModel" (133 : Nat) "PlainMusicModel" "mate" "[I") ∈ gw := gx_6 (List.mem_of_getElem? (i := 202) rfl) (by decide +kernel)
set_option maxRecDepth 100000 in
theorem gwi_1536 : (Jvm.Cond.fieldLink "PlainMusicModel" (136 : Nat) "PlainMusicModel" "firstColon" "[I") ∈ gw := gx_6 (List.mem_of_getElem? (i := 203) rfl) (by decide +kernel)
set_option maxRecDepth 100000 in
theorem gwi_1537 : (Jvm.Cond.fieldLink "PlainMusicModel" (139 : Nat) "PlainMusicModel" "nextColon" "[I") ∈ gw := gx_6 (List.mem_of_getElem? (i := 204) rfl) (by decide +kernel)
set_option maxRecDepth 100000 in
theorem gwi_1538 : (Jvm.Cond.fieldLink "PlainMusicModel" (142 : Nat) "PlainMusicModel" "lastColon" "[I") ∈ gw := gx_6 (List.mem_of_getElem? (i := 205) rfl) (by decide +kernel)
set_option maxRecDepth 100000 in
theorem gwi_1539 : (Jvm.Cond.fieldLink "PlainMusicModel" (145 : Nat) "PlainMusicModel" "colonCount" "[I") ∈ gw := gx_6 (List.mem_of_getElem? (i := 206) rfl) (by decide +kernel)
set_option maxRecDepth 100000 in
theorem gwi_1540 : (Jvm.Cond.fieldLink "PlainMusicModel" (148 : Nat) "PlainMusicModel" "openPart" "[I") ∈ gw := gx_6 (List.mem_of_getElem? (i := 207) rfl) (by decide +kernel)
set_option maxRecDepth 100000 in
theorem gwi_1541 : (Jvm.Cond.fieldLink "PlainMusicModel" (316 : Nat) "PlainMusicModel" "hasTime" "Z") ∈ gw := gx_6 (List.mem_of_getElem? (i := 208) rfl) (by decide +kernel)
set_option maxRecDepth 100000 in
theorem gwi_1542 : (Jvm.Cond.fieldLink "PlainMusicModel" (320 : Nat) "PlainMusicModel" "hasLine" "Z") ∈ gw := gx_6 (List.mem_of_getElem? (i := 209) rfl) (by decide +kernel)
set_option maxRecDepth 100000 in
theorem gwi_1543 : (Jvm.Cond.fieldLink "PlainMusicModel" (323 : Nat) "PlainMusicModel" "hasRow" "Z") ∈ gw := gx_6 (List.mem_of_getElem? (i := 210) rfl) (by decide +kernel)
set_option maxRecDepth 100000 in
theorem gwi_1544 : (Jvm.Cond.fieldLink "PlainMusicModel" (151 : Nat) "PlainMusicModel" "openKind" "[I") ∈ gw := gx_6 (List.mem_of_getElem? (i := 211) rfl) (by decide +kernel)
set_option maxRecDepth 100000 in
theorem gwi_1545 : (Jvm.Cond.fieldLink "PlainMusicModel" (357 : Nat) "PlainMusicModel" "opens" "I") ∈ gw := gx_6 (List.mem_of_getElem? (i := 212) rfl) (by decide +kernel)
set_option maxRecDepth 100000 in
theorem gwi_1546 : (Jvm.Cond.fieldLink "PlainMusicModel" (360 : Nat) "PlainMusicModel" "sounds" "I") ∈ gw := gx_6 (List.mem_of_getElem? (i := 213) rfl) (by decide +kernel)
set_option maxRecDepth 100000 in
theorem gwi_1547 : (Jvm.Cond.fieldLink "PlainMusicModel" (385 : Nat) "PlainMusicModel" "top" "J") ∈ gw := gx_6 (List.mem_of_getElem? (i := 214) rfl) (by decide +kernel)
set_option maxRecDepth 100000 in
theorem gwi_1548 : (Jvm.Cond.fieldLink "PlainMusicModel" (388 : Nat) "PlainMusicModel" "low" "J") ∈ gw := gx_6 (List.mem_of_getElem? (i := 215) rfl) (by decide +kernel)
set_option maxRecDepth 100000 in
theorem gwi_1549 : (Jvm.Cond.fieldLink "PlainMusicModel" (154 : Nat) "PlainMusicModel" "walkAt" "[I") ∈ gw := gx_6 (List.mem_of_getElem? (i := 216) rfl) (by decide +kernel)
set_option maxRecDepth 100000 in
theorem gwi_1550 : (Jvm.Cond.fieldLink "PlainMusicModel" (157 : Nat) "PlainMusicModel" "turn" "[I") ∈ gw := gx_6 (List.mem_of_getElem? (i := 217) rfl) (by decide +kernel)
set_option maxRecDepth 100000 in
theorem gwi_1551 : (Jvm.Cond.fieldLink "PlainMusicModel" (160 : Nat) "PlainMusicModel" "turns" "[I") ∈ gw := gx_6 (List.mem_of_getElem? (i := 218) rfl) (by decide +kernel)
set_option maxRecDepth 100000 in
theorem gwi_1552 : (Jvm.Cond.fieldLink "PlainMusicModel" (399 : Nat) "PlainMusicModel" "depth" "I") ∈ gw := gx_6 (List.mem_of_getElem? (i := 219) rfl) (by decide +kernel)
set_option maxRecDepth 100000 in
theorem gwi_1553 : (Jvm.Cond.fieldLink "PlainMusicModel" (402 : Nat) "PlainMusicModel" "come" "I") ∈ gw := gx_6 (List.mem_of_getElem? (i := 220) rfl) (by decide +kernel)
set_option maxRecDepth 100000 in
theorem gwi_1554 : (Jvm.Cond.fieldLink "PlainMusicModel" (405 : Nat) "PlainMusicModel" "events" "I") ∈ gw := gx_6 (List.mem_of_getElem? (i := 221) rfl) (by decide +kernel)
set_option maxRecDepth 100000 in
theorem gwi_1555 : (Jvm.Cond.fieldLink "PlainMusicModel" (408 : Nat) "PlainMusicModel" "lines" "I") ∈ gw := gx_6 (List.mem_of_getElem? (i := 222) rfl) (by decide +kernel)
set_option maxRecDepth 100000 in
theorem gwi_1556 : (Jvm.Cond.fieldLink "PlainMusicModel" (411 : Nat) "PlainMusicModel" "far" "Z") ∈ gw := gx_6 (List.mem_of_getElem? (i := 223) rfl) (by decide +kernel)
set_option maxRecDepth 100000 in
theorem gwi_1557 : (Jvm.Cond.fieldLink "PlainMusicModel" (414 : Nat) "PlainMusicModel" "nowTop" "J") ∈ gw := gx_6 (List.mem_of_getElem? (i := 224) rfl) (by decide +kernel)
set_option maxRecDepth 100000 in
theorem gwi_1558 : (Jvm.Cond.fieldLink "PlainMusicModel" (417 : Nat) "PlainMusicModel" "nowLow" "J") ∈ gw := gx_6 (List.mem_of_getElem? (i := 225) rfl) (by decide +kernel)
set_option maxRecDepth 100000 in
theorem gwi_1559 : (Jvm.Cond.fieldLink "PlainMusicModel" (420 : Nat) "PlainMusicModel" "scaleTop" "J") ∈ gw := gx_6 (List.mem_of_getElem? (i := 226) rfl) (by decide +kernel)
set_option maxRecDepth 100000 in
theorem gwi_1560 : (Jvm.Cond.fieldLink "PlainMusicModel" (423 : Nat) "PlainMusicModel" "scaleLow" "J") ∈ gw := gx_6 (List.mem_of_getElem? (i := 227) rfl) (by decide +kernel)
set_option maxRecDepth 100000 in
theorem gwi_1561 : (Jvm.Cond.fieldLink "PlainMusicModel" (163 : Nat) "PlainMusicModel" "inEnding" "[Z") ∈ gw := gx_6 (List.mem_of_getElem? (i := 228) rfl) (by decide +kernel)
set_option maxRecDepth 100000 in
theorem gwi_1562 : (Jvm.Cond.fieldLink "PlainMusicModel" (471 : Nat) "PlainMusicModel" "faults" "I") ∈ gw := gx_6 (List.mem_of_getElem? (i := 229) rfl) (by decide +kernel)
set_option maxRecDepth 100000 in
theorem gwi_1563 : (Jvm.Cond.fieldLink "PlainMusicModel" (166 : Nat) "PlainMusicModel" "faultSort" "[I") ∈ gw := gx_6 (List.mem_of_getElem? (i := 230) rfl) (by decide +kernel)
set_option maxRecDepth 100000 in
theorem gwi_1564 : (Jvm.Cond.fieldLink "PlainMusicModel" (169 : Nat) "PlainMusicModel" "faultVoice" "[I") ∈ gw := gx_6 (List.mem_of_getElem? (i := 231) rfl) (by decide +kernel)
set_option maxRecDepth 100000 in
theorem gwi_1565 : (Jvm.Cond.fieldLink "PlainMusicModel" (172 : Nat) "PlainMusicModel" "faultEvent" "[I") ∈ gw := gx_6 (List.mem_of_getElem? (i := 232) rfl) (by decide +kernel)
set_option maxRecDepth 100000 in
theorem gwi_1566 : (Jvm.Cond.fieldLink "PlainMusicModel" (175 : Nat) "PlainMusicModel" "faultOther" "[I") ∈ gw := gx_6 (List.mem_of_getElem? (i := 233) rfl) (by decide +kernel)
set_option maxRecDepth 100000 in
theorem gwi_1567 : (Jvm.Cond.fieldLink "PlainMusicModel" (474 : Nat) "PlainMusicModel" "groups" "I") ∈ gw := gx_6 (List.mem_of_getElem? (i := 234) rfl) (by decide +kernel)
set_option maxRecDepth 100000 in
theorem gwi_1568 : (Jvm.Cond.fieldLink "PlainMusicModel" (178 : Nat) "PlainMusicModel" "group" "[I") ∈ gw := gx_6 (List.mem_of_getElem? (i := 235) rfl) (by decide +kernel)
set_option maxRecDepth 100000 in
theorem gwi_1569 : (Jvm.Cond.fieldLink "PlainMusicModel" (181 : Nat) "PlainMusicModel" "least" "[I") ∈ gw := gx_6 (List.mem_of_getElem? (i := 236) rfl) (by decide +kernel)
set_option maxRecDepth 100000 in
theorem gwi_1570 : (Jvm.Cond.fieldLink "PlainMusicModel" (184 : Nat) "PlainMusicModel" "take" "[I") ∈ gw := gx_6 (List.mem_of_getElem? (i := 237) rfl) (by decide +kernel)
set_option maxRecDepth 100000 in
theorem gwi_1571 : (Jvm.Cond.fieldLink "PlainMusicModel" (477 : Nat) "PlainMusicModel" "lineCount" "I") ∈ gw := gx_6 (List.mem_of_getElem? (i := 238) rfl) (by decide +kernel)
set_option maxRecDepth 100000 in
theorem gwi_1572 : (Jvm.Cond.fieldLink "PlainMusicModel" (187 : Nat) "PlainMusicModel" "lineBars" "[I") ∈ gw := gx_6 (List.mem_of_getElem? (i := 239) rfl) (by decide +kernel)
theorem gwi_1573 : (Jvm.Cond.fieldLink "PlainMusicModel" (480 : Nat) "PlainMusicModel" "found" "I") ∈ gw := gx_7 (List.mem_of_getElem? (i := 0) rfl) (by decide +kernel)
theorem gwi_1574 : (Jvm.Cond.fieldLink "PlainMusicModel" (190 : Nat) "PlainMusicModel" "against" "[I") ∈ gw := gx_7 (List.mem_of_getElem? (i := 1) rfl) (by decide +kernel)
theorem gwi_1575 : (Jvm.Cond.fieldLink "PlainMusicModel" (561 : Nat) "PlainMusicModel" "againstSize" "I") ∈ gw := gx_7 (List.mem_of_getElem? (i := 2) rfl) (by decide +kernel)
theorem gwi_1576 : (Jvm.Cond.fieldLink "PlainMusicModel" (567 : Nat) "PlainMusicModel" "lowKey" "I") ∈ gw := gx_7 (List.mem_of_getElem? (i := 3) rfl) (by decide +kernel)
theorem gwi_1577 : (Jvm.Cond.fieldLink "PlainMusicModel" (570 : Nat) "PlainMusicModel" "highKey" "I") ∈ gw := gx_7 (List.mem_of_getElem? (i := 4) rfl) (by decide +kernel)
theorem gwi_1578 : (Jvm.Cond.fieldLink "PlainMusicModel" (555 : Nat) "PlainMusicModel" "ruleBits" "I") ∈ gw := gx_7 (List.mem_of_getElem? (i := 5) rfl) (by decide +kernel)
theorem gwi_1579 : (Jvm.Cond.fieldLink "PlainMusicModel" (193 : Nat) "PlainMusicModel" "second" "[I") ∈ gw := gx_7 (List.mem_of_getElem? (i := 6) rfl) (by decide +kernel)
theorem gwi_1580 : (Jvm.Cond.fieldLink "PlainMusicModel" (483 : Nat) "PlainMusicModel" "readingCount" "I") ∈ gw := gx_7 (List.mem_of_getElem? (i := 7) rfl) (by decide +kernel)
theorem gwi_1581 : (Jvm.Cond.fieldLink "PlainMusicModel" (196 : Nat) "PlainMusicModel" "trees" "[J") ∈ gw := gx_7 (List.mem_of_getElem? (i := 8) rfl) (by decide +kernel)
theorem gwi_1582 : (Jvm.Cond.fieldLink "PlainMusicModel" (199 : Nat) "PlainMusicModel" "toldName" "[I") ∈ gw := gx_7 (List.mem_of_getElem? (i := 9) rfl) (by decide +kernel)
theorem gwi_1583 : (Jvm.Cond.fieldLink "PlainMusicModel" (202 : Nat) "PlainMusicModel" "toldFirst" "[I") ∈ gw := gx_7 (List.mem_of_getElem? (i := 10) rfl) (by decide +kernel)
theorem gwi_1584 : (Jvm.Cond.fieldLink "PlainMusicModel" (205 : Nat) "PlainMusicModel" "toldSize" "[I") ∈ gw := gx_7 (List.mem_of_getElem? (i := 11) rfl) (by decide +kernel)
theorem gwi_1585 : (Jvm.Cond.fieldLink "PlainMusicModel" (208 : Nat) "PlainMusicModel" "toldWhich" "[J") ∈ gw := gx_7 (List.mem_of_getElem? (i := 12) rfl) (by decide +kernel)
theorem gwi_1586 : (Jvm.Cond.fieldLink "PlainMusicModel" (486 : Nat) "PlainMusicModel" "partners" "I") ∈ gw := gx_7 (List.mem_of_getElem? (i := 13) rfl) (by decide +kernel)
theorem gwi_1587 : (Jvm.Cond.fieldLink "PlainMusicModel" (489 : Nat) "PlainMusicModel" "wayCount" "I") ∈ gw := gx_7 (List.mem_of_getElem? (i := 14) rfl) (by decide +kernel)
theorem gwi_1588 : (Jvm.Cond.fieldLink "PlainMusicModel" (211 : Nat) "PlainMusicModel" "partner" "[I") ∈ gw := gx_7 (List.mem_of_getElem? (i := 15) rfl) (by decide +kernel)
theorem gwi_1589 : (Jvm.Cond.fieldLink "PlainMusicModel" (214 : Nat) "PlainMusicModel" "one" "[I") ∈ gw := gx_7 (List.mem_of_getElem? (i := 16) rfl) (by decide +kernel)
theorem gwi_1590 : (Jvm.Cond.fieldLink "PlainMusicModel" (217 : Nat) "PlainMusicModel" "other" "[I") ∈ gw := gx_7 (List.mem_of_getElem? (i := 17) rfl) (by decide +kernel)
theorem gwi_1591 : (Jvm.Cond.fieldLink "PlainMusicModel" (220 : Nat) "PlainMusicModel" "cost" "[I") ∈ gw := gx_7 (List.mem_of_getElem? (i := 18) rfl) (by decide +kernel)
theorem gwi_1592 : (Jvm.Cond.fieldLink "PlainMusicModel" (223 : Nat) "PlainMusicModel" "ways" "[J") ∈ gw := gx_7 (List.mem_of_getElem? (i := 19) rfl) (by decide +kernel)
theorem gwi_1816 : (Jvm.Cond.methodLink "PlainMusicLaw" (17 : Nat) ({ cls := "PlainMusicModel", name := "feed", desc := "(IIIII)I" } : Jvm.MethodName)) ∈ gw := gx_8 (List.mem_of_getElem? (i := 3) rfl) (by decide +kernel)
theorem gwi_1817 : (Jvm.Cond.instanceMethod ({ cls := "PlainMusicModel", name := "feed", desc := "(IIIII)I" } : Jvm.MethodName)) ∈ gw := gx_8 (List.mem_of_getElem? (i := 4) rfl) (by decide +kernel)
theorem gwi_1818 : (Jvm.Cond.selects "PlainMusicModel" ({ cls := "PlainMusicModel", name := "feed", desc := "(IIIII)I" } : Jvm.MethodName) ({ cls := "PlainMusicModel", name := "feed", desc := "(IIIII)I" } : Jvm.MethodName)) ∈ gw := gx_8 (List.mem_of_getElem? (i := 5) rfl) (by decide +kernel)
theorem gwi_1819 : (Jvm.Cond.code ({ cls := "PlainMusicModel", name := "feed", desc := "(IIIII)I" } : Jvm.MethodName) prog_14_method_2_code (6 : Nat) (Option.some Jvm.ClassFile.FieldType.int)) ∈ gw := gx_8 (List.mem_of_getElem? (i := 6) rfl) (by decide +kernel)
theorem gwi_1820 : (Jvm.Cond.methodLink "PlainMusicModel" (229 : Nat) ({ cls := "PlainMusicModel", name := "lay", desc := "(I)V" } : Jvm.MethodName)) ∈ gw := gx_8 (List.mem_of_getElem? (i := 7) rfl) (by decide +kernel)
theorem gwi_1822 : (Jvm.Cond.instanceMethod ({ cls := "PlainMusicModel", name := "lay", desc := "(I)V" } : Jvm.MethodName)) ∈ gw := gx_8 (List.mem_of_getElem? (i := 9) rfl) (by decide +kernel)
theorem gwi_1823 : (Jvm.Cond.code ({ cls := "PlainMusicModel", name := "lay", desc := "(I)V" } : Jvm.MethodName) prog_14_method_3_code (3 : Nat) (Option.none : Option Jvm.ClassFile.FieldType)) ∈ gw := gx_8 (List.mem_of_getElem? (i := 10) rfl) (by decide +kernel)
theorem gwi_1824 : (Jvm.Cond.methodLink "PlainMusicLaw" (22 : Nat) ({ cls := "PlainMusicModel", name := "cut", desc := "(I)I" } : Jvm.MethodName)) ∈ gw := gx_8 (List.mem_of_getElem? (i := 11) rfl) (by decide +kernel)
theorem gwi_1825 : (Jvm.Cond.instanceMethod ({ cls := "PlainMusicModel", name := "cut", desc := "(I)I" } : Jvm.MethodName)) ∈ gw := gx_8 (List.mem_of_getElem? (i := 12) rfl) (by decide +kernel)
theorem gwi_1826 : (Jvm.Cond.selects "PlainMusicModel" ({ cls := "PlainMusicModel", name := "cut", desc := "(I)I" } : Jvm.MethodName) ({ cls := "PlainMusicModel", name := "cut", desc := "(I)I" } : Jvm.MethodName)) ∈ gw := gx_8 (List.mem_of_getElem? (i := 13) rfl) (by decide +kernel)
theorem gwi_1827 : (Jvm.Cond.code ({ cls := "PlainMusicModel", name := "cut", desc := "(I)I" } : Jvm.MethodName) prog_14_method_4_code (2 : Nat) (Option.some Jvm.ClassFile.FieldType.int)) ∈ gw := gx_8 (List.mem_of_getElem? (i := 14) rfl) (by decide +kernel)
theorem gwi_1828 : (Jvm.Cond.methodLink "PlainMusicLaw" (27 : Nat) ({ cls := "PlainMusicModel", name := "score", desc := "()I" } : Jvm.MethodName)) ∈ gw := gx_8 (List.mem_of_getElem? (i := 15) rfl) (by decide +kernel)
theorem gwi_1829 : (Jvm.Cond.instanceMethod ({ cls := "PlainMusicModel", name := "score", desc := "()I" } : Jvm.MethodName)) ∈ gw := gx_8 (List.mem_of_getElem? (i := 16) rfl) (by decide +kernel)
theorem gwi_1830 : (Jvm.Cond.selects "PlainMusicModel" ({ cls := "PlainMusicModel", name := "score", desc := "()I" } : Jvm.MethodName) ({ cls := "PlainMusicModel", name := "score", desc := "()I" } : Jvm.MethodName)) ∈ gw := gx_8 (List.mem_of_getElem? (i := 17) rfl) (by decide +kernel)
theorem gwi_1831 : (Jvm.Cond.code ({ cls := "PlainMusicModel", name := "score", desc := "()I" } : Jvm.MethodName) prog_14_method_47_code (3 : Nat) (Option.some Jvm.ClassFile.FieldType.int)) ∈ gw := gx_8 (List.mem_of_getElem? (i := 18) rfl) (by decide +kernel)
theorem gwi_1832 : (Jvm.Cond.methodLink "PlainMusicModel" (465 : Nat) ({ cls := "PlainMusicModel", name := "parse", desc := "()Z" } : Jvm.MethodName)) ∈ gw := gx_8 (List.mem_of_getElem? (i := 19) rfl) (by decide +kernel)
theorem gwi_1834 : (Jvm.Cond.instanceMethod ({ cls := "PlainMusicModel", name := "parse", desc := "()Z" } : Jvm.MethodName)) ∈ gw := gx_8 (List.mem_of_getElem? (i := 21) rfl) (by decide +kernel)
theorem gwi_1835 : (Jvm.Cond.code ({ cls := "PlainMusicModel", name := "parse", desc := "()Z" } : Jvm.MethodName) prog_14_method_19_code (2 : Nat) (Option.some Jvm.ClassFile.FieldType.boolean)) ∈ gw := gx_8 (List.mem_of_getElem? (i := 22) rfl) (by decide +kernel)
theorem gwi_1836 : (Jvm.Cond.methodLink "PlainMusicModel" (309 : Nat) ({ cls := "PlainMusicModel", name := "next", desc := "()Z" } : Jvm.MethodName)) ∈ gw := gx_8 (List.mem_of_getElem? (i := 23) rfl) (by decide +kernel)
theorem gwi_1838 : (Jvm.Cond.instanceMethod ({ cls := "PlainMusicModel", name := "next", desc := "()Z" } : Jvm.MethodName)) ∈ gw := gx_8 (List.mem_of_getElem? (i := 25) rfl) (by decide +kernel)
theorem gwi_1839 : (Jvm.Cond.code ({ cls := "PlainMusicModel", name := "next", desc := "()Z" } : Jvm.MethodName) prog_14_method_10_code (4 : Nat) (Option.some Jvm.ClassFile.FieldType.boolean)) ∈ gw := gx_8 (List.mem_of_getElem? (i := 26) rfl) (by decide +kernel)
theorem gwi_1840 : (Jvm.Cond.methodLink "PlainMusicModel" (255 : Nat) ({ cls := "PlainMusicModel", name := "pitch", desc := "(I)V" } : Jvm.MethodName)) ∈ gw := gx_8 (List.mem_of_getElem? (i := 27) rfl) (by decide +kernel)
theorem gwi_1842 : (Jvm.Cond.instanceMethod ({ cls := "PlainMusicModel", name := "pitch", desc := "(I)V" } : Jvm.MethodName)) ∈ gw := gx_8 (List.mem_of_getElem? (i := 29) rfl) (by decide +kernel)
theorem gwi_1843 : (Jvm.Cond.code ({ cls := "PlainMusicModel", name := "pitch", desc := "(I)V" } : Jvm.MethodName) prog_14_method_12_code (5 : Nat) (Option.none : Option Jvm.ClassFile.FieldType)) ∈ gw := gx_8 (List.mem_of_getElem? (i := 30) rfl) (by decide +kernel)
theorem gwi_1844 : (Jvm.Cond.methodLink "PlainMusicModel" (274 : Nat) ({ cls := "PlainMusicModel", name := "at", desc := "(I)I" } : Jvm.MethodName)) ∈ gw := gx_8 (List.mem_of_getElem? (i := 31) rfl) (by decide +kernel)
theorem gwi_1846 : (Jvm.Cond.instanceMethod ({ cls := "PlainMusicModel", name := "at", desc := "(I)I" } : Jvm.MethodName)) ∈ gw := gx_8 (List.mem_of_getElem? (i := 33) rfl) (by decide +kernel)
theorem gwi_1847 : (Jvm.Cond.code ({ cls := "PlainMusicModel", name := "at", desc := "(I)I" } : Jvm.MethodName) prog_14_method_7_code (2 : Nat) (Option.some Jvm.ClassFile.FieldType.int)) ∈ gw := gx_8 (List.mem_of_getElem? (i := 34) rfl) (by decide +kernel)
theorem gwi_1848 : (Jvm.Cond.methodLink "PlainMusicModel" (281 : Nat) ({ cls := "PlainMusicModel", name := "whites", desc := "(I)I" } : Jvm.MethodName)) ∈ gw := gx_8 (List.mem_of_getElem? (i := 35) rfl) (by decide +kernel)
theorem gwi_1850 : (Jvm.Cond.instanceMethod ({ cls := "PlainMusicModel", name := "whites", desc := "(I)I" } : Jvm.MethodName)) ∈ gw := gx_8 (List.mem_of_getElem? (i := 37) rfl) (by decide +kernel)
theorem gwi_1851 : (Jvm.Cond.code ({ cls := "PlainMusicModel", name := "whites", desc := "(I)I" } : Jvm.MethodName) prog_14_method_11_code (3 : Nat) (Option.some Jvm.ClassFile.FieldType.int)) ∈ gw := gx_8 (List.mem_of_getElem? (i := 38) rfl) (by decide +kernel)
theorem gwi_1852 : (Jvm.Cond.methodLink "PlainMusicModel" (258 : Nat) ({ cls := "PlainMusicModel", name := "isSmall", desc := "(I)Z" } : Jvm.MethodName)) ∈ gw := gx_8 (List.mem_of_getElem? (i := 39) rfl) (by decide +kernel)
set_option maxRecDepth 100000 in
theorem gwi_1854 : (Jvm.Cond.instanceMethod ({ cls := "PlainMusicModel", name := "isSmall", desc := "(I)Z" } : Jvm.MethodName)) ∈ gw := gx_8 (List.mem_of_getElem? (i := 41) rfl) (by decide +kernel)
set_option maxRecDepth 100000 in
theorem gwi_1855 : (Jvm.Cond.code ({ cls := "PlainMusicModel", name := "isSmall", desc := "(I)Z" } : Jvm.MethodName) prog_14_method_9_code (2 : Nat) (Option.some Jvm.ClassFile.FieldType.boolean)) ∈ gw := gx_8 (List.mem_of_getElem? (i := 42) rfl) (by decide +kernel)
set_option maxRecDepth 100000 in
theorem gwi_1856 : (Jvm.Cond.methodLink "PlainMusicModel" (262 : Nat) ({ cls := "PlainMusicModel", name := "word", desc := "()V" } : Jvm.MethodName)) ∈ gw := gx_8 (List.mem_of_getElem? (i := 43) rfl) (by decide +kernel)
set_option maxRecDepth 100000 in
theorem gwi_1858 : (Jvm.Cond.instanceMethod ({ cls := "PlainMusicModel", name := "word", desc := "()V" } : Jvm.MethodName)) ∈ gw := gx_8 (List.mem_of_getElem? (i := 45) rfl) (by decide +kernel)
set_option maxRecDepth 100000 in
theorem gwi_1859 : (Jvm.Cond.code ({ cls := "PlainMusicModel", name := "word", desc := "()V" } : Jvm.MethodName) prog_14_method_13_code (3 : Nat) (Option.none : Option Jvm.ClassFile.FieldType)) ∈ gw := gx_8 (List.mem_of_getElem? (i := 46) rfl) (by decide +kernel)
set_option maxRecDepth 100000 in
theorem gwi_1860 : (Jvm.Cond.constantLong "PlainMusicModel" (294 : Nat) (1953066341 : Int64)) ∈ gw := gx_8 (List.mem_of_getElem? (i := 47) rfl) (by decide +kernel)
set_option maxRecDepth 100000 in
theorem gwi_1861 : (Jvm.Cond.constantLong "PlainMusicModel" (296 : Nat) (508675318629 : Int64)) ∈ gw := gx_8 (List.mem_of_getElem? (i := 48) rfl) (by decide +kernel)
set_option maxRecDepth 100000 in
theorem gwi_1862 : (Jvm.Cond.constantLong "PlainMusicModel" (298 : Nat) (1818848869 : Int64)) ∈ gw := gx_8 (List.mem_of_getElem? (i := 49) rfl) (by decide +kernel)
set_option maxRecDepth 100000 in
theorem gwi_1863 : (Jvm.Cond.constantLong "PlainMusicModel" (300 : Nat) (1920298085 : Int64)) ∈ gw := gx_8 (List.mem_of_getElem? (i := 50) rfl) (by decide +kernel)
set_option maxRecDepth 100000 in
theorem gwi_1864 : (Jvm.Cond.constantLong "PlainMusicModel" (302 : Nat) (7499639 : Int64)) ∈ gw := gx_8 (List.mem_of_getElem? (i := 51) rfl) (by decide +kernel)
set_option maxRecDepth 100000 in
theorem gwi_1865 : (Jvm.Cond.constantLong "PlainMusicModel" (304 : Nat) (114 : Int64)) ∈ gw := gx_8 (List.mem_of_getElem? (i := 52) rfl) (by decide +kernel)
set_option maxRecDepth 100000 in
theorem gwi_1866 : (Jvm.Cond.methodLink "PlainMusicModel" (265 : Nat) ({ cls := "PlainMusicModel", name := "isDigit", desc := "(I)Z" } : Jvm.MethodName)) ∈ gw := gx_8 (List.mem_of_getElem? (i := 53) rfl) (by decide +kernel)
set_option maxRecDepth 100000 in
theorem gwi_1868 : (Jvm.Cond.instanceMethod ({ cls := "PlainMusicModel", name := "isDigit", desc := "(I)Z" } : Jvm.MethodName)) ∈ gw := gx_8 (List.mem_of_getElem? (i := 55) rfl) (by decide +kernel)
set_option maxRecDepth 100000 in
theorem gwi_1869 : (Jvm.Cond.code ({ cls := "PlainMusicModel", name := "isDigit", desc := "(I)Z" } : Jvm.MethodName) prog_14_method_8_code (2 : Nat) (Option.some Jvm.ClassFile.FieldType.boolean)) ∈ gw := gx_8 (List.mem_of_getElem? (i := 56) rfl) (by decide +kernel)
set_option maxRecDepth 100000 in
theorem gwi_1870 : (Jvm.Cond.methodLink "PlainMusicModel" (268 : Nat) ({ cls := "PlainMusicModel", name := "number", desc := "()V" } : Jvm.MethodName)) ∈ gw := gx_8 (List.mem_of_getElem? (i := 57) rfl) (by decide +kernel)
set_option maxRecDepth 100000 in
theorem gwi_1872 : (Jvm.Cond.instanceMethod ({ cls := "PlainMusicModel", name := "number", desc := "()V" } : Jvm.MethodName)) ∈ gw := gx_8 (List.mem_of_getElem? (i := 59) rfl) (by decide +kernel)
set_option maxRecDepth 100000 in
theorem gwi_1873 : (Jvm.Cond.code ({ cls := "PlainMusicModel", name := "number", desc := "()V" } : Jvm.MethodName) prog_14_method_14_code (2 : Nat) (Option.none : Option Jvm.ClassFile.FieldType)) ∈ gw := gx_8 (List.mem_of_getElem? (i := 60) rfl) (by decide +kernel)
set_option maxRecDepth 100000 in
theorem gwi_1874 : (Jvm.Cond.methodLink "PlainMusicModel" (326 : Nat) ({ cls := "PlainMusicModel", name := "isWord", desc := "(I)Z" } : Jvm.MethodName)) ∈ gw := gx_8 (List.mem_of_getElem? (i := 61) rfl) (by decide +kernel)
set_option maxRecDepth 100000 in
theorem gwi_1876 : (Jvm.Cond.instanceMethod ({ cls := "PlainMusicModel", name := "isWord", desc := "(I)Z" } : Jvm.MethodName)) ∈ gw := gx_8 (List.mem_of_getElem? (i := 63) rfl) (by decide +kernel)
set_option maxRecDepth 100000 in
theorem gwi_1877 : (Jvm.Cond.code ({ cls := "PlainMusicModel", name := "isWord", desc := "(I)Z" } : Jvm.MethodName) prog_14_method_16_code (2 : Nat) (Option.some Jvm.ClassFile.FieldType.boolean)) ∈ gw := gx_8 (List.mem_of_getElem? (i := 64) rfl) (by decide +kernel)
set_option maxRecDepth 100000 in
theorem gwi_1878 : (Jvm.Cond.methodLink "PlainMusicModel" (329 : Nat) ({ cls := "PlainMusicModel", name := "timeItem", desc := "()Z" } : Jvm.MethodName)) ∈ gw := gx_8 (List.mem_of_getElem? (i := 65) rfl) (by decide +kernel)
set_option maxRecDepth 100000 in
theorem gwi_1880 : (Jvm.Cond.instanceMethod ({ cls := "PlainMusicModel", name := "timeItem", desc := "()Z" } : Jvm.MethodName)) ∈ gw := gx_8 (List.mem_of_getElem? (i := 67) rfl) (by decide +kernel)
set_option maxRecDepth 100000 in
theorem gwi_1881 : (Jvm.Cond.code ({ cls := "PlainMusicModel", name := "timeItem", desc := "()Z" } : Jvm.MethodName) prog_14_method_20_code (1 : Nat) (Option.some Jvm.ClassFile.FieldType.boolean)) ∈ gw := gx_8 (List.mem_of_getElem? (i := 68) rfl) (by decide +kernel)
set_option maxRecDepth 100000 in
theorem gwi_1882 : (Jvm.Cond.methodLink "PlainMusicModel" (245 : Nat) ({ cls := "PlainMusicModel", name := "wrong", desc := "(II)Z" } : Jvm.MethodName)) ∈ gw := gx_8 (List.mem_of_getElem? (i := 69) rfl) (by decide +kernel)
set_option maxRecDepth 100000 in
theorem gwi_1884 : (Jvm.Cond.instanceMethod ({ cls := "PlainMusicModel", name := "wrong", desc := "(II)Z" } : Jvm.MethodName)) ∈ gw := gx_8 (List.mem_of_getElem? (i := 71) rfl) (by decide +kernel)
set_option maxRecDepth 100000 in
theorem gwi_1885 : (Jvm.Cond.code ({ cls := "PlainMusicModel", name := "wrong", desc := "(II)Z" } : Jvm.MethodName) prog_14_method_5_code (3 : Nat) (Option.some Jvm.ClassFile.FieldType.boolean)) ∈ gw := gx_8 (List.mem_of_getElem? (i := 72) rfl) (by decide +kernel)
set_option maxRecDepth 100000 in
theorem gwi_1886 : (Jvm.Cond.methodLink "PlainMusicModel" (313 : Nat) ({ cls := "PlainMusicModel", name := "cant", desc := "()Z" } : Jvm.MethodName)) ∈ gw := gx_8 (List.mem_of_getElem? (i := 73) rfl) (by decide +kernel)
set_option maxRecDepth 100000 in
theorem gwi_1888 : (Jvm.Cond.instanceMethod ({ cls := "PlainMusicModel", name := "cant", desc := "()Z" } : Jvm.MethodName)) ∈ gw := gx_8 (List.mem_of_getElem? (i := 75) rfl) (by decide +kernel)
set_option maxRecDepth 100000 in
theorem gwi_1889 : (Jvm.Cond.code ({ cls := "PlainMusicModel", name := "cant", desc := "()Z" } : Jvm.MethodName) prog_14_method_6_code (1 : Nat) (Option.some Jvm.ClassFile.FieldType.boolean)) ∈ gw := gx_8 (List.mem_of_getElem? (i := 76) rfl) (by decide +kernel)
set_option maxRecDepth 100000 in
theorem gwi_1890 : (Jvm.Cond.methodLink "PlainMusicModel" (344 : Nat) ({ cls := "PlainMusicModel", name := "want", desc := "(I)Z" } : Jvm.MethodName)) ∈ gw := gx_8 (List.mem_of_getElem? (i := 77) rfl) (by decide +kernel)
set_option maxRecDepth 100000 in
theorem gwi_1892 : (Jvm.Cond.instanceMethod ({ cls := "PlainMusicModel", name := "want", desc := "(I)Z" } : Jvm.MethodName)) ∈ gw := gx_8 (List.mem_of_getElem? (i := 79) rfl) (by decide +kernel)
set_option maxRecDepth 100000 in
theorem gwi_1893 : (Jvm.Cond.code ({ cls := "PlainMusicModel", name := "want", desc := "(I)Z" } : Jvm.MethodName) prog_14_method_17_code (2 : Nat) (Option.some Jvm.ClassFile.FieldType.boolean)) ∈ gw := gx_8 (List.mem_of_getElem? (i := 80) rfl) (by decide +kernel)
set_option maxRecDepth 100000 in
theorem gwi_1894 : (Jvm.Cond.methodLink "PlainMusicModel" (306 : Nat) ({ cls := "PlainMusicModel", name := "isSign", desc := "(I)Z" } : Jvm.MethodName)) ∈ gw := gx_8 (List.mem_of_getElem? (i := 81) rfl) (by decide +kernel)
set_option maxRecDepth 100000 in
theorem gwi_1896 : (Jvm.Cond.instanceMethod ({ cls := "PlainMusicModel", name := "isSign", desc := "(I)Z" } : Jvm.MethodName)) ∈ gw := gx_8 (List.mem_of_getElem? (i := 83) rfl) (by decide +kernel)
set_option maxRecDepth 100000 in
theorem gwi_1897 : (Jvm.Cond.code ({ cls := "PlainMusicModel", name := "isSign", desc := "(I)Z" } : Jvm.MethodName) prog_14_method_15_code (2 : Nat) (Option.some Jvm.ClassFile.FieldType.boolean)) ∈ gw := gx_8 (List.mem_of_getElem? (i := 84) rfl) (by decide +kernel)
set_option maxRecDepth 100000 in
theorem gwi_1898 : (Jvm.Cond.methodLink "PlainMusicModel" (347 : Nat) ({ cls := "PlainMusicModel", name := "isPower", desc := "(II)Z" } : Jvm.MethodName)) ∈ gw := gx_8 (List.mem_of_getElem? (i := 85) rfl) (by decide +kernel)
set_option maxRecDepth 100000 in
theorem gwi_1900 : (Jvm.Cond.instanceMethod ({ cls := "PlainMusicModel", name := "isPower", desc := "(II)Z" } : Jvm.MethodName)) ∈ gw := gx_8 (List.mem_of_getElem? (i := 87) rfl) (by decide +kernel)
set_option maxRecDepth 100000 in
theorem gwi_1901 : (Jvm.Cond.code ({ cls := "PlainMusicModel", name := "isPower", desc := "(II)Z" } : Jvm.MethodName) prog_14_method_18_code (3 : Nat) (Option.some Jvm.ClassFile.FieldType.boolean)) ∈ gw := gx_8 (List.mem_of_getElem? (i := 88) rfl) (by decide +kernel)
set_option maxRecDepth 100000 in
theorem gwi_1902 : (Jvm.Cond.methodLink "PlainMusicModel" (332 : Nat) ({ cls := "PlainMusicModel", name := "voiceItem", desc := "()Z" } : Jvm.MethodName)) ∈ gw := gx_8 (List.mem_of_getElem? (i := 89) rfl) (by decide +kernel)
set_option maxRecDepth 100000 in
theorem gwi_1904 : (Jvm.Cond.instanceMethod ({ cls := "PlainMusicModel", name := "voiceItem", desc := "()Z" } : Jvm.MethodName)) ∈ gw := gx_8 (List.mem_of_getElem? (i := 91) rfl) (by decide +kernel)
set_option maxRecDepth 100000 in
theorem gwi_1905 : (Jvm.Cond.code ({ cls := "PlainMusicModel", name := "voiceItem", desc := "()Z" } : Jvm.MethodName) prog_14_method_25_code (2 : Nat) (Option.some Jvm.ClassFile.FieldType.boolean)) ∈ gw := gx_8 (List.mem_of_getElem? (i := 92) rfl) (by decide +kernel)
set_option maxRecDepth 100000 in
theorem gwi_1906 : (Jvm.Cond.methodLink "PlainMusicModel" (363 : Nat) ({ cls := "PlainMusicModel", name := "voicePart", desc := "()Z" } : Jvm.MethodName)) ∈ gw := gx_8 (List.mem_of_getElem? (i := 93) rfl) (by decide +kernel)
set_option maxRecDepth 100000 in
theorem gwi_1908 : (Jvm.Cond.instanceMethod ({ cls := "PlainMusicModel", name := "voicePart", desc := "()Z" } : Jvm.MethodName)) ∈ gw := gx_8 (List.mem_of_getElem? (i := 95) rfl) (by decide +kernel)
set_option maxRecDepth 100000 in
theorem gwi_1909 : (Jvm.Cond.code ({ cls := "PlainMusicModel", name := "voicePart", desc := "()Z" } : Jvm.MethodName) prog_14_method_27_code (3 : Nat) (Option.some Jvm.ClassFile.FieldType.boolean)) ∈ gw := gx_8 (List.mem_of_getElem? (i := 96) rfl) (by decide +kernel)
set_option maxRecDepth 100000 in
theorem gwi_1910 : (Jvm.Cond.methodLink "PlainMusicModel" (369 : Nat) ({ cls := "PlainMusicModel", name := "put", desc := "(I)V" } : Jvm.MethodName)) ∈ gw := gx_8 (List.mem_of_getElem? (i := 97) rfl) (by decide +kernel)
set_option maxRecDepth 100000 in
theorem gwi_1912 : (Jvm.Cond.instanceMethod ({ cls := "PlainMusicModel", name := "put", desc := "(I)V" } : Jvm.MethodName)) ∈ gw := gx_8 (List.mem_of_getElem? (i := 99) rfl) (by decide +kernel)
set_option maxRecDepth 100000 in
theorem gwi_1913 : (Jvm.Cond.code ({ cls := "PlainMusicModel", name := "put", desc := "(I)V" } : Jvm.MethodName) prog_14_method_26_code (2 : Nat) (Option.none : Option Jvm.ClassFile.FieldType)) ∈ gw := gx_8 (List.mem_of_getElem? (i := 100) rfl) (by decide +kernel)
set_option maxRecDepth 100000 in
theorem gwi_1914 : (Jvm.Cond.methodLink "PlainMusicModel" (372 : Nat) ({ cls := "PlainMusicModel", name := "timesPart", desc := "()Z" } : Jvm.MethodName)) ∈ gw := gx_8 (List.mem_of_getElem? (i := 101) rfl) (by decide +kernel)
set_option maxRecDepth 100000 in
theorem gwi_1916 : (Jvm.Cond.instanceMethod ({ cls := "PlainMusicModel", name := "timesPart", desc := "()Z" } : Jvm.MethodName)) ∈ gw := gx_8 (List.mem_of_getElem? (i := 103) rfl) (by decide +kernel)
set_option maxRecDepth 100000 in
theorem gwi_1917 : (Jvm.Cond.code ({ cls := "PlainMusicModel", name := "timesPart", desc := "()Z" } : Jvm.MethodName) prog_14_method_28_code (2 : Nat) (Option.some Jvm.ClassFile.FieldType.boolean)) ∈ gw := gx_8 (List.mem_of_getElem? (i := 104) rfl) (by decide +kernel)
set_option maxRecDepth 100000 in
theorem gwi_1918 : (Jvm.Cond.methodLink "PlainMusicModel" (375 : Nat) ({ cls := "PlainMusicModel", name := "soundPart", desc := "()Z" } : Jvm.MethodName)) ∈ gw := gx_8 (List.mem_of_getElem? (i := 105) rfl) (by decide +kernel)
set_option maxRecDepth 100000 in
theorem gwi_1920 : (Jvm.Cond.instanceMethod ({ cls := "PlainMusicModel", name := "soundPart", desc := "()Z" } : Jvm.MethodName)) ∈ gw := gx_8 (List.mem_of_getElem? (i := 107) rfl) (by decide +kernel)
set_option maxRecDepth 100000 in
theorem gwi_1921 : (Jvm.Cond.code ({ cls := "PlainMusicModel", name := "soundPart", desc := "()Z" } : Jvm.MethodName) prog_14_method_29_code (3 : Nat) (Option.some Jvm.ClassFile.FieldType.boolean)) ∈ gw := gx_8 (List.mem_of_getElem? (i := 108) rfl) (by decide +kernel)
set_option maxRecDepth 100000 in
theorem gwi_1922 : (Jvm.Cond.methodLink "PlainMusicModel" (378 : Nat) ({ cls := "PlainMusicModel", name := "pitchOf", desc := "(I)Z" } : Jvm.MethodName)) ∈ gw := gx_8 (List.mem_of_getElem? (i := 109) rfl) (by decide +kernel)
set_option maxRecDepth 100000 in
theorem gwi_1924 : (Jvm.Cond.instanceMethod ({ cls := "PlainMusicModel", name := "pitchOf", desc := "(I)Z" } : Jvm.MethodName)) ∈ gw := gx_8 (List.mem_of_getElem? (i := 111) rfl) (by decide +kernel)
set_option maxRecDepth 100000 in
theorem gwi_1925 : (Jvm.Cond.code ({ cls := "PlainMusicModel", name := "pitchOf", desc := "(I)Z" } : Jvm.MethodName) prog_14_method_30_code (3 : Nat) (Option.some Jvm.ClassFile.FieldType.boolean)) ∈ gw := gx_8 (List.mem_of_getElem? (i := 112) rfl) (by decide +kernel)
set_option maxRecDepth 100000 in
theorem gwi_1926 : (Jvm.Cond.methodLink "PlainMusicModel" (366 : Nat) ({ cls := "PlainMusicModel", name := "walk", desc := "(I)Z" } : Jvm.MethodName)) ∈ gw := gx_8 (List.mem_of_getElem? (i := 113) rfl) (by decide +kernel)
set_option maxRecDepth 100000 in
theorem gwi_1928 : (Jvm.Cond.instanceMethod ({ cls := "PlainMusicModel", name := "walk", desc := "(I)Z" } : Jvm.MethodName)) ∈ gw := gx_8 (List.mem_of_getElem? (i := 115) rfl) (by decide +kernel)
set_option maxRecDepth 100000 in
theorem gwi_1929 : (Jvm.Cond.code ({ cls := "PlainMusicModel", name := "walk", desc := "(I)Z" } : Jvm.MethodName) prog_14_method_39_code (7 : Nat) (Option.some Jvm.ClassFile.FieldType.boolean)) ∈ gw := gx_8 (List.mem_of_getElem? (i := 116) rfl) (by decide +kernel)
set_option maxRecDepth 100000 in
theorem gwi_1930 : (Jvm.Cond.methodLink "PlainMusicModel" (426 : Nat) ({ cls := "PlainMusicModel", name := "event", desc := "(II)V" } : Jvm.MethodName)) ∈ gw := gx_8 (List.mem_of_getElem? (i := 117) rfl) (by decide +kernel)
set_option maxRecDepth 100000 in
theorem gwi_1932 : (Jvm.Cond.instanceMethod ({ cls := "PlainMusicModel", name := "event", desc := "(II)V" } : Jvm.MethodName)) ∈ gw := gx_8 (List.mem_of_getElem? (i := 119) rfl) (by decide +kernel)
set_option maxRecDepth 100000 in
theorem gwi_1933 : (Jvm.Cond.code ({ cls := "PlainMusicModel", name := "event", desc := "(II)V" } : Jvm.MethodName) prog_14_method_44_code (5 : Nat) (Option.none : Option Jvm.ClassFile.FieldType)) ∈ gw := gx_8 (List.mem_of_getElem? (i := 120) rfl) (by decide +kernel)
set_option maxRecDepth 100000 in
theorem gwi_1934 : (Jvm.Cond.constantLong "PlainMusicModel" (452 : Nat) (2 : Int64)) ∈ gw := gx_8 (List.mem_of_getElem? (i := 121) rfl) (by decide +kernel)
set_option maxRecDepth 100000 in
theorem gwi_1935 : (Jvm.Cond.methodLink "PlainMusicModel" (391 : Nat) ({ cls := "PlainMusicModel", name := "fraction", desc := "(JJ)V" } : Jvm.MethodName)) ∈ gw := gx_8 (List.mem_of_getElem? (i := 122) rfl) (by decide +kernel)
set_option maxRecDepth 100000 in
theorem gwi_1937 : (Jvm.Cond.instanceMethod ({ cls := "PlainMusicModel", name := "fraction", desc := "(JJ)V" } : Jvm.MethodName)) ∈ gw := gx_8 (List.mem_of_getElem? (i := 124) rfl) (by decide +kernel)
set_option maxRecDepth 100000 in
theorem gwi_1938 : (Jvm.Cond.code ({ cls := "PlainMusicModel", name := "fraction", desc := "(JJ)V" } : Jvm.MethodName) prog_14_method_32_code (7 : Nat) (Option.none : Option Jvm.ClassFile.FieldType)) ∈ gw := gx_8 (List.mem_of_getElem? (i := 125) rfl) (by decide +kernel)
set_option maxRecDepth 100000 in
theorem gwi_1939 : (Jvm.Cond.methodLink "PlainMusicModel" (381 : Nat) ({ cls := "PlainMusicModel", name := "divisor", desc := "(JJ)J" } : Jvm.MethodName)) ∈ gw := gx_8 (List.mem_of_getElem? (i := 126) rfl) (by decide +kernel)
set_option maxRecDepth 100000 in
theorem gwi_1941 : (Jvm.Cond.instanceMethod ({ cls := "PlainMusicModel", name := "divisor", desc := "(JJ)J" } : Jvm.MethodName)) ∈ gw := gx_8 (List.mem_of_getElem? (i := 128) rfl) (by decide +kernel)
set_option maxRecDepth 100000 in
theorem gwi_1942 : (Jvm.Cond.code ({ cls := "PlainMusicModel", name := "divisor", desc := "(JJ)J" } : Jvm.MethodName) prog_14_method_31_code (11 : Nat) (Option.some Jvm.ClassFile.FieldType.long)) ∈ gw := gx_8 (List.mem_of_getElem? (i := 129) rfl) (by decide +kernel)
set_option maxRecDepth 100000 in
theorem gwi_1943 : (Jvm.Cond.methodLink "PlainMusicModel" (454 : Nat) ({ cls := "PlainMusicModel", name := "isFar", desc := "(JJ)Z" } : Jvm.MethodName)) ∈ gw := gx_8 (List.mem_of_getElem? (i := 130) rfl) (by decide +kernel)
set_option maxRecDepth 100000 in
theorem gwi_1945 : (Jvm.Cond.instanceMethod ({ cls := "PlainMusicModel", name := "isFar", desc := "(JJ)Z" } : Jvm.MethodName)) ∈ gw := gx_8 (List.mem_of_getElem? (i := 132) rfl) (by decide +kernel)
set_option maxRecDepth 100000 in
theorem gwi_1946 : (Jvm.Cond.code ({ cls := "PlainMusicModel", name := "isFar", desc := "(JJ)Z" } : Jvm.MethodName) prog_14_method_35_code (5 : Nat) (Option.some Jvm.ClassFile.FieldType.boolean)) ∈ gw := gx_8 (List.mem_of_getElem? (i := 133) rfl) (by decide +kernel)
set_option maxRecDepth 100000 in
theorem gwi_1947 : (Jvm.Cond.constantLong "PlainMusicModel" (395 : Nat) (1000 : Int64)) ∈ gw := gx_8 (List.mem_of_getElem? (i := 134) rfl) (by decide +kernel)
set_option maxRecDepth 100000 in
theorem gwi_1948 : (Jvm.Cond.constantLong "PlainMusicModel" (397 : Nat) (1000000 : Int64)) ∈ gw := gx_8 (List.mem_of_getElem? (i := 135) rfl) (by decide +kernel)
set_option maxRecDepth 100000 in
theorem gwi_1949 : (Jvm.Cond.methodLink "PlainMusicModel" (458 : Nat) ({ cls := "PlainMusicModel", name := "sum", desc := "(JJJJ)V" } : Jvm.MethodName)) ∈ gw := gx_8 (List.mem_of_getElem? (i := 136) rfl) (by decide +kernel)
set_option maxRecDepth 100000 in
theorem gwi_1951 : (Jvm.Cond.instanceMethod ({ cls := "PlainMusicModel", name := "sum", desc := "(JJJJ)V" } : Jvm.MethodName)) ∈ gw := gx_8 (List.mem_of_getElem? (i := 138) rfl) (by decide +kernel)
set_option maxRecDepth 100000 in
theorem gwi_1952 : (Jvm.Cond.code ({ cls := "PlainMusicModel", name := "sum", desc := "(JJJJ)V" } : Jvm.MethodName) prog_14_method_33_code (9 : Nat) (Option.none : Option Jvm.ClassFile.FieldType)) ∈ gw := gx_8 (List.mem_of_getElem? (i := 139) rfl) (by decide +kernel)
set_option maxRecDepth 100000 in
theorem gwi_1953 : (Jvm.Cond.methodLink "PlainMusicModel" (430 : Nat) ({ cls := "PlainMusicModel", name := "colons", desc := "(I)I" } : Jvm.MethodName)) ∈ gw := gx_8 (List.mem_of_getElem? (i := 140) rfl) (by decide +kernel)
set_option maxRecDepth 100000 in
theorem gwi_1955 : (Jvm.Cond.instanceMethod ({ cls := "PlainMusicModel", name := "colons", desc := "(I)I" } : Jvm.MethodName)) ∈ gw := gx_8 (List.mem_of_getElem? (i := 142) rfl) (by decide +kernel)
set_option maxRecDepth 100000 in
theorem gwi_1956 : (Jvm.Cond.code ({ cls := "PlainMusicModel", name := "colons", desc := "(I)I" } : Jvm.MethodName) prog_14_method_37_code (2 : Nat) (Option.some Jvm.ClassFile.FieldType.int)) ∈ gw := gx_8 (List.mem_of_getElem? (i := 143) rfl) (by decide +kernel)
set_option maxRecDepth 100000 in
theorem gwi_1957 : (Jvm.Cond.methodLink "PlainMusicModel" (433 : Nat) ({ cls := "PlainMusicModel", name := "scale", desc := "(II)V" } : Jvm.MethodName)) ∈ gw := gx_8 (List.mem_of_getElem? (i := 144) rfl) (by decide +kernel)
set_option maxRecDepth 100000 in
theorem gwi_1959 : (Jvm.Cond.instanceMethod ({ cls := "PlainMusicModel", name := "scale", desc := "(II)V" } : Jvm.MethodName)) ∈ gw := gx_8 (List.mem_of_getElem? (i := 146) rfl) (by decide +kernel)
set_option maxRecDepth 100000 in
theorem gwi_1960 : (Jvm.Cond.code ({ cls := "PlainMusicModel", name := "scale", desc := "(II)V" } : Jvm.MethodName) prog_14_method_43_code (3 : Nat) (Option.none : Option Jvm.ClassFile.FieldType)) ∈ gw := gx_8 (List.mem_of_getElem? (i := 147) rfl) (by decide +kernel)
set_option maxRecDepth 100000 in
theorem gwi_1961 : (Jvm.Cond.methodLink "PlainMusicModel" (436 : Nat) ({ cls := "PlainMusicModel", name := "opening", desc := "(I)I" } : Jvm.MethodName)) ∈ gw := gx_8 (List.mem_of_getElem? (i := 148) rfl) (by decide +kernel)
set_option maxRecDepth 100000 in
theorem gwi_1963 : (Jvm.Cond.instanceMethod ({ cls := "PlainMusicModel", name := "opening", desc := "(I)I" } : Jvm.MethodName)) ∈ gw := gx_8 (List.mem_of_getElem? (i := 150) rfl) (by decide +kernel)
set_option maxRecDepth 100000 in
theorem gwi_1964 : (Jvm.Cond.code ({ cls := "PlainMusicModel", name := "opening", desc := "(I)I" } : Jvm.MethodName) prog_14_method_42_code (2 : Nat) (Option.some Jvm.ClassFile.FieldType.int)) ∈ gw := gx_8 (List.mem_of_getElem? (i := 151) rfl) (by decide +kernel)
set_option maxRecDepth 100000 in
theorem gwi_1965 : (Jvm.Cond.methodLink "PlainMusicModel" (439 : Nat) ({ cls := "PlainMusicModel", name := "behindColon", desc := "(II)I" } : Jvm.MethodName)) ∈ gw := gx_8 (List.mem_of_getElem? (i := 152) rfl) (by decide +kernel)
set_option maxRecDepth 100000 in
theorem gwi_1967 : (Jvm.Cond.instanceMethod ({ cls := "PlainMusicModel", name := "behindColon", desc := "(II)I" } : Jvm.MethodName)) ∈ gw := gx_8 (List.mem_of_getElem? (i := 154) rfl) (by decide +kernel)
set_option maxRecDepth 100000 in
theorem gwi_1968 : (Jvm.Cond.code ({ cls := "PlainMusicModel", name := "behindColon", desc := "(II)I" } : Jvm.MethodName) prog_14_method_38_code (5 : Nat) (Option.some Jvm.ClassFile.FieldType.int)) ∈ gw := gx_8 (List.mem_of_getElem? (i := 155) rfl) (by decide +kernel)
set_option maxRecDepth 100000 in
theorem gwi_1969 : (Jvm.Cond.methodLink "PlainMusicModel" (443 : Nat) ({ cls := "PlainMusicModel", name := "isIn", desc := "(I)Z" } : Jvm.MethodName)) ∈ gw := gx_8 (List.mem_of_getElem? (i := 156) rfl) (by decide +kernel)
set_option maxRecDepth 100000 in
theorem gwi_1971 : (Jvm.Cond.instanceMethod ({ cls := "PlainMusicModel", name := "isIn", desc := "(I)Z" } : Jvm.MethodName)) ∈ gw := gx_8 (List.mem_of_getElem? (i := 158) rfl) (by decide +kernel)
set_option maxRecDepth 100000 in
theorem gwi_1972 : (Jvm.Cond.code ({ cls := "PlainMusicModel", name := "isIn", desc := "(I)Z" } : Jvm.MethodName) prog_14_method_40_code (2 : Nat) (Option.some Jvm.ClassFile.FieldType.boolean)) ∈ gw := gx_8 (List.mem_of_getElem? (i := 159) rfl) (by decide +kernel)
set_option maxRecDepth 100000 in
theorem gwi_1973 : (Jvm.Cond.methodLink "PlainMusicModel" (446 : Nat) ({ cls := "PlainMusicModel", name := "turned", desc := "(I)I" } : Jvm.MethodName)) ∈ gw := gx_8 (List.mem_of_getElem? (i := 160) rfl) (by decide +kernel)
set_option maxRecDepth 100000 in
theorem gwi_1975 : (Jvm.Cond.instanceMethod ({ cls := "PlainMusicModel", name := "turned", desc := "(I)I" } : Jvm.MethodName)) ∈ gw := gx_8 (List.mem_of_getElem? (i := 162) rfl) (by decide +kernel)
set_option maxRecDepth 100000 in
theorem gwi_1976 : (Jvm.Cond.code ({ cls := "PlainMusicModel", name := "turned", desc := "(I)I" } : Jvm.MethodName) prog_14_method_41_code (2 : Nat) (Option.some Jvm.ClassFile.FieldType.int)) ∈ gw := gx_8 (List.mem_of_getElem? (i := 163) rfl) (by decide +kernel)
set_option maxRecDepth 100000 in
theorem gwi_1977 : (Jvm.Cond.methodLink "PlainMusicModel" (449 : Nat) ({ cls := "PlainMusicModel", name := "closing", desc := "(I)I" } : Jvm.MethodName)) ∈ gw := gx_8 (List.mem_of_getElem? (i := 164) rfl) (by decide +kernel)
set_option maxRecDepth 100000 in
theorem gwi_1979 : (Jvm.Cond.instanceMethod ({ cls := "PlainMusicModel", name := "closing", desc := "(I)I" } : Jvm.MethodName)) ∈ gw := gx_8 (List.mem_of_getElem? (i := 166) rfl) (by decide +kernel)
set_option maxRecDepth 100000 in
theorem gwi_1980 : (Jvm.Cond.code ({ cls := "PlainMusicModel", name := "closing", desc := "(I)I" } : Jvm.MethodName) prog_14_method_36_code (2 : Nat) (Option.some Jvm.ClassFile.FieldType.int)) ∈ gw := gx_8 (List.mem_of_getElem? (i := 167) rfl) (by decide +kernel)
set_option maxRecDepth 100000 in
theorem gwi_1981 : (Jvm.Cond.methodLink "PlainMusicModel" (335 : Nat) ({ cls := "PlainMusicModel", name := "lineItem", desc := "()Z" } : Jvm.MethodName)) ∈ gw := gx_8 (List.mem_of_getElem? (i := 168) rfl) (by decide +kernel)
set_option maxRecDepth 100000 in
theorem gwi_1983 : (Jvm.Cond.instanceMethod ({ cls := "PlainMusicModel", name := "lineItem", desc := "()Z" } : Jvm.MethodName)) ∈ gw := gx_8 (List.mem_of_getElem? (i := 170) rfl) (by decide +kernel)
set_option maxRecDepth 100000 in
theorem gwi_1984 : (Jvm.Cond.code ({ cls := "PlainMusicModel", name := "lineItem", desc := "()Z" } : Jvm.MethodName) prog_14_method_21_code (1 : Nat) (Option.some Jvm.ClassFile.FieldType.boolean)) ∈ gw := gx_8 (List.mem_of_getElem? (i := 171) rfl) (by decide +kernel)
set_option maxRecDepth 100000 in
theorem gwi_1985 : (Jvm.Cond.methodLink "PlainMusicModel" (338 : Nat) ({ cls := "PlainMusicModel", name := "ruleItem", desc := "()Z" } : Jvm.MethodName)) ∈ gw := gx_8 (List.mem_of_getElem? (i := 172) rfl) (by decide +kernel)
set_option maxRecDepth 100000 in
theorem gwi_1987 : (Jvm.Cond.instanceMethod ({ cls := "PlainMusicModel", name := "ruleItem", desc := "()Z" } : Jvm.MethodName)) ∈ gw := gx_8 (List.mem_of_getElem? (i := 174) rfl) (by decide +kernel)
set_option maxRecDepth 100000 in
theorem gwi_1988 : (Jvm.Cond.code ({ cls := "PlainMusicModel", name := "ruleItem", desc := "()Z" } : Jvm.MethodName) prog_14_method_23_code (2 : Nat) (Option.some Jvm.ClassFile.FieldType.boolean)) ∈ gw := gx_8 (List.mem_of_getElem? (i := 175) rfl) (by decide +kernel)
set_option maxRecDepth 100000 in
theorem gwi_1989 : (Jvm.Cond.methodLink "PlainMusicModel" (350 : Nat) ({ cls := "PlainMusicModel", name := "nameNumber", desc := "()I" } : Jvm.MethodName)) ∈ gw := gx_8 (List.mem_of_getElem? (i := 176) rfl) (by decide +kernel)
set_option maxRecDepth 100000 in
theorem gwi_1991 : (Jvm.Cond.instanceMethod ({ cls := "PlainMusicModel", name := "nameNumber", desc := "()I" } : Jvm.MethodName)) ∈ gw := gx_8 (List.mem_of_getElem? (i := 178) rfl) (by decide +kernel)
set_option maxRecDepth 100000 in
theorem gwi_1992 : (Jvm.Cond.code ({ cls := "PlainMusicModel", name := "nameNumber", desc := "()I" } : Jvm.MethodName) prog_14_method_22_code (2 : Nat) (Option.some Jvm.ClassFile.FieldType.int)) ∈ gw := gx_8 (List.mem_of_getElem? (i := 179) rfl) (by decide +kernel)
set_option maxRecDepth 100000 in
theorem gwi_1993 : (Jvm.Cond.methodLink "PlainMusicModel" (341 : Nat) ({ cls := "PlainMusicModel", name := "rowItem", desc := "()Z" } : Jvm.MethodName)) ∈ gw := gx_8 (List.mem_of_getElem? (i := 180) rfl) (by decide +kernel)
set_option maxRecDepth 100000 in
theorem gwi_1995 : (Jvm.Cond.instanceMethod ({ cls := "PlainMusicModel", name := "rowItem", desc := "()Z" } : Jvm.MethodName)) ∈ gw := gx_8 (List.mem_of_getElem? (i := 182) rfl) (by decide +kernel)
set_option maxRecDepth 100000 in
theorem gwi_1996 : (Jvm.Cond.code ({ cls := "PlainMusicModel", name := "rowItem", desc := "()Z" } : Jvm.MethodName) prog_14_method_24_code (2 : Nat) (Option.some Jvm.ClassFile.FieldType.boolean)) ∈ gw := gx_8 (List.mem_of_getElem? (i := 183) rfl) (by decide +kernel)
set_option maxRecDepth 100000 in
theorem gwi_1997 : (Jvm.Cond.methodLink "PlainMusicModel" (468 : Nat) ({ cls := "PlainMusicModel", name := "keep", desc := "()V" } : Jvm.MethodName)) ∈ gw := gx_8 (List.mem_of_getElem? (i := 184) rfl) (by decide +kernel)
set_option maxRecDepth 100000 in
theorem gwi_1999 : (Jvm.Cond.instanceMethod ({ cls := "PlainMusicModel", name := "keep", desc := "()V" } : Jvm.MethodName)) ∈ gw := gx_8 (List.mem_of_getElem? (i := 186) rfl) (by decide +kernel)
set_option maxRecDepth 100000 in
theorem gwi_2000 : (Jvm.Cond.code ({ cls := "PlainMusicModel", name := "keep", desc := "()V" } : Jvm.MethodName) prog_14_method_45_code (3 : Nat) (Option.none : Option Jvm.ClassFile.FieldType)) ∈ gw := gx_8 (List.mem_of_getElem? (i := 187) rfl) (by decide +kernel)
set_option maxRecDepth 100000 in
theorem gwi_2001 : (Jvm.Cond.methodLink "PlainMusicModel" (462 : Nat) ({ cls := "PlainMusicModel", name := "keepEvent", desc := "(II)V" } : Jvm.MethodName)) ∈ gw := gx_8 (List.mem_of_getElem? (i := 188) rfl) (by decide +kernel)
set_option maxRecDepth 100000 in
theorem gwi_2003 : (Jvm.Cond.instanceMethod ({ cls := "PlainMusicModel", name := "keepEvent", desc := "(II)V" } : Jvm.MethodName)) ∈ gw := gx_8 (List.mem_of_getElem? (i := 190) rfl) (by decide +kernel)
set_option maxRecDepth 100000 in
theorem gwi_2004 : (Jvm.Cond.code ({ cls := "PlainMusicModel", name := "keepEvent", desc := "(II)V" } : Jvm.MethodName) prog_14_method_46_code (4 : Nat) (Option.none : Option Jvm.ClassFile.FieldType)) ∈ gw := gx_8 (List.mem_of_getElem? (i := 191) rfl) (by decide +kernel)
set_option maxRecDepth 100000 in
theorem gwi_2005 : (Jvm.Cond.methodLink "PlainMusicLaw" (31 : Nat) ({ cls := "PlainMusicModel", name := "place", desc := "()I" } : Jvm.MethodName)) ∈ gw := gx_8 (List.mem_of_getElem? (i := 192) rfl) (by decide +kernel)
set_option maxRecDepth 100000 in
theorem gwi_2006 : (Jvm.Cond.instanceMethod ({ cls := "PlainMusicModel", name := "place", desc := "()I" } : Jvm.MethodName)) ∈ gw := gx_8 (List.mem_of_getElem? (i := 193) rfl) (by decide +kernel)
set_option maxRecDepth 100000 in
theorem gwi_2007 : (Jvm.Cond.selects "PlainMusicModel" ({ cls := "PlainMusicModel", name := "place", desc := "()I" } : Jvm.MethodName) ({ cls := "PlainMusicModel", name := "place", desc := "()I" } : Jvm.MethodName)) ∈ gw := gx_8 (List.mem_of_getElem? (i := 194) rfl) (by decide +kernel)
set_option maxRecDepth 100000 in
theorem gwi_2008 : (Jvm.Cond.code ({ cls := "PlainMusicModel", name := "place", desc := "()I" } : Jvm.MethodName) prog_14_method_48_code (1 : Nat) (Option.some Jvm.ClassFile.FieldType.int)) ∈ gw := gx_8 (List.mem_of_getElem? (i := 195) rfl) (by decide +kernel)
set_option maxRecDepth 100000 in
theorem gwi_2009 : (Jvm.Cond.methodLink "PlainMusicLaw" (35 : Nat) ({ cls := "PlainMusicModel", name := "told", desc := "(I)I" } : Jvm.MethodName)) ∈ gw := gx_8 (List.mem_of_getElem? (i := 196) rfl) (by decide +kernel)
set_option maxRecDepth 100000 in
theorem gwi_2010 : (Jvm.Cond.instanceMethod ({ cls := "PlainMusicModel", name := "told", desc := "(I)I" } : Jvm.MethodName)) ∈ gw := gx_8 (List.mem_of_getElem? (i := 197) rfl) (by decide +kernel)
set_option maxRecDepth 100000 in
theorem gwi_2011 : (Jvm.Cond.selects "PlainMusicModel" ({ cls := "PlainMusicModel", name := "told", desc := "(I)I" } : Jvm.MethodName) ({ cls := "PlainMusicModel", name := "told", desc := "(I)I" } : Jvm.MethodName)) ∈ gw := gx_8 (List.mem_of_getElem? (i := 198) rfl) (by decide +kernel)
set_option maxRecDepth 100000 in
theorem gwi_2012 : (Jvm.Cond.code ({ cls := "PlainMusicModel", name := "told", desc := "(I)I" } : Jvm.MethodName) prog_14_method_50_code (2 : Nat) (Option.some Jvm.ClassFile.FieldType.int)) ∈ gw := gx_8 (List.mem_of_getElem? (i := 199) rfl) (by decide +kernel)
set_option maxRecDepth 100000 in
theorem gwi_2013 : (Jvm.Cond.methodLink "PlainMusicModel" (492 : Nat) ({ cls := "PlainMusicModel", name := "pageBars", desc := "()I" } : Jvm.MethodName)) ∈ gw := gx_8 (List.mem_of_getElem? (i := 200) rfl) (by decide +kernel)
set_option maxRecDepth 100000 in
theorem gwi_2015 : (Jvm.Cond.instanceMethod ({ cls := "PlainMusicModel", name := "pageBars", desc := "()I" } : Jvm.MethodName)) ∈ gw := gx_8 (List.mem_of_getElem? (i := 202) rfl) (by decide +kernel)
set_option maxRecDepth 100000 in
theorem gwi_2016 : (Jvm.Cond.code ({ cls := "PlainMusicModel", name := "pageBars", desc := "()I" } : Jvm.MethodName) prog_14_method_49_code (3 : Nat) (Option.some Jvm.ClassFile.FieldType.int)) ∈ gw := gx_8 (List.mem_of_getElem? (i := 203) rfl) (by decide +kernel)
set_option maxRecDepth 100000 in
theorem gwi_2017 : (Jvm.Cond.methodLink "PlainMusicLaw" (40 : Nat) ({ cls := "PlainMusicModel", name := "count", desc := "(II)I" } : Jvm.MethodName)) ∈ gw := gx_8 (List.mem_of_getElem? (i := 204) rfl) (by decide +kernel)
set_option maxRecDepth 100000 in
theorem gwi_2018 : (Jvm.Cond.instanceMethod ({ cls := "PlainMusicModel", name := "count", desc := "(II)I" } : Jvm.MethodName)) ∈ gw := gx_8 (List.mem_of_getElem? (i := 205) rfl) (by decide +kernel)
set_option maxRecDepth 100000 in
theorem gwi_2019 : (Jvm.Cond.selects "PlainMusicModel" ({ cls := "PlainMusicModel", name := "count", desc := "(II)I" } : Jvm.MethodName) ({ cls := "PlainMusicModel", name := "count", desc := "(II)I" } : Jvm.MethodName)) ∈ gw := gx_8 (List.mem_of_getElem? (i := 206) rfl) (by decide +kernel)
set_option maxRecDepth 100000 in
theorem gwi_2020 : (Jvm.Cond.code ({ cls := "PlainMusicModel", name := "count", desc := "(II)I" } : Jvm.MethodName) prog_14_method_52_code (3 : Nat) (Option.some Jvm.ClassFile.FieldType.int)) ∈ gw := gx_8 (List.mem_of_getElem? (i := 207) rfl) (by decide +kernel)
set_option maxRecDepth 100000 in
theorem gwi_2021 : (Jvm.Cond.methodLink "PlainMusicModel" (495 : Nat) ({ cls := "PlainMusicModel", name := "isVoice", desc := "(I)Z" } : Jvm.MethodName)) ∈ gw := gx_8 (List.mem_of_getElem? (i := 208) rfl) (by decide +kernel)
set_option maxRecDepth 100000 in
theorem gwi_2023 : (Jvm.Cond.instanceMethod ({ cls := "PlainMusicModel", name := "isVoice", desc := "(I)Z" } : Jvm.MethodName)) ∈ gw := gx_8 (List.mem_of_getElem? (i := 210) rfl) (by decide +kernel)
set_option maxRecDepth 100000 in
theorem gwi_2024 : (Jvm.Cond.code ({ cls := "PlainMusicModel", name := "isVoice", desc := "(I)Z" } : Jvm.MethodName) prog_14_method_51_code (2 : Nat) (Option.some Jvm.ClassFile.FieldType.boolean)) ∈ gw := gx_8 (List.mem_of_getElem? (i := 211) rfl) (by decide +kernel)
set_option maxRecDepth 100000 in
theorem gwi_2025 : (Jvm.Cond.methodLink "PlainMusicLaw" (45 : Nat) ({ cls := "PlainMusicModel", name := "event", desc := "(III)J" } : Jvm.MethodName)) ∈ gw := gx_8 (List.mem_of_getElem? (i := 212) rfl) (by decide +kernel)
set_option maxRecDepth 100000 in
theorem gwi_2026 : (Jvm.Cond.instanceMethod ({ cls := "PlainMusicModel", name := "event", desc := "(III)J" } : Jvm.MethodName)) ∈ gw := gx_8 (List.mem_of_getElem? (i := 213) rfl) (by decide +kernel)
set_option maxRecDepth 100000 in
theorem gwi_2027 : (Jvm.Cond.selects "PlainMusicModel" ({ cls := "PlainMusicModel", name := "event", desc := "(III)J" } : Jvm.MethodName) ({ cls := "PlainMusicModel", name := "event", desc := "(III)J" } : Jvm.MethodName)) ∈ gw := gx_8 (List.mem_of_getElem? (i := 214) rfl) (by decide +kernel)
set_option maxRecDepth 100000 in
theorem gwi_2028 : (Jvm.Cond.code ({ cls := "PlainMusicModel", name := "event", desc := "(III)J" } : Jvm.MethodName) prog_14_method_53_code (5 : Nat) (Option.some Jvm.ClassFile.FieldType.long)) ∈ gw := gx_8 (List.mem_of_getElem? (i := 215) rfl) (by decide +kernel)
set_option maxRecDepth 100000 in
theorem gwi_2029 : (Jvm.Cond.constantLong "PlainMusicModel" (498 : Nat) (10000 : Int64)) ∈ gw := gx_8 (List.mem_of_getElem? (i := 216) rfl) (by decide +kernel)
set_option maxRecDepth 100000 in
theorem gwi_2030 : (Jvm.Cond.methodLink "PlainMusicLaw" (49 : Nat) ({ cls := "PlainMusicModel", name := "judge", desc := "()I" } : Jvm.MethodName)) ∈ gw := gx_8 (List.mem_of_getElem? (i := 217) rfl) (by decide +kernel)
set_option maxRecDepth 100000 in
theorem gwi_2031 : (Jvm.Cond.instanceMethod ({ cls := "PlainMusicModel", name := "judge", desc := "()I" } : Jvm.MethodName)) ∈ gw := gx_8 (List.mem_of_getElem? (i := 218) rfl) (by decide +kernel)
set_option maxRecDepth 100000 in
theorem gwi_2032 : (Jvm.Cond.selects "PlainMusicModel" ({ cls := "PlainMusicModel", name := "judge", desc := "()I" } : Jvm.MethodName) ({ cls := "PlainMusicModel", name := "judge", desc := "()I" } : Jvm.MethodName)) ∈ gw := gx_8 (List.mem_of_getElem? (i := 219) rfl) (by decide +kernel)
set_option maxRecDepth 100000 in
theorem gwi_2033 : (Jvm.Cond.code ({ cls := "PlainMusicModel", name := "judge", desc := "()I" } : Jvm.MethodName) prog_14_method_59_code (4 : Nat) (Option.some Jvm.ClassFile.FieldType.int)) ∈ gw := gx_8 (List.mem_of_getElem? (i := 220) rfl) (by decide +kernel)
set_option maxRecDepth 100000 in
theorem gwi_2034 : (Jvm.Cond.methodLink "PlainMusicModel" (504 : Nat) ({ cls := "PlainMusicModel", name := "firstOf", desc := "(II)I" } : Jvm.MethodName)) ∈ gw := gx_8 (List.mem_of_getElem? (i := 221) rfl) (by decide +kernel)
set_option maxRecDepth 100000 in
theorem gwi_2036 : (Jvm.Cond.instanceMethod ({ cls := "PlainMusicModel", name := "firstOf", desc := "(II)I" } : Jvm.MethodName)) ∈ gw := gx_8 (List.mem_of_getElem? (i := 223) rfl) (by decide +kernel)
set_option maxRecDepth 100000 in
theorem gwi_2037 : (Jvm.Cond.code ({ cls := "PlainMusicModel", name := "firstOf", desc := "(II)I" } : Jvm.MethodName) prog_14_method_58_code (4 : Nat) (Option.some Jvm.ClassFile.FieldType.int)) ∈ gw := gx_8 (List.mem_of_getElem? (i := 224) rfl) (by decide +kernel)
set_option maxRecDepth 100000 in
theorem gwi_2038 : (Jvm.Cond.methodLink "PlainMusicModel" (507 : Nat) ({ cls := "PlainMusicModel", name := "isWhole", desc := "(II)Z" } : Jvm.MethodName)) ∈ gw := gx_8 (List.mem_of_getElem? (i := 225) rfl) (by decide +kernel)
set_option maxRecDepth 100000 in
theorem gwi_2040 : (Jvm.Cond.instanceMethod ({ cls := "PlainMusicModel", name := "isWhole", desc := "(II)Z" } : Jvm.MethodName)) ∈ gw := gx_8 (List.mem_of_getElem? (i := 227) rfl) (by decide +kernel)
set_option maxRecDepth 100000 in
theorem gwi_2041 : (Jvm.Cond.code ({ cls := "PlainMusicModel", name := "isWhole", desc := "(II)Z" } : Jvm.MethodName) prog_14_method_57_code (5 : Nat) (Option.some Jvm.ClassFile.FieldType.boolean)) ∈ gw := gx_8 (List.mem_of_getElem? (i := 228) rfl) (by decide +kernel)
set_option maxRecDepth 100000 in
theorem gwi_2042 : (Jvm.Cond.methodLink "PlainMusicModel" (500 : Nat) ({ cls := "PlainMusicModel", name := "compare", desc := "(JJJJ)I" } : Jvm.MethodName)) ∈ gw := gx_8 (List.mem_of_getElem? (i := 229) rfl) (by decide +kernel)
set_option maxRecDepth 100000 in
theorem gwi_2044 : (Jvm.Cond.instanceMethod ({ cls := "PlainMusicModel", name := "compare", desc := "(JJJJ)I" } : Jvm.MethodName)) ∈ gw := gx_8 (List.mem_of_getElem? (i := 231) rfl) (by decide +kernel)
set_option maxRecDepth 100000 in
theorem gwi_2045 : (Jvm.Cond.code ({ cls := "PlainMusicModel", name := "compare", desc := "(JJJJ)I" } : Jvm.MethodName) prog_14_method_34_code (13 : Nat) (Option.some Jvm.ClassFile.FieldType.int)) ∈ gw := gx_8 (List.mem_of_getElem? (i := 232) rfl) (by decide +kernel)
set_option maxRecDepth 100000 in
theorem gwi_2046 : (Jvm.Cond.methodLink "PlainMusicModel" (510 : Nat) ({ cls := "PlainMusicModel", name := "tell", desc := "(IIII)V" } : Jvm.MethodName)) ∈ gw := gx_8 (List.mem_of_getElem? (i := 233) rfl) (by decide +kernel)
set_option maxRecDepth 100000 in
theorem gwi_2048 : (Jvm.Cond.instanceMethod ({ cls := "PlainMusicModel", name := "tell", desc := "(IIII)V" } : Jvm.MethodName)) ∈ gw := gx_8 (List.mem_of_getElem? (i := 235) rfl) (by decide +kernel)
set_option maxRecDepth 100000 in
theorem gwi_2049 : (Jvm.Cond.code ({ cls := "PlainMusicModel", name := "tell", desc := "(IIII)V" } : Jvm.MethodName) prog_14_method_54_code (5 : Nat) (Option.none : Option Jvm.ClassFile.FieldType)) ∈ gw := gx_8 (List.mem_of_getElem? (i := 236) rfl) (by decide +kernel)
set_option maxRecDepth 100000 in
theorem gwi_2050 : (Jvm.Cond.methodLink "PlainMusicModel" (514 : Nat) ({ cls := "PlainMusicModel", name := "judgeEvent", desc := "(II)V" } : Jvm.MethodName)) ∈ gw := gx_8 (List.mem_of_getElem? (i := 237) rfl) (by decide +kernel)
set_option maxRecDepth 100000 in
theorem gwi_2052 : (Jvm.Cond.instanceMethod ({ cls := "PlainMusicModel", name := "judgeEvent", desc := "(II)V" } : Jvm.MethodName)) ∈ gw := gx_8 (List.mem_of_getElem? (i := 239) rfl) (by decide +kernel)
theorem gwi_2053 : (Jvm.Cond.code ({ cls := "PlainMusicModel", name := "judgeEvent", desc := "(II)V" } : Jvm.MethodName) prog_14_method_60_code (5 : Nat) (Option.none : Option Jvm.ClassFile.FieldType)) ∈ gw := gx_9 (List.mem_of_getElem? (i := 0) rfl) (by decide +kernel)
theorem gwi_2054 : (Jvm.Cond.methodLink "PlainMusicModel" (517 : Nat) ({ cls := "PlainMusicModel", name := "goesOn", desc := "(II)Z" } : Jvm.MethodName)) ∈ gw := gx_9 (List.mem_of_getElem? (i := 1) rfl) (by decide +kernel)
theorem gwi_2056 : (Jvm.Cond.instanceMethod ({ cls := "PlainMusicModel", name := "goesOn", desc := "(II)Z" } : Jvm.MethodName)) ∈ gw := gx_9 (List.mem_of_getElem? (i := 3) rfl) (by decide +kernel)
theorem gwi_2057 : (Jvm.Cond.code ({ cls := "PlainMusicModel", name := "goesOn", desc := "(II)Z" } : Jvm.MethodName) prog_14_method_61_code (8 : Nat) (Option.some Jvm.ClassFile.FieldType.boolean)) ∈ gw := gx_9 (List.mem_of_getElem? (i := 4) rfl) (by decide +kernel)
theorem gwi_2058 : (Jvm.Cond.methodLink "PlainMusicModel" (520 : Nat) ({ cls := "PlainMusicModel", name := "lowest", desc := "(I)I" } : Jvm.MethodName)) ∈ gw := gx_9 (List.mem_of_getElem? (i := 5) rfl) (by decide +kernel)
theorem gwi_2060 : (Jvm.Cond.instanceMethod ({ cls := "PlainMusicModel", name := "lowest", desc := "(I)I" } : Jvm.MethodName)) ∈ gw := gx_9 (List.mem_of_getElem? (i := 7) rfl) (by decide +kernel)
theorem gwi_2061 : (Jvm.Cond.code ({ cls := "PlainMusicModel", name := "lowest", desc := "(I)I" } : Jvm.MethodName) prog_14_method_55_code (2 : Nat) (Option.some Jvm.ClassFile.FieldType.int)) ∈ gw := gx_9 (List.mem_of_getElem? (i := 8) rfl) (by decide +kernel)
theorem gwi_2062 : (Jvm.Cond.methodLink "PlainMusicModel" (523 : Nat) ({ cls := "PlainMusicModel", name := "crosses", desc := "(II)Z" } : Jvm.MethodName)) ∈ gw := gx_9 (List.mem_of_getElem? (i := 9) rfl) (by decide +kernel)
theorem gwi_2064 : (Jvm.Cond.instanceMethod ({ cls := "PlainMusicModel", name := "crosses", desc := "(II)Z" } : Jvm.MethodName)) ∈ gw := gx_9 (List.mem_of_getElem? (i := 11) rfl) (by decide +kernel)
theorem gwi_2065 : (Jvm.Cond.code ({ cls := "PlainMusicModel", name := "crosses", desc := "(II)Z" } : Jvm.MethodName) prog_14_method_63_code (5 : Nat) (Option.some Jvm.ClassFile.FieldType.boolean)) ∈ gw := gx_9 (List.mem_of_getElem? (i := 12) rfl) (by decide +kernel)
theorem gwi_2066 : (Jvm.Cond.methodLink "PlainMusicModel" (529 : Nat) ({ cls := "PlainMusicModel", name := "isAhead", desc := "(II)Z" } : Jvm.MethodName)) ∈ gw := gx_9 (List.mem_of_getElem? (i := 13) rfl) (by decide +kernel)
theorem gwi_2068 : (Jvm.Cond.instanceMethod ({ cls := "PlainMusicModel", name := "isAhead", desc := "(II)Z" } : Jvm.MethodName)) ∈ gw := gx_9 (List.mem_of_getElem? (i := 15) rfl) (by decide +kernel)
theorem gwi_2069 : (Jvm.Cond.code ({ cls := "PlainMusicModel", name := "isAhead", desc := "(II)Z" } : Jvm.MethodName) prog_14_method_62_code (3 : Nat) (Option.some Jvm.ClassFile.FieldType.boolean)) ∈ gw := gx_9 (List.mem_of_getElem? (i := 16) rfl) (by decide +kernel)
theorem gwi_2070 : (Jvm.Cond.methodLink "PlainMusicModel" (532 : Nat) ({ cls := "PlainMusicModel", name := "highest", desc := "(I)I" } : Jvm.MethodName)) ∈ gw := gx_9 (List.mem_of_getElem? (i := 17) rfl) (by decide +kernel)
theorem gwi_2072 : (Jvm.Cond.instanceMethod ({ cls := "PlainMusicModel", name := "highest", desc := "(I)I" } : Jvm.MethodName)) ∈ gw := gx_9 (List.mem_of_getElem? (i := 19) rfl) (by decide +kernel)
theorem gwi_2073 : (Jvm.Cond.code ({ cls := "PlainMusicModel", name := "highest", desc := "(I)I" } : Jvm.MethodName) prog_14_method_56_code (2 : Nat) (Option.some Jvm.ClassFile.FieldType.int)) ∈ gw := gx_9 (List.mem_of_getElem? (i := 20) rfl) (by decide +kernel)
theorem gwi_2074 : (Jvm.Cond.methodLink "PlainMusicModel" (526 : Nat) ({ cls := "PlainMusicModel", name := "goesAlong", desc := "(II)Z" } : Jvm.MethodName)) ∈ gw := gx_9 (List.mem_of_getElem? (i := 21) rfl) (by decide +kernel)
theorem gwi_2076 : (Jvm.Cond.instanceMethod ({ cls := "PlainMusicModel", name := "goesAlong", desc := "(II)Z" } : Jvm.MethodName)) ∈ gw := gx_9 (List.mem_of_getElem? (i := 23) rfl) (by decide +kernel)
theorem gwi_2077 : (Jvm.Cond.code ({ cls := "PlainMusicModel", name := "goesAlong", desc := "(II)Z" } : Jvm.MethodName) prog_14_method_65_code (8 : Nat) (Option.some Jvm.ClassFile.FieldType.boolean)) ∈ gw := gx_9 (List.mem_of_getElem? (i := 24) rfl) (by decide +kernel)
theorem gwi_2078 : (Jvm.Cond.methodLink "PlainMusicModel" (535 : Nat) ({ cls := "PlainMusicModel", name := "modulo", desc := "(I)I" } : Jvm.MethodName)) ∈ gw := gx_9 (List.mem_of_getElem? (i := 25) rfl) (by decide +kernel)
theorem gwi_2080 : (Jvm.Cond.instanceMethod ({ cls := "PlainMusicModel", name := "modulo", desc := "(I)I" } : Jvm.MethodName)) ∈ gw := gx_9 (List.mem_of_getElem? (i := 27) rfl) (by decide +kernel)
theorem gwi_2081 : (Jvm.Cond.code ({ cls := "PlainMusicModel", name := "modulo", desc := "(I)I" } : Jvm.MethodName) prog_14_method_64_code (2 : Nat) (Option.some Jvm.ClassFile.FieldType.int)) ∈ gw := gx_9 (List.mem_of_getElem? (i := 28) rfl) (by decide +kernel)
theorem gwi_2082 : (Jvm.Cond.methodLink "PlainMusicLaw" (53 : Nat) ({ cls := "PlainMusicModel", name := "fault", desc := "(II)I" } : Jvm.MethodName)) ∈ gw := gx_9 (List.mem_of_getElem? (i := 29) rfl) (by decide +kernel)
theorem gwi_2083 : (Jvm.Cond.instanceMethod ({ cls := "PlainMusicModel", name := "fault", desc := "(II)I" } : Jvm.MethodName)) ∈ gw := gx_9 (List.mem_of_getElem? (i := 30) rfl) (by decide +kernel)
theorem gwi_2084 : (Jvm.Cond.selects "PlainMusicModel" ({ cls := "PlainMusicModel", name := "fault", desc := "(II)I" } : Jvm.MethodName) ({ cls := "PlainMusicModel", name := "fault", desc := "(II)I" } : Jvm.MethodName)) ∈ gw := gx_9 (List.mem_of_getElem? (i := 31) rfl) (by decide +kernel)
theorem gwi_2085 : (Jvm.Cond.code ({ cls := "PlainMusicModel", name := "fault", desc := "(II)I" } : Jvm.MethodName) prog_14_method_66_code (3 : Nat) (Option.some Jvm.ClassFile.FieldType.int)) ∈ gw := gx_9 (List.mem_of_getElem? (i := 32) rfl) (by decide +kernel)
theorem gwi_2086 : (Jvm.Cond.methodLink "PlainMusicLaw" (57 : Nat) ({ cls := "PlainMusicModel", name := "beam", desc := "(II)I" } : Jvm.MethodName)) ∈ gw := gx_9 (List.mem_of_getElem? (i := 33) rfl) (by decide +kernel)
theorem gwi_2087 : (Jvm.Cond.instanceMethod ({ cls := "PlainMusicModel", name := "beam", desc := "(II)I" } : Jvm.MethodName)) ∈ gw := gx_9 (List.mem_of_getElem? (i := 34) rfl) (by decide +kernel)
theorem gwi_2088 : (Jvm.Cond.selects "PlainMusicModel" ({ cls := "PlainMusicModel", name := "beam", desc := "(II)I" } : Jvm.MethodName) ({ cls := "PlainMusicModel", name := "beam", desc := "(II)I" } : Jvm.MethodName)) ∈ gw := gx_9 (List.mem_of_getElem? (i := 35) rfl) (by decide +kernel)
theorem gwi_2089 : (Jvm.Cond.code ({ cls := "PlainMusicModel", name := "beam", desc := "(II)I" } : Jvm.MethodName) prog_14_method_68_code (9 : Nat) (Option.some Jvm.ClassFile.FieldType.int)) ∈ gw := gx_9 (List.mem_of_getElem? (i := 36) rfl) (by decide +kernel)
theorem gwi_2090 : (Jvm.Cond.methodLink "PlainMusicModel" (538 : Nat) ({ cls := "PlainMusicModel", name := "isShort", desc := "(I)Z" } : Jvm.MethodName)) ∈ gw := gx_9 (List.mem_of_getElem? (i := 37) rfl) (by decide +kernel)
theorem gwi_2092 : (Jvm.Cond.instanceMethod ({ cls := "PlainMusicModel", name := "isShort", desc := "(I)Z" } : Jvm.MethodName)) ∈ gw := gx_9 (List.mem_of_getElem? (i := 39) rfl) (by decide +kernel)
theorem gwi_2093 : (Jvm.Cond.code ({ cls := "PlainMusicModel", name := "isShort", desc := "(I)Z" } : Jvm.MethodName) prog_14_method_67_code (2 : Nat) (Option.some Jvm.ClassFile.FieldType.boolean)) ∈ gw := gx_9 (List.mem_of_getElem? (i := 40) rfl) (by decide +kernel)
set_option maxRecDepth 100000 in
theorem gwi_2094 : (Jvm.Cond.methodLink "PlainMusicModel" (541 : Nat) ({ cls := "PlainMusicModel", name := "run", desc := "(IIII)I" } : Jvm.MethodName)) ∈ gw := gx_9 (List.mem_of_getElem? (i := 41) rfl) (by decide +kernel)
set_option maxRecDepth 100000 in
theorem gwi_2096 : (Jvm.Cond.instanceMethod ({ cls := "PlainMusicModel", name := "run", desc := "(IIII)I" } : Jvm.MethodName)) ∈ gw := gx_9 (List.mem_of_getElem? (i := 43) rfl) (by decide +kernel)
set_option maxRecDepth 100000 in
theorem gwi_2097 : (Jvm.Cond.code ({ cls := "PlainMusicModel", name := "run", desc := "(IIII)I" } : Jvm.MethodName) prog_14_method_69_code (9 : Nat) (Option.some Jvm.ClassFile.FieldType.int)) ∈ gw := gx_9 (List.mem_of_getElem? (i := 44) rfl) (by decide +kernel)
set_option maxRecDepth 100000 in
theorem gwi_2098 : (Jvm.Cond.methodLink "PlainMusicModel" (545 : Nat) ({ cls := "PlainMusicModel", name := "groupCost", desc := "(IIII)I" } : Jvm.MethodName)) ∈ gw := gx_9 (List.mem_of_getElem? (i := 45) rfl) (by decide +kernel)
set_option maxRecDepth 100000 in
theorem gwi_2100 : (Jvm.Cond.instanceMethod ({ cls := "PlainMusicModel", name := "groupCost", desc := "(IIII)I" } : Jvm.MethodName)) ∈ gw := gx_9 (List.mem_of_getElem? (i := 47) rfl) (by decide +kernel)
set_option maxRecDepth 100000 in
theorem gwi_2101 : (Jvm.Cond.code ({ cls := "PlainMusicModel", name := "groupCost", desc := "(IIII)I" } : Jvm.MethodName) prog_14_method_70_code (10 : Nat) (Option.some Jvm.ClassFile.FieldType.int)) ∈ gw := gx_9 (List.mem_of_getElem? (i := 48) rfl) (by decide +kernel)
set_option maxRecDepth 100000 in
theorem gwi_2102 : (Jvm.Cond.methodLink "PlainMusicLaw" (61 : Nat) ({ cls := "PlainMusicModel", name := "group", desc := "(I)I" } : Jvm.MethodName)) ∈ gw := gx_9 (List.mem_of_getElem? (i := 49) rfl) (by decide +kernel)
set_option maxRecDepth 100000 in
theorem gwi_2103 : (Jvm.Cond.instanceMethod ({ cls := "PlainMusicModel", name := "group", desc := "(I)I" } : Jvm.MethodName)) ∈ gw := gx_9 (List.mem_of_getElem? (i := 50) rfl) (by decide +kernel)
set_option maxRecDepth 100000 in
theorem gwi_2104 : (Jvm.Cond.selects "PlainMusicModel" ({ cls := "PlainMusicModel", name := "group", desc := "(I)I" } : Jvm.MethodName) ({ cls := "PlainMusicModel", name := "group", desc := "(I)I" } : Jvm.MethodName)) ∈ gw := gx_9 (List.mem_of_getElem? (i := 51) rfl) (by decide +kernel)
set_option maxRecDepth 100000 in
theorem gwi_2105 : (Jvm.Cond.code ({ cls := "PlainMusicModel", name := "group", desc := "(I)I" } : Jvm.MethodName) prog_14_method_71_code (2 : Nat) (Option.some Jvm.ClassFile.FieldType.int)) ∈ gw := gx_9 (List.mem_of_getElem? (i := 52) rfl) (by decide +kernel)
set_option maxRecDepth 100000 in
theorem gwi_2106 : (Jvm.Cond.methodLink "PlainMusicLaw" (73 : Nat) ({ cls := "PlainMusicModel", name := "width", desc := "(I)I" } : Jvm.MethodName)) ∈ gw := gx_9 (List.mem_of_getElem? (i := 53) rfl) (by decide +kernel)
set_option maxRecDepth 100000 in
theorem gwi_2107 : (Jvm.Cond.instanceMethod ({ cls := "PlainMusicModel", name := "width", desc := "(I)I" } : Jvm.MethodName)) ∈ gw := gx_9 (List.mem_of_getElem? (i := 54) rfl) (by decide +kernel)
set_option maxRecDepth 100000 in
theorem gwi_2108 : (Jvm.Cond.selects "PlainMusicModel" ({ cls := "PlainMusicModel", name := "width", desc := "(I)I" } : Jvm.MethodName) ({ cls := "PlainMusicModel", name := "width", desc := "(I)I" } : Jvm.MethodName)) ∈ gw := gx_9 (List.mem_of_getElem? (i := 55) rfl) (by decide +kernel)
set_option maxRecDepth 100000 in
theorem gwi_2109 : (Jvm.Cond.code ({ cls := "PlainMusicModel", name := "width", desc := "(I)I" } : Jvm.MethodName) prog_14_method_72_code (7 : Nat) (Option.some Jvm.ClassFile.FieldType.int)) ∈ gw := gx_9 (List.mem_of_getElem? (i := 56) rfl) (by decide +kernel)
set_option maxRecDepth 100000 in
theorem gwi_2110 : (Jvm.Cond.methodLink "PlainMusicModel" (548 : Nat) ({ cls := "PlainMusicModel", name := "isFirstTime", desc := "(III)Z" } : Jvm.MethodName)) ∈ gw := gx_9 (List.mem_of_getElem? (i := 57) rfl) (by decide +kernel)
set_option maxRecDepth 100000 in
theorem gwi_2112 : (Jvm.Cond.instanceMethod ({ cls := "PlainMusicModel", name := "isFirstTime", desc := "(III)Z" } : Jvm.MethodName)) ∈ gw := gx_9 (List.mem_of_getElem? (i := 59) rfl) (by decide +kernel)
set_option maxRecDepth 100000 in
theorem gwi_2113 : (Jvm.Cond.code ({ cls := "PlainMusicModel", name := "isFirstTime", desc := "(III)Z" } : Jvm.MethodName) prog_14_method_73_code (11 : Nat) (Option.some Jvm.ClassFile.FieldType.boolean)) ∈ gw := gx_9 (List.mem_of_getElem? (i := 60) rfl) (by decide +kernel)
set_option maxRecDepth 100000 in
theorem gwi_2114 : (Jvm.Cond.methodLink "PlainMusicLaw" (65 : Nat) ({ cls := "PlainMusicModel", name := "breaks", desc := "(I)I" } : Jvm.MethodName)) ∈ gw := gx_9 (List.mem_of_getElem? (i := 61) rfl) (by decide +kernel)
set_option maxRecDepth 100000 in
theorem gwi_2115 : (Jvm.Cond.instanceMethod ({ cls := "PlainMusicModel", name := "breaks", desc := "(I)I" } : Jvm.MethodName)) ∈ gw := gx_9 (List.mem_of_getElem? (i := 62) rfl) (by decide +kernel)
set_option maxRecDepth 100000 in
theorem gwi_2116 : (Jvm.Cond.selects "PlainMusicModel" ({ cls := "PlainMusicModel", name := "breaks", desc := "(I)I" } : Jvm.MethodName) ({ cls := "PlainMusicModel", name := "breaks", desc := "(I)I" } : Jvm.MethodName)) ∈ gw := gx_9 (List.mem_of_getElem? (i := 63) rfl) (by decide +kernel)
set_option maxRecDepth 100000 in
theorem gwi_2117 : (Jvm.Cond.code ({ cls := "PlainMusicModel", name := "breaks", desc := "(I)I" } : Jvm.MethodName) prog_14_method_74_code (9 : Nat) (Option.some Jvm.ClassFile.FieldType.int)) ∈ gw := gx_9 (List.mem_of_getElem? (i := 64) rfl) (by decide +kernel)
set_option maxRecDepth 100000 in
theorem gwi_2118 : (Jvm.Cond.methodLink "PlainMusicModel" (552 : Nat) ({ cls := "PlainMusicModel", name := "width", desc := "(I)I" } : Jvm.MethodName)) ∈ gw := gx_9 (List.mem_of_getElem? (i := 65) rfl) (by decide +kernel)
set_option maxRecDepth 100000 in
theorem gwi_2119 : (Jvm.Cond.methodLink "PlainMusicLaw" (69 : Nat) ({ cls := "PlainMusicModel", name := "line", desc := "(I)I" } : Jvm.MethodName)) ∈ gw := gx_9 (List.mem_of_getElem? (i := 66) rfl) (by decide +kernel)
set_option maxRecDepth 100000 in
theorem gwi_2120 : (Jvm.Cond.instanceMethod ({ cls := "PlainMusicModel", name := "line", desc := "(I)I" } : Jvm.MethodName)) ∈ gw := gx_9 (List.mem_of_getElem? (i := 67) rfl) (by decide +kernel)
set_option maxRecDepth 100000 in
theorem gwi_2121 : (Jvm.Cond.selects "PlainMusicModel" ({ cls := "PlainMusicModel", name := "line", desc := "(I)I" } : Jvm.MethodName) ({ cls := "PlainMusicModel", name := "line", desc := "(I)I" } : Jvm.MethodName)) ∈ gw := gx_9 (List.mem_of_getElem? (i := 68) rfl) (by decide +kernel)
set_option maxRecDepth 100000 in
theorem gwi_2122 : (Jvm.Cond.code ({ cls := "PlainMusicModel", name := "line", desc := "(I)I" } : Jvm.MethodName) prog_14_method_75_code (2 : Nat) (Option.some Jvm.ClassFile.FieldType.int)) ∈ gw := gx_9 (List.mem_of_getElem? (i := 69) rfl) (by decide +kernel)
set_option maxRecDepth 100000 in
theorem gwi_2123 : (Jvm.Cond.methodLink "PlainMusicLaw" (78 : Nat) ({ cls := "PlainMusicModel", name := "lines", desc := "(III)I" } : Jvm.MethodName)) ∈ gw := gx_9 (List.mem_of_getElem? (i := 70) rfl) (by decide +kernel)
set_option maxRecDepth 100000 in
theorem gwi_2124 : (Jvm.Cond.instanceMethod ({ cls := "PlainMusicModel", name := "lines", desc := "(III)I" } : Jvm.MethodName)) ∈ gw := gx_9 (List.mem_of_getElem? (i := 71) rfl) (by decide +kernel)
set_option maxRecDepth 100000 in
theorem gwi_2125 : (Jvm.Cond.selects "PlainMusicModel" ({ cls := "PlainMusicModel", name := "lines", desc := "(III)I" } : Jvm.MethodName) ({ cls := "PlainMusicModel", name := "lines", desc := "(III)I" } : Jvm.MethodName)) ∈ gw := gx_9 (List.mem_of_getElem? (i := 72) rfl) (by decide +kernel)
set_option maxRecDepth 100000 in
theorem gwi_2126 : (Jvm.Cond.code ({ cls := "PlainMusicModel", name := "lines", desc := "(III)I" } : Jvm.MethodName) prog_14_method_80_code (7 : Nat) (Option.some Jvm.ClassFile.FieldType.int)) ∈ gw := gx_9 (List.mem_of_getElem? (i := 73) rfl) (by decide +kernel)
set_option maxRecDepth 100000 in
theorem gwi_2127 : (Jvm.Cond.constantLong "PlainMusicModel" (576 : Nat) (100000 : Int64)) ∈ gw := gx_9 (List.mem_of_getElem? (i := 74) rfl) (by decide +kernel)
set_option maxRecDepth 100000 in
theorem gwi_2128 : (Jvm.Cond.methodLink "PlainMusicModel" (578 : Nat) ({ cls := "PlainMusicModel", name := "through", desc := "(I)I" } : Jvm.MethodName)) ∈ gw := gx_9 (List.mem_of_getElem? (i := 75) rfl) (by decide +kernel)
set_option maxRecDepth 100000 in
theorem gwi_2130 : (Jvm.Cond.instanceMethod ({ cls := "PlainMusicModel", name := "through", desc := "(I)I" } : Jvm.MethodName)) ∈ gw := gx_9 (List.mem_of_getElem? (i := 77) rfl) (by decide +kernel)
set_option maxRecDepth 100000 in
theorem gwi_2131 : (Jvm.Cond.code ({ cls := "PlainMusicModel", name := "through", desc := "(I)I" } : Jvm.MethodName) prog_14_method_79_code (4 : Nat) (Option.some Jvm.ClassFile.FieldType.int)) ∈ gw := gx_9 (List.mem_of_getElem? (i := 78) rfl) (by decide +kernel)
set_option maxRecDepth 100000 in
theorem gwi_2132 : (Jvm.Cond.methodLink "PlainMusicModel" (573 : Nat) ({ cls := "PlainMusicModel", name := "goes", desc := "(I)Z" } : Jvm.MethodName)) ∈ gw := gx_9 (List.mem_of_getElem? (i := 79) rfl) (by decide +kernel)
set_option maxRecDepth 100000 in
theorem gwi_2134 : (Jvm.Cond.instanceMethod ({ cls := "PlainMusicModel", name := "goes", desc := "(I)Z" } : Jvm.MethodName)) ∈ gw := gx_9 (List.mem_of_getElem? (i := 81) rfl) (by decide +kernel)
set_option maxRecDepth 100000 in
theorem gwi_2135 : (Jvm.Cond.code ({ cls := "PlainMusicModel", name := "goes", desc := "(I)Z" } : Jvm.MethodName) prog_14_method_78_code (9 : Nat) (Option.some Jvm.ClassFile.FieldType.boolean)) ∈ gw := gx_9 (List.mem_of_getElem? (i := 82) rfl) (by decide +kernel)
set_option maxRecDepth 100000 in
theorem gwi_2136 : (Jvm.Cond.methodLink "PlainMusicModel" (558 : Nat) ({ cls := "PlainMusicModel", name := "isRule", desc := "(I)Z" } : Jvm.MethodName)) ∈ gw := gx_9 (List.mem_of_getElem? (i := 83) rfl) (by decide +kernel)
set_option maxRecDepth 100000 in
theorem gwi_2138 : (Jvm.Cond.instanceMethod ({ cls := "PlainMusicModel", name := "isRule", desc := "(I)Z" } : Jvm.MethodName)) ∈ gw := gx_9 (List.mem_of_getElem? (i := 85) rfl) (by decide +kernel)
set_option maxRecDepth 100000 in
theorem gwi_2139 : (Jvm.Cond.code ({ cls := "PlainMusicModel", name := "isRule", desc := "(I)Z" } : Jvm.MethodName) prog_14_method_76_code (2 : Nat) (Option.some Jvm.ClassFile.FieldType.boolean)) ∈ gw := gx_9 (List.mem_of_getElem? (i := 86) rfl) (by decide +kernel)
set_option maxRecDepth 100000 in
theorem gwi_2140 : (Jvm.Cond.methodLink "PlainMusicModel" (564 : Nat) ({ cls := "PlainMusicModel", name := "isWhite", desc := "(I)Z" } : Jvm.MethodName)) ∈ gw := gx_9 (List.mem_of_getElem? (i := 87) rfl) (by decide +kernel)
set_option maxRecDepth 100000 in
theorem gwi_2142 : (Jvm.Cond.instanceMethod ({ cls := "PlainMusicModel", name := "isWhite", desc := "(I)Z" } : Jvm.MethodName)) ∈ gw := gx_9 (List.mem_of_getElem? (i := 89) rfl) (by decide +kernel)
set_option maxRecDepth 100000 in
theorem gwi_2143 : (Jvm.Cond.code ({ cls := "PlainMusicModel", name := "isWhite", desc := "(I)Z" } : Jvm.MethodName) prog_14_method_77_code (2 : Nat) (Option.some Jvm.ClassFile.FieldType.boolean)) ∈ gw := gx_9 (List.mem_of_getElem? (i := 90) rfl) (by decide +kernel)
set_option maxRecDepth 100000 in
theorem gwi_2144 : (Jvm.Cond.methodLink "PlainMusicLaw" (82 : Nat) ({ cls := "PlainMusicModel", name := "second", desc := "(II)I" } : Jvm.MethodName)) ∈ gw := gx_9 (List.mem_of_getElem? (i := 91) rfl) (by decide +kernel)
set_option maxRecDepth 100000 in
theorem gwi_2145 : (Jvm.Cond.instanceMethod ({ cls := "PlainMusicModel", name := "second", desc := "(II)I" } : Jvm.MethodName)) ∈ gw := gx_9 (List.mem_of_getElem? (i := 92) rfl) (by decide +kernel)
set_option maxRecDepth 100000 in
theorem gwi_2146 : (Jvm.Cond.selects "PlainMusicModel" ({ cls := "PlainMusicModel", name := "second", desc := "(II)I" } : Jvm.MethodName) ({ cls := "PlainMusicModel", name := "second", desc := "(II)I" } : Jvm.MethodName)) ∈ gw := gx_9 (List.mem_of_getElem? (i := 93) rfl) (by decide +kernel)
set_option maxRecDepth 100000 in
theorem gwi_2147 : (Jvm.Cond.code ({ cls := "PlainMusicModel", name := "second", desc := "(II)I" } : Jvm.MethodName) prog_14_method_81_code (4 : Nat) (Option.some Jvm.ClassFile.FieldType.int)) ∈ gw := gx_9 (List.mem_of_getElem? (i := 94) rfl) (by decide +kernel)
set_option maxRecDepth 100000 in
theorem gwi_2148 : (Jvm.Cond.methodLink "PlainMusicLaw" (86 : Nat) ({ cls := "PlainMusicModel", name := "readings", desc := "()I" } : Jvm.MethodName)) ∈ gw := gx_9 (List.mem_of_getElem? (i := 95) rfl) (by decide +kernel)
set_option maxRecDepth 100000 in
theorem gwi_2149 : (Jvm.Cond.instanceMethod ({ cls := "PlainMusicModel", name := "readings", desc := "()I" } : Jvm.MethodName)) ∈ gw := gx_9 (List.mem_of_getElem? (i := 96) rfl) (by decide +kernel)
set_option maxRecDepth 100000 in
theorem gwi_2150 : (Jvm.Cond.selects "PlainMusicModel" ({ cls := "PlainMusicModel", name := "readings", desc := "()I" } : Jvm.MethodName) ({ cls := "PlainMusicModel", name := "readings", desc := "()I" } : Jvm.MethodName)) ∈ gw := gx_9 (List.mem_of_getElem? (i := 97) rfl) (by decide +kernel)
set_option maxRecDepth 100000 in
theorem gwi_2151 : (Jvm.Cond.code ({ cls := "PlainMusicModel", name := "readings", desc := "()I" } : Jvm.MethodName) prog_14_method_85_code (8 : Nat) (Option.some Jvm.ClassFile.FieldType.int)) ∈ gw := gx_9 (List.mem_of_getElem? (i := 98) rfl) (by decide +kernel)
set_option maxRecDepth 100000 in
theorem gwi_2152 : (Jvm.Cond.methodLink "PlainMusicModel" (591 : Nat) ({ cls := "PlainMusicModel", name := "byRule", desc := "(IIII)J" } : Jvm.MethodName)) ∈ gw := gx_9 (List.mem_of_getElem? (i := 99) rfl) (by decide +kernel)
set_option maxRecDepth 100000 in
theorem gwi_2154 : (Jvm.Cond.instanceMethod ({ cls := "PlainMusicModel", name := "byRule", desc := "(IIII)J" } : Jvm.MethodName)) ∈ gw := gx_9 (List.mem_of_getElem? (i := 101) rfl) (by decide +kernel)
set_option maxRecDepth 100000 in
theorem gwi_2155 : (Jvm.Cond.code ({ cls := "PlainMusicModel", name := "byRule", desc := "(IIII)J" } : Jvm.MethodName) prog_14_method_84_code (5 : Nat) (Option.some Jvm.ClassFile.FieldType.long)) ∈ gw := gx_9 (List.mem_of_getElem? (i := 102) rfl) (by decide +kernel)
set_option maxRecDepth 100000 in
theorem gwi_2156 : (Jvm.Cond.methodLink "PlainMusicModel" (583 : Nat) ({ cls := "PlainMusicModel", name := "treeAt", desc := "(III)I" } : Jvm.MethodName)) ∈ gw := gx_9 (List.mem_of_getElem? (i := 103) rfl) (by decide +kernel)
set_option maxRecDepth 100000 in
theorem gwi_2158 : (Jvm.Cond.instanceMethod ({ cls := "PlainMusicModel", name := "treeAt", desc := "(III)I" } : Jvm.MethodName)) ∈ gw := gx_9 (List.mem_of_getElem? (i := 105) rfl) (by decide +kernel)
set_option maxRecDepth 100000 in
theorem gwi_2159 : (Jvm.Cond.code ({ cls := "PlainMusicModel", name := "treeAt", desc := "(III)I" } : Jvm.MethodName) prog_14_method_82_code (4 : Nat) (Option.some Jvm.ClassFile.FieldType.int)) ∈ gw := gx_9 (List.mem_of_getElem? (i := 106) rfl) (by decide +kernel)
set_option maxRecDepth 100000 in
theorem gwi_2160 : (Jvm.Cond.methodLink "PlainMusicModel" (587 : Nat) ({ cls := "PlainMusicModel", name := "capped", desc := "(J)J" } : Jvm.MethodName)) ∈ gw := gx_9 (List.mem_of_getElem? (i := 107) rfl) (by decide +kernel)
set_option maxRecDepth 100000 in
theorem gwi_2162 : (Jvm.Cond.instanceMethod ({ cls := "PlainMusicModel", name := "capped", desc := "(J)J" } : Jvm.MethodName)) ∈ gw := gx_9 (List.mem_of_getElem? (i := 109) rfl) (by decide +kernel)
set_option maxRecDepth 100000 in
theorem gwi_2163 : (Jvm.Cond.code ({ cls := "PlainMusicModel", name := "capped", desc := "(J)J" } : Jvm.MethodName) prog_14_method_83_code (3 : Nat) (Option.some Jvm.ClassFile.FieldType.long)) ∈ gw := gx_9 (List.mem_of_getElem? (i := 110) rfl) (by decide +kernel)
set_option maxRecDepth 100000 in
theorem gwi_2164 : (Jvm.Cond.constantLong "PlainMusicModel" (581 : Nat) (1000001 : Int64)) ∈ gw := gx_9 (List.mem_of_getElem? (i := 111) rfl) (by decide +kernel)
set_option maxRecDepth 100000 in
theorem gwi_2165 : (Jvm.Cond.methodLink "PlainMusicLaw" (90 : Nat) ({ cls := "PlainMusicModel", name := "tree", desc := "(II)I" } : Jvm.MethodName)) ∈ gw := gx_9 (List.mem_of_getElem? (i := 112) rfl) (by decide +kernel)
set_option maxRecDepth 100000 in
theorem gwi_2166 : (Jvm.Cond.instanceMethod ({ cls := "PlainMusicModel", name := "tree", desc := "(II)I" } : Jvm.MethodName)) ∈ gw := gx_9 (List.mem_of_getElem? (i := 113) rfl) (by decide +kernel)
set_option maxRecDepth 100000 in
theorem gwi_2167 : (Jvm.Cond.selects "PlainMusicModel" ({ cls := "PlainMusicModel", name := "tree", desc := "(II)I" } : Jvm.MethodName) ({ cls := "PlainMusicModel", name := "tree", desc := "(II)I" } : Jvm.MethodName)) ∈ gw := gx_9 (List.mem_of_getElem? (i := 114) rfl) (by decide +kernel)
set_option maxRecDepth 100000 in
theorem gwi_2168 : (Jvm.Cond.code ({ cls := "PlainMusicModel", name := "tree", desc := "(II)I" } : Jvm.MethodName) prog_14_method_86_code (17 : Nat) (Option.some Jvm.ClassFile.FieldType.int)) ∈ gw := gx_9 (List.mem_of_getElem? (i := 115) rfl) (by decide +kernel)
set_option maxRecDepth 100000 in
theorem gwi_2169 : (Jvm.Cond.methodLink "PlainMusicLaw" (94 : Nat) ({ cls := "PlainMusicModel", name := "beside", desc := "(II)I" } : Jvm.MethodName)) ∈ gw := gx_9 (List.mem_of_getElem? (i := 116) rfl) (by decide +kernel)
set_option maxRecDepth 100000 in
theorem gwi_2170 : (Jvm.Cond.instanceMethod ({ cls := "PlainMusicModel", name := "beside", desc := "(II)I" } : Jvm.MethodName)) ∈ gw := gx_9 (List.mem_of_getElem? (i := 117) rfl) (by decide +kernel)
set_option maxRecDepth 100000 in
theorem gwi_2171 : (Jvm.Cond.selects "PlainMusicModel" ({ cls := "PlainMusicModel", name := "beside", desc := "(II)I" } : Jvm.MethodName) ({ cls := "PlainMusicModel", name := "beside", desc := "(II)I" } : Jvm.MethodName)) ∈ gw := gx_9 (List.mem_of_getElem? (i := 118) rfl) (by decide +kernel)
set_option maxRecDepth 100000 in
theorem gwi_2172 : (Jvm.Cond.code ({ cls := "PlainMusicModel", name := "beside", desc := "(II)I" } : Jvm.MethodName) prog_14_method_89_code (8 : Nat) (Option.some Jvm.ClassFile.FieldType.int)) ∈ gw := gx_9 (List.mem_of_getElem? (i := 119) rfl) (by decide +kernel)
set_option maxRecDepth 100000 in
theorem gwi_2173 : (Jvm.Cond.methodLink "PlainMusicModel" (595 : Nat) ({ cls := "PlainMusicModel", name := "soundsOf", desc := "(IZ)I" } : Jvm.MethodName)) ∈ gw := gx_9 (List.mem_of_getElem? (i := 120) rfl) (by decide +kernel)
set_option maxRecDepth 100000 in
theorem gwi_2175 : (Jvm.Cond.instanceMethod ({ cls := "PlainMusicModel", name := "soundsOf", desc := "(IZ)I" } : Jvm.MethodName)) ∈ gw := gx_9 (List.mem_of_getElem? (i := 122) rfl) (by decide +kernel)
set_option maxRecDepth 100000 in
theorem gwi_2176 : (Jvm.Cond.code ({ cls := "PlainMusicModel", name := "soundsOf", desc := "(IZ)I" } : Jvm.MethodName) prog_14_method_87_code (6 : Nat) (Option.some Jvm.ClassFile.FieldType.int)) ∈ gw := gx_9 (List.mem_of_getElem? (i := 123) rfl) (by decide +kernel)
set_option maxRecDepth 100000 in
theorem gwi_2177 : (Jvm.Cond.methodLink "PlainMusicModel" (599 : Nat) ({ cls := "PlainMusicModel", name := "cell", desc := "(IIII)V" } : Jvm.MethodName)) ∈ gw := gx_9 (List.mem_of_getElem? (i := 124) rfl) (by decide +kernel)
set_option maxRecDepth 100000 in
theorem gwi_2179 : (Jvm.Cond.instanceMethod ({ cls := "PlainMusicModel", name := "cell", desc := "(IIII)V" } : Jvm.MethodName)) ∈ gw := gx_9 (List.mem_of_getElem? (i := 126) rfl) (by decide +kernel)
set_option maxRecDepth 100000 in
theorem gwi_2180 : (Jvm.Cond.code ({ cls := "PlainMusicModel", name := "cell", desc := "(IIII)V" } : Jvm.MethodName) prog_14_method_90_code (12 : Nat) (Option.none : Option Jvm.ClassFile.FieldType)) ∈ gw := gx_9 (List.mem_of_getElem? (i := 127) rfl) (by decide +kernel)
set_option maxRecDepth 100000 in
theorem gwi_2181 : (Jvm.Cond.methodLink "PlainMusicModel" (602 : Nat) ({ cls := "PlainMusicModel", name := "pairCost", desc := "(II)I" } : Jvm.MethodName)) ∈ gw := gx_9 (List.mem_of_getElem? (i := 128) rfl) (by decide +kernel)
set_option maxRecDepth 100000 in
theorem gwi_2183 : (Jvm.Cond.instanceMethod ({ cls := "PlainMusicModel", name := "pairCost", desc := "(II)I" } : Jvm.MethodName)) ∈ gw := gx_9 (List.mem_of_getElem? (i := 130) rfl) (by decide +kernel)
set_option maxRecDepth 100000 in
theorem gwi_2184 : (Jvm.Cond.code ({ cls := "PlainMusicModel", name := "pairCost", desc := "(II)I" } : Jvm.MethodName) prog_14_method_88_code (4 : Nat) (Option.some Jvm.ClassFile.FieldType.int)) ∈ gw := gx_9 (List.mem_of_getElem? (i := 131) rfl) (by decide +kernel)
set_option maxRecDepth 100000 in
theorem gwi_2185 : (Jvm.Cond.constant "PlainMusicModel" (605 : Nat) (1000000 : Int32)) ∈ gw := gx_9 (List.mem_of_getElem? (i := 132) rfl) (by decide +kernel)
set_option maxRecDepth 100000 in
theorem gwi_2186 : (Jvm.Cond.constantLong "PlainMusicModel" (606 : Nat) (1000000007 : Int64)) ∈ gw := gx_9 (List.mem_of_getElem? (i := 133) rfl) (by decide +kernel)
set_option maxRecDepth 100000 in
theorem gwi_2187 : (Jvm.Cond.methodLink "PlainMusicLaw" (98 : Nat) ({ cls := "PlainMusicModel", name := "partner", desc := "(I)I" } : Jvm.MethodName)) ∈ gw := gx_9 (List.mem_of_getElem? (i := 134) rfl) (by decide +kernel)
set_option maxRecDepth 100000 in
theorem gwi_2188 : (Jvm.Cond.instanceMethod ({ cls := "PlainMusicModel", name := "partner", desc := "(I)I" } : Jvm.MethodName)) ∈ gw := gx_9 (List.mem_of_getElem? (i := 135) rfl) (by decide +kernel)
set_option maxRecDepth 100000 in
theorem gwi_2189 : (Jvm.Cond.selects "PlainMusicModel" ({ cls := "PlainMusicModel", name := "partner", desc := "(I)I" } : Jvm.MethodName) ({ cls := "PlainMusicModel", name := "partner", desc := "(I)I" } : Jvm.MethodName)) ∈ gw := gx_9 (List.mem_of_getElem? (i := 136) rfl) (by decide +kernel)
set_option maxRecDepth 100000 in
theorem gwi_2190 : (Jvm.Cond.code ({ cls := "PlainMusicModel", name := "partner", desc := "(I)I" } : Jvm.MethodName) prog_14_method_91_code (2 : Nat) (Option.some Jvm.ClassFile.FieldType.int)) ∈ gw := gx_9 (List.mem_of_getElem? (i := 137) rfl) (by decide +kernel)
set_option maxRecDepth 100000 in
theorem gwi_2191 : (Jvm.Cond.methodLink "PlainMusicLaw" (102 : Nat) ({ cls := "PlainMusicModel", name := "ways", desc := "()I" } : Jvm.MethodName)) ∈ gw := gx_9 (List.mem_of_getElem? (i := 138) rfl) (by decide +kernel)
set_option maxRecDepth 100000 in
theorem gwi_2192 : (Jvm.Cond.instanceMethod ({ cls := "PlainMusicModel", name := "ways", desc := "()I" } : Jvm.MethodName)) ∈ gw := gx_9 (List.mem_of_getElem? (i := 139) rfl) (by decide +kernel)
set_option maxRecDepth 100000 in
theorem gwi_2193 : (Jvm.Cond.selects "PlainMusicModel" ({ cls := "PlainMusicModel", name := "ways", desc := "()I" } : Jvm.MethodName) ({ cls := "PlainMusicModel", name := "ways", desc := "()I" } : Jvm.MethodName)) ∈ gw := gx_9 (List.mem_of_getElem? (i := 140) rfl) (by decide +kernel)
set_option maxRecDepth 100000 in
theorem gwi_2194 : (Jvm.Cond.code ({ cls := "PlainMusicModel", name := "ways", desc := "()I" } : Jvm.MethodName) prog_14_method_92_code (1 : Nat) (Option.some Jvm.ClassFile.FieldType.int)) ∈ gw := gx_9 (List.mem_of_getElem? (i := 141) rfl) (by decide +kernel)
set_option maxRecDepth 100000 in
theorem gwi_2195 : (Jvm.Cond.methodLink "PlainMusicLaw" (107 : Nat) ({ cls := "PlainMusicModel", name := "sample", desc := "(II)D" } : Jvm.MethodName)) ∈ gw := gx_9 (List.mem_of_getElem? (i := 142) rfl) (by decide +kernel)
set_option maxRecDepth 100000 in
theorem gwi_2196 : (Jvm.Cond.instanceMethod ({ cls := "PlainMusicModel", name := "sample", desc := "(II)D" } : Jvm.MethodName)) ∈ gw := gx_9 (List.mem_of_getElem? (i := 143) rfl) (by decide +kernel)
set_option maxRecDepth 100000 in
theorem gwi_2197 : (Jvm.Cond.selects "PlainMusicModel" ({ cls := "PlainMusicModel", name := "sample", desc := "(II)D" } : Jvm.MethodName) ({ cls := "PlainMusicModel", name := "sample", desc := "(II)D" } : Jvm.MethodName)) ∈ gw := gx_9 (List.mem_of_getElem? (i := 144) rfl) (by decide +kernel)
set_option maxRecDepth 100000 in
theorem gwi_2198 : (Jvm.Cond.code ({ cls := "PlainMusicModel", name := "sample", desc := "(II)D" } : Jvm.MethodName) prog_14_method_95_code (17 : Nat) (Option.some Jvm.ClassFile.FieldType.double)) ∈ gw := gx_9 (List.mem_of_getElem? (i := 145) rfl) (by decide +kernel)
set_option maxRecDepth 100000 in
theorem gwi_2199 : (Jvm.Cond.constantLong "PlainMusicModel" (608 : Nat) (-2 : Int64)) ∈ gw := gx_9 (List.mem_of_getElem? (i := 146) rfl) (by decide +kernel)
set_option maxRecDepth 100000 in
theorem gwi_2200 : (Jvm.Cond.methodLink "PlainMusicModel" (610 : Nat) ({ cls := "PlainMusicModel", name := "sound", desc := "(IJJI)D" } : Jvm.MethodName)) ∈ gw := gx_9 (List.mem_of_getElem? (i := 147) rfl) (by decide +kernel)
set_option maxRecDepth 100000 in
theorem gwi_2202 : (Jvm.Cond.instanceMethod ({ cls := "PlainMusicModel", name := "sound", desc := "(IJJI)D" } : Jvm.MethodName)) ∈ gw := gx_9 (List.mem_of_getElem? (i := 149) rfl) (by decide +kernel)
set_option maxRecDepth 100000 in
theorem gwi_2203 : (Jvm.Cond.code ({ cls := "PlainMusicModel", name := "sound", desc := "(IJJI)D" } : Jvm.MethodName) prog_14_method_96_code (31 : Nat) (Option.some Jvm.ClassFile.FieldType.double)) ∈ gw := gx_9 (List.mem_of_getElem? (i := 150) rfl) (by decide +kernel)
set_option maxRecDepth 100000 in
theorem gwi_2204 : (Jvm.Cond.methodLink "PlainMusicModel" (614 : Nat) ({ cls := "PlainMusicModel", name := "ratioTop", desc := "(I)I" } : Jvm.MethodName)) ∈ gw := gx_9 (List.mem_of_getElem? (i := 151) rfl) (by decide +kernel)
set_option maxRecDepth 100000 in
theorem gwi_2206 : (Jvm.Cond.instanceMethod ({ cls := "PlainMusicModel", name := "ratioTop", desc := "(I)I" } : Jvm.MethodName)) ∈ gw := gx_9 (List.mem_of_getElem? (i := 153) rfl) (by decide +kernel)
set_option maxRecDepth 100000 in
theorem gwi_2207 : (Jvm.Cond.code ({ cls := "PlainMusicModel", name := "ratioTop", desc := "(I)I" } : Jvm.MethodName) prog_14_method_93_code (2 : Nat) (Option.some Jvm.ClassFile.FieldType.int)) ∈ gw := gx_9 (List.mem_of_getElem? (i := 154) rfl) (by decide +kernel)
set_option maxRecDepth 100000 in
theorem gwi_2208 : (Jvm.Cond.constantLong "PlainMusicModel" (617 : Nat) (16 : Int64)) ∈ gw := gx_9 (List.mem_of_getElem? (i := 155) rfl) (by decide +kernel)
set_option maxRecDepth 100000 in
theorem gwi_2209 : (Jvm.Cond.methodLink "PlainMusicModel" (619 : Nat) ({ cls := "PlainMusicModel", name := "ratioLow", desc := "(I)I" } : Jvm.MethodName)) ∈ gw := gx_9 (List.mem_of_getElem? (i := 156) rfl) (by decide +kernel)
set_option maxRecDepth 100000 in
theorem gwi_2211 : (Jvm.Cond.instanceMethod ({ cls := "PlainMusicModel", name := "ratioLow", desc := "(I)I" } : Jvm.MethodName)) ∈ gw := gx_9 (List.mem_of_getElem? (i := 158) rfl) (by decide +kernel)
set_option maxRecDepth 100000 in
theorem gwi_2212 : (Jvm.Cond.code ({ cls := "PlainMusicModel", name := "ratioLow", desc := "(I)I" } : Jvm.MethodName) prog_14_method_94_code (2 : Nat) (Option.some Jvm.ClassFile.FieldType.int)) ∈ gw := gx_9 (List.mem_of_getElem? (i := 159) rfl) (by decide +kernel)
set_option maxRecDepth 100000 in
theorem gwi_2213 : (Jvm.Cond.methodLink "PlainMusicModel" (622 : Nat) ({ cls := "PlainMusicModel", name := "product", desc := "(JJJ)J" } : Jvm.MethodName)) ∈ gw := gx_9 (List.mem_of_getElem? (i := 160) rfl) (by decide +kernel)
set_option maxRecDepth 100000 in
theorem gwi_2215 : (Jvm.Cond.instanceMethod ({ cls := "PlainMusicModel", name := "product", desc := "(JJJ)J" } : Jvm.MethodName)) ∈ gw := gx_9 (List.mem_of_getElem? (i := 162) rfl) (by decide +kernel)
set_option maxRecDepth 100000 in
theorem gwi_2216 : (Jvm.Cond.code ({ cls := "PlainMusicModel", name := "product", desc := "(JJJ)J" } : Jvm.MethodName) prog_14_method_97_code (13 : Nat) (Option.some Jvm.ClassFile.FieldType.long)) ∈ gw := gx_9 (List.mem_of_getElem? (i := 163) rfl) (by decide +kernel)
set_option maxRecDepth 100000 in
theorem gwi_2217 : (Jvm.Cond.constantDouble "PlainMusicModel" (626 : Nat) (4598175219545276416 : UInt64)) ∈ gw := gx_9 (List.mem_of_getElem? (i := 164) rfl) (by decide +kernel)
set_option maxRecDepth 100000 in
theorem gwi_2218 : (Jvm.Cond.constantDouble "PlainMusicModel" (628 : Nat) (4616189618054758400 : UInt64)) ∈ gw := gx_9 (List.mem_of_getElem? (i := 165) rfl) (by decide +kernel)
set_option maxRecDepth 100000 in
theorem gwi_2219 : (Jvm.Cond.constantDouble "PlainMusicModel" (630 : Nat) (4604930618986332160 : UInt64)) ∈ gw := gx_9 (List.mem_of_getElem? (i := 166) rfl) (by decide +kernel)
set_option maxRecDepth 100000 in
theorem gwi_2220 : (Jvm.Cond.constantDouble "PlainMusicModel" (632 : Nat) (4611686018427387904 : UInt64)) ∈ gw := gx_9 (List.mem_of_getElem? (i := 167) rfl) (by decide +kernel)
set_option maxRecDepth 100000 in
theorem gwi_2221 : (Jvm.Cond.fieldLink "java/lang/String" (9 : Nat) "java/lang/String" "value" "[B") ∈ gw := gx_9 (List.mem_of_getElem? (i := 168) rfl) (by decide +kernel)
set_option maxRecDepth 100000 in
theorem gwi_2222 : (Jvm.Cond.fieldLink "java/lang/String" (15 : Nat) "java/lang/String" "coder" "B") ∈ gw := gx_9 (List.mem_of_getElem? (i := 169) rfl) (by decide +kernel)
