/-! ===== the class's methods, 22a ===== -/
def m_Voice_pitchesOf : mr_T := (⟨"PlainMusic$Voice", "pitchesOf", "(I)I"⟩, prog_12_method_12_code, 3, some .int)
theorem d_Voice_pitchesOf_0 : decode prog_12_method_12_code 0 = .ok (.aload_n 0, 1) := by decide +kernel
theorem d_Voice_pitchesOf_1 : decode prog_12_method_12_code 1 = .ok (.getfield 31, 3) := by decide +kernel
theorem d_Voice_pitchesOf_4 : decode prog_12_method_12_code 4 = .ok (.iload_n 1, 1) := by decide +kernel
theorem d_Voice_pitchesOf_5 : decode prog_12_method_12_code 5 = .ok (.iaload, 1) := by decide +kernel
theorem d_Voice_pitchesOf_6 : decode prog_12_method_12_code 6 = .ok (.istore_n 2, 1) := by decide +kernel
theorem d_Voice_pitchesOf_7 : decode prog_12_method_12_code 7 = .ok (.aload_n 0, 1) := by decide +kernel
theorem d_Voice_pitchesOf_8 : decode prog_12_method_12_code 8 = .ok (.getfield 18, 3) := by decide +kernel
theorem d_Voice_pitchesOf_11 : decode prog_12_method_12_code 11 = .ok (.iload_n 2, 1) := by decide +kernel
theorem d_Voice_pitchesOf_12 : decode prog_12_method_12_code 12 = .ok (.iconst 1, 1) := by decide +kernel
theorem d_Voice_pitchesOf_13 : decode prog_12_method_12_code 13 = .ok (.iadd, 1) := by decide +kernel
theorem d_Voice_pitchesOf_14 : decode prog_12_method_12_code 14 = .ok (.iaload, 1) := by decide +kernel
theorem d_Voice_pitchesOf_15 : decode prog_12_method_12_code 15 = .ok (.aload_n 0, 1) := by decide +kernel
theorem d_Voice_pitchesOf_16 : decode prog_12_method_12_code 16 = .ok (.getfield 18, 3) := by decide +kernel
theorem d_Voice_pitchesOf_19 : decode prog_12_method_12_code 19 = .ok (.iload_n 2, 1) := by decide +kernel
theorem d_Voice_pitchesOf_20 : decode prog_12_method_12_code 20 = .ok (.iaload, 1) := by decide +kernel
theorem d_Voice_pitchesOf_21 : decode prog_12_method_12_code 21 = .ok (.isub, 1) := by decide +kernel
theorem d_Voice_pitchesOf_22 : decode prog_12_method_12_code 22 = .ok (.ireturn, 1) := by decide +kernel
def m_Voice_isRest : mr_T := (⟨"PlainMusic$Voice", "isRest", "(I)Z"⟩, prog_12_method_13_code, 2, some .boolean)
theorem d_Voice_isRest_0 : decode prog_12_method_13_code 0 = .ok (.aload_n 0, 1) := by decide +kernel
theorem d_Voice_isRest_1 : decode prog_12_method_13_code 1 = .ok (.iload_n 1, 1) := by decide +kernel
theorem d_Voice_isRest_2 : decode prog_12_method_13_code 2 = .ok (.invokevirtual 80, 3) := by decide +kernel
theorem k_Voice_pitchesOf : mt_OK m_Voice_pitchesOf 1 1 := ⟨gwi_1054, gwi_139, ⟨by decide +kernel, by decide +kernel, by decide +kernel⟩, fun h => absurd h (by decide), fun _ => ⟨gwi_1052, gwi_1053⟩, fun h => absurd h (by decide)⟩
theorem l_Voice_80 : ml_OK "PlainMusic$Voice" 80 ⟨"PlainMusic$Voice", "pitchesOf", "(I)I"⟩ := Or.inl gwi_1051
theorem d_Voice_isRest_5 : decode prog_12_method_13_code 5 = .ok (.ifCond .ne 7, 3) := by decide +kernel
theorem d_Voice_isRest_12 : decode prog_12_method_13_code 12 = .ok (.iconst 0, 1) := by decide +kernel
theorem d_Voice_isRest_13 : decode prog_12_method_13_code 13 = .ok (.ireturn, 1) := by decide +kernel
theorem d_Voice_isRest_8 : decode prog_12_method_13_code 8 = .ok (.iconst 1, 1) := by decide +kernel
theorem d_Voice_isRest_9 : decode prog_12_method_13_code 9 = .ok (.goto 4, 3) := by decide +kernel
def m_Voice_keyOf : mr_T := (⟨"PlainMusic$Voice", "keyOf", "(II)I"⟩, prog_12_method_14_code, 4, some .int)
theorem d_Voice_keyOf_0 : decode prog_12_method_14_code 0 = .ok (.aload_n 0, 1) := by decide +kernel
theorem d_Voice_keyOf_1 : decode prog_12_method_14_code 1 = .ok (.getfield 18, 3) := by decide +kernel
theorem d_Voice_keyOf_4 : decode prog_12_method_14_code 4 = .ok (.aload_n 0, 1) := by decide +kernel
theorem d_Voice_keyOf_5 : decode prog_12_method_14_code 5 = .ok (.getfield 31, 3) := by decide +kernel
theorem d_Voice_keyOf_8 : decode prog_12_method_14_code 8 = .ok (.iload_n 1, 1) := by decide +kernel
theorem d_Voice_keyOf_9 : decode prog_12_method_14_code 9 = .ok (.iaload, 1) := by decide +kernel
theorem d_Voice_keyOf_10 : decode prog_12_method_14_code 10 = .ok (.iaload, 1) := by decide +kernel
theorem d_Voice_keyOf_11 : decode prog_12_method_14_code 11 = .ok (.iload_n 2, 1) := by decide +kernel
theorem d_Voice_keyOf_12 : decode prog_12_method_14_code 12 = .ok (.iadd, 1) := by decide +kernel
theorem d_Voice_keyOf_13 : decode prog_12_method_14_code 13 = .ok (.istore_n 3, 1) := by decide +kernel
theorem d_Voice_keyOf_14 : decode prog_12_method_14_code 14 = .ok (.iload_n 3, 1) := by decide +kernel
theorem d_Voice_keyOf_15 : decode prog_12_method_14_code 15 = .ok (.ifCond .lt 21, 3) := by decide +kernel
theorem d_Voice_keyOf_36 : decode prog_12_method_14_code 36 = .ok (.iconst 0, 1) := by decide +kernel
theorem d_Voice_keyOf_37 : decode prog_12_method_14_code 37 = .ok (.ireturn, 1) := by decide +kernel
theorem d_Voice_keyOf_18 : decode prog_12_method_14_code 18 = .ok (.iload_n 3, 1) := by decide +kernel
theorem d_Voice_keyOf_19 : decode prog_12_method_14_code 19 = .ok (.aload_n 0, 1) := by decide +kernel
theorem d_Voice_keyOf_20 : decode prog_12_method_14_code 20 = .ok (.getfield 9, 3) := by decide +kernel
theorem d_Voice_keyOf_23 : decode prog_12_method_14_code 23 = .ok (.arraylength, 1) := by decide +kernel
theorem d_Voice_keyOf_24 : decode prog_12_method_14_code 24 = .ok (.if_icmp .ge 12, 3) := by decide +kernel
theorem d_Voice_keyOf_27 : decode prog_12_method_14_code 27 = .ok (.aload_n 0, 1) := by decide +kernel
theorem d_Voice_keyOf_28 : decode prog_12_method_14_code 28 = .ok (.getfield 9, 3) := by decide +kernel
theorem d_Voice_keyOf_31 : decode prog_12_method_14_code 31 = .ok (.iload_n 3, 1) := by decide +kernel
theorem d_Voice_keyOf_32 : decode prog_12_method_14_code 32 = .ok (.iaload, 1) := by decide +kernel
theorem d_Voice_keyOf_33 : decode prog_12_method_14_code 33 = .ok (.goto 4, 3) := by decide +kernel
def m_Voice_stepOf : mr_T := (⟨"PlainMusic$Voice", "stepOf", "(II)I"⟩, prog_12_method_15_code, 4, some .int)
theorem d_Voice_stepOf_0 : decode prog_12_method_15_code 0 = .ok (.aload_n 0, 1) := by decide +kernel
theorem d_Voice_stepOf_1 : decode prog_12_method_15_code 1 = .ok (.getfield 18, 3) := by decide +kernel
theorem d_Voice_stepOf_4 : decode prog_12_method_15_code 4 = .ok (.aload_n 0, 1) := by decide +kernel
theorem d_Voice_stepOf_5 : decode prog_12_method_15_code 5 = .ok (.getfield 31, 3) := by decide +kernel
theorem d_Voice_stepOf_8 : decode prog_12_method_15_code 8 = .ok (.iload_n 1, 1) := by decide +kernel
theorem d_Voice_stepOf_9 : decode prog_12_method_15_code 9 = .ok (.iaload, 1) := by decide +kernel
theorem d_Voice_stepOf_10 : decode prog_12_method_15_code 10 = .ok (.iaload, 1) := by decide +kernel
theorem d_Voice_stepOf_11 : decode prog_12_method_15_code 11 = .ok (.iload_n 2, 1) := by decide +kernel
theorem d_Voice_stepOf_12 : decode prog_12_method_15_code 12 = .ok (.iadd, 1) := by decide +kernel
theorem d_Voice_stepOf_13 : decode prog_12_method_15_code 13 = .ok (.istore_n 3, 1) := by decide +kernel
theorem d_Voice_stepOf_14 : decode prog_12_method_15_code 14 = .ok (.iload_n 3, 1) := by decide +kernel
theorem d_Voice_stepOf_15 : decode prog_12_method_15_code 15 = .ok (.ifCond .lt 21, 3) := by decide +kernel
theorem d_Voice_stepOf_36 : decode prog_12_method_15_code 36 = .ok (.iconst 0, 1) := by decide +kernel
theorem d_Voice_stepOf_37 : decode prog_12_method_15_code 37 = .ok (.ireturn, 1) := by decide +kernel
theorem d_Voice_stepOf_18 : decode prog_12_method_15_code 18 = .ok (.iload_n 3, 1) := by decide +kernel
theorem d_Voice_stepOf_19 : decode prog_12_method_15_code 19 = .ok (.aload_n 0, 1) := by decide +kernel
theorem d_Voice_stepOf_20 : decode prog_12_method_15_code 20 = .ok (.getfield 15, 3) := by decide +kernel
theorem d_Voice_stepOf_23 : decode prog_12_method_15_code 23 = .ok (.arraylength, 1) := by decide +kernel
theorem d_Voice_stepOf_24 : decode prog_12_method_15_code 24 = .ok (.if_icmp .ge 12, 3) := by decide +kernel
theorem d_Voice_stepOf_27 : decode prog_12_method_15_code 27 = .ok (.aload_n 0, 1) := by decide +kernel
theorem d_Voice_stepOf_28 : decode prog_12_method_15_code 28 = .ok (.getfield 15, 3) := by decide +kernel
theorem d_Voice_stepOf_31 : decode prog_12_method_15_code 31 = .ok (.iload_n 3, 1) := by decide +kernel
theorem d_Voice_stepOf_32 : decode prog_12_method_15_code 32 = .ok (.iaload, 1) := by decide +kernel
theorem d_Voice_stepOf_33 : decode prog_12_method_15_code 33 = .ok (.goto 4, 3) := by decide +kernel
def m_Voice_lowestKey : mr_T := (⟨"PlainMusic$Voice", "lowestKey", "(I)I"⟩, prog_12_method_16_code, 2, some .int)
theorem d_Voice_lowestKey_0 : decode prog_12_method_16_code 0 = .ok (.aload_n 0, 1) := by decide +kernel
theorem d_Voice_lowestKey_1 : decode prog_12_method_16_code 1 = .ok (.iload_n 1, 1) := by decide +kernel
theorem d_Voice_lowestKey_2 : decode prog_12_method_16_code 2 = .ok (.iconst 0, 1) := by decide +kernel
theorem d_Voice_lowestKey_3 : decode prog_12_method_16_code 3 = .ok (.invokevirtual 91, 3) := by decide +kernel
theorem k_Voice_keyOf : mt_OK m_Voice_keyOf 2 1 := ⟨gwi_1067, gwi_139, ⟨by decide +kernel, by decide +kernel, by decide +kernel⟩, fun h => absurd h (by decide), fun _ => ⟨gwi_1065, gwi_1066⟩, fun h => absurd h (by decide)⟩
theorem l_Voice_91 : ml_OK "PlainMusic$Voice" 91 ⟨"PlainMusic$Voice", "keyOf", "(II)I"⟩ := Or.inl gwi_1121
theorem d_Voice_lowestKey_6 : decode prog_12_method_16_code 6 = .ok (.ireturn, 1) := by decide +kernel
def m_Voice_highestKey : mr_T := (⟨"PlainMusic$Voice", "highestKey", "(I)I"⟩, prog_12_method_17_code, 2, some .int)
theorem d_Voice_highestKey_0 : decode prog_12_method_17_code 0 = .ok (.aload_n 0, 1) := by decide +kernel
theorem d_Voice_highestKey_1 : decode prog_12_method_17_code 1 = .ok (.iload_n 1, 1) := by decide +kernel
theorem d_Voice_highestKey_2 : decode prog_12_method_17_code 2 = .ok (.aload_n 0, 1) := by decide +kernel
theorem d_Voice_highestKey_3 : decode prog_12_method_17_code 3 = .ok (.iload_n 1, 1) := by decide +kernel
theorem d_Voice_highestKey_4 : decode prog_12_method_17_code 4 = .ok (.invokevirtual 80, 3) := by decide +kernel
theorem d_Voice_highestKey_7 : decode prog_12_method_17_code 7 = .ok (.iconst 1, 1) := by decide +kernel
theorem d_Voice_highestKey_8 : decode prog_12_method_17_code 8 = .ok (.isub, 1) := by decide +kernel
theorem d_Voice_highestKey_9 : decode prog_12_method_17_code 9 = .ok (.invokevirtual 91, 3) := by decide +kernel
theorem d_Voice_highestKey_12 : decode prog_12_method_17_code 12 = .ok (.ireturn, 1) := by decide +kernel
def m_Voice_hasKey : mr_T := (⟨"PlainMusic$Voice", "hasKey", "(II)Z"⟩, prog_12_method_18_code, 4, some .boolean)
theorem d_Voice_hasKey_0 : decode prog_12_method_18_code 0 = .ok (.iconst 0, 1) := by decide +kernel
theorem d_Voice_hasKey_1 : decode prog_12_method_18_code 1 = .ok (.istore_n 3, 1) := by decide +kernel
theorem d_Voice_hasKey_2 : decode prog_12_method_18_code 2 = .ok (.iload_n 3, 1) := by decide +kernel
theorem d_Voice_hasKey_3 : decode prog_12_method_18_code 3 = .ok (.aload_n 0, 1) := by decide +kernel
theorem d_Voice_hasKey_4 : decode prog_12_method_18_code 4 = .ok (.iload_n 1, 1) := by decide +kernel
theorem d_Voice_hasKey_5 : decode prog_12_method_18_code 5 = .ok (.invokevirtual 80, 3) := by decide +kernel
theorem d_Voice_hasKey_8 : decode prog_12_method_18_code 8 = .ok (.if_icmp .ge 21, 3) := by decide +kernel
theorem d_Voice_hasKey_29 : decode prog_12_method_18_code 29 = .ok (.iconst 0, 1) := by decide +kernel
theorem d_Voice_hasKey_30 : decode prog_12_method_18_code 30 = .ok (.ireturn, 1) := by decide +kernel
theorem d_Voice_hasKey_11 : decode prog_12_method_18_code 11 = .ok (.aload_n 0, 1) := by decide +kernel
theorem d_Voice_hasKey_12 : decode prog_12_method_18_code 12 = .ok (.iload_n 1, 1) := by decide +kernel
theorem d_Voice_hasKey_13 : decode prog_12_method_18_code 13 = .ok (.iload_n 3, 1) := by decide +kernel
theorem d_Voice_hasKey_14 : decode prog_12_method_18_code 14 = .ok (.invokevirtual 91, 3) := by decide +kernel
theorem d_Voice_hasKey_17 : decode prog_12_method_18_code 17 = .ok (.iload_n 2, 1) := by decide +kernel
theorem d_Voice_hasKey_18 : decode prog_12_method_18_code 18 = .ok (.if_icmp .ne 5, 3) := by decide +kernel
theorem d_Voice_hasKey_23 : decode prog_12_method_18_code 23 = .ok (.iinc 3 1, 3) := by decide +kernel
theorem d_Voice_hasKey_26 : decode prog_12_method_18_code 26 = .ok (.goto (-24), 3) := by decide +kernel
theorem d_Voice_hasKey_21 : decode prog_12_method_18_code 21 = .ok (.iconst 1, 1) := by decide +kernel
theorem d_Voice_hasKey_22 : decode prog_12_method_18_code 22 = .ok (.ireturn, 1) := by decide +kernel
def m_Voice_numberOf : mr_T := (⟨"PlainMusic$Voice", "numberOf", "(I)I"⟩, prog_12_method_19_code, 2, some .int)
theorem d_Voice_numberOf_0 : decode prog_12_method_19_code 0 = .ok (.aload_n 0, 1) := by decide +kernel
theorem d_Voice_numberOf_1 : decode prog_12_method_19_code 1 = .ok (.getfield 21, 3) := by decide +kernel
theorem d_Voice_numberOf_4 : decode prog_12_method_19_code 4 = .ok (.aload_n 0, 1) := by decide +kernel
theorem d_Voice_numberOf_5 : decode prog_12_method_19_code 5 = .ok (.getfield 31, 3) := by decide +kernel
theorem d_Voice_numberOf_8 : decode prog_12_method_19_code 8 = .ok (.iload_n 1, 1) := by decide +kernel
theorem d_Voice_numberOf_9 : decode prog_12_method_19_code 9 = .ok (.iaload, 1) := by decide +kernel
theorem d_Voice_numberOf_10 : decode prog_12_method_19_code 10 = .ok (.iaload, 1) := by decide +kernel
theorem d_Voice_numberOf_11 : decode prog_12_method_19_code 11 = .ok (.ireturn, 1) := by decide +kernel
def m_Voice_isTied : mr_T := (⟨"PlainMusic$Voice", "isTied", "(I)Z"⟩, prog_12_method_20_code, 2, some .boolean)
theorem d_Voice_isTied_0 : decode prog_12_method_20_code 0 = .ok (.aload_n 0, 1) := by decide +kernel
theorem d_Voice_isTied_1 : decode prog_12_method_20_code 1 = .ok (.getfield 27, 3) := by decide +kernel
theorem d_Voice_isTied_4 : decode prog_12_method_20_code 4 = .ok (.aload_n 0, 1) := by decide +kernel
theorem d_Voice_isTied_5 : decode prog_12_method_20_code 5 = .ok (.getfield 31, 3) := by decide +kernel
theorem d_Voice_isTied_8 : decode prog_12_method_20_code 8 = .ok (.iload_n 1, 1) := by decide +kernel
theorem d_Voice_isTied_9 : decode prog_12_method_20_code 9 = .ok (.iaload, 1) := by decide +kernel
theorem d_Voice_isTied_10 : decode prog_12_method_20_code 10 = .ok (.baload, 1) := by decide +kernel
theorem d_Voice_isTied_11 : decode prog_12_method_20_code 11 = .ok (.ireturn, 1) := by decide +kernel
def m_Voice_isShort : mr_T := (⟨"PlainMusic$Voice", "isShort", "(I)Z"⟩, prog_12_method_21_code, 2, some .boolean)
theorem d_Voice_isShort_0 : decode prog_12_method_21_code 0 = .ok (.aload_n 0, 1) := by decide +kernel
theorem d_Voice_isShort_1 : decode prog_12_method_21_code 1 = .ok (.iload_n 1, 1) := by decide +kernel
theorem d_Voice_isShort_2 : decode prog_12_method_21_code 2 = .ok (.invokevirtual 95, 3) := by decide +kernel
theorem k_Voice_isRest : mt_OK m_Voice_isRest 1 1 := ⟨gwi_1125, gwi_139, ⟨by decide +kernel, by decide +kernel, by decide +kernel⟩, fun h => absurd h (by decide), fun _ => ⟨gwi_1123, gwi_1124⟩, fun h => absurd h (by decide)⟩
theorem l_Voice_95 : ml_OK "PlainMusic$Voice" 95 ⟨"PlainMusic$Voice", "isRest", "(I)Z"⟩ := Or.inl gwi_1182
theorem d_Voice_isShort_5 : decode prog_12_method_21_code 5 = .ok (.ifCond .ne 17, 3) := by decide +kernel
theorem d_Voice_isShort_22 : decode prog_12_method_21_code 22 = .ok (.iconst 0, 1) := by decide +kernel
theorem d_Voice_isShort_23 : decode prog_12_method_21_code 23 = .ok (.ireturn, 1) := by decide +kernel
theorem d_Voice_isShort_8 : decode prog_12_method_21_code 8 = .ok (.aload_n 0, 1) := by decide +kernel
theorem d_Voice_isShort_9 : decode prog_12_method_21_code 9 = .ok (.iload_n 1, 1) := by decide +kernel
theorem d_Voice_isShort_10 : decode prog_12_method_21_code 10 = .ok (.invokevirtual 88, 3) := by decide +kernel
theorem k_Voice_numberOf : mt_OK m_Voice_numberOf 1 1 := ⟨gwi_1062, gwi_139, ⟨by decide +kernel, by decide +kernel, by decide +kernel⟩, fun h => absurd h (by decide), fun _ => ⟨gwi_1060, gwi_1061⟩, fun h => absurd h (by decide)⟩
theorem l_Voice_88 : ml_OK "PlainMusic$Voice" 88 ⟨"PlainMusic$Voice", "numberOf", "(I)I"⟩ := Or.inl gwi_1059
theorem d_Voice_isShort_13 : decode prog_12_method_21_code 13 = .ok (.bipush 8, 2) := by decide +kernel
theorem d_Voice_isShort_15 : decode prog_12_method_21_code 15 = .ok (.if_icmp .lt 7, 3) := by decide +kernel
theorem d_Voice_isShort_18 : decode prog_12_method_21_code 18 = .ok (.iconst 1, 1) := by decide +kernel
theorem d_Voice_isShort_19 : decode prog_12_method_21_code 19 = .ok (.goto 4, 3) := by decide +kernel
def m_Voice_isReached : mr_T := (⟨"PlainMusic$Voice", "isReached", "(IJJ)Z"⟩, prog_12_method_23_code, 6, some .boolean)
theorem d_Voice_isReached_0 : decode prog_12_method_23_code 0 = .ok (.lload_n 2, 1) := by decide +kernel
theorem d_Voice_isReached_1 : decode prog_12_method_23_code 1 = .ok (.aload_n 0, 1) := by decide +kernel
theorem d_Voice_isReached_2 : decode prog_12_method_23_code 2 = .ok (.getfield 41, 3) := by decide +kernel
theorem d_Voice_isReached_5 : decode prog_12_method_23_code 5 = .ok (.iload_n 1, 1) := by decide +kernel
theorem d_Voice_isReached_6 : decode prog_12_method_23_code 6 = .ok (.laload, 1) := by decide +kernel
theorem d_Voice_isReached_7 : decode prog_12_method_23_code 7 = .ok (.lmul, 1) := by decide +kernel
theorem d_Voice_isReached_8 : decode prog_12_method_23_code 8 = .ok (.ldc2_w 66, 3) := by decide +kernel
theorem cst_Voice_66 : Cond.constantLong "PlainMusic$Voice" 66 (Int64.ofInt 2) ∈ gw := gwi_938
theorem d_Voice_isReached_11 : decode prog_12_method_23_code 11 = .ok (.aload_n 0, 1) := by decide +kernel
theorem d_Voice_isReached_12 : decode prog_12_method_23_code 12 = .ok (.getfield 37, 3) := by decide +kernel
theorem d_Voice_isReached_15 : decode prog_12_method_23_code 15 = .ok (.iload_n 1, 1) := by decide +kernel
theorem d_Voice_isReached_16 : decode prog_12_method_23_code 16 = .ok (.laload, 1) := by decide +kernel
theorem d_Voice_isReached_17 : decode prog_12_method_23_code 17 = .ok (.lmul, 1) := by decide +kernel
theorem d_Voice_isReached_18 : decode prog_12_method_23_code 18 = .ok (.lload 4, 2) := by decide +kernel
theorem d_Voice_isReached_20 : decode prog_12_method_23_code 20 = .ok (.lmul, 1) := by decide +kernel
theorem d_Voice_isReached_21 : decode prog_12_method_23_code 21 = .ok (.lcmp, 1) := by decide +kernel
theorem d_Voice_isReached_22 : decode prog_12_method_23_code 22 = .ok (.ifCond .lt 7, 3) := by decide +kernel
theorem d_Voice_isReached_29 : decode prog_12_method_23_code 29 = .ok (.iconst 0, 1) := by decide +kernel
theorem d_Voice_isReached_30 : decode prog_12_method_23_code 30 = .ok (.ireturn, 1) := by decide +kernel
theorem d_Voice_isReached_25 : decode prog_12_method_23_code 25 = .ok (.iconst 1, 1) := by decide +kernel
theorem d_Voice_isReached_26 : decode prog_12_method_23_code 26 = .ok (.goto 4, 3) := by decide +kernel
def m_Voice_sinceBarTop : mr_T := (⟨"PlainMusic$Voice", "sinceBarTop", "(II)J"⟩, prog_12_method_24_code, 4, some .long)
theorem d_Voice_sinceBarTop_0 : decode prog_12_method_24_code 0 = .ok (.aload_n 0, 1) := by decide +kernel
theorem d_Voice_sinceBarTop_1 : decode prog_12_method_24_code 1 = .ok (.getfield 50, 3) := by decide +kernel
theorem d_Voice_sinceBarTop_4 : decode prog_12_method_24_code 4 = .ok (.iload_n 1, 1) := by decide +kernel
theorem d_Voice_sinceBarTop_5 : decode prog_12_method_24_code 5 = .ok (.iaload, 1) := by decide +kernel
theorem d_Voice_sinceBarTop_6 : decode prog_12_method_24_code 6 = .ok (.istore_n 3, 1) := by decide +kernel
theorem d_Voice_sinceBarTop_7 : decode prog_12_method_24_code 7 = .ok (.aload_n 0, 1) := by decide +kernel
theorem d_Voice_sinceBarTop_8 : decode prog_12_method_24_code 8 = .ok (.getfield 37, 3) := by decide +kernel
theorem d_Voice_sinceBarTop_11 : decode prog_12_method_24_code 11 = .ok (.iload_n 2, 1) := by decide +kernel
theorem d_Voice_sinceBarTop_12 : decode prog_12_method_24_code 12 = .ok (.laload, 1) := by decide +kernel
theorem d_Voice_sinceBarTop_13 : decode prog_12_method_24_code 13 = .ok (.aload_n 0, 1) := by decide +kernel
theorem d_Voice_sinceBarTop_14 : decode prog_12_method_24_code 14 = .ok (.getfield 41, 3) := by decide +kernel
theorem d_Voice_sinceBarTop_17 : decode prog_12_method_24_code 17 = .ok (.iload_n 3, 1) := by decide +kernel
theorem d_Voice_sinceBarTop_18 : decode prog_12_method_24_code 18 = .ok (.laload, 1) := by decide +kernel
theorem d_Voice_sinceBarTop_19 : decode prog_12_method_24_code 19 = .ok (.lmul, 1) := by decide +kernel
theorem d_Voice_sinceBarTop_20 : decode prog_12_method_24_code 20 = .ok (.aload_n 0, 1) := by decide +kernel
theorem d_Voice_sinceBarTop_21 : decode prog_12_method_24_code 21 = .ok (.getfield 37, 3) := by decide +kernel
theorem d_Voice_sinceBarTop_24 : decode prog_12_method_24_code 24 = .ok (.iload_n 3, 1) := by decide +kernel
theorem d_Voice_sinceBarTop_25 : decode prog_12_method_24_code 25 = .ok (.laload, 1) := by decide +kernel
theorem d_Voice_sinceBarTop_26 : decode prog_12_method_24_code 26 = .ok (.aload_n 0, 1) := by decide +kernel
theorem d_Voice_sinceBarTop_27 : decode prog_12_method_24_code 27 = .ok (.getfield 41, 3) := by decide +kernel
theorem d_Voice_sinceBarTop_30 : decode prog_12_method_24_code 30 = .ok (.iload_n 2, 1) := by decide +kernel
theorem d_Voice_sinceBarTop_31 : decode prog_12_method_24_code 31 = .ok (.laload, 1) := by decide +kernel
theorem d_Voice_sinceBarTop_32 : decode prog_12_method_24_code 32 = .ok (.lmul, 1) := by decide +kernel
theorem d_Voice_sinceBarTop_33 : decode prog_12_method_24_code 33 = .ok (.lsub, 1) := by decide +kernel
theorem d_Voice_sinceBarTop_34 : decode prog_12_method_24_code 34 = .ok (.lreturn, 1) := by decide +kernel
def m_Voice_sinceBarBottom : mr_T := (⟨"PlainMusic$Voice", "sinceBarBottom", "(II)J"⟩, prog_12_method_25_code, 3, some .long)
theorem d_Voice_sinceBarBottom_0 : decode prog_12_method_25_code 0 = .ok (.aload_n 0, 1) := by decide +kernel
theorem d_Voice_sinceBarBottom_1 : decode prog_12_method_25_code 1 = .ok (.getfield 41, 3) := by decide +kernel
theorem d_Voice_sinceBarBottom_4 : decode prog_12_method_25_code 4 = .ok (.iload_n 2, 1) := by decide +kernel
theorem d_Voice_sinceBarBottom_5 : decode prog_12_method_25_code 5 = .ok (.laload, 1) := by decide +kernel
theorem d_Voice_sinceBarBottom_6 : decode prog_12_method_25_code 6 = .ok (.aload_n 0, 1) := by decide +kernel
theorem d_Voice_sinceBarBottom_7 : decode prog_12_method_25_code 7 = .ok (.getfield 41, 3) := by decide +kernel
theorem d_Voice_sinceBarBottom_10 : decode prog_12_method_25_code 10 = .ok (.aload_n 0, 1) := by decide +kernel
theorem d_Voice_sinceBarBottom_11 : decode prog_12_method_25_code 11 = .ok (.getfield 50, 3) := by decide +kernel
theorem d_Voice_sinceBarBottom_14 : decode prog_12_method_25_code 14 = .ok (.iload_n 1, 1) := by decide +kernel
theorem d_Voice_sinceBarBottom_15 : decode prog_12_method_25_code 15 = .ok (.iaload, 1) := by decide +kernel
theorem d_Voice_sinceBarBottom_16 : decode prog_12_method_25_code 16 = .ok (.laload, 1) := by decide +kernel
theorem d_Voice_sinceBarBottom_17 : decode prog_12_method_25_code 17 = .ok (.lmul, 1) := by decide +kernel
theorem d_Voice_sinceBarBottom_18 : decode prog_12_method_25_code 18 = .ok (.lreturn, 1) := by decide +kernel
def m_Voice_compareBar : mr_T := (⟨"PlainMusic$Voice", "compareBar", "(III)I"⟩, prog_12_method_26_code, 5, some .int)
theorem d_Voice_compareBar_0 : decode prog_12_method_26_code 0 = .ok (.aload_n 0, 1) := by decide +kernel
theorem d_Voice_compareBar_1 : decode prog_12_method_26_code 1 = .ok (.getfield 50, 3) := by decide +kernel
theorem d_Voice_compareBar_4 : decode prog_12_method_26_code 4 = .ok (.iload_n 1, 1) := by decide +kernel
theorem d_Voice_compareBar_5 : decode prog_12_method_26_code 5 = .ok (.iconst 1, 1) := by decide +kernel
theorem d_Voice_compareBar_6 : decode prog_12_method_26_code 6 = .ok (.iadd, 1) := by decide +kernel
theorem d_Voice_compareBar_7 : decode prog_12_method_26_code 7 = .ok (.iaload, 1) := by decide +kernel
theorem d_Voice_compareBar_8 : decode prog_12_method_26_code 8 = .ok (.istore 4, 2) := by decide +kernel
theorem d_Voice_compareBar_10 : decode prog_12_method_26_code 10 = .ok (.aload_n 0, 1) := by decide +kernel
theorem d_Voice_compareBar_11 : decode prog_12_method_26_code 11 = .ok (.iload_n 1, 1) := by decide +kernel
theorem d_Voice_compareBar_12 : decode prog_12_method_26_code 12 = .ok (.iload 4, 2) := by decide +kernel
theorem d_Voice_compareBar_14 : decode prog_12_method_26_code 14 = .ok (.invokevirtual 115, 3) := by decide +kernel
theorem k_Voice_sinceBarTop : mt_OK m_Voice_sinceBarTop 2 1 := ⟨gwi_1095, gwi_139, ⟨by decide +kernel, by decide +kernel, by decide +kernel⟩, fun h => absurd h (by decide), fun _ => ⟨gwi_1093, gwi_1094⟩, fun h => absurd h (by decide)⟩
theorem l_Voice_115 : ml_OK "PlainMusic$Voice" 115 ⟨"PlainMusic$Voice", "sinceBarTop", "(II)J"⟩ := Or.inl gwi_1092
theorem d_Voice_compareBar_17 : decode prog_12_method_26_code 17 = .ok (.iload_n 3, 1) := by decide +kernel
theorem d_Voice_compareBar_18 : decode prog_12_method_26_code 18 = .ok (.i2l, 1) := by decide +kernel
theorem d_Voice_compareBar_19 : decode prog_12_method_26_code 19 = .ok (.lmul, 1) := by decide +kernel
theorem d_Voice_compareBar_20 : decode prog_12_method_26_code 20 = .ok (.aload_n 0, 1) := by decide +kernel
theorem d_Voice_compareBar_21 : decode prog_12_method_26_code 21 = .ok (.iload_n 1, 1) := by decide +kernel
theorem d_Voice_compareBar_22 : decode prog_12_method_26_code 22 = .ok (.iload 4, 2) := by decide +kernel
theorem d_Voice_compareBar_24 : decode prog_12_method_26_code 24 = .ok (.invokevirtual 119, 3) := by decide +kernel
theorem k_Voice_sinceBarBottom : mt_OK m_Voice_sinceBarBottom 2 1 := ⟨gwi_1099, gwi_139, ⟨by decide +kernel, by decide +kernel, by decide +kernel⟩, fun h => absurd h (by decide), fun _ => ⟨gwi_1097, gwi_1098⟩, fun h => absurd h (by decide)⟩
theorem l_Voice_119 : ml_OK "PlainMusic$Voice" 119 ⟨"PlainMusic$Voice", "sinceBarBottom", "(II)J"⟩ := Or.inl gwi_1096
theorem d_Voice_compareBar_27 : decode prog_12_method_26_code 27 = .ok (.iload_n 2, 1) := by decide +kernel
theorem d_Voice_compareBar_28 : decode prog_12_method_26_code 28 = .ok (.i2l, 1) := by decide +kernel
theorem d_Voice_compareBar_29 : decode prog_12_method_26_code 29 = .ok (.lmul, 1) := by decide +kernel
theorem d_Voice_compareBar_30 : decode prog_12_method_26_code 30 = .ok (.invokestatic 122, 3) := by decide +kernel
theorem k_JLong_compare : mt_OK m_JLong_compare 2 0 := ⟨gwi_1102, gwi_154, ⟨by decide +kernel, by decide +kernel, by decide +kernel⟩, fun _ => gwi_1101, fun h => absurd h (by decide), fun h => absurd h (by decide)⟩
theorem l_Voice_122 : ml_OK "PlainMusic$Voice" 122 ⟨"java/lang/Long", "compare", "(JJ)I"⟩ := Or.inl gwi_1100
theorem d_Voice_compareBar_33 : decode prog_12_method_26_code 33 = .ok (.ireturn, 1) := by decide +kernel
def m_Voice_timeOf : mr_T := (⟨"PlainMusic$Voice", "timeOf", "(II)J"⟩, prog_12_method_10_code, 3, some .long)
theorem d_Voice_timeOf_0 : decode prog_12_method_10_code 0 = .ok (.iload_n 2, 1) := by decide +kernel
theorem d_Voice_timeOf_1 : decode prog_12_method_10_code 1 = .ok (.tableswitch 48 0 2 #[27, 34, 41], 27) := by decide +kernel
theorem d_Voice_timeOf_49 : decode prog_12_method_10_code 49 = .ok (.aload_n 0, 1) := by decide +kernel
theorem d_Voice_timeOf_50 : decode prog_12_method_10_code 50 = .ok (.getfield 47, 3) := by decide +kernel
theorem d_Voice_timeOf_53 : decode prog_12_method_10_code 53 = .ok (.iload_n 1, 1) := by decide +kernel
theorem d_Voice_timeOf_54 : decode prog_12_method_10_code 54 = .ok (.laload, 1) := by decide +kernel
theorem d_Voice_timeOf_55 : decode prog_12_method_10_code 55 = .ok (.lreturn, 1) := by decide +kernel
theorem d_Voice_timeOf_28 : decode prog_12_method_10_code 28 = .ok (.aload_n 0, 1) := by decide +kernel
theorem d_Voice_timeOf_29 : decode prog_12_method_10_code 29 = .ok (.getfield 37, 3) := by decide +kernel
theorem d_Voice_timeOf_32 : decode prog_12_method_10_code 32 = .ok (.iload_n 1, 1) := by decide +kernel
theorem d_Voice_timeOf_33 : decode prog_12_method_10_code 33 = .ok (.laload, 1) := by decide +kernel
theorem d_Voice_timeOf_34 : decode prog_12_method_10_code 34 = .ok (.lreturn, 1) := by decide +kernel
theorem d_Voice_timeOf_35 : decode prog_12_method_10_code 35 = .ok (.aload_n 0, 1) := by decide +kernel
theorem d_Voice_timeOf_36 : decode prog_12_method_10_code 36 = .ok (.getfield 41, 3) := by decide +kernel
theorem d_Voice_timeOf_39 : decode prog_12_method_10_code 39 = .ok (.iload_n 1, 1) := by decide +kernel
theorem d_Voice_timeOf_40 : decode prog_12_method_10_code 40 = .ok (.laload, 1) := by decide +kernel
theorem d_Voice_timeOf_41 : decode prog_12_method_10_code 41 = .ok (.lreturn, 1) := by decide +kernel
theorem d_Voice_timeOf_42 : decode prog_12_method_10_code 42 = .ok (.aload_n 0, 1) := by decide +kernel
theorem d_Voice_timeOf_43 : decode prog_12_method_10_code 43 = .ok (.getfield 44, 3) := by decide +kernel
theorem d_Voice_timeOf_46 : decode prog_12_method_10_code 46 = .ok (.iload_n 1, 1) := by decide +kernel
theorem d_Voice_timeOf_47 : decode prog_12_method_10_code 47 = .ok (.laload, 1) := by decide +kernel
theorem d_Voice_timeOf_48 : decode prog_12_method_10_code 48 = .ok (.lreturn, 1) := by decide +kernel
def m_Voice_writingOf : mr_T := (⟨"PlainMusic$Voice", "writingOf", "(II)I"⟩, prog_12_method_11_code, 3, some .int)
theorem d_Voice_writingOf_0 : decode prog_12_method_11_code 0 = .ok (.iload_n 2, 1) := by decide +kernel
theorem d_Voice_writingOf_1 : decode prog_12_method_11_code 1 = .ok (.tableswitch 64 4 7 #[31, 37, 51, 58], 31) := by decide +kernel
theorem d_Voice_writingOf_65 : decode prog_12_method_11_code 65 = .ok (.aload_n 0, 1) := by decide +kernel
theorem d_Voice_writingOf_66 : decode prog_12_method_11_code 66 = .ok (.getfield 24, 3) := by decide +kernel
theorem d_Voice_writingOf_69 : decode prog_12_method_11_code 69 = .ok (.aload_n 0, 1) := by decide +kernel
theorem d_Voice_writingOf_70 : decode prog_12_method_11_code 70 = .ok (.getfield 31, 3) := by decide +kernel
theorem d_Voice_writingOf_73 : decode prog_12_method_11_code 73 = .ok (.iload_n 1, 1) := by decide +kernel
theorem d_Voice_writingOf_74 : decode prog_12_method_11_code 74 = .ok (.iaload, 1) := by decide +kernel
theorem d_Voice_writingOf_75 : decode prog_12_method_11_code 75 = .ok (.iaload, 1) := by decide +kernel
theorem d_Voice_writingOf_76 : decode prog_12_method_11_code 76 = .ok (.ireturn, 1) := by decide +kernel
theorem d_Voice_writingOf_32 : decode prog_12_method_11_code 32 = .ok (.aload_n 0, 1) := by decide +kernel
theorem d_Voice_writingOf_33 : decode prog_12_method_11_code 33 = .ok (.iload_n 1, 1) := by decide +kernel
theorem d_Voice_writingOf_34 : decode prog_12_method_11_code 34 = .ok (.invokevirtual 80, 3) := by decide +kernel
theorem d_Voice_writingOf_37 : decode prog_12_method_11_code 37 = .ok (.ireturn, 1) := by decide +kernel
theorem d_Voice_writingOf_38 : decode prog_12_method_11_code 38 = .ok (.aload_n 0, 1) := by decide +kernel
theorem d_Voice_writingOf_39 : decode prog_12_method_11_code 39 = .ok (.iload_n 1, 1) := by decide +kernel
theorem d_Voice_writingOf_40 : decode prog_12_method_11_code 40 = .ok (.invokevirtual 84, 3) := by decide +kernel
theorem k_Voice_isTied : mt_OK m_Voice_isTied 1 1 := ⟨gwi_1058, gwi_139, ⟨by decide +kernel, by decide +kernel, by decide +kernel⟩, fun h => absurd h (by decide), fun _ => ⟨gwi_1056, gwi_1057⟩, fun h => absurd h (by decide)⟩
theorem l_Voice_84 : ml_OK "PlainMusic$Voice" 84 ⟨"PlainMusic$Voice", "isTied", "(I)Z"⟩ := Or.inl gwi_1055
theorem d_Voice_writingOf_43 : decode prog_12_method_11_code 43 = .ok (.ifCond .eq 7, 3) := by decide +kernel
theorem d_Voice_writingOf_50 : decode prog_12_method_11_code 50 = .ok (.iconst 0, 1) := by decide +kernel
theorem d_Voice_writingOf_51 : decode prog_12_method_11_code 51 = .ok (.ireturn, 1) := by decide +kernel
theorem d_Voice_writingOf_46 : decode prog_12_method_11_code 46 = .ok (.iconst 1, 1) := by decide +kernel
theorem d_Voice_writingOf_47 : decode prog_12_method_11_code 47 = .ok (.goto 4, 3) := by decide +kernel
theorem d_Voice_writingOf_52 : decode prog_12_method_11_code 52 = .ok (.aload_n 0, 1) := by decide +kernel
theorem d_Voice_writingOf_53 : decode prog_12_method_11_code 53 = .ok (.getfield 34, 3) := by decide +kernel
theorem d_Voice_writingOf_56 : decode prog_12_method_11_code 56 = .ok (.iload_n 1, 1) := by decide +kernel
theorem d_Voice_writingOf_57 : decode prog_12_method_11_code 57 = .ok (.iaload, 1) := by decide +kernel
theorem d_Voice_writingOf_58 : decode prog_12_method_11_code 58 = .ok (.ireturn, 1) := by decide +kernel
theorem d_Voice_writingOf_59 : decode prog_12_method_11_code 59 = .ok (.aload_n 0, 1) := by decide +kernel
theorem d_Voice_writingOf_60 : decode prog_12_method_11_code 60 = .ok (.iload_n 1, 1) := by decide +kernel
theorem d_Voice_writingOf_61 : decode prog_12_method_11_code 61 = .ok (.invokevirtual 88, 3) := by decide +kernel
theorem d_Voice_writingOf_64 : decode prog_12_method_11_code 64 = .ok (.ireturn, 1) := by decide +kernel
def m_Voice_clear : mr_T := (⟨"PlainMusic$Voice", "clear", "()V"⟩, prog_12_method_2_code, 1, none)
theorem d_Voice_clear_0 : decode prog_12_method_2_code 0 = .ok (.aload_n 0, 1) := by decide +kernel
theorem d_Voice_clear_1 : decode prog_12_method_2_code 1 = .ok (.iconst 0, 1) := by decide +kernel
theorem d_Voice_clear_2 : decode prog_12_method_2_code 2 = .ok (.putfield 53, 3) := by decide +kernel
theorem f_Voice_53 : fl_OK "PlainMusic$Voice" 53 10 2 .int false := ⟨_, rfl, by decide, gwi_280, rfl, rfl⟩
theorem d_Voice_clear_5 : decode prog_12_method_2_code 5 = .ok (.aload_n 0, 1) := by decide +kernel
theorem d_Voice_clear_6 : decode prog_12_method_2_code 6 = .ok (.iconst 0, 1) := by decide +kernel
theorem d_Voice_clear_7 : decode prog_12_method_2_code 7 = .ok (.putfield 57, 3) := by decide +kernel
theorem f_Voice_57 : fl_OK "PlainMusic$Voice" 57 10 7 .int false := ⟨_, rfl, by decide, gwi_285, rfl, rfl⟩
theorem d_Voice_clear_10 : decode prog_12_method_2_code 10 = .ok (.aload_n 0, 1) := by decide +kernel
theorem d_Voice_clear_11 : decode prog_12_method_2_code 11 = .ok (.getfield 18, 3) := by decide +kernel
theorem d_Voice_clear_14 : decode prog_12_method_2_code 14 = .ok (.iconst 0, 1) := by decide +kernel
theorem d_Voice_clear_15 : decode prog_12_method_2_code 15 = .ok (.iconst 0, 1) := by decide +kernel
theorem d_Voice_clear_16 : decode prog_12_method_2_code 16 = .ok (.iastore, 1) := by decide +kernel
theorem d_Voice_clear_17 : decode prog_12_method_2_code 17 = .ok (.return_, 1) := by decide +kernel
def m_Voice_addPitch : mr_T := (⟨"PlainMusic$Voice", "addPitch", "(II)V"⟩, prog_12_method_3_code, 3, none)
theorem d_Voice_addPitch_0 : decode prog_12_method_3_code 0 = .ok (.aload_n 0, 1) := by decide +kernel
theorem d_Voice_addPitch_1 : decode prog_12_method_3_code 1 = .ok (.getfield 53, 3) := by decide +kernel
theorem d_Voice_addPitch_4 : decode prog_12_method_3_code 4 = .ok (.aload_n 0, 1) := by decide +kernel
theorem d_Voice_addPitch_5 : decode prog_12_method_3_code 5 = .ok (.getfield 9, 3) := by decide +kernel
theorem d_Voice_addPitch_8 : decode prog_12_method_3_code 8 = .ok (.arraylength, 1) := by decide +kernel
theorem d_Voice_addPitch_9 : decode prog_12_method_3_code 9 = .ok (.if_icmp .ge 33, 3) := by decide +kernel
theorem d_Voice_addPitch_42 : decode prog_12_method_3_code 42 = .ok (.return_, 1) := by decide +kernel
theorem d_Voice_addPitch_12 : decode prog_12_method_3_code 12 = .ok (.aload_n 0, 1) := by decide +kernel
theorem d_Voice_addPitch_13 : decode prog_12_method_3_code 13 = .ok (.getfield 9, 3) := by decide +kernel
theorem d_Voice_addPitch_16 : decode prog_12_method_3_code 16 = .ok (.aload_n 0, 1) := by decide +kernel
theorem d_Voice_addPitch_17 : decode prog_12_method_3_code 17 = .ok (.getfield 53, 3) := by decide +kernel
theorem d_Voice_addPitch_20 : decode prog_12_method_3_code 20 = .ok (.iload_n 1, 1) := by decide +kernel
theorem d_Voice_addPitch_21 : decode prog_12_method_3_code 21 = .ok (.iastore, 1) := by decide +kernel
theorem d_Voice_addPitch_22 : decode prog_12_method_3_code 22 = .ok (.aload_n 0, 1) := by decide +kernel
theorem d_Voice_addPitch_23 : decode prog_12_method_3_code 23 = .ok (.getfield 15, 3) := by decide +kernel
theorem d_Voice_addPitch_26 : decode prog_12_method_3_code 26 = .ok (.aload_n 0, 1) := by decide +kernel
theorem d_Voice_addPitch_27 : decode prog_12_method_3_code 27 = .ok (.getfield 53, 3) := by decide +kernel
theorem d_Voice_addPitch_30 : decode prog_12_method_3_code 30 = .ok (.iload_n 2, 1) := by decide +kernel
theorem d_Voice_addPitch_31 : decode prog_12_method_3_code 31 = .ok (.iastore, 1) := by decide +kernel
theorem d_Voice_addPitch_32 : decode prog_12_method_3_code 32 = .ok (.aload_n 0, 1) := by decide +kernel
theorem d_Voice_addPitch_33 : decode prog_12_method_3_code 33 = .ok (.dup, 1) := by decide +kernel
theorem d_Voice_addPitch_34 : decode prog_12_method_3_code 34 = .ok (.getfield 53, 3) := by decide +kernel
theorem d_Voice_addPitch_37 : decode prog_12_method_3_code 37 = .ok (.iconst 1, 1) := by decide +kernel
theorem d_Voice_addPitch_38 : decode prog_12_method_3_code 38 = .ok (.iadd, 1) := by decide +kernel
theorem d_Voice_addPitch_39 : decode prog_12_method_3_code 39 = .ok (.putfield 53, 3) := by decide +kernel
def m_Voice_endSound : mr_T := (⟨"PlainMusic$Voice", "endSound", "(IIZ)I"⟩, prog_12_method_4_code, 4, some .int)
theorem d_Voice_endSound_0 : decode prog_12_method_4_code 0 = .ok (.aload_n 0, 1) := by decide +kernel
theorem d_Voice_endSound_1 : decode prog_12_method_4_code 1 = .ok (.getfield 57, 3) := by decide +kernel
theorem d_Voice_endSound_4 : decode prog_12_method_4_code 4 = .ok (.aload_n 0, 1) := by decide +kernel
theorem d_Voice_endSound_5 : decode prog_12_method_4_code 5 = .ok (.getfield 21, 3) := by decide +kernel
theorem d_Voice_endSound_8 : decode prog_12_method_4_code 8 = .ok (.arraylength, 1) := by decide +kernel
theorem d_Voice_endSound_9 : decode prog_12_method_4_code 9 = .ok (.if_icmp .lt 5, 3) := by decide +kernel
theorem d_Voice_endSound_14 : decode prog_12_method_4_code 14 = .ok (.aload_n 0, 1) := by decide +kernel
theorem d_Voice_endSound_15 : decode prog_12_method_4_code 15 = .ok (.getfield 21, 3) := by decide +kernel
theorem d_Voice_endSound_18 : decode prog_12_method_4_code 18 = .ok (.aload_n 0, 1) := by decide +kernel
theorem d_Voice_endSound_19 : decode prog_12_method_4_code 19 = .ok (.getfield 57, 3) := by decide +kernel
theorem d_Voice_endSound_22 : decode prog_12_method_4_code 22 = .ok (.iload_n 1, 1) := by decide +kernel
theorem d_Voice_endSound_23 : decode prog_12_method_4_code 23 = .ok (.iastore, 1) := by decide +kernel
theorem d_Voice_endSound_24 : decode prog_12_method_4_code 24 = .ok (.aload_n 0, 1) := by decide +kernel
theorem d_Voice_endSound_25 : decode prog_12_method_4_code 25 = .ok (.getfield 24, 3) := by decide +kernel
theorem d_Voice_endSound_28 : decode prog_12_method_4_code 28 = .ok (.aload_n 0, 1) := by decide +kernel
theorem d_Voice_endSound_29 : decode prog_12_method_4_code 29 = .ok (.getfield 57, 3) := by decide +kernel
theorem d_Voice_endSound_32 : decode prog_12_method_4_code 32 = .ok (.iload_n 2, 1) := by decide +kernel
theorem d_Voice_endSound_33 : decode prog_12_method_4_code 33 = .ok (.iastore, 1) := by decide +kernel
theorem d_Voice_endSound_34 : decode prog_12_method_4_code 34 = .ok (.aload_n 0, 1) := by decide +kernel
theorem d_Voice_endSound_35 : decode prog_12_method_4_code 35 = .ok (.getfield 27, 3) := by decide +kernel
theorem d_Voice_endSound_38 : decode prog_12_method_4_code 38 = .ok (.aload_n 0, 1) := by decide +kernel
theorem d_Voice_endSound_39 : decode prog_12_method_4_code 39 = .ok (.getfield 57, 3) := by decide +kernel
theorem d_Voice_endSound_42 : decode prog_12_method_4_code 42 = .ok (.iload_n 3, 1) := by decide +kernel
theorem d_Voice_endSound_43 : decode prog_12_method_4_code 43 = .ok (.bastore, 1) := by decide +kernel
theorem d_Voice_endSound_44 : decode prog_12_method_4_code 44 = .ok (.aload_n 0, 1) := by decide +kernel
theorem d_Voice_endSound_45 : decode prog_12_method_4_code 45 = .ok (.dup, 1) := by decide +kernel
theorem d_Voice_endSound_46 : decode prog_12_method_4_code 46 = .ok (.getfield 57, 3) := by decide +kernel
theorem d_Voice_endSound_49 : decode prog_12_method_4_code 49 = .ok (.iconst 1, 1) := by decide +kernel
theorem d_Voice_endSound_50 : decode prog_12_method_4_code 50 = .ok (.iadd, 1) := by decide +kernel
theorem d_Voice_endSound_51 : decode prog_12_method_4_code 51 = .ok (.putfield 57, 3) := by decide +kernel
theorem d_Voice_endSound_54 : decode prog_12_method_4_code 54 = .ok (.aload_n 0, 1) := by decide +kernel
theorem d_Voice_endSound_55 : decode prog_12_method_4_code 55 = .ok (.getfield 18, 3) := by decide +kernel
theorem d_Voice_endSound_58 : decode prog_12_method_4_code 58 = .ok (.aload_n 0, 1) := by decide +kernel
theorem d_Voice_endSound_59 : decode prog_12_method_4_code 59 = .ok (.getfield 57, 3) := by decide +kernel
theorem d_Voice_endSound_62 : decode prog_12_method_4_code 62 = .ok (.aload_n 0, 1) := by decide +kernel
theorem d_Voice_endSound_63 : decode prog_12_method_4_code 63 = .ok (.getfield 53, 3) := by decide +kernel
theorem d_Voice_endSound_66 : decode prog_12_method_4_code 66 = .ok (.iastore, 1) := by decide +kernel
theorem d_Voice_endSound_67 : decode prog_12_method_4_code 67 = .ok (.aload_n 0, 1) := by decide +kernel
theorem d_Voice_endSound_68 : decode prog_12_method_4_code 68 = .ok (.getfield 57, 3) := by decide +kernel
theorem d_Voice_endSound_71 : decode prog_12_method_4_code 71 = .ok (.iconst 1, 1) := by decide +kernel
theorem d_Voice_endSound_72 : decode prog_12_method_4_code 72 = .ok (.isub, 1) := by decide +kernel
theorem d_Voice_endSound_73 : decode prog_12_method_4_code 73 = .ok (.ireturn, 1) := by decide +kernel
theorem d_Voice_endSound_12 : decode prog_12_method_4_code 12 = .ok (.iconst 0, 1) := by decide +kernel
theorem d_Voice_endSound_13 : decode prog_12_method_4_code 13 = .ok (.ireturn, 1) := by decide +kernel
def m_Voice_beginWalk : mr_T := (⟨"PlainMusic$Voice", "beginWalk", "()V"⟩, prog_12_method_5_code, 1, none)
theorem d_Voice_beginWalk_0 : decode prog_12_method_5_code 0 = .ok (.aload_n 0, 1) := by decide +kernel
theorem d_Voice_beginWalk_1 : decode prog_12_method_5_code 1 = .ok (.iconst 0, 1) := by decide +kernel
theorem d_Voice_beginWalk_2 : decode prog_12_method_5_code 2 = .ok (.putfield 60, 3) := by decide +kernel
theorem f_Voice_60 : fl_OK "PlainMusic$Voice" 60 10 14 .int false := ⟨_, rfl, by decide, gwi_300, rfl, rfl⟩
theorem d_Voice_beginWalk_5 : decode prog_12_method_5_code 5 = .ok (.aload_n 0, 1) := by decide +kernel
theorem d_Voice_beginWalk_6 : decode prog_12_method_5_code 6 = .ok (.getfield 37, 3) := by decide +kernel
theorem d_Voice_beginWalk_9 : decode prog_12_method_5_code 9 = .ok (.iconst 0, 1) := by decide +kernel
theorem d_Voice_beginWalk_10 : decode prog_12_method_5_code 10 = .ok (.lconst 0, 1) := by decide +kernel
theorem d_Voice_beginWalk_11 : decode prog_12_method_5_code 11 = .ok (.lastore, 1) := by decide +kernel
theorem d_Voice_beginWalk_12 : decode prog_12_method_5_code 12 = .ok (.aload_n 0, 1) := by decide +kernel
theorem d_Voice_beginWalk_13 : decode prog_12_method_5_code 13 = .ok (.getfield 41, 3) := by decide +kernel
theorem d_Voice_beginWalk_16 : decode prog_12_method_5_code 16 = .ok (.iconst 0, 1) := by decide +kernel
theorem d_Voice_beginWalk_17 : decode prog_12_method_5_code 17 = .ok (.lconst 1, 1) := by decide +kernel
theorem d_Voice_beginWalk_18 : decode prog_12_method_5_code 18 = .ok (.lastore, 1) := by decide +kernel
theorem d_Voice_beginWalk_19 : decode prog_12_method_5_code 19 = .ok (.aload_n 0, 1) := by decide +kernel
theorem d_Voice_beginWalk_20 : decode prog_12_method_5_code 20 = .ok (.getfield 50, 3) := by decide +kernel
theorem d_Voice_beginWalk_23 : decode prog_12_method_5_code 23 = .ok (.iconst 0, 1) := by decide +kernel
theorem d_Voice_beginWalk_24 : decode prog_12_method_5_code 24 = .ok (.iconst 0, 1) := by decide +kernel
theorem d_Voice_beginWalk_25 : decode prog_12_method_5_code 25 = .ok (.iastore, 1) := by decide +kernel
theorem d_Voice_beginWalk_26 : decode prog_12_method_5_code 26 = .ok (.aload_n 0, 1) := by decide +kernel
theorem d_Voice_beginWalk_27 : decode prog_12_method_5_code 27 = .ok (.iconst 1, 1) := by decide +kernel
theorem d_Voice_beginWalk_28 : decode prog_12_method_5_code 28 = .ok (.putfield 63, 3) := by decide +kernel
theorem f_Voice_63 : fl_OK "PlainMusic$Voice" 63 10 16 .int false := ⟨_, rfl, by decide, gwi_309, rfl, rfl⟩
theorem d_Voice_beginWalk_31 : decode prog_12_method_5_code 31 = .ok (.return_, 1) := by decide +kernel
def m_Voice_endWalk : mr_T := (⟨"PlainMusic$Voice", "endWalk", "()V"⟩, prog_12_method_7_code, 1, none)
theorem d_Voice_endWalk_0 : decode prog_12_method_7_code 0 = .ok (.aload_n 0, 1) := by decide +kernel
theorem d_Voice_endWalk_1 : decode prog_12_method_7_code 1 = .ok (.getfield 63, 3) := by decide +kernel
theorem d_Voice_endWalk_4 : decode prog_12_method_7_code 4 = .ok (.aload_n 0, 1) := by decide +kernel
theorem d_Voice_endWalk_5 : decode prog_12_method_7_code 5 = .ok (.getfield 50, 3) := by decide +kernel
theorem d_Voice_endWalk_8 : decode prog_12_method_7_code 8 = .ok (.arraylength, 1) := by decide +kernel
theorem d_Voice_endWalk_9 : decode prog_12_method_7_code 9 = .ok (.if_icmp .ge 16, 3) := by decide +kernel
theorem d_Voice_endWalk_12 : decode prog_12_method_7_code 12 = .ok (.aload_n 0, 1) := by decide +kernel
theorem d_Voice_endWalk_13 : decode prog_12_method_7_code 13 = .ok (.getfield 50, 3) := by decide +kernel
theorem d_Voice_endWalk_16 : decode prog_12_method_7_code 16 = .ok (.aload_n 0, 1) := by decide +kernel
theorem d_Voice_endWalk_17 : decode prog_12_method_7_code 17 = .ok (.getfield 63, 3) := by decide +kernel
theorem d_Voice_endWalk_20 : decode prog_12_method_7_code 20 = .ok (.aload_n 0, 1) := by decide +kernel
theorem d_Voice_endWalk_21 : decode prog_12_method_7_code 21 = .ok (.getfield 60, 3) := by decide +kernel
theorem d_Voice_endWalk_24 : decode prog_12_method_7_code 24 = .ok (.iastore, 1) := by decide +kernel
theorem d_Voice_endWalk_25 : decode prog_12_method_7_code 25 = .ok (.return_, 1) := by decide +kernel
def m_PM_greatestDivisor : mr_T := (⟨"PlainMusic", "greatestDivisor", "(JJ)J"⟩, prog_1_method_30_code, 11, some .long)
theorem d_PM_greatestDivisor_0 : decode prog_1_method_30_code 0 = .ok (.lload_n 0, 1) := by decide +kernel
theorem d_PM_greatestDivisor_1 : decode prog_1_method_30_code 1 = .ok (.lstore 4, 2) := by decide +kernel
theorem d_PM_greatestDivisor_3 : decode prog_1_method_30_code 3 = .ok (.lload_n 2, 1) := by decide +kernel
theorem d_PM_greatestDivisor_4 : decode prog_1_method_30_code 4 = .ok (.lstore 6, 2) := by decide +kernel
theorem d_PM_greatestDivisor_6 : decode prog_1_method_30_code 6 = .ok (.iconst 0, 1) := by decide +kernel
theorem d_PM_greatestDivisor_7 : decode prog_1_method_30_code 7 = .ok (.istore 8, 2) := by decide +kernel
theorem d_PM_greatestDivisor_9 : decode prog_1_method_30_code 9 = .ok (.iload 8, 2) := by decide +kernel
theorem d_PM_greatestDivisor_11 : decode prog_1_method_30_code 11 = .ok (.sipush 200, 3) := by decide +kernel
theorem d_PM_greatestDivisor_14 : decode prog_1_method_30_code 14 = .ok (.if_icmp .ge 31, 3) := by decide +kernel
theorem d_PM_greatestDivisor_17 : decode prog_1_method_30_code 17 = .ok (.lload 6, 2) := by decide +kernel
theorem d_PM_greatestDivisor_19 : decode prog_1_method_30_code 19 = .ok (.lconst 0, 1) := by decide +kernel
theorem d_PM_greatestDivisor_20 : decode prog_1_method_30_code 20 = .ok (.lcmp, 1) := by decide +kernel
theorem d_PM_greatestDivisor_21 : decode prog_1_method_30_code 21 = .ok (.ifCond .eq 24, 3) := by decide +kernel
theorem d_PM_greatestDivisor_45 : decode prog_1_method_30_code 45 = .ok (.lload 4, 2) := by decide +kernel
theorem d_PM_greatestDivisor_47 : decode prog_1_method_30_code 47 = .ok (.lconst 1, 1) := by decide +kernel
theorem d_PM_greatestDivisor_48 : decode prog_1_method_30_code 48 = .ok (.lcmp, 1) := by decide +kernel
theorem d_PM_greatestDivisor_49 : decode prog_1_method_30_code 49 = .ok (.ifCond .ge 7, 3) := by decide +kernel
theorem d_PM_greatestDivisor_56 : decode prog_1_method_30_code 56 = .ok (.lload 4, 2) := by decide +kernel
theorem d_PM_greatestDivisor_58 : decode prog_1_method_30_code 58 = .ok (.lreturn, 1) := by decide +kernel
theorem d_PM_greatestDivisor_52 : decode prog_1_method_30_code 52 = .ok (.lconst 1, 1) := by decide +kernel
theorem d_PM_greatestDivisor_53 : decode prog_1_method_30_code 53 = .ok (.goto 5, 3) := by decide +kernel
theorem d_PM_greatestDivisor_24 : decode prog_1_method_30_code 24 = .ok (.lload 4, 2) := by decide +kernel
theorem d_PM_greatestDivisor_26 : decode prog_1_method_30_code 26 = .ok (.lload 6, 2) := by decide +kernel
theorem d_PM_greatestDivisor_28 : decode prog_1_method_30_code 28 = .ok (.lrem, 1) := by decide +kernel
theorem d_PM_greatestDivisor_29 : decode prog_1_method_30_code 29 = .ok (.lstore 9, 2) := by decide +kernel
theorem d_PM_greatestDivisor_31 : decode prog_1_method_30_code 31 = .ok (.lload 6, 2) := by decide +kernel
theorem d_PM_greatestDivisor_33 : decode prog_1_method_30_code 33 = .ok (.lstore 4, 2) := by decide +kernel
theorem d_PM_greatestDivisor_35 : decode prog_1_method_30_code 35 = .ok (.lload 9, 2) := by decide +kernel
theorem d_PM_greatestDivisor_37 : decode prog_1_method_30_code 37 = .ok (.lstore 6, 2) := by decide +kernel
theorem d_PM_greatestDivisor_39 : decode prog_1_method_30_code 39 = .ok (.iinc 8 1, 3) := by decide +kernel
theorem d_PM_greatestDivisor_42 : decode prog_1_method_30_code 42 = .ok (.goto (-33), 3) := by decide +kernel
def m_Voice_isTold : mr_T := (⟨"PlainMusic$Voice", "isTold", "(JJ)Z"⟩, prog_12_method_9_code, 4, some .boolean)
theorem d_Voice_isTold_0 : decode prog_12_method_9_code 0 = .ok (.lload_n 2, 1) := by decide +kernel
theorem d_Voice_isTold_1 : decode prog_12_method_9_code 1 = .ok (.ldc2_w 76, 3) := by decide +kernel
theorem cst_Voice_76 : Cond.constantLong "PlainMusic$Voice" 76 (Int64.ofInt 1000000) ∈ gw := gwi_945
theorem d_Voice_isTold_4 : decode prog_12_method_9_code 4 = .ok (.lcmp, 1) := by decide +kernel
theorem d_Voice_isTold_5 : decode prog_12_method_9_code 5 = .ok (.ifCond .gt 17, 3) := by decide +kernel
theorem d_Voice_isTold_22 : decode prog_12_method_9_code 22 = .ok (.iconst 0, 1) := by decide +kernel
theorem d_Voice_isTold_23 : decode prog_12_method_9_code 23 = .ok (.ireturn, 1) := by decide +kernel
theorem d_Voice_isTold_8 : decode prog_12_method_9_code 8 = .ok (.lload_n 0, 1) := by decide +kernel
theorem d_Voice_isTold_9 : decode prog_12_method_9_code 9 = .ok (.ldc2_w 78, 3) := by decide +kernel
theorem cst_Voice_78 : Cond.constantLong "PlainMusic$Voice" 78 (Int64.ofInt 1000) ∈ gw := gwi_946
theorem d_Voice_isTold_12 : decode prog_12_method_9_code 12 = .ok (.lload_n 2, 1) := by decide +kernel
theorem d_Voice_isTold_13 : decode prog_12_method_9_code 13 = .ok (.lmul, 1) := by decide +kernel
theorem d_Voice_isTold_14 : decode prog_12_method_9_code 14 = .ok (.lcmp, 1) := by decide +kernel
theorem d_Voice_isTold_15 : decode prog_12_method_9_code 15 = .ok (.ifCond .gt 7, 3) := by decide +kernel
theorem d_Voice_isTold_18 : decode prog_12_method_9_code 18 = .ok (.iconst 1, 1) := by decide +kernel
theorem d_Voice_isTold_19 : decode prog_12_method_9_code 19 = .ok (.goto 4, 3) := by decide +kernel
def m_Voice_addBar : mr_T := (⟨"PlainMusic$Voice", "addBar", "()V"⟩, prog_12_method_6_code, 1, none)
theorem rgf_9_8 : rg 9 8 = (0, 100000) := by decide +kernel
theorem rgf_9_10 : rg 9 10 = (0, 100000) := by decide +kernel
theorem d_Voice_addBar_0 : decode prog_12_method_6_code 0 = .ok (.aload_n 0, 1) := by decide +kernel
theorem d_Voice_addBar_1 : decode prog_12_method_6_code 1 = .ok (.getfield 63, 3) := by decide +kernel
theorem d_Voice_addBar_4 : decode prog_12_method_6_code 4 = .ok (.aload_n 0, 1) := by decide +kernel
theorem d_Voice_addBar_5 : decode prog_12_method_6_code 5 = .ok (.getfield 50, 3) := by decide +kernel
theorem d_Voice_addBar_8 : decode prog_12_method_6_code 8 = .ok (.arraylength, 1) := by decide +kernel
theorem d_Voice_addBar_9 : decode prog_12_method_6_code 9 = .ok (.if_icmp .ge 26, 3) := by decide +kernel
theorem d_Voice_addBar_12 : decode prog_12_method_6_code 12 = .ok (.aload_n 0, 1) := by decide +kernel
theorem d_Voice_addBar_13 : decode prog_12_method_6_code 13 = .ok (.getfield 50, 3) := by decide +kernel
theorem d_Voice_addBar_16 : decode prog_12_method_6_code 16 = .ok (.aload_n 0, 1) := by decide +kernel
theorem d_Voice_addBar_17 : decode prog_12_method_6_code 17 = .ok (.getfield 63, 3) := by decide +kernel
theorem d_Voice_addBar_20 : decode prog_12_method_6_code 20 = .ok (.aload_n 0, 1) := by decide +kernel
theorem d_Voice_addBar_21 : decode prog_12_method_6_code 21 = .ok (.getfield 60, 3) := by decide +kernel
theorem d_Voice_addBar_24 : decode prog_12_method_6_code 24 = .ok (.iastore, 1) := by decide +kernel
theorem d_Voice_addBar_25 : decode prog_12_method_6_code 25 = .ok (.aload_n 0, 1) := by decide +kernel
theorem d_Voice_addBar_26 : decode prog_12_method_6_code 26 = .ok (.dup, 1) := by decide +kernel
theorem d_Voice_addBar_27 : decode prog_12_method_6_code 27 = .ok (.getfield 63, 3) := by decide +kernel
theorem d_Voice_addBar_30 : decode prog_12_method_6_code 30 = .ok (.iconst 1, 1) := by decide +kernel
theorem d_Voice_addBar_31 : decode prog_12_method_6_code 31 = .ok (.iadd, 1) := by decide +kernel
theorem d_Voice_addBar_32 : decode prog_12_method_6_code 32 = .ok (.putfield 63, 3) := by decide +kernel
theorem d_Voice_addBar_35 : decode prog_12_method_6_code 35 = .ok (.return_, 1) := by decide +kernel
def m_Voice_addEvent : mr_T := (⟨"PlainMusic$Voice", "addEvent", "(IJJ)Z"⟩, prog_12_method_8_code, 19, some .boolean)
theorem d_Voice_addEvent_0 : decode prog_12_method_8_code 0 = .ok (.aload_n 0, 1) := by decide +kernel
theorem d_Voice_addEvent_1 : decode prog_12_method_8_code 1 = .ok (.getfield 60, 3) := by decide +kernel
theorem d_Voice_addEvent_4 : decode prog_12_method_8_code 4 = .ok (.sipush 300, 3) := by decide +kernel
theorem d_Voice_addEvent_7 : decode prog_12_method_8_code 7 = .ok (.if_icmp .ge 14, 3) := by decide +kernel
theorem d_Voice_addEvent_21 : decode prog_12_method_8_code 21 = .ok (.iconst 0, 1) := by decide +kernel
theorem d_Voice_addEvent_22 : decode prog_12_method_8_code 22 = .ok (.ireturn, 1) := by decide +kernel
theorem d_Voice_addEvent_10 : decode prog_12_method_8_code 10 = .ok (.iload_n 1, 1) := by decide +kernel
theorem d_Voice_addEvent_11 : decode prog_12_method_8_code 11 = .ok (.ifCond .lt 10, 3) := by decide +kernel
theorem d_Voice_addEvent_14 : decode prog_12_method_8_code 14 = .ok (.iload_n 1, 1) := by decide +kernel
theorem d_Voice_addEvent_15 : decode prog_12_method_8_code 15 = .ok (.sipush 300, 3) := by decide +kernel
theorem d_Voice_addEvent_18 : decode prog_12_method_8_code 18 = .ok (.if_icmp .lt 5, 3) := by decide +kernel
theorem d_Voice_addEvent_23 : decode prog_12_method_8_code 23 = .ok (.aload_n 0, 1) := by decide +kernel
theorem d_Voice_addEvent_24 : decode prog_12_method_8_code 24 = .ok (.getfield 24, 3) := by decide +kernel
theorem d_Voice_addEvent_27 : decode prog_12_method_8_code 27 = .ok (.iload_n 1, 1) := by decide +kernel
theorem d_Voice_addEvent_28 : decode prog_12_method_8_code 28 = .ok (.iaload, 1) := by decide +kernel
theorem d_Voice_addEvent_29 : decode prog_12_method_8_code 29 = .ok (.istore 6, 2) := by decide +kernel
theorem d_Voice_addEvent_31 : decode prog_12_method_8_code 31 = .ok (.lload_n 2, 1) := by decide +kernel
theorem d_Voice_addEvent_32 : decode prog_12_method_8_code 32 = .ok (.ldc2_w 66, 3) := by decide +kernel
theorem d_Voice_addEvent_35 : decode prog_12_method_8_code 35 = .ok (.iload 6, 2) := by decide +kernel
theorem d_Voice_addEvent_37 : decode prog_12_method_8_code 37 = .ok (.lshl, 1) := by decide +kernel
theorem d_Voice_addEvent_38 : decode prog_12_method_8_code 38 = .ok (.lconst 1, 1) := by decide +kernel
theorem d_Voice_addEvent_39 : decode prog_12_method_8_code 39 = .ok (.lsub, 1) := by decide +kernel
theorem d_Voice_addEvent_40 : decode prog_12_method_8_code 40 = .ok (.lmul, 1) := by decide +kernel
theorem d_Voice_addEvent_41 : decode prog_12_method_8_code 41 = .ok (.lstore 7, 2) := by decide +kernel
theorem d_Voice_addEvent_43 : decode prog_12_method_8_code 43 = .ok (.lload 4, 2) := by decide +kernel
theorem d_Voice_addEvent_45 : decode prog_12_method_8_code 45 = .ok (.aload_n 0, 1) := by decide +kernel
theorem d_Voice_addEvent_46 : decode prog_12_method_8_code 46 = .ok (.getfield 21, 3) := by decide +kernel
theorem d_Voice_addEvent_49 : decode prog_12_method_8_code 49 = .ok (.iload_n 1, 1) := by decide +kernel
theorem d_Voice_addEvent_50 : decode prog_12_method_8_code 50 = .ok (.iaload, 1) := by decide +kernel
theorem d_Voice_addEvent_51 : decode prog_12_method_8_code 51 = .ok (.i2l, 1) := by decide +kernel
theorem d_Voice_addEvent_52 : decode prog_12_method_8_code 52 = .ok (.lmul, 1) := by decide +kernel
theorem d_Voice_addEvent_53 : decode prog_12_method_8_code 53 = .ok (.lconst 1, 1) := by decide +kernel
theorem d_Voice_addEvent_54 : decode prog_12_method_8_code 54 = .ok (.iload 6, 2) := by decide +kernel
theorem d_Voice_addEvent_56 : decode prog_12_method_8_code 56 = .ok (.lshl, 1) := by decide +kernel
theorem d_Voice_addEvent_57 : decode prog_12_method_8_code 57 = .ok (.lmul, 1) := by decide +kernel
theorem d_Voice_addEvent_58 : decode prog_12_method_8_code 58 = .ok (.lstore 9, 2) := by decide +kernel
theorem d_Voice_addEvent_60 : decode prog_12_method_8_code 60 = .ok (.lload 7, 2) := by decide +kernel
theorem d_Voice_addEvent_62 : decode prog_12_method_8_code 62 = .ok (.lload 9, 2) := by decide +kernel
theorem d_Voice_addEvent_64 : decode prog_12_method_8_code 64 = .ok (.invokestatic 68, 3) := by decide +kernel
theorem k_PM_greatestDivisor : mt_OK m_PM_greatestDivisor 2 0 := ⟨gwi_941, gwi_134, ⟨by decide +kernel, by decide +kernel, by decide +kernel⟩, fun _ => gwi_940, fun h => absurd h (by decide), fun h => absurd h (by decide)⟩
theorem l_Voice_68 : ml_OK "PlainMusic$Voice" 68 ⟨"PlainMusic", "greatestDivisor", "(JJ)J"⟩ := Or.inr ⟨"PlainMusic", (List.mem_of_getElem? (i := 939) (by decide +kernel))⟩
theorem d_Voice_addEvent_67 : decode prog_12_method_8_code 67 = .ok (.lstore 11, 2) := by decide +kernel
theorem d_Voice_addEvent_69 : decode prog_12_method_8_code 69 = .ok (.aload_n 0, 1) := by decide +kernel
theorem d_Voice_addEvent_70 : decode prog_12_method_8_code 70 = .ok (.getfield 31, 3) := by decide +kernel
theorem d_Voice_addEvent_73 : decode prog_12_method_8_code 73 = .ok (.aload_n 0, 1) := by decide +kernel
theorem d_Voice_addEvent_74 : decode prog_12_method_8_code 74 = .ok (.getfield 60, 3) := by decide +kernel
theorem d_Voice_addEvent_77 : decode prog_12_method_8_code 77 = .ok (.iload_n 1, 1) := by decide +kernel
theorem d_Voice_addEvent_78 : decode prog_12_method_8_code 78 = .ok (.iastore, 1) := by decide +kernel
theorem d_Voice_addEvent_79 : decode prog_12_method_8_code 79 = .ok (.aload_n 0, 1) := by decide +kernel
theorem d_Voice_addEvent_80 : decode prog_12_method_8_code 80 = .ok (.getfield 34, 3) := by decide +kernel
theorem d_Voice_addEvent_83 : decode prog_12_method_8_code 83 = .ok (.aload_n 0, 1) := by decide +kernel
theorem d_Voice_addEvent_84 : decode prog_12_method_8_code 84 = .ok (.getfield 60, 3) := by decide +kernel
theorem d_Voice_addEvent_87 : decode prog_12_method_8_code 87 = .ok (.aload_n 0, 1) := by decide +kernel
theorem d_Voice_addEvent_88 : decode prog_12_method_8_code 88 = .ok (.getfield 63, 3) := by decide +kernel
theorem d_Voice_addEvent_91 : decode prog_12_method_8_code 91 = .ok (.iconst 1, 1) := by decide +kernel
theorem d_Voice_addEvent_92 : decode prog_12_method_8_code 92 = .ok (.isub, 1) := by decide +kernel
theorem d_Voice_addEvent_93 : decode prog_12_method_8_code 93 = .ok (.iastore, 1) := by decide +kernel
theorem d_Voice_addEvent_94 : decode prog_12_method_8_code 94 = .ok (.aload_n 0, 1) := by decide +kernel
theorem d_Voice_addEvent_95 : decode prog_12_method_8_code 95 = .ok (.getfield 44, 3) := by decide +kernel
theorem d_Voice_addEvent_98 : decode prog_12_method_8_code 98 = .ok (.aload_n 0, 1) := by decide +kernel
theorem d_Voice_addEvent_99 : decode prog_12_method_8_code 99 = .ok (.getfield 60, 3) := by decide +kernel
theorem d_Voice_addEvent_102 : decode prog_12_method_8_code 102 = .ok (.lload 7, 2) := by decide +kernel
theorem d_Voice_addEvent_104 : decode prog_12_method_8_code 104 = .ok (.lload 11, 2) := by decide +kernel
theorem d_Voice_addEvent_106 : decode prog_12_method_8_code 106 = .ok (.ldiv, 1) := by decide +kernel
theorem d_Voice_addEvent_107 : decode prog_12_method_8_code 107 = .ok (.lastore, 1) := by decide +kernel
theorem d_Voice_addEvent_108 : decode prog_12_method_8_code 108 = .ok (.aload_n 0, 1) := by decide +kernel
theorem d_Voice_addEvent_109 : decode prog_12_method_8_code 109 = .ok (.getfield 47, 3) := by decide +kernel
theorem d_Voice_addEvent_112 : decode prog_12_method_8_code 112 = .ok (.aload_n 0, 1) := by decide +kernel
theorem d_Voice_addEvent_113 : decode prog_12_method_8_code 113 = .ok (.getfield 60, 3) := by decide +kernel
theorem d_Voice_addEvent_116 : decode prog_12_method_8_code 116 = .ok (.lload 9, 2) := by decide +kernel
theorem d_Voice_addEvent_118 : decode prog_12_method_8_code 118 = .ok (.lload 11, 2) := by decide +kernel
theorem d_Voice_addEvent_120 : decode prog_12_method_8_code 120 = .ok (.ldiv, 1) := by decide +kernel
theorem d_Voice_addEvent_121 : decode prog_12_method_8_code 121 = .ok (.lastore, 1) := by decide +kernel
theorem d_Voice_addEvent_122 : decode prog_12_method_8_code 122 = .ok (.aload_n 0, 1) := by decide +kernel
theorem d_Voice_addEvent_123 : decode prog_12_method_8_code 123 = .ok (.getfield 44, 3) := by decide +kernel
theorem d_Voice_addEvent_126 : decode prog_12_method_8_code 126 = .ok (.aload_n 0, 1) := by decide +kernel
theorem d_Voice_addEvent_127 : decode prog_12_method_8_code 127 = .ok (.getfield 60, 3) := by decide +kernel
theorem d_Voice_addEvent_130 : decode prog_12_method_8_code 130 = .ok (.laload, 1) := by decide +kernel
theorem d_Voice_addEvent_131 : decode prog_12_method_8_code 131 = .ok (.aload_n 0, 1) := by decide +kernel
theorem d_Voice_addEvent_132 : decode prog_12_method_8_code 132 = .ok (.getfield 47, 3) := by decide +kernel
theorem d_Voice_addEvent_135 : decode prog_12_method_8_code 135 = .ok (.aload_n 0, 1) := by decide +kernel
theorem d_Voice_addEvent_136 : decode prog_12_method_8_code 136 = .ok (.getfield 60, 3) := by decide +kernel
theorem d_Voice_addEvent_139 : decode prog_12_method_8_code 139 = .ok (.laload, 1) := by decide +kernel
theorem d_Voice_addEvent_140 : decode prog_12_method_8_code 140 = .ok (.invokestatic 72, 3) := by decide +kernel
theorem k_Voice_isTold : mt_OK m_Voice_isTold 2 0 := ⟨gwi_944, gwi_139, ⟨by decide +kernel, by decide +kernel, by decide +kernel⟩, fun _ => gwi_943, fun h => absurd h (by decide), fun h => absurd h (by decide)⟩
theorem l_Voice_72 : ml_OK "PlainMusic$Voice" 72 ⟨"PlainMusic$Voice", "isTold", "(JJ)Z"⟩ := Or.inl gwi_942
theorem d_Voice_addEvent_143 : decode prog_12_method_8_code 143 = .ok (.ifCond .ne 5, 3) := by decide +kernel
theorem d_Voice_addEvent_148 : decode prog_12_method_8_code 148 = .ok (.aload_n 0, 1) := by decide +kernel
theorem d_Voice_addEvent_149 : decode prog_12_method_8_code 149 = .ok (.getfield 37, 3) := by decide +kernel
theorem d_Voice_addEvent_152 : decode prog_12_method_8_code 152 = .ok (.aload_n 0, 1) := by decide +kernel
theorem d_Voice_addEvent_153 : decode prog_12_method_8_code 153 = .ok (.getfield 60, 3) := by decide +kernel
theorem d_Voice_addEvent_156 : decode prog_12_method_8_code 156 = .ok (.laload, 1) := by decide +kernel
theorem d_Voice_addEvent_157 : decode prog_12_method_8_code 157 = .ok (.aload_n 0, 1) := by decide +kernel
theorem d_Voice_addEvent_158 : decode prog_12_method_8_code 158 = .ok (.getfield 47, 3) := by decide +kernel
theorem d_Voice_addEvent_161 : decode prog_12_method_8_code 161 = .ok (.aload_n 0, 1) := by decide +kernel
theorem d_Voice_addEvent_162 : decode prog_12_method_8_code 162 = .ok (.getfield 60, 3) := by decide +kernel
theorem d_Voice_addEvent_165 : decode prog_12_method_8_code 165 = .ok (.laload, 1) := by decide +kernel
theorem d_Voice_addEvent_166 : decode prog_12_method_8_code 166 = .ok (.lmul, 1) := by decide +kernel
theorem d_Voice_addEvent_167 : decode prog_12_method_8_code 167 = .ok (.aload_n 0, 1) := by decide +kernel
theorem d_Voice_addEvent_168 : decode prog_12_method_8_code 168 = .ok (.getfield 44, 3) := by decide +kernel
theorem d_Voice_addEvent_171 : decode prog_12_method_8_code 171 = .ok (.aload_n 0, 1) := by decide +kernel
theorem d_Voice_addEvent_172 : decode prog_12_method_8_code 172 = .ok (.getfield 60, 3) := by decide +kernel
theorem d_Voice_addEvent_175 : decode prog_12_method_8_code 175 = .ok (.laload, 1) := by decide +kernel
theorem d_Voice_addEvent_176 : decode prog_12_method_8_code 176 = .ok (.aload_n 0, 1) := by decide +kernel
theorem d_Voice_addEvent_177 : decode prog_12_method_8_code 177 = .ok (.getfield 41, 3) := by decide +kernel
theorem d_Voice_addEvent_180 : decode prog_12_method_8_code 180 = .ok (.aload_n 0, 1) := by decide +kernel
theorem d_Voice_addEvent_181 : decode prog_12_method_8_code 181 = .ok (.getfield 60, 3) := by decide +kernel
theorem d_Voice_addEvent_184 : decode prog_12_method_8_code 184 = .ok (.laload, 1) := by decide +kernel
theorem d_Voice_addEvent_185 : decode prog_12_method_8_code 185 = .ok (.lmul, 1) := by decide +kernel
theorem d_Voice_addEvent_186 : decode prog_12_method_8_code 186 = .ok (.ladd, 1) := by decide +kernel
theorem d_Voice_addEvent_187 : decode prog_12_method_8_code 187 = .ok (.lstore 13, 2) := by decide +kernel
theorem d_Voice_addEvent_189 : decode prog_12_method_8_code 189 = .ok (.aload_n 0, 1) := by decide +kernel
theorem d_Voice_addEvent_190 : decode prog_12_method_8_code 190 = .ok (.getfield 41, 3) := by decide +kernel
theorem d_Voice_addEvent_193 : decode prog_12_method_8_code 193 = .ok (.aload_n 0, 1) := by decide +kernel
theorem d_Voice_addEvent_194 : decode prog_12_method_8_code 194 = .ok (.getfield 60, 3) := by decide +kernel
theorem d_Voice_addEvent_197 : decode prog_12_method_8_code 197 = .ok (.laload, 1) := by decide +kernel
theorem d_Voice_addEvent_198 : decode prog_12_method_8_code 198 = .ok (.aload_n 0, 1) := by decide +kernel
theorem d_Voice_addEvent_199 : decode prog_12_method_8_code 199 = .ok (.getfield 47, 3) := by decide +kernel
theorem d_Voice_addEvent_202 : decode prog_12_method_8_code 202 = .ok (.aload_n 0, 1) := by decide +kernel
theorem d_Voice_addEvent_203 : decode prog_12_method_8_code 203 = .ok (.getfield 60, 3) := by decide +kernel
theorem d_Voice_addEvent_206 : decode prog_12_method_8_code 206 = .ok (.laload, 1) := by decide +kernel
theorem d_Voice_addEvent_207 : decode prog_12_method_8_code 207 = .ok (.lmul, 1) := by decide +kernel
theorem d_Voice_addEvent_208 : decode prog_12_method_8_code 208 = .ok (.lstore 15, 2) := by decide +kernel
theorem d_Voice_addEvent_210 : decode prog_12_method_8_code 210 = .ok (.lload 13, 2) := by decide +kernel
theorem d_Voice_addEvent_212 : decode prog_12_method_8_code 212 = .ok (.lload 15, 2) := by decide +kernel
theorem d_Voice_addEvent_214 : decode prog_12_method_8_code 214 = .ok (.invokestatic 68, 3) := by decide +kernel
theorem d_Voice_addEvent_217 : decode prog_12_method_8_code 217 = .ok (.lstore 17, 2) := by decide +kernel
theorem d_Voice_addEvent_219 : decode prog_12_method_8_code 219 = .ok (.aload_n 0, 1) := by decide +kernel
theorem d_Voice_addEvent_220 : decode prog_12_method_8_code 220 = .ok (.dup, 1) := by decide +kernel
theorem d_Voice_addEvent_221 : decode prog_12_method_8_code 221 = .ok (.getfield 60, 3) := by decide +kernel
theorem d_Voice_addEvent_224 : decode prog_12_method_8_code 224 = .ok (.iconst 1, 1) := by decide +kernel
theorem d_Voice_addEvent_225 : decode prog_12_method_8_code 225 = .ok (.iadd, 1) := by decide +kernel
theorem d_Voice_addEvent_226 : decode prog_12_method_8_code 226 = .ok (.putfield 60, 3) := by decide +kernel
theorem d_Voice_addEvent_229 : decode prog_12_method_8_code 229 = .ok (.aload_n 0, 1) := by decide +kernel
theorem d_Voice_addEvent_230 : decode prog_12_method_8_code 230 = .ok (.getfield 37, 3) := by decide +kernel
theorem d_Voice_addEvent_233 : decode prog_12_method_8_code 233 = .ok (.aload_n 0, 1) := by decide +kernel
theorem d_Voice_addEvent_234 : decode prog_12_method_8_code 234 = .ok (.getfield 60, 3) := by decide +kernel
theorem d_Voice_addEvent_237 : decode prog_12_method_8_code 237 = .ok (.lload 13, 2) := by decide +kernel
theorem d_Voice_addEvent_239 : decode prog_12_method_8_code 239 = .ok (.lload 17, 2) := by decide +kernel
theorem d_Voice_addEvent_241 : decode prog_12_method_8_code 241 = .ok (.ldiv, 1) := by decide +kernel
theorem d_Voice_addEvent_242 : decode prog_12_method_8_code 242 = .ok (.lastore, 1) := by decide +kernel
theorem d_Voice_addEvent_243 : decode prog_12_method_8_code 243 = .ok (.aload_n 0, 1) := by decide +kernel
theorem d_Voice_addEvent_244 : decode prog_12_method_8_code 244 = .ok (.getfield 41, 3) := by decide +kernel
theorem d_Voice_addEvent_247 : decode prog_12_method_8_code 247 = .ok (.aload_n 0, 1) := by decide +kernel
theorem d_Voice_addEvent_248 : decode prog_12_method_8_code 248 = .ok (.getfield 60, 3) := by decide +kernel
theorem d_Voice_addEvent_251 : decode prog_12_method_8_code 251 = .ok (.lload 15, 2) := by decide +kernel
theorem d_Voice_addEvent_253 : decode prog_12_method_8_code 253 = .ok (.lload 17, 2) := by decide +kernel
theorem d_Voice_addEvent_255 : decode prog_12_method_8_code 255 = .ok (.ldiv, 1) := by decide +kernel
theorem d_Voice_addEvent_256 : decode prog_12_method_8_code 256 = .ok (.lastore, 1) := by decide +kernel
theorem d_Voice_addEvent_257 : decode prog_12_method_8_code 257 = .ok (.aload_n 0, 1) := by decide +kernel
theorem d_Voice_addEvent_258 : decode prog_12_method_8_code 258 = .ok (.getfield 37, 3) := by decide +kernel
theorem d_Voice_addEvent_261 : decode prog_12_method_8_code 261 = .ok (.aload_n 0, 1) := by decide +kernel
theorem d_Voice_addEvent_262 : decode prog_12_method_8_code 262 = .ok (.getfield 60, 3) := by decide +kernel
theorem d_Voice_addEvent_265 : decode prog_12_method_8_code 265 = .ok (.laload, 1) := by decide +kernel
theorem d_Voice_addEvent_266 : decode prog_12_method_8_code 266 = .ok (.aload_n 0, 1) := by decide +kernel
theorem d_Voice_addEvent_267 : decode prog_12_method_8_code 267 = .ok (.getfield 41, 3) := by decide +kernel
theorem d_Voice_addEvent_270 : decode prog_12_method_8_code 270 = .ok (.aload_n 0, 1) := by decide +kernel
theorem d_Voice_addEvent_271 : decode prog_12_method_8_code 271 = .ok (.getfield 60, 3) := by decide +kernel
theorem d_Voice_addEvent_274 : decode prog_12_method_8_code 274 = .ok (.laload, 1) := by decide +kernel
theorem d_Voice_addEvent_275 : decode prog_12_method_8_code 275 = .ok (.invokestatic 72, 3) := by decide +kernel
theorem d_Voice_addEvent_278 : decode prog_12_method_8_code 278 = .ok (.ireturn, 1) := by decide +kernel
theorem d_Voice_addEvent_146 : decode prog_12_method_8_code 146 = .ok (.iconst 0, 1) := by decide +kernel
theorem d_Voice_addEvent_147 : decode prog_12_method_8_code 147 = .ok (.ireturn, 1) := by decide +kernel
def m_Voice_signsOf : mr_T := (⟨"PlainMusic$Voice", "signsOf", "(I)I"⟩, prog_12_method_22_code, 6, some .int)
theorem d_Voice_signsOf_0 : decode prog_12_method_22_code 0 = .ok (.iconst 0, 1) := by decide +kernel
theorem d_Voice_signsOf_1 : decode prog_12_method_22_code 1 = .ok (.istore_n 2, 1) := by decide +kernel
theorem d_Voice_signsOf_2 : decode prog_12_method_22_code 2 = .ok (.iconst 0, 1) := by decide +kernel
theorem d_Voice_signsOf_3 : decode prog_12_method_22_code 3 = .ok (.istore_n 3, 1) := by decide +kernel
theorem d_Voice_signsOf_4 : decode prog_12_method_22_code 4 = .ok (.iload_n 3, 1) := by decide +kernel
theorem d_Voice_signsOf_5 : decode prog_12_method_22_code 5 = .ok (.aload_n 0, 1) := by decide +kernel
theorem d_Voice_signsOf_6 : decode prog_12_method_22_code 6 = .ok (.iload_n 1, 1) := by decide +kernel
theorem d_Voice_signsOf_7 : decode prog_12_method_22_code 7 = .ok (.invokevirtual 80, 3) := by decide +kernel
theorem d_Voice_signsOf_10 : decode prog_12_method_22_code 10 = .ok (.if_icmp .ge 56, 3) := by decide +kernel
theorem d_Voice_signsOf_66 : decode prog_12_method_22_code 66 = .ok (.iload_n 2, 1) := by decide +kernel
theorem d_Voice_signsOf_67 : decode prog_12_method_22_code 67 = .ok (.ireturn, 1) := by decide +kernel
theorem d_Voice_signsOf_13 : decode prog_12_method_22_code 13 = .ok (.aload_n 0, 1) := by decide +kernel
theorem d_Voice_signsOf_14 : decode prog_12_method_22_code 14 = .ok (.iload_n 1, 1) := by decide +kernel
theorem d_Voice_signsOf_15 : decode prog_12_method_22_code 15 = .ok (.iload_n 3, 1) := by decide +kernel
theorem d_Voice_signsOf_16 : decode prog_12_method_22_code 16 = .ok (.invokevirtual 98, 3) := by decide +kernel
theorem k_Voice_stepOf : mt_OK m_Voice_stepOf 2 1 := ⟨gwi_1071, gwi_139, ⟨by decide +kernel, by decide +kernel, by decide +kernel⟩, fun h => absurd h (by decide), fun _ => ⟨gwi_1069, gwi_1070⟩, fun h => absurd h (by decide)⟩
theorem l_Voice_98 : ml_OK "PlainMusic$Voice" 98 ⟨"PlainMusic$Voice", "stepOf", "(II)I"⟩ := Or.inl gwi_1223
theorem d_Voice_signsOf_19 : decode prog_12_method_22_code 19 = .ok (.istore 4, 2) := by decide +kernel
theorem d_Voice_signsOf_21 : decode prog_12_method_22_code 21 = .ok (.bipush 12, 2) := by decide +kernel
theorem d_Voice_signsOf_23 : decode prog_12_method_22_code 23 = .ok (.iload 4, 2) := by decide +kernel
theorem d_Voice_signsOf_25 : decode prog_12_method_22_code 25 = .ok (.bipush 7, 2) := by decide +kernel
theorem d_Voice_signsOf_27 : decode prog_12_method_22_code 27 = .ok (.invokestatic 101, 3) := by decide +kernel
theorem k_JMath_floorDiv : mt_OK m_JMath_floorDiv 2 0 := ⟨gwi_1226, gwi_147, ⟨by decide +kernel, by decide +kernel, by decide +kernel⟩, fun _ => gwi_1225, fun h => absurd h (by decide), fun h => absurd h (by decide)⟩
theorem l_Voice_101 : ml_OK "PlainMusic$Voice" 101 ⟨"java/lang/Math", "floorDiv", "(II)I"⟩ := Or.inl gwi_1224
theorem d_Voice_signsOf_30 : decode prog_12_method_22_code 30 = .ok (.imul, 1) := by decide +kernel
theorem d_Voice_signsOf_31 : decode prog_12_method_22_code 31 = .ok (.getstatic 106, 3) := by decide +kernel
theorem gs_Voice_106 : Cond.fieldLink "PlainMusic$Voice" 106 "PlainMusic" "NATURALS" "[I" ∈ gw ∨ ∃ host, Cond.fieldLinkNest "PlainMusic$Voice" 106 "PlainMusic" "NATURALS" "[I" host ∈ lw_tbl := Or.inr ⟨"PlainMusic", (List.mem_of_getElem? (i := 1227) (by decide +kernel))⟩
theorem d_Voice_signsOf_34 : decode prog_12_method_22_code 34 = .ok (.iload 4, 2) := by decide +kernel
theorem d_Voice_signsOf_36 : decode prog_12_method_22_code 36 = .ok (.bipush 7, 2) := by decide +kernel
theorem d_Voice_signsOf_38 : decode prog_12_method_22_code 38 = .ok (.invokestatic 109, 3) := by decide +kernel
theorem k_JMath_floorMod : mt_OK m_JMath_floorMod 2 0 := ⟨gwi_679, gwi_147, ⟨by decide +kernel, by decide +kernel, by decide +kernel⟩, fun _ => gwi_678, fun h => absurd h (by decide), fun h => absurd h (by decide)⟩
theorem l_Voice_109 : ml_OK "PlainMusic$Voice" 109 ⟨"java/lang/Math", "floorMod", "(II)I"⟩ := Or.inl gwi_1228
theorem d_Voice_signsOf_41 : decode prog_12_method_22_code 41 = .ok (.iaload, 1) := by decide +kernel
theorem d_Voice_signsOf_42 : decode prog_12_method_22_code 42 = .ok (.iadd, 1) := by decide +kernel
theorem d_Voice_signsOf_43 : decode prog_12_method_22_code 43 = .ok (.istore 5, 2) := by decide +kernel
theorem d_Voice_signsOf_45 : decode prog_12_method_22_code 45 = .ok (.iload_n 2, 1) := by decide +kernel
theorem d_Voice_signsOf_46 : decode prog_12_method_22_code 46 = .ok (.aload_n 0, 1) := by decide +kernel
theorem d_Voice_signsOf_47 : decode prog_12_method_22_code 47 = .ok (.iload_n 1, 1) := by decide +kernel
theorem d_Voice_signsOf_48 : decode prog_12_method_22_code 48 = .ok (.iload_n 3, 1) := by decide +kernel
theorem d_Voice_signsOf_49 : decode prog_12_method_22_code 49 = .ok (.invokevirtual 91, 3) := by decide +kernel
theorem d_Voice_signsOf_52 : decode prog_12_method_22_code 52 = .ok (.iload 5, 2) := by decide +kernel
theorem d_Voice_signsOf_54 : decode prog_12_method_22_code 54 = .ok (.isub, 1) := by decide +kernel
theorem d_Voice_signsOf_55 : decode prog_12_method_22_code 55 = .ok (.invokestatic 112, 3) := by decide +kernel
theorem ma_abs : Cond.static Lib.Math.abs.name ∈ gw ∧ Cond.initialized "java/lang/Math" ∈ gw ∧ Cond.code Lib.Math.abs.name Lib.Math.abs.code 1 (some .int) ∈ gw := ⟨gwi_1131, gwi_147, gwi_1132⟩
theorem lm_Voice_112 : Cond.methodLink "PlainMusic$Voice" 112 Lib.Math.abs.name ∈ gw := gwi_1229
theorem d_Voice_signsOf_58 : decode prog_12_method_22_code 58 = .ok (.iadd, 1) := by decide +kernel
theorem d_Voice_signsOf_59 : decode prog_12_method_22_code 59 = .ok (.istore_n 2, 1) := by decide +kernel
theorem d_Voice_signsOf_60 : decode prog_12_method_22_code 60 = .ok (.iinc 3 1, 3) := by decide +kernel
theorem d_Voice_signsOf_63 : decode prog_12_method_22_code 63 = .ok (.goto (-59), 3) := by decide +kernel
theorem s_Voice_pitchesOf {G : cx_T} {s : Nat} {h : ah_T} (hx : xi s h) {a0 : Nat} {a1 : Int} (ha0 : isV a0) (la1 : 0 ≤ a1) (ua1 : a1 ≤ 299) : con G 0 0 0 m_Voice_pitchesOf [av_R (some a0), av_I a1] h (fun r h' => ∃ z, r = some (av_I z) ∧ ((-300) ≤ z ∧ z ≤ 300) ∧ h = h') := by
  refine con_of (L := [some (av_R (some a0)), some (av_I a1), none]) (by decide +kernel) (Nat.le_of_ble_eq_true rfl) rfl ?_
  have hS : isS s := hx.2.1
  have hs0 : s = 17 ∨ s = 80 := hS
  have hs0b : 17 ≤ s ∧ s ≤ 80 := by omega
  have ga0 := lt_V ha0
  refine A_aload_n 0 d_Voice_pitchesOf_0 rfl rfl ?_
  refine A_getAv (z := some (a0 + 7)) T_ok d_Voice_pitchesOf_1 f_Voice_31 (xs_V hx ha0) (xr_V_8 hx ha0) ?_
  refine A_iload_n 1 d_Voice_pitchesOf_4 rfl rfl ?_
  refine A_ialoadn (lo := 0) (hi := 299) d_Voice_pitchesOf_5 (xs_V_8 hx ha0) (by omega) (by omega) (xi_g hx (lt2_V ha0 (by decide)) (rg_V_8 ha0 _)) (fun x2 ex2 _ _ => ?_)
  refine A_istore_n 2 (L' := [some (av_R (some a0)), some (av_I a1), some (av_I x2)]) d_Voice_pitchesOf_6 rfl (Nat.le_of_ble_eq_true rfl) rfl ?_
  refine A_pc (pc' := 7) rfl ?_
  refine A_aload_n 0 d_Voice_pitchesOf_7 rfl rfl ?_
  refine A_getAv (z := some (a0 + 3)) T_ok d_Voice_pitchesOf_8 f_Voice_18 (xs_V hx ha0) (xr_V_3 hx ha0) ?_
  refine A_iload_n 2 d_Voice_pitchesOf_11 rfl rfl ?_
  refine A_iconst d_Voice_pitchesOf_12 rfl ?_
  refine A_iaddv (z := (x2 + 1)) d_Voice_pitchesOf_13 (w32_to (by omega) (by unfold i32; omega)) ?_
  refine A_ialoadn (lo := 0) (hi := 300) d_Voice_pitchesOf_14 (xs_V_3 hx ha0) (by omega) (by omega) (xi_g hx (lt2_V ha0 (by decide)) (rg_V_3 ha0 _)) (fun x4 ex4 _ _ => ?_)
  refine A_pc (pc' := 15) rfl ?_
  refine A_aload_n 0 d_Voice_pitchesOf_15 rfl rfl ?_
  refine A_getAv (z := some (a0 + 3)) T_ok d_Voice_pitchesOf_16 f_Voice_18 (xs_V hx ha0) (xr_V_3 hx ha0) ?_
  refine A_iload_n 2 d_Voice_pitchesOf_19 rfl rfl ?_
  refine A_ialoadn (lo := 0) (hi := 300) d_Voice_pitchesOf_20 (xs_V_3 hx ha0) (by omega) (by omega) (xi_g hx (lt2_V ha0 (by decide)) (rg_V_3 ha0 _)) (fun x6 ex6 _ _ => ?_)
  refine A_isubv (z := (x4 - x6)) d_Voice_pitchesOf_21 (w32_to (by omega) (by unfold i32; omega)) ?_
  exact A_iret d_Voice_pitchesOf_22 (by decide) rfl ⟨_, rfl, ⟨by omega, by omega⟩, rfl⟩
theorem s_Voice_isRest {G : cx_T} {s : Nat} {h : ah_T} (hx : xi s h) {a0 : Nat} {a1 : Int} (ha0 : isV a0) (la1 : 0 ≤ a1) (ua1 : a1 ≤ 299) : con G 1 0 0 m_Voice_isRest [av_R (some a0), av_I a1] h (fun r h' => ∃ z, r = some (av_I z) ∧ (z = 0 ∨ z = 1) ∧ h = h') := by
  refine con_of (L := [some (av_R (some a0)), some (av_I a1)]) (by decide +kernel) (Nat.le_of_ble_eq_true rfl) rfl ?_
  have hS : isS s := hx.2.1
  have hs0 : s = 17 ∨ s = 80 := hS
  have hs0b : 17 ≤ s ∧ s ≤ 80 := by omega
  have ga0 := lt_V ha0
  refine A_aload_n 0 d_Voice_isRest_0 rfl rfl ?_
  refine A_iload_n 1 d_Voice_isRest_1 rfl rfl ?_
  refine A_callV1 m_Voice_pitchesOf T_ok d_Voice_isRest_2 l_Voice_80 k_Voice_pitchesOf (xs_V hx ha0) rfl (by decide +kernel) (by decide) (Nat.le_of_ble_eq_true rfl) (s_Voice_pitchesOf hx ha0 (by omega) (by omega)) (fun r h1 hq => ?_)
  obtain ⟨x3, rfl, ⟨_, _⟩, rfl⟩ := hq
  refine A_if_ne (tgt := 12) d_Voice_isRest_5 (by decide) (fun c4 => ?_) (fun c4 => ?_)
  · refine A_iconst d_Voice_isRest_12 rfl ?_
    exact A_zret d_Voice_isRest_13 (by decide) rfl (by omega) ⟨_, rfl, by omega, rfl⟩
  · refine A_iconst d_Voice_isRest_8 rfl ?_
    refine A_goto (tgt := 13) d_Voice_isRest_9 (by decide) ?_
    exact A_zret d_Voice_isRest_13 (by decide) rfl (by omega) ⟨_, rfl, by omega, rfl⟩
theorem s_Voice_keyOf {G : cx_T} {s : Nat} {h : ah_T} (hx : xi s h) {a0 : Nat} {a1 : Int} {a2 : Int} (ha0 : isV a0) (la1 : 0 ≤ a1) (ua1 : a1 ≤ 299) : con G 0 0 0 m_Voice_keyOf [av_R (some a0), av_I a1, av_I a2] h (fun r h' => ∃ z, r = some (av_I z) ∧ ((-2147483648) ≤ z ∧ z ≤ 2147483647) ∧ h = h') := by
  refine con_of (L := [some (av_R (some a0)), some (av_I a1), some (av_I a2), none]) (by decide +kernel) (Nat.le_of_ble_eq_true rfl) rfl ?_
  have hS : isS s := hx.2.1
  have hs0 : s = 17 ∨ s = 80 := hS
  have hs0b : 17 ≤ s ∧ s ≤ 80 := by omega
  have ga0 := lt_V ha0
  refine A_locI 2 rfl (fun ra => ?_)
  obtain ⟨_, _⟩ := ra
  refine A_aload_n 0 d_Voice_keyOf_0 rfl rfl ?_
  refine A_getAv (z := some (a0 + 3)) T_ok d_Voice_keyOf_1 f_Voice_18 (xs_V hx ha0) (xr_V_3 hx ha0) ?_
  refine A_aload_n 0 d_Voice_keyOf_4 rfl rfl ?_
  refine A_getAv (z := some (a0 + 7)) T_ok d_Voice_keyOf_5 f_Voice_31 (xs_V hx ha0) (xr_V_8 hx ha0) ?_
  refine A_iload_n 1 d_Voice_keyOf_8 rfl rfl ?_
  refine A_pc (pc' := 9) rfl ?_
  refine A_ialoadn (lo := 0) (hi := 299) d_Voice_keyOf_9 (xs_V_8 hx ha0) (by omega) (by omega) (xi_g hx (lt2_V ha0 (by decide)) (rg_V_8 ha0 _)) (fun x3 ex3 _ _ => ?_)
  refine A_ialoadn (lo := 0) (hi := 300) d_Voice_keyOf_10 (xs_V_3 hx ha0) (by omega) (by omega) (xi_g hx (lt2_V ha0 (by decide)) (rg_V_3 ha0 _)) (fun x4 ex4 _ _ => ?_)
  refine A_iload_n 2 d_Voice_keyOf_11 rfl rfl ?_
  refine A_iaddw d_Voice_keyOf_12 (fun x5 _ _ _ => ?_)
  refine A_istore_n 3 (L' := [some (av_R (some a0)), some (av_I a1), some (av_I a2), some (av_I x5)]) d_Voice_keyOf_13 rfl (Nat.le_of_ble_eq_true rfl) rfl ?_
  refine A_iload_n 3 d_Voice_keyOf_14 rfl rfl ?_
  refine A_pc (pc' := 15) rfl ?_
  refine A_if_lt (tgt := 36) d_Voice_keyOf_15 (by decide) (fun c6 => ?_) (fun c6 => ?_)
  · refine A_iconst d_Voice_keyOf_36 rfl ?_
    exact A_iret d_Voice_keyOf_37 (by decide) rfl ⟨_, rfl, ⟨by omega, by omega⟩, rfl⟩
  · refine A_iload_n 3 d_Voice_keyOf_18 rfl rfl ?_
    refine A_aload_n 0 d_Voice_keyOf_19 rfl rfl ?_
    refine A_getAv (z := some (a0 + 1)) T_ok d_Voice_keyOf_20 f_Voice_9 (xs_V hx ha0) (xr_V_0 hx ha0) ?_
    refine A_alenN d_Voice_keyOf_23 (xs_V_0 hx ha0) (by decide) (by decide) ?_
    refine A_icmp_ge (tgt := 36) d_Voice_keyOf_24 (by decide) (fun c8 => ?_) (fun c8 => ?_)
    · refine A_iconst d_Voice_keyOf_36 rfl ?_
      exact A_iret d_Voice_keyOf_37 (by decide) rfl ⟨_, rfl, ⟨by omega, by omega⟩, rfl⟩
    · refine A_aload_n 0 d_Voice_keyOf_27 rfl rfl ?_
      refine A_getAv (z := some (a0 + 1)) T_ok d_Voice_keyOf_28 f_Voice_9 (xs_V hx ha0) (xr_V_0 hx ha0) ?_
      refine A_iload_n 3 d_Voice_keyOf_31 rfl rfl ?_
      refine A_ialoadf d_Voice_keyOf_32 (xs_V_0 hx ha0) (by omega) (by omega) (fun x10 ex10 _ _ => ?_)
      refine A_goto (tgt := 37) d_Voice_keyOf_33 (by decide) ?_
      exact A_iret d_Voice_keyOf_37 (by decide) rfl ⟨_, rfl, ⟨by omega, by omega⟩, rfl⟩
theorem s_Voice_stepOf {G : cx_T} {s : Nat} {h : ah_T} (hx : xi s h) {a0 : Nat} {a1 : Int} {a2 : Int} (ha0 : isV a0) (la1 : 0 ≤ a1) (ua1 : a1 ≤ 299) : con G 0 0 0 m_Voice_stepOf [av_R (some a0), av_I a1, av_I a2] h (fun r h' => ∃ z, r = some (av_I z) ∧ ((-2147483648) ≤ z ∧ z ≤ 2147483647) ∧ h = h') := by
  refine con_of (L := [some (av_R (some a0)), some (av_I a1), some (av_I a2), none]) (by decide +kernel) (Nat.le_of_ble_eq_true rfl) rfl ?_
  have hS : isS s := hx.2.1
  have hs0 : s = 17 ∨ s = 80 := hS
  have hs0b : 17 ≤ s ∧ s ≤ 80 := by omega
  have ga0 := lt_V ha0
  refine A_locI 2 rfl (fun ra => ?_)
  obtain ⟨_, _⟩ := ra
  refine A_aload_n 0 d_Voice_stepOf_0 rfl rfl ?_
  refine A_getAv (z := some (a0 + 3)) T_ok d_Voice_stepOf_1 f_Voice_18 (xs_V hx ha0) (xr_V_3 hx ha0) ?_
  refine A_aload_n 0 d_Voice_stepOf_4 rfl rfl ?_
  refine A_getAv (z := some (a0 + 7)) T_ok d_Voice_stepOf_5 f_Voice_31 (xs_V hx ha0) (xr_V_8 hx ha0) ?_
  refine A_iload_n 1 d_Voice_stepOf_8 rfl rfl ?_
  refine A_pc (pc' := 9) rfl ?_
  refine A_ialoadn (lo := 0) (hi := 299) d_Voice_stepOf_9 (xs_V_8 hx ha0) (by omega) (by omega) (xi_g hx (lt2_V ha0 (by decide)) (rg_V_8 ha0 _)) (fun x3 ex3 _ _ => ?_)
  refine A_ialoadn (lo := 0) (hi := 300) d_Voice_stepOf_10 (xs_V_3 hx ha0) (by omega) (by omega) (xi_g hx (lt2_V ha0 (by decide)) (rg_V_3 ha0 _)) (fun x4 ex4 _ _ => ?_)
  refine A_iload_n 2 d_Voice_stepOf_11 rfl rfl ?_
  refine A_iaddw d_Voice_stepOf_12 (fun x5 _ _ _ => ?_)
  refine A_istore_n 3 (L' := [some (av_R (some a0)), some (av_I a1), some (av_I a2), some (av_I x5)]) d_Voice_stepOf_13 rfl (Nat.le_of_ble_eq_true rfl) rfl ?_
  refine A_iload_n 3 d_Voice_stepOf_14 rfl rfl ?_
  refine A_pc (pc' := 15) rfl ?_
  refine A_if_lt (tgt := 36) d_Voice_stepOf_15 (by decide) (fun c6 => ?_) (fun c6 => ?_)
  · refine A_iconst d_Voice_stepOf_36 rfl ?_
    exact A_iret d_Voice_stepOf_37 (by decide) rfl ⟨_, rfl, ⟨by omega, by omega⟩, rfl⟩
  · refine A_iload_n 3 d_Voice_stepOf_18 rfl rfl ?_
    refine A_aload_n 0 d_Voice_stepOf_19 rfl rfl ?_
    refine A_getAv (z := some (a0 + 2)) T_ok d_Voice_stepOf_20 f_Voice_15 (xs_V hx ha0) (xr_V_1 hx ha0) ?_
    refine A_alenN d_Voice_stepOf_23 (xs_V_1 hx ha0) (by decide) (by decide) ?_
    refine A_icmp_ge (tgt := 36) d_Voice_stepOf_24 (by decide) (fun c8 => ?_) (fun c8 => ?_)
    · refine A_iconst d_Voice_stepOf_36 rfl ?_
      exact A_iret d_Voice_stepOf_37 (by decide) rfl ⟨_, rfl, ⟨by omega, by omega⟩, rfl⟩
    · refine A_aload_n 0 d_Voice_stepOf_27 rfl rfl ?_
      refine A_getAv (z := some (a0 + 2)) T_ok d_Voice_stepOf_28 f_Voice_15 (xs_V hx ha0) (xr_V_1 hx ha0) ?_
      refine A_iload_n 3 d_Voice_stepOf_31 rfl rfl ?_
      refine A_ialoadf d_Voice_stepOf_32 (xs_V_1 hx ha0) (by omega) (by omega) (fun x10 ex10 _ _ => ?_)
      refine A_goto (tgt := 37) d_Voice_stepOf_33 (by decide) ?_
      exact A_iret d_Voice_stepOf_37 (by decide) rfl ⟨_, rfl, ⟨by omega, by omega⟩, rfl⟩
theorem s_Voice_lowestKey {G : cx_T} {s : Nat} {h : ah_T} (hx : xi s h) {a0 : Nat} {a1 : Int} (ha0 : isV a0) (la1 : 0 ≤ a1) (ua1 : a1 ≤ 299) : con G 1 0 0 m_Voice_lowestKey [av_R (some a0), av_I a1] h (fun r h' => ∃ z, r = some (av_I z) ∧ ((-2147483648) ≤ z ∧ z ≤ 2147483647) ∧ h = h') := by
  refine con_of (L := [some (av_R (some a0)), some (av_I a1)]) (by decide +kernel) (Nat.le_of_ble_eq_true rfl) rfl ?_
  have hS : isS s := hx.2.1
  have hs0 : s = 17 ∨ s = 80 := hS
  have hs0b : 17 ≤ s ∧ s ≤ 80 := by omega
  have ga0 := lt_V ha0
  refine A_aload_n 0 d_Voice_lowestKey_0 rfl rfl ?_
  refine A_iload_n 1 d_Voice_lowestKey_1 rfl rfl ?_
  refine A_iconst d_Voice_lowestKey_2 rfl ?_
  refine A_callV2 m_Voice_keyOf T_ok d_Voice_lowestKey_3 l_Voice_91 k_Voice_keyOf (xs_V hx ha0) rfl (by decide +kernel) (by decide) (Nat.le_of_ble_eq_true rfl) (s_Voice_keyOf hx ha0 (by omega) (by omega)) (fun r h1 hq => ?_)
  obtain ⟨x3, rfl, ⟨_, _⟩, rfl⟩ := hq
  exact A_iret d_Voice_lowestKey_6 (by decide) rfl ⟨_, rfl, ⟨by omega, by omega⟩, rfl⟩
theorem s_Voice_highestKey {G : cx_T} {s : Nat} {h : ah_T} (hx : xi s h) {a0 : Nat} {a1 : Int} (ha0 : isV a0) (la1 : 0 ≤ a1) (ua1 : a1 ≤ 299) : con G 1 0 0 m_Voice_highestKey [av_R (some a0), av_I a1] h (fun r h' => ∃ z, r = some (av_I z) ∧ ((-2147483648) ≤ z ∧ z ≤ 2147483647) ∧ h = h') := by
  refine con_of (L := [some (av_R (some a0)), some (av_I a1)]) (by decide +kernel) (Nat.le_of_ble_eq_true rfl) rfl ?_
  have hS : isS s := hx.2.1
  have hs0 : s = 17 ∨ s = 80 := hS
  have hs0b : 17 ≤ s ∧ s ≤ 80 := by omega
  have ga0 := lt_V ha0
  refine A_aload_n 0 d_Voice_highestKey_0 rfl rfl ?_
  refine A_iload_n 1 d_Voice_highestKey_1 rfl rfl ?_
  refine A_aload_n 0 d_Voice_highestKey_2 rfl rfl ?_
  refine A_iload_n 1 d_Voice_highestKey_3 rfl rfl ?_
  refine A_callV1 m_Voice_pitchesOf T_ok d_Voice_highestKey_4 l_Voice_80 k_Voice_pitchesOf (xs_V hx ha0) rfl (by decide +kernel) (by decide) (Nat.le_of_ble_eq_true rfl) (s_Voice_pitchesOf hx ha0 (by omega) (by omega)) (fun r h1 hq => ?_)
  obtain ⟨x3, rfl, ⟨_, _⟩, rfl⟩ := hq
  refine A_iconst d_Voice_highestKey_7 rfl ?_
  refine A_isubv (z := (x3 - 1)) d_Voice_highestKey_8 (w32_to (by omega) (by unfold i32; omega)) ?_
  refine A_callV2 m_Voice_keyOf T_ok d_Voice_highestKey_9 l_Voice_91 k_Voice_keyOf (xs_V hx ha0) rfl (by decide +kernel) (by decide) (Nat.le_of_ble_eq_true rfl) (s_Voice_keyOf hx ha0 (by omega) (by omega)) (fun r h4 hq => ?_)
  obtain ⟨x6, rfl, ⟨_, _⟩, rfl⟩ := hq
  exact A_iret d_Voice_highestKey_12 (by decide) rfl ⟨_, rfl, ⟨by omega, by omega⟩, rfl⟩
theorem s_Voice_hasKey {G : cx_T} {s : Nat} {h : ah_T} (hx : xi s h) {a0 : Nat} {a1 : Int} {a2 : Int} (ha0 : isV a0) (la1 : 0 ≤ a1) (ua1 : a1 ≤ 299) : con G 1 0 0 m_Voice_hasKey [av_R (some a0), av_I a1, av_I a2] h (fun r h' => ∃ z, r = some (av_I z) ∧ (z = 0 ∨ z = 1) ∧ h = h') := by
  refine con_of (L := [some (av_R (some a0)), some (av_I a1), some (av_I a2), none]) (by decide +kernel) (Nat.le_of_ble_eq_true rfl) rfl ?_
  have hS : isS s := hx.2.1
  have hs0 : s = 17 ∨ s = 80 := hS
  have hs0b : 17 ≤ s ∧ s ≤ 80 := by omega
  have ga0 := lt_V ha0
  refine A_locI 2 rfl (fun ra => ?_)
  obtain ⟨_, _⟩ := ra
  refine A_iconst d_Voice_hasKey_0 rfl ?_
  refine A_istore_n 3 (L' := [some (av_R (some a0)), some (av_I a1), some (av_I a2), some (av_I 0)]) d_Voice_hasKey_1 rfl (Nat.le_of_ble_eq_true rfl) rfl ?_
  have lp2 : ∀ (n : Nat) (i1 : Int) , 0 ≤ i1 → i1 ≤ 300 → (301 - i1).toNat < n → aw G (rm_R 1 0 0) m_Voice_hasKey 0 0 2 [some (av_R (some a0)), some (av_I a1), some (av_I a2), some (av_I i1)] [] h (fun r h' => ∃ z, r = some (av_I z) ∧ (z = 0 ∨ z = 1) ∧ h = h') := by
    intro n
    induction n with
    | zero => intro i1 _ _ hm; omega
    | succ n ih2 =>
      intro i1 hl0 hl1 hm
      refine A_iload_n 3 d_Voice_hasKey_2 rfl rfl ?_
      refine A_aload_n 0 d_Voice_hasKey_3 rfl rfl ?_
      refine A_iload_n 1 d_Voice_hasKey_4 rfl rfl ?_
      refine A_callV1 m_Voice_pitchesOf T_ok d_Voice_hasKey_5 l_Voice_80 k_Voice_pitchesOf (xs_V hx ha0) rfl (by decide +kernel) (by decide) (Nat.le_of_ble_eq_true rfl) (s_Voice_pitchesOf hx ha0 (by omega) (by omega)) (fun r h2 hq => ?_)
      obtain ⟨x4, rfl, ⟨_, _⟩, rfl⟩ := hq
      refine A_icmp_ge (tgt := 29) d_Voice_hasKey_8 (by decide) (fun c5 => ?_) (fun c5 => ?_)
      · refine A_iconst d_Voice_hasKey_29 rfl ?_
        exact A_zret d_Voice_hasKey_30 (by decide) rfl (by omega) ⟨_, rfl, by omega, rfl⟩
      · refine A_aload_n 0 d_Voice_hasKey_11 rfl rfl ?_
        refine A_iload_n 1 d_Voice_hasKey_12 rfl rfl ?_
        refine A_iload_n 3 d_Voice_hasKey_13 rfl rfl ?_
        refine A_callV2 m_Voice_keyOf T_ok d_Voice_hasKey_14 l_Voice_91 k_Voice_keyOf (xs_V hx ha0) rfl (by decide +kernel) (by decide) (Nat.le_of_ble_eq_true rfl) (s_Voice_keyOf hx ha0 (by omega) (by omega)) (fun r h6 hq => ?_)
        obtain ⟨x8, rfl, ⟨_, _⟩, rfl⟩ := hq
        refine A_iload_n 2 d_Voice_hasKey_17 rfl rfl ?_
        refine A_icmp_ne (tgt := 23) d_Voice_hasKey_18 (by decide) (fun c9 => ?_) (fun c9 => ?_)
        · refine A_iincv (z := (i1 + 1)) (L' := [some (av_R (some a0)), some (av_I a1), some (av_I a2), some (av_I (i1 + 1))]) d_Voice_hasKey_23 rfl (w32_to (by omega) (by unfold i32; omega)) rfl ?_
          refine A_goto (tgt := 2) d_Voice_hasKey_26 (by decide) ?_
          exact ih2 (i1 + 1) (by omega) (by omega) (by omega)
        · refine A_iconst d_Voice_hasKey_21 rfl ?_
          exact A_zret d_Voice_hasKey_22 (by decide) rfl (by omega) ⟨_, rfl, by omega, rfl⟩
  exact lp2 _ 0 (by omega) (by omega) (Nat.lt_succ_self _)
theorem s_Voice_numberOf {G : cx_T} {s : Nat} {h : ah_T} (hx : xi s h) {a0 : Nat} {a1 : Int} (ha0 : isV a0) (la1 : 0 ≤ a1) (ua1 : a1 ≤ 299) : con G 0 0 0 m_Voice_numberOf [av_R (some a0), av_I a1] h (fun r h' => ∃ z, r = some (av_I z) ∧ ((-2147483648) ≤ z ∧ z ≤ 2147483647) ∧ h = h') := by
  refine con_of (L := [some (av_R (some a0)), some (av_I a1)]) (by decide +kernel) (Nat.le_of_ble_eq_true rfl) rfl ?_
  have hS : isS s := hx.2.1
  have hs0 : s = 17 ∨ s = 80 := hS
  have hs0b : 17 ≤ s ∧ s ≤ 80 := by omega
  have ga0 := lt_V ha0
  refine A_aload_n 0 d_Voice_numberOf_0 rfl rfl ?_
  refine A_getAv (z := some (a0 + 4)) T_ok d_Voice_numberOf_1 f_Voice_21 (xs_V hx ha0) (xr_V_4 hx ha0) ?_
  refine A_aload_n 0 d_Voice_numberOf_4 rfl rfl ?_
  refine A_getAv (z := some (a0 + 7)) T_ok d_Voice_numberOf_5 f_Voice_31 (xs_V hx ha0) (xr_V_8 hx ha0) ?_
  refine A_iload_n 1 d_Voice_numberOf_8 rfl rfl ?_
  refine A_pc (pc' := 9) rfl ?_
  refine A_ialoadn (lo := 0) (hi := 299) d_Voice_numberOf_9 (xs_V_8 hx ha0) (by omega) (by omega) (xi_g hx (lt2_V ha0 (by decide)) (rg_V_8 ha0 _)) (fun x3 ex3 _ _ => ?_)
  refine A_ialoadn (lo := 0) (hi := 64) d_Voice_numberOf_10 (xs_V_4 hx ha0) (by omega) (by omega) (xi_g hx (lt2_V ha0 (by decide)) (rg_V_4 ha0 _)) (fun x4 ex4 _ _ => ?_)
  exact A_iret d_Voice_numberOf_11 (by decide) rfl ⟨_, rfl, ⟨by omega, by omega⟩, rfl⟩
theorem s_Voice_isTied {G : cx_T} {s : Nat} {h : ah_T} (hx : xi s h) {a0 : Nat} {a1 : Int} (ha0 : isV a0) (la1 : 0 ≤ a1) (ua1 : a1 ≤ 299) : con G 0 0 0 m_Voice_isTied [av_R (some a0), av_I a1] h (fun r h' => ∃ z, r = some (av_I z) ∧ (z = 0 ∨ z = 1) ∧ h = h') := by
  refine con_of (L := [some (av_R (some a0)), some (av_I a1)]) (by decide +kernel) (Nat.le_of_ble_eq_true rfl) rfl ?_
  have hS : isS s := hx.2.1
  have hs0 : s = 17 ∨ s = 80 := hS
  have hs0b : 17 ≤ s ∧ s ≤ 80 := by omega
  have ga0 := lt_V ha0
  refine A_aload_n 0 d_Voice_isTied_0 rfl rfl ?_
  refine A_getAv (z := some (a0 + 6)) T_ok d_Voice_isTied_1 f_Voice_27 (xs_V hx ha0) (xr_V_6 hx ha0) ?_
  refine A_aload_n 0 d_Voice_isTied_4 rfl rfl ?_
  refine A_getAv (z := some (a0 + 7)) T_ok d_Voice_isTied_5 f_Voice_31 (xs_V hx ha0) (xr_V_8 hx ha0) ?_
  refine A_iload_n 1 d_Voice_isTied_8 rfl rfl ?_
  refine A_pc (pc' := 9) rfl ?_
  refine A_ialoadn (lo := 0) (hi := 299) d_Voice_isTied_9 (xs_V_8 hx ha0) (by omega) (by omega) (xi_g hx (lt2_V ha0 (by decide)) (rg_V_8 ha0 _)) (fun x3 ex3 _ _ => ?_)
  refine A_zaloadn d_Voice_isTied_10 (xs_V_6 hx ha0) (by omega) (by omega) (fun x4 ex4 bx4 => ?_)
  exact A_zret d_Voice_isTied_11 (by decide) rfl (by omega) ⟨_, rfl, by omega, rfl⟩
theorem s_Voice_isShort {G : cx_T} {s : Nat} {h : ah_T} (hx : xi s h) {a0 : Nat} {a1 : Int} (ha0 : isV a0) (la1 : 0 ≤ a1) (ua1 : a1 ≤ 299) : con G 2 0 0 m_Voice_isShort [av_R (some a0), av_I a1] h (fun r h' => ∃ z, r = some (av_I z) ∧ (z = 0 ∨ z = 1) ∧ h = h') := by
  refine con_of (L := [some (av_R (some a0)), some (av_I a1)]) (by decide +kernel) (Nat.le_of_ble_eq_true rfl) rfl ?_
  have hS : isS s := hx.2.1
  have hs0 : s = 17 ∨ s = 80 := hS
  have hs0b : 17 ≤ s ∧ s ≤ 80 := by omega
  have ga0 := lt_V ha0
  refine A_aload_n 0 d_Voice_isShort_0 rfl rfl ?_
  refine A_iload_n 1 d_Voice_isShort_1 rfl rfl ?_
  refine A_callV1 m_Voice_isRest T_ok d_Voice_isShort_2 l_Voice_95 k_Voice_isRest (xs_V hx ha0) rfl (by decide +kernel) (by decide) (Nat.le_of_ble_eq_true rfl) (s_Voice_isRest hx ha0 (by omega) (by omega)) (fun r h1 hq => ?_)
  obtain ⟨x3, rfl, bx3, rfl⟩ := hq
  refine A_if_ne (tgt := 22) d_Voice_isShort_5 (by decide) (fun c4 => ?_) (fun c4 => ?_)
  · refine A_iconst d_Voice_isShort_22 rfl ?_
    exact A_zret d_Voice_isShort_23 (by decide) rfl (by omega) ⟨_, rfl, by omega, rfl⟩
  · refine A_aload_n 0 d_Voice_isShort_8 rfl rfl ?_
    refine A_iload_n 1 d_Voice_isShort_9 rfl rfl ?_
    refine A_callV1 m_Voice_numberOf T_ok d_Voice_isShort_10 l_Voice_88 k_Voice_numberOf (xs_V hx ha0) rfl (by decide +kernel) (by decide) (Nat.le_of_ble_eq_true rfl) (s_Voice_numberOf hx ha0 (by omega) (by omega)) (fun r h5 hq => ?_)
    obtain ⟨x7, rfl, ⟨_, _⟩, rfl⟩ := hq
    refine A_bipush d_Voice_isShort_13 rfl ?_
    refine A_icmp_lt (tgt := 22) d_Voice_isShort_15 (by decide) (fun c8 => ?_) (fun c8 => ?_)
    · refine A_iconst d_Voice_isShort_22 rfl ?_
      exact A_zret d_Voice_isShort_23 (by decide) rfl (by omega) ⟨_, rfl, by omega, rfl⟩
    · refine A_iconst d_Voice_isShort_18 rfl ?_
      refine A_goto (tgt := 23) d_Voice_isShort_19 (by decide) ?_
      exact A_zret d_Voice_isShort_23 (by decide) rfl (by omega) ⟨_, rfl, by omega, rfl⟩
theorem s_Voice_isReached {G : cx_T} {s : Nat} {h : ah_T} (hx : xi s h) {a0 : Nat} {a1 : Int} {a2 : Int} {a3 : Int} (ha0 : isV a0) (la1 : 0 ≤ a1) (ua1 : a1 ≤ 300) : con G 0 0 0 m_Voice_isReached [av_R (some a0), av_I a1, av_L a2, av_L a3] h (fun r h' => ∃ z, r = some (av_I z) ∧ (z = 0 ∨ z = 1) ∧ h = h') := by
  refine con_of (L := [some (av_R (some a0)), some (av_I a1), some (av_L a2), none, some (av_L a3), none]) (by decide +kernel) (Nat.le_of_ble_eq_true rfl) rfl ?_
  have hS : isS s := hx.2.1
  have hs0 : s = 17 ∨ s = 80 := hS
  have hs0b : 17 ≤ s ∧ s ≤ 80 := by omega
  have ga0 := lt_V ha0
  refine A_locL 2 rfl (fun ra => ?_)
  obtain ⟨_, _⟩ := ra
  refine A_locL 4 rfl (fun ra => ?_)
  obtain ⟨_, _⟩ := ra
  refine A_lload_n 2 d_Voice_isReached_0 rfl rfl ?_
  refine A_aload_n 0 d_Voice_isReached_1 rfl rfl ?_
  refine A_getAv (z := some (a0 + 10)) T_ok d_Voice_isReached_2 f_Voice_41 (xs_V hx ha0) (xr_V_11 hx ha0) ?_
  refine A_iload_n 1 d_Voice_isReached_5 rfl rfl ?_
  refine A_laloadf d_Voice_isReached_6 (xs_V_11 hx ha0) (by omega) (by omega) (fun x2 ex2 _ _ => ?_)
  refine A_pc (pc' := 7) rfl ?_
  refine A_lmulw d_Voice_isReached_7 (fun x3 _ _ _ => ?_)
  refine A_ldc2 (z := 2) d_Voice_isReached_8 cst_Voice_66 rfl ?_
  refine A_aload_n 0 d_Voice_isReached_11 rfl rfl ?_
  refine A_getAv (z := some (a0 + 9)) T_ok d_Voice_isReached_12 f_Voice_37 (xs_V hx ha0) (xr_V_10 hx ha0) ?_
  refine A_iload_n 1 d_Voice_isReached_15 rfl rfl ?_
  refine A_laloadf d_Voice_isReached_16 (xs_V_10 hx ha0) (by omega) (by omega) (fun x5 ex5 _ _ => ?_)
  refine A_pc (pc' := 17) rfl ?_
  refine A_lmulw d_Voice_isReached_17 (fun x6 _ _ _ => ?_)
  refine A_lload d_Voice_isReached_18 rfl ?_
  refine A_lmulw d_Voice_isReached_20 (fun x7 _ _ _ => ?_)
  refine A_lcmpn d_Voice_isReached_21 (fun x8 lx8 ex8 gx8 _ _ => ?_)
  refine A_if_lt (tgt := 29) d_Voice_isReached_22 (by decide) (fun c9 => ?_) (fun c9 => ?_)
  · have mc9 : (x3 - x7) < 0 := by omega
    refine A_iconst d_Voice_isReached_29 rfl ?_
    exact A_zret d_Voice_isReached_30 (by decide) rfl (by omega) ⟨_, rfl, by omega, rfl⟩
  · have mc9 : (x3 - x7) ≥ 0 := by omega
    refine A_iconst d_Voice_isReached_25 rfl ?_
    refine A_goto (tgt := 30) d_Voice_isReached_26 (by decide) ?_
    exact A_zret d_Voice_isReached_30 (by decide) rfl (by omega) ⟨_, rfl, by omega, rfl⟩
theorem s_Voice_sinceBarTop {G : cx_T} {s : Nat} {h : ah_T} (hx : xi s h) {a0 : Nat} {a1 : Int} {a2 : Int} (ha0 : isV a0) (la1 : 0 ≤ a1) (ua1 : a1 ≤ 101) (la2 : 0 ≤ a2) (ua2 : a2 ≤ 300) : con G 0 0 0 m_Voice_sinceBarTop [av_R (some a0), av_I a1, av_I a2] h (fun r h' => ∃ z, r = some (av_L z) ∧ ((-9223372036854775808) ≤ z ∧ z ≤ 9223372036854775807) ∧ h = h') := by
  refine con_of (L := [some (av_R (some a0)), some (av_I a1), some (av_I a2), none]) (by decide +kernel) (Nat.le_of_ble_eq_true rfl) rfl ?_
  have hS : isS s := hx.2.1
  have hs0 : s = 17 ∨ s = 80 := hS
  have hs0b : 17 ≤ s ∧ s ≤ 80 := by omega
  have ga0 := lt_V ha0
  refine A_aload_n 0 d_Voice_sinceBarTop_0 rfl rfl ?_
  refine A_getAv (z := some (a0 + 13)) T_ok d_Voice_sinceBarTop_1 f_Voice_50 (xs_V hx ha0) (xr_V_15 hx ha0) ?_
  refine A_iload_n 1 d_Voice_sinceBarTop_4 rfl rfl ?_
  refine A_ialoadn (lo := 0) (hi := 300) d_Voice_sinceBarTop_5 (xs_V_15 hx ha0) (by omega) (by omega) (xi_g hx (lt2_V ha0 (by decide)) (rg_V_15 ha0 _)) (fun x2 ex2 _ _ => ?_)
  refine A_istore_n 3 (L' := [some (av_R (some a0)), some (av_I a1), some (av_I a2), some (av_I x2)]) d_Voice_sinceBarTop_6 rfl (Nat.le_of_ble_eq_true rfl) rfl ?_
  refine A_pc (pc' := 7) rfl ?_
  refine A_aload_n 0 d_Voice_sinceBarTop_7 rfl rfl ?_
  refine A_getAv (z := some (a0 + 9)) T_ok d_Voice_sinceBarTop_8 f_Voice_37 (xs_V hx ha0) (xr_V_10 hx ha0) ?_
  refine A_iload_n 2 d_Voice_sinceBarTop_11 rfl rfl ?_
  refine A_laloadf d_Voice_sinceBarTop_12 (xs_V_10 hx ha0) (by omega) (by omega) (fun x4 ex4 _ _ => ?_)
  refine A_aload_n 0 d_Voice_sinceBarTop_13 rfl rfl ?_
  refine A_getAv (z := some (a0 + 10)) T_ok d_Voice_sinceBarTop_14 f_Voice_41 (xs_V hx ha0) (xr_V_11 hx ha0) ?_
  refine A_pc (pc' := 17) rfl ?_
  refine A_iload_n 3 d_Voice_sinceBarTop_17 rfl rfl ?_
  refine A_laloadf d_Voice_sinceBarTop_18 (xs_V_11 hx ha0) (by omega) (by omega) (fun x6 ex6 _ _ => ?_)
  refine A_lmulw d_Voice_sinceBarTop_19 (fun x7 _ _ _ => ?_)
  refine A_aload_n 0 d_Voice_sinceBarTop_20 rfl rfl ?_
  refine A_getAv (z := some (a0 + 9)) T_ok d_Voice_sinceBarTop_21 f_Voice_37 (xs_V hx ha0) (xr_V_10 hx ha0) ?_
  refine A_iload_n 3 d_Voice_sinceBarTop_24 rfl rfl ?_
  refine A_pc (pc' := 25) rfl ?_
  refine A_laloadf d_Voice_sinceBarTop_25 (xs_V_10 hx ha0) (by omega) (by omega) (fun x9 ex9 _ _ => ?_)
  refine A_aload_n 0 d_Voice_sinceBarTop_26 rfl rfl ?_
  refine A_getAv (z := some (a0 + 10)) T_ok d_Voice_sinceBarTop_27 f_Voice_41 (xs_V hx ha0) (xr_V_11 hx ha0) ?_
  refine A_iload_n 2 d_Voice_sinceBarTop_30 rfl rfl ?_
  refine A_laloadf d_Voice_sinceBarTop_31 (xs_V_11 hx ha0) (by omega) (by omega) (fun x11 ex11 _ _ => ?_)
  refine A_lmulw d_Voice_sinceBarTop_32 (fun x12 _ _ _ => ?_)
  refine A_pc (pc' := 33) rfl ?_
  refine A_lsubw d_Voice_sinceBarTop_33 (fun x13 _ _ _ => ?_)
  exact A_lret d_Voice_sinceBarTop_34 (by decide) rfl ⟨_, rfl, ⟨by omega, by omega⟩, rfl⟩
theorem s_Voice_sinceBarBottom {G : cx_T} {s : Nat} {h : ah_T} (hx : xi s h) {a0 : Nat} {a1 : Int} {a2 : Int} (ha0 : isV a0) (la1 : 0 ≤ a1) (ua1 : a1 ≤ 101) (la2 : 0 ≤ a2) (ua2 : a2 ≤ 300) : con G 0 0 0 m_Voice_sinceBarBottom [av_R (some a0), av_I a1, av_I a2] h (fun r h' => ∃ z, r = some (av_L z) ∧ ((-9223372036854775808) ≤ z ∧ z ≤ 9223372036854775807) ∧ h = h') := by
  refine con_of (L := [some (av_R (some a0)), some (av_I a1), some (av_I a2)]) (by decide +kernel) (Nat.le_of_ble_eq_true rfl) rfl ?_
  have hS : isS s := hx.2.1
  have hs0 : s = 17 ∨ s = 80 := hS
  have hs0b : 17 ≤ s ∧ s ≤ 80 := by omega
  have ga0 := lt_V ha0
  refine A_aload_n 0 d_Voice_sinceBarBottom_0 rfl rfl ?_
  refine A_getAv (z := some (a0 + 10)) T_ok d_Voice_sinceBarBottom_1 f_Voice_41 (xs_V hx ha0) (xr_V_11 hx ha0) ?_
  refine A_iload_n 2 d_Voice_sinceBarBottom_4 rfl rfl ?_
  refine A_laloadf d_Voice_sinceBarBottom_5 (xs_V_11 hx ha0) (by omega) (by omega) (fun x2 ex2 _ _ => ?_)
  refine A_aload_n 0 d_Voice_sinceBarBottom_6 rfl rfl ?_
  refine A_pc (pc' := 7) rfl ?_
  refine A_getAv (z := some (a0 + 10)) T_ok d_Voice_sinceBarBottom_7 f_Voice_41 (xs_V hx ha0) (xr_V_11 hx ha0) ?_
  refine A_aload_n 0 d_Voice_sinceBarBottom_10 rfl rfl ?_
  refine A_getAv (z := some (a0 + 13)) T_ok d_Voice_sinceBarBottom_11 f_Voice_50 (xs_V hx ha0) (xr_V_15 hx ha0) ?_
  refine A_iload_n 1 d_Voice_sinceBarBottom_14 rfl rfl ?_
  refine A_ialoadn (lo := 0) (hi := 300) d_Voice_sinceBarBottom_15 (xs_V_15 hx ha0) (by omega) (by omega) (xi_g hx (lt2_V ha0 (by decide)) (rg_V_15 ha0 _)) (fun x5 ex5 _ _ => ?_)
  refine A_laloadf d_Voice_sinceBarBottom_16 (xs_V_11 hx ha0) (by omega) (by omega) (fun x6 ex6 _ _ => ?_)
  refine A_pc (pc' := 17) rfl ?_
  refine A_lmulw d_Voice_sinceBarBottom_17 (fun x7 _ _ _ => ?_)
  exact A_lret d_Voice_sinceBarBottom_18 (by decide) rfl ⟨_, rfl, ⟨by omega, by omega⟩, rfl⟩
theorem s_Voice_compareBar {G : cx_T} {s : Nat} {h : ah_T} (hx : xi s h) {a0 : Nat} {a1 : Int} {a2 : Int} {a3 : Int} (ha0 : isV a0) (la1 : 0 ≤ a1) (ua1 : a1 ≤ 100) : con G 1 0 0 m_Voice_compareBar [av_R (some a0), av_I a1, av_I a2, av_I a3] h (fun r h' => ∃ z, r = some (av_I z) ∧ ((-1) ≤ z ∧ z ≤ 1) ∧ h = h') := by
  refine con_of (L := [some (av_R (some a0)), some (av_I a1), some (av_I a2), some (av_I a3), none]) (by decide +kernel) (Nat.le_of_ble_eq_true rfl) rfl ?_
  have hS : isS s := hx.2.1
  have hs0 : s = 17 ∨ s = 80 := hS
  have hs0b : 17 ≤ s ∧ s ≤ 80 := by omega
  have ga0 := lt_V ha0
  refine A_locI 2 rfl (fun ra => ?_)
  obtain ⟨_, _⟩ := ra
  refine A_locI 3 rfl (fun ra => ?_)
  obtain ⟨_, _⟩ := ra
  refine A_aload_n 0 d_Voice_compareBar_0 rfl rfl ?_
  refine A_getAv (z := some (a0 + 13)) T_ok d_Voice_compareBar_1 f_Voice_50 (xs_V hx ha0) (xr_V_15 hx ha0) ?_
  refine A_iload_n 1 d_Voice_compareBar_4 rfl rfl ?_
  refine A_iconst d_Voice_compareBar_5 rfl ?_
  refine A_iaddv (z := (a1 + 1)) d_Voice_compareBar_6 (w32_to (by omega) (by unfold i32; omega)) ?_
  refine A_pc (pc' := 7) rfl ?_
  refine A_ialoadn (lo := 0) (hi := 300) d_Voice_compareBar_7 (xs_V_15 hx ha0) (by omega) (by omega) (xi_g hx (lt2_V ha0 (by decide)) (rg_V_15 ha0 _)) (fun x2 ex2 _ _ => ?_)
  refine A_istore (L' := [some (av_R (some a0)), some (av_I a1), some (av_I a2), some (av_I a3), some (av_I x2)]) d_Voice_compareBar_8 (Nat.le_of_ble_eq_true rfl) rfl ?_
  refine A_aload_n 0 d_Voice_compareBar_10 rfl rfl ?_
  refine A_iload_n 1 d_Voice_compareBar_11 rfl rfl ?_
  refine A_iload d_Voice_compareBar_12 rfl ?_
  refine A_callV2 m_Voice_sinceBarTop T_ok d_Voice_compareBar_14 l_Voice_115 k_Voice_sinceBarTop (xs_V hx ha0) rfl (by decide +kernel) (by decide) (Nat.le_of_ble_eq_true rfl) (s_Voice_sinceBarTop hx ha0 (by omega) (by omega) (by omega) (by omega)) (fun r h3 hq => ?_)
  obtain ⟨x5, rfl, ⟨_, _⟩, rfl⟩ := hq
  refine A_iload_n 3 d_Voice_compareBar_17 rfl rfl ?_
  refine A_i2l d_Voice_compareBar_18 ?_
  refine A_lmulw d_Voice_compareBar_19 (fun x6 _ _ _ => ?_)
  refine A_aload_n 0 d_Voice_compareBar_20 rfl rfl ?_
  refine A_iload_n 1 d_Voice_compareBar_21 rfl rfl ?_
  refine A_pc (pc' := 22) rfl ?_
  refine A_iload d_Voice_compareBar_22 rfl ?_
  refine A_callV2 m_Voice_sinceBarBottom T_ok d_Voice_compareBar_24 l_Voice_119 k_Voice_sinceBarBottom (xs_V hx ha0) rfl (by decide +kernel) (by decide) (Nat.le_of_ble_eq_true rfl) (s_Voice_sinceBarBottom hx ha0 (by omega) (by omega) (by omega) (by omega)) (fun r h7 hq => ?_)
  obtain ⟨x9, rfl, ⟨_, _⟩, rfl⟩ := hq
  refine A_iload_n 2 d_Voice_compareBar_27 rfl rfl ?_
  refine A_i2l d_Voice_compareBar_28 ?_
  refine A_lmulw d_Voice_compareBar_29 (fun x10 _ _ _ => ?_)
  refine A_callS2 m_JLong_compare d_Voice_compareBar_30 l_Voice_122 k_JLong_compare (by decide +kernel) (by decide) (Nat.le_of_ble_eq_true rfl) (s_JLong_compare  ) (fun r h11 hq => ?_)
  obtain ⟨x13, rfl, ⟨_, _⟩, xx13, rfl⟩ := hq
  exact A_iret d_Voice_compareBar_33 (by decide) rfl ⟨_, rfl, ⟨by omega, by omega⟩, rfl⟩
theorem s_Voice_timeOf {G : cx_T} {s : Nat} {h : ah_T} (hx : xi s h) {a0 : Nat} {a1 : Int} {a2 : Int} (ha0 : isV a0) (la1 : 0 ≤ a1) (ua1 : a1 ≤ 299) : con G 0 0 0 m_Voice_timeOf [av_R (some a0), av_I a1, av_I a2] h (fun r h' => ∃ z, r = some (av_L z) ∧ ((-9223372036854775808) ≤ z ∧ z ≤ 9223372036854775807) ∧ h = h') := by
  refine con_of (L := [some (av_R (some a0)), some (av_I a1), some (av_I a2)]) (by decide +kernel) (Nat.le_of_ble_eq_true rfl) rfl ?_
  have hS : isS s := hx.2.1
  have hs0 : s = 17 ∨ s = 80 := hS
  have hs0b : 17 ≤ s ∧ s ≤ 80 := by omega
  have ga0 := lt_V ha0
  refine A_locI 2 rfl (fun ra => ?_)
  obtain ⟨_, _⟩ := ra
  refine A_iload_n 2 d_Voice_timeOf_0 rfl rfl ?_
  rcases (by omega : a2 < 0 ∨ a2 = 0 ∨ a2 = 1 ∨ a2 = 2 ∨ 2 < a2) with c1 | c1 | c1 | c1 | c1
  · refine A_tabOut (tgt := 49) d_Voice_timeOf_1 (by omega) (by decide) ?_
    refine A_aload_n 0 d_Voice_timeOf_49 rfl rfl ?_
    refine A_getAv (z := some (a0 + 12)) T_ok d_Voice_timeOf_50 f_Voice_47 (xs_V hx ha0) (xr_V_13 hx ha0) ?_
    refine A_iload_n 1 d_Voice_timeOf_53 rfl rfl ?_
    refine A_laloadf d_Voice_timeOf_54 (xs_V_13 hx ha0) (by omega) (by omega) (fun x3 ex3 _ _ => ?_)
    exact A_lret d_Voice_timeOf_55 (by decide) rfl ⟨_, rfl, ⟨by omega, by omega⟩, rfl⟩
  · refine A_tabIn (tgt := 28) d_Voice_timeOf_1 (by omega) (by omega) (by rw [c1]; rfl) (by decide) ?_
    refine A_aload_n 0 d_Voice_timeOf_28 rfl rfl ?_
    refine A_getAv (z := some (a0 + 9)) T_ok d_Voice_timeOf_29 f_Voice_37 (xs_V hx ha0) (xr_V_10 hx ha0) ?_
    refine A_iload_n 1 d_Voice_timeOf_32 rfl rfl ?_
    refine A_laloadf d_Voice_timeOf_33 (xs_V_10 hx ha0) (by omega) (by omega) (fun x5 ex5 _ _ => ?_)
    exact A_lret d_Voice_timeOf_34 (by decide) rfl ⟨_, rfl, ⟨by omega, by omega⟩, rfl⟩
  · refine A_tabIn (tgt := 35) d_Voice_timeOf_1 (by omega) (by omega) (by rw [c1]; rfl) (by decide) ?_
    refine A_aload_n 0 d_Voice_timeOf_35 rfl rfl ?_
    refine A_getAv (z := some (a0 + 10)) T_ok d_Voice_timeOf_36 f_Voice_41 (xs_V hx ha0) (xr_V_11 hx ha0) ?_
    refine A_iload_n 1 d_Voice_timeOf_39 rfl rfl ?_
    refine A_laloadf d_Voice_timeOf_40 (xs_V_11 hx ha0) (by omega) (by omega) (fun x7 ex7 _ _ => ?_)
    exact A_lret d_Voice_timeOf_41 (by decide) rfl ⟨_, rfl, ⟨by omega, by omega⟩, rfl⟩
  · refine A_tabIn (tgt := 42) d_Voice_timeOf_1 (by omega) (by omega) (by rw [c1]; rfl) (by decide) ?_
    refine A_aload_n 0 d_Voice_timeOf_42 rfl rfl ?_
    refine A_getAv (z := some (a0 + 11)) T_ok d_Voice_timeOf_43 f_Voice_44 (xs_V hx ha0) (xr_V_12 hx ha0) ?_
    refine A_iload_n 1 d_Voice_timeOf_46 rfl rfl ?_
    refine A_laloadf d_Voice_timeOf_47 (xs_V_12 hx ha0) (by omega) (by omega) (fun x9 ex9 _ _ => ?_)
    exact A_lret d_Voice_timeOf_48 (by decide) rfl ⟨_, rfl, ⟨by omega, by omega⟩, rfl⟩
  · refine A_tabOut (tgt := 49) d_Voice_timeOf_1 (by omega) (by decide) ?_
    refine A_aload_n 0 d_Voice_timeOf_49 rfl rfl ?_
    refine A_getAv (z := some (a0 + 12)) T_ok d_Voice_timeOf_50 f_Voice_47 (xs_V hx ha0) (xr_V_13 hx ha0) ?_
    refine A_iload_n 1 d_Voice_timeOf_53 rfl rfl ?_
    refine A_laloadf d_Voice_timeOf_54 (xs_V_13 hx ha0) (by omega) (by omega) (fun x11 ex11 _ _ => ?_)
    exact A_lret d_Voice_timeOf_55 (by decide) rfl ⟨_, rfl, ⟨by omega, by omega⟩, rfl⟩
theorem s_Voice_writingOf {G : cx_T} {s : Nat} {h : ah_T} (hx : xi s h) {a0 : Nat} {a1 : Int} {a2 : Int} (ha0 : isV a0) (la1 : 0 ≤ a1) (ua1 : a1 ≤ 299) : con G 1 0 0 m_Voice_writingOf [av_R (some a0), av_I a1, av_I a2] h (fun r h' => ∃ z, r = some (av_I z) ∧ ((-2147483648) ≤ z ∧ z ≤ 2147483647) ∧ h = h') := by
  refine con_of (L := [some (av_R (some a0)), some (av_I a1), some (av_I a2)]) (by decide +kernel) (Nat.le_of_ble_eq_true rfl) rfl ?_
  have hS : isS s := hx.2.1
  have hs0 : s = 17 ∨ s = 80 := hS
  have hs0b : 17 ≤ s ∧ s ≤ 80 := by omega
  have ga0 := lt_V ha0
  refine A_locI 2 rfl (fun ra => ?_)
  obtain ⟨_, _⟩ := ra
  refine A_iload_n 2 d_Voice_writingOf_0 rfl rfl ?_
  rcases (by omega : a2 < 4 ∨ a2 = 4 ∨ a2 = 5 ∨ a2 = 6 ∨ a2 = 7 ∨ 7 < a2) with c1 | c1 | c1 | c1 | c1 | c1
  · refine A_tabOut (tgt := 65) d_Voice_writingOf_1 (by omega) (by decide) ?_
    refine A_aload_n 0 d_Voice_writingOf_65 rfl rfl ?_
    refine A_getAv (z := some (a0 + 5)) T_ok d_Voice_writingOf_66 f_Voice_24 (xs_V hx ha0) (xr_V_5 hx ha0) ?_
    refine A_aload_n 0 d_Voice_writingOf_69 rfl rfl ?_
    refine A_getAv (z := some (a0 + 7)) T_ok d_Voice_writingOf_70 f_Voice_31 (xs_V hx ha0) (xr_V_8 hx ha0) ?_
    refine A_iload_n 1 d_Voice_writingOf_73 rfl rfl ?_
    refine A_pc (pc' := 74) rfl ?_
    refine A_ialoadn (lo := 0) (hi := 299) d_Voice_writingOf_74 (xs_V_8 hx ha0) (by omega) (by omega) (xi_g hx (lt2_V ha0 (by decide)) (rg_V_8 ha0 _)) (fun x4 ex4 _ _ => ?_)
    refine A_ialoadn (lo := 0) (hi := 3) d_Voice_writingOf_75 (xs_V_5 hx ha0) (by omega) (by omega) (xi_g hx (lt2_V ha0 (by decide)) (rg_V_5 ha0 _)) (fun x5 ex5 _ _ => ?_)
    exact A_iret d_Voice_writingOf_76 (by decide) rfl ⟨_, rfl, ⟨by omega, by omega⟩, rfl⟩
  · refine A_tabIn (tgt := 32) d_Voice_writingOf_1 (by omega) (by omega) (by rw [c1]; rfl) (by decide) ?_
    refine A_aload_n 0 d_Voice_writingOf_32 rfl rfl ?_
    refine A_iload_n 1 d_Voice_writingOf_33 rfl rfl ?_
    refine A_callV1 m_Voice_pitchesOf T_ok d_Voice_writingOf_34 l_Voice_80 k_Voice_pitchesOf (xs_V hx ha0) rfl (by decide +kernel) (by decide) (Nat.le_of_ble_eq_true rfl) (s_Voice_pitchesOf hx ha0 (by omega) (by omega)) (fun r h6 hq => ?_)
    obtain ⟨x8, rfl, ⟨_, _⟩, rfl⟩ := hq
    exact A_iret d_Voice_writingOf_37 (by decide) rfl ⟨_, rfl, ⟨by omega, by omega⟩, rfl⟩
  · refine A_tabIn (tgt := 38) d_Voice_writingOf_1 (by omega) (by omega) (by rw [c1]; rfl) (by decide) ?_
    refine A_aload_n 0 d_Voice_writingOf_38 rfl rfl ?_
    refine A_iload_n 1 d_Voice_writingOf_39 rfl rfl ?_
    refine A_callV1 m_Voice_isTied T_ok d_Voice_writingOf_40 l_Voice_84 k_Voice_isTied (xs_V hx ha0) rfl (by decide +kernel) (by decide) (Nat.le_of_ble_eq_true rfl) (s_Voice_isTied hx ha0 (by omega) (by omega)) (fun r h9 hq => ?_)
    obtain ⟨x11, rfl, bx11, rfl⟩ := hq
    refine A_if_eq (tgt := 50) d_Voice_writingOf_43 (by decide) (fun c12 => ?_) (fun c12 => ?_)
    · refine A_iconst d_Voice_writingOf_50 rfl ?_
      exact A_iret d_Voice_writingOf_51 (by decide) rfl ⟨_, rfl, ⟨by omega, by omega⟩, rfl⟩
    · refine A_iconst d_Voice_writingOf_46 rfl ?_
      refine A_goto (tgt := 51) d_Voice_writingOf_47 (by decide) ?_
      exact A_iret d_Voice_writingOf_51 (by decide) rfl ⟨_, rfl, ⟨by omega, by omega⟩, rfl⟩
  · refine A_tabIn (tgt := 52) d_Voice_writingOf_1 (by omega) (by omega) (by rw [c1]; rfl) (by decide) ?_
    refine A_aload_n 0 d_Voice_writingOf_52 rfl rfl ?_
    refine A_getAv (z := some (a0 + 8)) T_ok d_Voice_writingOf_53 f_Voice_34 (xs_V hx ha0) (xr_V_9 hx ha0) ?_
    refine A_iload_n 1 d_Voice_writingOf_56 rfl rfl ?_
    refine A_ialoadf d_Voice_writingOf_57 (xs_V_9 hx ha0) (by omega) (by omega) (fun x14 ex14 _ _ => ?_)
    exact A_iret d_Voice_writingOf_58 (by decide) rfl ⟨_, rfl, ⟨by omega, by omega⟩, rfl⟩
  · refine A_tabIn (tgt := 59) d_Voice_writingOf_1 (by omega) (by omega) (by rw [c1]; rfl) (by decide) ?_
    refine A_aload_n 0 d_Voice_writingOf_59 rfl rfl ?_
    refine A_iload_n 1 d_Voice_writingOf_60 rfl rfl ?_
    refine A_callV1 m_Voice_numberOf T_ok d_Voice_writingOf_61 l_Voice_88 k_Voice_numberOf (xs_V hx ha0) rfl (by decide +kernel) (by decide) (Nat.le_of_ble_eq_true rfl) (s_Voice_numberOf hx ha0 (by omega) (by omega)) (fun r h15 hq => ?_)
    obtain ⟨x17, rfl, ⟨_, _⟩, rfl⟩ := hq
    exact A_iret d_Voice_writingOf_64 (by decide) rfl ⟨_, rfl, ⟨by omega, by omega⟩, rfl⟩
  · refine A_tabOut (tgt := 65) d_Voice_writingOf_1 (by omega) (by decide) ?_
    refine A_aload_n 0 d_Voice_writingOf_65 rfl rfl ?_
    refine A_getAv (z := some (a0 + 5)) T_ok d_Voice_writingOf_66 f_Voice_24 (xs_V hx ha0) (xr_V_5 hx ha0) ?_
    refine A_aload_n 0 d_Voice_writingOf_69 rfl rfl ?_
    refine A_getAv (z := some (a0 + 7)) T_ok d_Voice_writingOf_70 f_Voice_31 (xs_V hx ha0) (xr_V_8 hx ha0) ?_
    refine A_iload_n 1 d_Voice_writingOf_73 rfl rfl ?_
    refine A_pc (pc' := 74) rfl ?_
    refine A_ialoadn (lo := 0) (hi := 299) d_Voice_writingOf_74 (xs_V_8 hx ha0) (by omega) (by omega) (xi_g hx (lt2_V ha0 (by decide)) (rg_V_8 ha0 _)) (fun x20 ex20 _ _ => ?_)
    refine A_ialoadn (lo := 0) (hi := 3) d_Voice_writingOf_75 (xs_V_5 hx ha0) (by omega) (by omega) (xi_g hx (lt2_V ha0 (by decide)) (rg_V_5 ha0 _)) (fun x21 ex21 _ _ => ?_)
    exact A_iret d_Voice_writingOf_76 (by decide) rfl ⟨_, rfl, ⟨by omega, by omega⟩, rfl⟩
theorem s_Voice_clear {G : cx_T} {s : Nat} {h : ah_T} (hx : xi s h) {a0 : Nat} (ta0 : tV s a0) : con G 0 0 0 m_Voice_clear [av_R (some a0)] h (fun r h' => r = none ∧ kF (FB s) s h h') := by
  refine con_of (L := [some (av_R (some a0))]) (by decide +kernel) (Nat.le_of_ble_eq_true rfl) rfl ?_
  have hS : isS s := hx.2.1
  have hs0 : s = 17 ∨ s = 80 := hS
  have hs0b : 17 ≤ s ∧ s ≤ 80 := by omega
  have k0 : kF (FB s) s h h := kF_0 hx
  have ga0 : a0 = s + 7 ∨ a0 = s + 21 ∨ a0 = s + 35 ∨ a0 = s + 49 := ta0
  have ga0b : s + 7 ≤ a0 ∧ a0 ≤ s + 49 := by omega
  refine A_aload_n 0 d_Voice_clear_0 rfl rfl ?_
  refine A_iconst d_Voice_clear_1 rfl ?_
  refine A_putIk (KR := kF (FB s) s h) T_ok d_Voice_clear_2 f_Voice_53 (xs_V k0.1 (tV_V hS ta0)) fin_f (kF_j k0 (by omega) (ns_V (tV_V hS ta0) (by decide)) (rg_V_2 (tV_V hS ta0)) (by omega) (by omega)) (fun h1 k2 eh1 => ?_)
  refine A_aload_n 0 d_Voice_clear_5 rfl rfl ?_
  refine A_iconst d_Voice_clear_6 rfl ?_
  refine A_pc (pc' := 7) rfl ?_
  refine A_putIk (KR := kF (FB s) s h) T_ok d_Voice_clear_7 f_Voice_57 (xs_V k2.1 (tV_V hS ta0)) fin_f (kF_j k2 (by omega) (ns_V (tV_V hS ta0) (by decide)) (rg_V_7 (tV_V hS ta0)) (by omega) (by omega)) (fun h3 k4 eh3 => ?_)
  refine A_aload_n 0 d_Voice_clear_10 rfl rfl ?_
  refine A_getAv (z := some (a0 + 3)) T_ok d_Voice_clear_11 f_Voice_18 (xs_V k4.1 (tV_V hS ta0)) (xr_V_3 k4.1 (tV_V hS ta0)) ?_
  refine A_iconst d_Voice_clear_14 rfl ?_
  refine A_iconst d_Voice_clear_15 rfl ?_
  refine A_iastorek (KR := kF (FB s) s h) d_Voice_clear_16 (xs_V_3 k4.1 (tV_V hS ta0)) (by decide) (by decide) (kF_j k4 (by omega) (ns_Vo (tV_V hS ta0) 3 (by decide) (by decide)) (rg_V_3 (tV_V hS ta0) _) (by omega) (by omega)) (fun h6 k7 eh6 => ?_)
  refine A_pc (pc' := 17) rfl ?_
  exact A_vret d_Voice_clear_17 (by decide) rfl ⟨rfl, k7⟩
theorem s_Voice_addPitch {G : cx_T} {s : Nat} {h : ah_T} (hx : xi s h) {a0 : Nat} {a1 : Int} {a2 : Int} (ta0 : tV s a0) : con G 0 0 0 m_Voice_addPitch [av_R (some a0), av_I a1, av_I a2] h (fun r h' => r = none ∧ kF (FB s) s h h') := by
  refine con_of (L := [some (av_R (some a0)), some (av_I a1), some (av_I a2)]) (by decide +kernel) (Nat.le_of_ble_eq_true rfl) rfl ?_
  have hS : isS s := hx.2.1
  have hs0 : s = 17 ∨ s = 80 := hS
  have hs0b : 17 ≤ s ∧ s ≤ 80 := by omega
  have k0 : kF (FB s) s h h := kF_0 hx
  have ga0 : a0 = s + 7 ∨ a0 = s + 21 ∨ a0 = s + 35 ∨ a0 = s + 49 := ta0
  have ga0b : s + 7 ≤ a0 ∧ a0 ≤ s + 49 := by omega
  refine A_locI 1 rfl (fun ra => ?_)
  obtain ⟨_, _⟩ := ra
  refine A_locI 2 rfl (fun ra => ?_)
  obtain ⟨_, _⟩ := ra
  refine A_aload_n 0 d_Voice_addPitch_0 rfl rfl ?_
  refine A_getIn (lo := 0) (hi := 300) T_ok d_Voice_addPitch_1 f_Voice_53 (xs_V k0.1 (tV_V hS ta0)) (xi_g k0.1 (lt1_V (tV_V hS ta0)) (rg_V_2 (tV_V hS ta0))) (fun x1 ex1 _ _ => ?_)
  refine A_aload_n 0 d_Voice_addPitch_4 rfl rfl ?_
  refine A_getAv (z := some (a0 + 1)) T_ok d_Voice_addPitch_5 f_Voice_9 (xs_V k0.1 (tV_V hS ta0)) (xr_V_0 k0.1 (tV_V hS ta0)) ?_
  refine A_alenN d_Voice_addPitch_8 (xs_V_0 k0.1 (tV_V hS ta0)) (by decide) (by decide) ?_
  refine A_pc (pc' := 9) rfl ?_
  refine A_icmp_ge (tgt := 42) d_Voice_addPitch_9 (by decide) (fun c3 => ?_) (fun c3 => ?_)
  · exact A_vret d_Voice_addPitch_42 (by decide) rfl ⟨rfl, k0⟩
  · refine A_aload_n 0 d_Voice_addPitch_12 rfl rfl ?_
    refine A_getAv (z := some (a0 + 1)) T_ok d_Voice_addPitch_13 f_Voice_9 (xs_V k0.1 (tV_V hS ta0)) (xr_V_0 k0.1 (tV_V hS ta0)) ?_
    refine A_aload_n 0 d_Voice_addPitch_16 rfl rfl ?_
    refine A_getIv (z := x1) T_ok d_Voice_addPitch_17 f_Voice_53 (xs_V k0.1 (tV_V hS ta0)) ex1.symm ?_
    refine A_iload_n 1 d_Voice_addPitch_20 rfl rfl ?_
    refine A_pc (pc' := 21) rfl ?_
    refine A_iastorek (KR := kF (FB s) s h) d_Voice_addPitch_21 (xs_V_0 k0.1 (tV_V hS ta0)) (by omega) (by omega) (kF_j k0 (by omega) (ns_Vo (tV_V hS ta0) 1 (by decide) (by decide)) (rg_V_0 (tV_V hS ta0) _) (by omega) (by omega)) (fun h6 k7 eh6 => ?_)
    refine A_aload_n 0 d_Voice_addPitch_22 rfl rfl ?_
    refine A_getAv (z := some (a0 + 2)) T_ok d_Voice_addPitch_23 f_Voice_15 (xs_V k7.1 (tV_V hS ta0)) (xr_V_1 k7.1 (tV_V hS ta0)) ?_
    refine A_aload_n 0 d_Voice_addPitch_26 rfl rfl ?_
    refine A_getIv (z := x1) T_ok d_Voice_addPitch_27 f_Voice_53 (xs_V k7.1 (tV_V hS ta0)) ((eh6.1 _ _ (fun q => by omega)).trans ex1.symm) ?_
    refine A_iload_n 2 d_Voice_addPitch_30 rfl rfl ?_
    refine A_pc (pc' := 31) rfl ?_
    refine A_iastorek (KR := kF (FB s) s h) d_Voice_addPitch_31 (xs_V_1 k7.1 (tV_V hS ta0)) (by omega) (by omega) (kF_j k7 (by omega) (ns_Vo (tV_V hS ta0) 2 (by decide) (by decide)) (rg_V_1 (tV_V hS ta0) _) (by omega) (by omega)) (fun h10 k11 eh10 => ?_)
    refine A_aload_n 0 d_Voice_addPitch_32 rfl rfl ?_
    refine A_dupR d_Voice_addPitch_33 ?_
    refine A_getIv (z := x1) T_ok d_Voice_addPitch_34 f_Voice_53 (xs_V k11.1 (tV_V hS ta0)) ((eh10.1 _ _ (fun q => by omega)).trans ((eh6.1 _ _ (fun q => by omega)).trans ex1.symm)) ?_
    refine A_iconst d_Voice_addPitch_37 rfl ?_
    refine A_iaddv (z := (x1 + 1)) d_Voice_addPitch_38 (w32_to (by omega) (by unfold i32; omega)) ?_
    refine A_pc (pc' := 39) rfl ?_
    refine A_putIk (KR := kF (FB s) s h) T_ok d_Voice_addPitch_39 f_Voice_53 (xs_V k11.1 (tV_V hS ta0)) fin_f (kF_j k11 (by omega) (ns_V (tV_V hS ta0) (by decide)) (rg_V_2 (tV_V hS ta0)) (by omega) (by omega)) (fun h13 k14 eh13 => ?_)
    exact A_vret d_Voice_addPitch_42 (by decide) rfl ⟨rfl, k14⟩
theorem s_Voice_endSound {G : cx_T} {s : Nat} {h : ah_T} (hx : xi s h) {a0 : Nat} {a1 : Int} {a2 : Int} {a3 : Int} (ta0 : tV s a0) (la1 : 0 ≤ a1) (ua1 : a1 ≤ 64) (la2 : 0 ≤ a2) (ua2 : a2 ≤ 3) (ba3 : a3 = 0 ∨ a3 = 1) : con G 0 0 0 m_Voice_endSound [av_R (some a0), av_I a1, av_I a2, av_I a3] h (fun r h' => ∃ z, r = some (av_I z) ∧ (0 ≤ z ∧ z ≤ 299) ∧ kF (FB s) s h h') := by
  refine con_of (L := [some (av_R (some a0)), some (av_I a1), some (av_I a2), some (av_I a3)]) (by decide +kernel) (Nat.le_of_ble_eq_true rfl) rfl ?_
  have hS : isS s := hx.2.1
  have hs0 : s = 17 ∨ s = 80 := hS
  have hs0b : 17 ≤ s ∧ s ≤ 80 := by omega
  have k0 : kF (FB s) s h h := kF_0 hx
  have ga0 : a0 = s + 7 ∨ a0 = s + 21 ∨ a0 = s + 35 ∨ a0 = s + 49 := ta0
  have ga0b : s + 7 ≤ a0 ∧ a0 ≤ s + 49 := by omega
  refine A_aload_n 0 d_Voice_endSound_0 rfl rfl ?_
  refine A_getIn (lo := 0) (hi := 300) T_ok d_Voice_endSound_1 f_Voice_57 (xs_V k0.1 (tV_V hS ta0)) (xi_g k0.1 (lt1_V (tV_V hS ta0)) (rg_V_7 (tV_V hS ta0))) (fun x1 ex1 _ _ => ?_)
  refine A_aload_n 0 d_Voice_endSound_4 rfl rfl ?_
  refine A_getAv (z := some (a0 + 4)) T_ok d_Voice_endSound_5 f_Voice_21 (xs_V k0.1 (tV_V hS ta0)) (xr_V_4 k0.1 (tV_V hS ta0)) ?_
  refine A_alenN d_Voice_endSound_8 (xs_V_4 k0.1 (tV_V hS ta0)) (by decide) (by decide) ?_
  refine A_pc (pc' := 9) rfl ?_
  refine A_icmp_lt (tgt := 14) d_Voice_endSound_9 (by decide) (fun c3 => ?_) (fun c3 => ?_)
  · refine A_aload_n 0 d_Voice_endSound_14 rfl rfl ?_
    refine A_getAv (z := some (a0 + 4)) T_ok d_Voice_endSound_15 f_Voice_21 (xs_V k0.1 (tV_V hS ta0)) (xr_V_4 k0.1 (tV_V hS ta0)) ?_
    refine A_aload_n 0 d_Voice_endSound_18 rfl rfl ?_
    refine A_getIv (z := x1) T_ok d_Voice_endSound_19 f_Voice_57 (xs_V k0.1 (tV_V hS ta0)) ex1.symm ?_
    refine A_iload_n 1 d_Voice_endSound_22 rfl rfl ?_
    refine A_pc (pc' := 23) rfl ?_
    refine A_iastorek (KR := kF (FB s) s h) d_Voice_endSound_23 (xs_V_4 k0.1 (tV_V hS ta0)) (by omega) (by omega) (kF_j k0 (by omega) (ns_Vo (tV_V hS ta0) 4 (by decide) (by decide)) (rg_V_4 (tV_V hS ta0) _) (by omega) (by omega)) (fun h6 k7 eh6 => ?_)
    refine A_aload_n 0 d_Voice_endSound_24 rfl rfl ?_
    refine A_getAv (z := some (a0 + 5)) T_ok d_Voice_endSound_25 f_Voice_24 (xs_V k7.1 (tV_V hS ta0)) (xr_V_5 k7.1 (tV_V hS ta0)) ?_
    refine A_aload_n 0 d_Voice_endSound_28 rfl rfl ?_
    refine A_getIv (z := x1) T_ok d_Voice_endSound_29 f_Voice_57 (xs_V k7.1 (tV_V hS ta0)) ((eh6.1 _ _ (fun q => by omega)).trans ex1.symm) ?_
    refine A_iload_n 2 d_Voice_endSound_32 rfl rfl ?_
    refine A_pc (pc' := 33) rfl ?_
    refine A_iastorek (KR := kF (FB s) s h) d_Voice_endSound_33 (xs_V_5 k7.1 (tV_V hS ta0)) (by omega) (by omega) (kF_j k7 (by omega) (ns_Vo (tV_V hS ta0) 5 (by decide) (by decide)) (rg_V_5 (tV_V hS ta0) _) (by omega) (by omega)) (fun h10 k11 eh10 => ?_)
    refine A_aload_n 0 d_Voice_endSound_34 rfl rfl ?_
    refine A_getAv (z := some (a0 + 6)) T_ok d_Voice_endSound_35 f_Voice_27 (xs_V k11.1 (tV_V hS ta0)) (xr_V_6 k11.1 (tV_V hS ta0)) ?_
    refine A_aload_n 0 d_Voice_endSound_38 rfl rfl ?_
    refine A_getIv (z := x1) T_ok d_Voice_endSound_39 f_Voice_57 (xs_V k11.1 (tV_V hS ta0)) ((eh10.1 _ _ (fun q => by omega)).trans ((eh6.1 _ _ (fun q => by omega)).trans ex1.symm)) ?_
    refine A_iload_n 3 d_Voice_endSound_42 rfl rfl ?_
    refine A_pc (pc' := 43) rfl ?_
    refine A_zastorek (KR := kF (FB s) s h) d_Voice_endSound_43 (xs_V_6 k11.1 (tV_V hS ta0)) (by omega) (by omega) (by omega) (kF_j k11 (by omega) (ns_Vo (tV_V hS ta0) 6 (by decide) (by decide)) (rg_V_6 (tV_V hS ta0) _) (by omega) (by omega)) (fun h14 k15 eh14 => ?_)
    refine A_aload_n 0 d_Voice_endSound_44 rfl rfl ?_
    refine A_dupR d_Voice_endSound_45 ?_
    refine A_getIv (z := x1) T_ok d_Voice_endSound_46 f_Voice_57 (xs_V k15.1 (tV_V hS ta0)) ((eh14.1 _ _ (fun q => by omega)).trans ((eh10.1 _ _ (fun q => by omega)).trans ((eh6.1 _ _ (fun q => by omega)).trans ex1.symm))) ?_
    refine A_iconst d_Voice_endSound_49 rfl ?_
    refine A_iaddv (z := (x1 + 1)) d_Voice_endSound_50 (w32_to (by omega) (by unfold i32; omega)) ?_
    refine A_pc (pc' := 51) rfl ?_
    refine A_putIk (KR := kF (FB s) s h) T_ok d_Voice_endSound_51 f_Voice_57 (xs_V k15.1 (tV_V hS ta0)) fin_f (kF_j k15 (by omega) (ns_V (tV_V hS ta0) (by decide)) (rg_V_7 (tV_V hS ta0)) (by omega) (by omega)) (fun h17 k18 eh17 => ?_)
    refine A_aload_n 0 d_Voice_endSound_54 rfl rfl ?_
    refine A_getAv (z := some (a0 + 3)) T_ok d_Voice_endSound_55 f_Voice_18 (xs_V k18.1 (tV_V hS ta0)) (xr_V_3 k18.1 (tV_V hS ta0)) ?_
    refine A_aload_n 0 d_Voice_endSound_58 rfl rfl ?_
    refine A_getIv (z := (x1 + 1)) T_ok d_Voice_endSound_59 f_Voice_57 (xs_V k18.1 (tV_V hS ta0)) eh17.2.1 ?_
    refine A_aload_n 0 d_Voice_endSound_62 rfl rfl ?_
    refine A_pc (pc' := 63) rfl ?_
    refine A_getIn (lo := 0) (hi := 300) T_ok d_Voice_endSound_63 f_Voice_53 (xs_V k18.1 (tV_V hS ta0)) (xi_g k18.1 (lt1_V (tV_V hS ta0)) (rg_V_2 (tV_V hS ta0))) (fun x21 ex21 _ _ => ?_)
    refine A_iastorek (KR := kF (FB s) s h) d_Voice_endSound_66 (xs_V_3 k18.1 (tV_V hS ta0)) (by omega) (by omega) (kF_j k18 (by omega) (ns_Vo (tV_V hS ta0) 3 (by decide) (by decide)) (rg_V_3 (tV_V hS ta0) _) (by omega) (by omega)) (fun h22 k23 eh22 => ?_)
    refine A_aload_n 0 d_Voice_endSound_67 rfl rfl ?_
    refine A_getIv (z := (x1 + 1)) T_ok d_Voice_endSound_68 f_Voice_57 (xs_V k23.1 (tV_V hS ta0)) ((eh22.1 _ _ (fun q => by omega)).trans eh17.2.1) ?_
    refine A_iconst d_Voice_endSound_71 rfl ?_
    refine A_isubv (z := x1) d_Voice_endSound_72 (w32_to (by omega) (by unfold i32; omega)) ?_
    refine A_pc (pc' := 73) rfl ?_
    exact A_iret d_Voice_endSound_73 (by decide) rfl ⟨_, rfl, ⟨by omega, by omega⟩, k23⟩
  · refine A_iconst d_Voice_endSound_12 rfl ?_
    exact A_iret d_Voice_endSound_13 (by decide) rfl ⟨_, rfl, ⟨by omega, by omega⟩, k0⟩
theorem s_Voice_beginWalk {G : cx_T} {s : Nat} {h : ah_T} (hx : xi s h) {a0 : Nat} (ta0 : tV s a0) : con G 0 0 0 m_Voice_beginWalk [av_R (some a0)] h (fun r h' => r = none ∧ (h'.2.1 a0 16 = 1) ∧ kF (FB s) s h h') := by
  refine con_of (L := [some (av_R (some a0))]) (by decide +kernel) (Nat.le_of_ble_eq_true rfl) rfl ?_
  have hS : isS s := hx.2.1
  have hs0 : s = 17 ∨ s = 80 := hS
  have hs0b : 17 ≤ s ∧ s ≤ 80 := by omega
  have k0 : kF (FB s) s h h := kF_0 hx
  have ga0 : a0 = s + 7 ∨ a0 = s + 21 ∨ a0 = s + 35 ∨ a0 = s + 49 := ta0
  have ga0b : s + 7 ≤ a0 ∧ a0 ≤ s + 49 := by omega
  refine A_aload_n 0 d_Voice_beginWalk_0 rfl rfl ?_
  refine A_iconst d_Voice_beginWalk_1 rfl ?_
  refine A_putIk (KR := kF (FB s) s h) T_ok d_Voice_beginWalk_2 f_Voice_60 (xs_V k0.1 (tV_V hS ta0)) fin_f (kF_js k0 (by omega) (sem_e0 (kF_sem k0) (tV_V hS ta0) (by omega)) (rg_V_14 (tV_V hS ta0)) (by omega) (by omega)) (fun h1 k2 eh1 => ?_)
  refine A_aload_n 0 d_Voice_beginWalk_5 rfl rfl ?_
  refine A_getAv (z := some (a0 + 9)) T_ok d_Voice_beginWalk_6 f_Voice_37 (xs_V k2.1 (tV_V hS ta0)) (xr_V_10 k2.1 (tV_V hS ta0)) ?_
  refine A_pc (pc' := 9) rfl ?_
  refine A_iconst d_Voice_beginWalk_9 rfl ?_
  refine A_lconst_0 d_Voice_beginWalk_10 ?_
  refine A_lastorek (KR := kF (FB s) s h) d_Voice_beginWalk_11 (xs_V_10 k2.1 (tV_V hS ta0)) (by decide) (by decide) (kF_l k2 (by omega) (nl_Vo (tV_V hS ta0) 9 (by decide) (by decide))) (fun h4 k5 eh4 => ?_)
  refine A_aload_n 0 d_Voice_beginWalk_12 rfl rfl ?_
  refine A_getAv (z := some (a0 + 10)) T_ok d_Voice_beginWalk_13 f_Voice_41 (xs_V k5.1 (tV_V hS ta0)) (xr_V_11 k5.1 (tV_V hS ta0)) ?_
  refine A_iconst d_Voice_beginWalk_16 rfl ?_
  refine A_pc (pc' := 17) rfl ?_
  refine A_lconst_1 d_Voice_beginWalk_17 ?_
  refine A_lastorek (KR := kF (FB s) s h) d_Voice_beginWalk_18 (xs_V_11 k5.1 (tV_V hS ta0)) (by decide) (by decide) (kF_l k5 (by omega) (nl_Vo (tV_V hS ta0) 10 (by decide) (by decide))) (fun h7 k8 eh7 => ?_)
  refine A_aload_n 0 d_Voice_beginWalk_19 rfl rfl ?_
  refine A_getAv (z := some (a0 + 13)) T_ok d_Voice_beginWalk_20 f_Voice_50 (xs_V k8.1 (tV_V hS ta0)) (xr_V_15 k8.1 (tV_V hS ta0)) ?_
  refine A_iconst d_Voice_beginWalk_23 rfl ?_
  refine A_iconst d_Voice_beginWalk_24 rfl ?_
  refine A_pc (pc' := 25) rfl ?_
  refine A_iastorek (KR := kF (FB s) s h) d_Voice_beginWalk_25 (xs_V_15 k8.1 (tV_V hS ta0)) (by decide) (by decide) (kF_j k8 (by omega) (ns_Vo (tV_V hS ta0) 13 (by decide) (by decide)) (rg_V_15 (tV_V hS ta0) _) (by omega) (by omega)) (fun h10 k11 eh10 => ?_)
  refine A_aload_n 0 d_Voice_beginWalk_26 rfl rfl ?_
  refine A_iconst d_Voice_beginWalk_27 rfl ?_
  refine A_putIk (KR := kF (FB s) s h) T_ok d_Voice_beginWalk_28 f_Voice_63 (xs_V k11.1 (tV_V hS ta0)) fin_f (kF_j k11 (by omega) (ns_V (tV_V hS ta0) (by decide)) (rg_V_16 (tV_V hS ta0)) (by omega) (by omega)) (fun h12 k13 eh12 => ?_)
  exact A_vret d_Voice_beginWalk_31 (by decide) rfl ⟨rfl, eh12.2.1, k13⟩
theorem s_Voice_endWalk {G : cx_T} {s : Nat} {h : ah_T} (hx : xi s h) {a0 : Nat} (ta0 : tV s a0) : con G 0 0 0 m_Voice_endWalk [av_R (some a0)] h (fun r h' => r = none ∧ kF (FB s) s h h') := by
  refine con_of (L := [some (av_R (some a0))]) (by decide +kernel) (Nat.le_of_ble_eq_true rfl) rfl ?_
  have hS : isS s := hx.2.1
  have hs0 : s = 17 ∨ s = 80 := hS
  have hs0b : 17 ≤ s ∧ s ≤ 80 := by omega
  have k0 : kF (FB s) s h h := kF_0 hx
  have ga0 : a0 = s + 7 ∨ a0 = s + 21 ∨ a0 = s + 35 ∨ a0 = s + 49 := ta0
  have ga0b : s + 7 ≤ a0 ∧ a0 ≤ s + 49 := by omega
  refine A_aload_n 0 d_Voice_endWalk_0 rfl rfl ?_
  refine A_getIn (lo := 0) (hi := 101) T_ok d_Voice_endWalk_1 f_Voice_63 (xs_V k0.1 (tV_V hS ta0)) (xi_g k0.1 (lt1_V (tV_V hS ta0)) (rg_V_16 (tV_V hS ta0))) (fun x1 ex1 _ _ => ?_)
  refine A_aload_n 0 d_Voice_endWalk_4 rfl rfl ?_
  refine A_getAv (z := some (a0 + 13)) T_ok d_Voice_endWalk_5 f_Voice_50 (xs_V k0.1 (tV_V hS ta0)) (xr_V_15 k0.1 (tV_V hS ta0)) ?_
  refine A_alenN d_Voice_endWalk_8 (xs_V_15 k0.1 (tV_V hS ta0)) (by decide) (by decide) ?_
  refine A_pc (pc' := 9) rfl ?_
  refine A_icmp_ge (tgt := 25) d_Voice_endWalk_9 (by decide) (fun c => False.elim (by omega)) (fun c3 => ?_)
  refine A_aload_n 0 d_Voice_endWalk_12 rfl rfl ?_
  refine A_getAv (z := some (a0 + 13)) T_ok d_Voice_endWalk_13 f_Voice_50 (xs_V k0.1 (tV_V hS ta0)) (xr_V_15 k0.1 (tV_V hS ta0)) ?_
  refine A_aload_n 0 d_Voice_endWalk_16 rfl rfl ?_
  refine A_getIv (z := x1) T_ok d_Voice_endWalk_17 f_Voice_63 (xs_V k0.1 (tV_V hS ta0)) ex1.symm ?_
  refine A_aload_n 0 d_Voice_endWalk_20 rfl rfl ?_
  refine A_pc (pc' := 21) rfl ?_
  refine A_getIn (lo := 0) (hi := 300) T_ok d_Voice_endWalk_21 f_Voice_60 (xs_V k0.1 (tV_V hS ta0)) (xi_g k0.1 (lt1_V (tV_V hS ta0)) (rg_V_14 (tV_V hS ta0))) (fun x6 ex6 _ _ => ?_)
  refine A_iastorek (KR := kF (FB s) s h) d_Voice_endWalk_24 (xs_V_15 k0.1 (tV_V hS ta0)) (by omega) (by omega) (kF_j k0 (by omega) (ns_Vo (tV_V hS ta0) 13 (by decide) (by decide)) (rg_V_15 (tV_V hS ta0) _) (by omega) (by omega)) (fun h7 k8 eh7 => ?_)
  exact A_vret d_Voice_endWalk_25 (by decide) rfl ⟨rfl, k8⟩
theorem s_PM_greatestDivisor {G : cx_T} {h : ah_T} {a0 : Int} {a1 : Int}  : con G 0 0 0 m_PM_greatestDivisor [av_L a0, av_L a1] h (fun r h' => ∃ z, r = some (av_L z) ∧ (1 ≤ z ∧ z ≤ 9223372036854775807) ∧ ((0 ≤ a0 → 0 ≤ a1 → z = gdv a0 a1) ∧ (1 ≤ a1 → z ≤ a1)) ∧ h = h') := by
  refine con_of (L := [some (av_L a0), none, some (av_L a1), none, none, none, none, none, none, none, none]) (by decide +kernel) (Nat.le_of_ble_eq_true rfl) rfl ?_
  refine A_locL 0 rfl (fun ra => ?_)
  obtain ⟨_, _⟩ := ra
  refine A_locL 2 rfl (fun ra => ?_)
  obtain ⟨_, _⟩ := ra
  refine A_lload_n 0 d_PM_greatestDivisor_0 rfl rfl ?_
  refine A_lstore (L' := [some (av_L a0), none, some (av_L a1), none, some (av_L a0), none, none, none, none, none, none]) d_PM_greatestDivisor_1 (Nat.le_of_ble_eq_true rfl) rfl ?_
  refine A_lload_n 2 d_PM_greatestDivisor_3 rfl rfl ?_
  refine A_lstore (L' := [some (av_L a0), none, some (av_L a1), none, some (av_L a0), none, some (av_L a1), none, none, none, none]) d_PM_greatestDivisor_4 (Nat.le_of_ble_eq_true rfl) rfl ?_
  refine A_iconst d_PM_greatestDivisor_6 rfl ?_
  refine A_pc (pc' := 7) rfl ?_
  refine A_istore (L' := [some (av_L a0), none, some (av_L a1), none, some (av_L a0), none, some (av_L a1), none, some (av_I 0), none, none]) d_PM_greatestDivisor_7 (Nat.le_of_ble_eq_true rfl) rfl ?_
  have lp9 : ∀ (n : Nat) (i1 i2 i3 : Int) , (-9223372036854775808) ≤ i1 → i1 ≤ 9223372036854775807 → (-9223372036854775808) ≤ i2 → i2 ≤ 9223372036854775807 → 0 ≤ i3 → i3 ≤ 200 → ((0 ≤ a0 → 0 ≤ a1 → gdi a0 a1 i1 i2 i3) ∧ (1 ≤ a1 → gd2 a0 a1 i1 i2 i3)) → (201 - i3).toNat < n → aw G (rm_R 0 0 0) m_PM_greatestDivisor 0 0 9 [some (av_L a0), none, some (av_L a1), none, some (av_L i1), none, some (av_L i2), none, some (av_I i3), none, none] [] h (fun r h' => ∃ z, r = some (av_L z) ∧ (1 ≤ z ∧ z ≤ 9223372036854775807) ∧ ((0 ≤ a0 → 0 ≤ a1 → z = gdv a0 a1) ∧ (1 ≤ a1 → z ≤ a1)) ∧ h = h') := by
    intro n
    induction n with
    | zero => intro i1 i2 i3 _ _ _ _ _ _ _ hm; omega
    | succ n ih9 =>
      intro i1 i2 i3 hl0 hl1 hl2 hl3 hl4 hl5 hinv hm
      refine A_iload d_PM_greatestDivisor_9 rfl ?_
      refine A_sipush d_PM_greatestDivisor_11 rfl ?_
      refine A_icmp_ge (tgt := 45) d_PM_greatestDivisor_14 (by decide) (fun c4 => ?_) (fun c4 => ?_)
      · refine A_lload d_PM_greatestDivisor_45 rfl ?_
        refine A_lconst_1 d_PM_greatestDivisor_47 ?_
        refine A_lcmpn d_PM_greatestDivisor_48 (fun x5 lx5 ex5 gx5 _ _ => ?_)
        refine A_if_ge (tgt := 56) d_PM_greatestDivisor_49 (by decide) (fun c6 => ?_) (fun c6 => ?_)
        · have mc6 : (i1 - 1) ≥ 0 := by omega
          refine A_lload d_PM_greatestDivisor_56 rfl ?_
          exact A_lret d_PM_greatestDivisor_58 (by decide) rfl ⟨_, rfl, ⟨by omega, by omega⟩, ⟨fun p q => by have hh := gdi_e (hinv.1 p q) (by omega); omega, fun p => by have hh := gd2_e (hinv.2 p) p (by omega); omega⟩, rfl⟩
        · have mc6 : (i1 - 1) < 0 := by omega
          refine A_lconst_1 d_PM_greatestDivisor_52 ?_
          refine A_goto (tgt := 58) d_PM_greatestDivisor_53 (by decide) ?_
          exact A_lret d_PM_greatestDivisor_58 (by decide) rfl ⟨_, rfl, ⟨by omega, by omega⟩, ⟨fun p q => by have hh := gdi_e (hinv.1 p q) (by omega); omega, fun p => by have hh := gd2_e (hinv.2 p) p (by omega); omega⟩, rfl⟩
      · refine A_lload d_PM_greatestDivisor_17 rfl ?_
        refine A_lconst_0 d_PM_greatestDivisor_19 ?_
        refine A_lcmpn d_PM_greatestDivisor_20 (fun x7 lx7 ex7 gx7 _ _ => ?_)
        refine A_if_eq (tgt := 45) d_PM_greatestDivisor_21 (by decide) (fun c8 => ?_) (fun c8 => ?_)
        · have mc8 : i2 = 0 := by omega
          refine A_lload d_PM_greatestDivisor_45 rfl ?_
          refine A_lconst_1 d_PM_greatestDivisor_47 ?_
          refine A_lcmpn d_PM_greatestDivisor_48 (fun x9 lx9 ex9 gx9 _ _ => ?_)
          refine A_if_ge (tgt := 56) d_PM_greatestDivisor_49 (by decide) (fun c10 => ?_) (fun c10 => ?_)
          · have mc10 : (i1 - 1) ≥ 0 := by omega
            refine A_lload d_PM_greatestDivisor_56 rfl ?_
            exact A_lret d_PM_greatestDivisor_58 (by decide) rfl ⟨_, rfl, ⟨by omega, by omega⟩, ⟨fun p q => by have hh := gdi_e (hinv.1 p q) (by omega); omega, fun p => by have hh := gd2_e (hinv.2 p) p (by omega); omega⟩, rfl⟩
          · have mc10 : (i1 - 1) < 0 := by omega
            refine A_lconst_1 d_PM_greatestDivisor_52 ?_
            refine A_goto (tgt := 58) d_PM_greatestDivisor_53 (by decide) ?_
            exact A_lret d_PM_greatestDivisor_58 (by decide) rfl ⟨_, rfl, ⟨by omega, by omega⟩, ⟨fun p q => by have hh := gdi_e (hinv.1 p q) (by omega); omega, fun p => by have hh := gd2_e (hinv.2 p) p (by omega); omega⟩, rfl⟩
        · have mc8 : i2 ≠ 0 := by omega
          refine A_lload d_PM_greatestDivisor_24 rfl ?_
          refine A_lload d_PM_greatestDivisor_26 rfl ?_
          refine A_lremc d_PM_greatestDivisor_28 (by omega) (fun x11 ex11 _ _ => ?_)
          refine A_lstore (L' := [some (av_L a0), none, some (av_L a1), none, some (av_L i1), none, some (av_L i2), none, some (av_I i3), some (av_L x11), none]) d_PM_greatestDivisor_29 (Nat.le_of_ble_eq_true rfl) rfl ?_
          refine A_lload d_PM_greatestDivisor_31 rfl ?_
          refine A_pc (pc' := 33) rfl ?_
          refine A_lstore (L' := [some (av_L a0), none, some (av_L a1), none, some (av_L i2), none, some (av_L i2), none, some (av_I i3), some (av_L x11), none]) d_PM_greatestDivisor_33 (Nat.le_of_ble_eq_true rfl) rfl ?_
          refine A_lload d_PM_greatestDivisor_35 rfl ?_
          refine A_lstore (L' := [some (av_L a0), none, some (av_L a1), none, some (av_L i2), none, some (av_L x11), none, some (av_I i3), some (av_L x11), none]) d_PM_greatestDivisor_37 (Nat.le_of_ble_eq_true rfl) rfl ?_
          refine A_iincv (z := (i3 + 1)) (L' := [some (av_L a0), none, some (av_L a1), none, some (av_L i2), none, some (av_L x11), none, some (av_I (i3 + 1)), some (av_L x11), none]) d_PM_greatestDivisor_39 rfl (w32_to (by omega) (by unfold i32; omega)) rfl ?_
          refine A_goto (tgt := 9) d_PM_greatestDivisor_42 (by decide) ?_
          refine A_free (L' := [some (av_L a0), none, some (av_L a1), none, some (av_L i2), none, some (av_L x11), none, some (av_I (i3 + 1)), none, none]) (And.intro rfl (And.intro rfl (And.intro rfl (And.intro rfl (And.intro rfl trivial))))) ?_
          exact ih9 i2 x11 (i3 + 1) (by omega) (by omega) (by omega) (by omega) (by omega) (by omega) ⟨fun p q => gdi_s (hinv.1 p q) (by omega) (by omega) ex11, fun p => gd2_s (hinv.2 p) (by omega) p (by omega) ex11⟩ (by omega)
  exact lp9 _ a0 a1 0 (by omega) (by omega) (by omega) (by omega) (by omega) (by omega) ⟨fun p q => gdi_0 p q (by omega) (by omega), fun p => gd2_0⟩ (Nat.lt_succ_self _)
theorem s_Voice_isTold {G : cx_T} {h : ah_T} {a0 : Int} {a1 : Int}  : con G 0 0 0 m_Voice_isTold [av_L a0, av_L a1] h (fun r h' => ∃ z, r = some (av_I z) ∧ (z = 0 ∨ z = 1) ∧ (z = 1 → a1 ≤ 1000000 ∧ (0 ≤ a1 → a0 ≤ 1000 * a1)) ∧ h = h') := by
  refine con_of (L := [some (av_L a0), none, some (av_L a1), none]) (by decide +kernel) (Nat.le_of_ble_eq_true rfl) rfl ?_
  refine A_locL 0 rfl (fun ra => ?_)
  obtain ⟨_, _⟩ := ra
  refine A_locL 2 rfl (fun ra => ?_)
  obtain ⟨_, _⟩ := ra
  refine A_lload_n 2 d_Voice_isTold_0 rfl rfl ?_
  refine A_ldc2 (z := 1000000) d_Voice_isTold_1 cst_Voice_76 rfl ?_
  refine A_lcmpn d_Voice_isTold_4 (fun x1 lx1 ex1 gx1 _ _ => ?_)
  refine A_if_gt (tgt := 22) d_Voice_isTold_5 (by decide) (fun c2 => ?_) (fun c2 => ?_)
  · have mc2 : (a1 - 1000000) > 0 := by omega
    refine A_iconst d_Voice_isTold_22 rfl ?_
    exact A_zret d_Voice_isTold_23 (by decide) rfl (by omega) ⟨_, rfl, by omega, (fun _ => ⟨by omega, fun q => by have q2 := w64_id (z := 1000 * a1) (by unfold i64; omega); omega⟩), rfl⟩
  · have mc2 : (a1 - 1000000) ≤ 0 := by omega
    refine A_lload_n 0 d_Voice_isTold_8 rfl rfl ?_
    refine A_ldc2 (z := 1000) d_Voice_isTold_9 cst_Voice_78 rfl ?_
    refine A_lload_n 2 d_Voice_isTold_12 rfl rfl ?_
    refine A_lmulw d_Voice_isTold_13 (fun x3 _ _ _ => ?_)
    refine A_lcmpn d_Voice_isTold_14 (fun x4 lx4 ex4 gx4 _ _ => ?_)
    refine A_pc (pc' := 15) rfl ?_
    refine A_if_gt (tgt := 22) d_Voice_isTold_15 (by decide) (fun c5 => ?_) (fun c5 => ?_)
    · have mc5 : (a0 - x3) > 0 := by omega
      refine A_iconst d_Voice_isTold_22 rfl ?_
      exact A_zret d_Voice_isTold_23 (by decide) rfl (by omega) ⟨_, rfl, by omega, (fun _ => ⟨by omega, fun q => by have q2 := w64_id (z := 1000 * a1) (by unfold i64; omega); omega⟩), rfl⟩
    · have mc5 : (a0 - x3) ≤ 0 := by omega
      refine A_iconst d_Voice_isTold_18 rfl ?_
      refine A_goto (tgt := 23) d_Voice_isTold_19 (by decide) ?_
      exact A_zret d_Voice_isTold_23 (by decide) rfl (by omega) ⟨_, rfl, by omega, (fun _ => ⟨by omega, fun q => by have q2 := w64_id (z := 1000 * a1) (by unfold i64; omega); omega⟩), rfl⟩
theorem s_Voice_addBar {G : cx_T} {s : Nat} {h : ah_T} (hx : xi s h) {a0 : Nat} (ta0 : tV s a0) (hb : h.2.1 a0 16 ≤ 100) : con G 0 0 0 m_Voice_addBar [av_R (some a0)] h (fun r h' => r = none ∧ (h'.2.1 a0 16 ≤ h.2.1 a0 16 + 1 ∧ h'.2.1 9 8 = h.2.1 9 8 ∧ h'.2.1 9 10 = h.2.1 9 10) ∧ kF (FB s) s h h') := by
  refine con_of (L := [some (av_R (some a0))]) (by decide +kernel) (Nat.le_of_ble_eq_true rfl) rfl ?_
  have hS : isS s := hx.2.1
  have hs0 : s = 17 ∨ s = 80 := hS
  have hs0b : 17 ≤ s ∧ s ≤ 80 := by omega
  have k0 : kF (FB s) s h h := kF_0 hx
  have ga0 : a0 = s + 7 ∨ a0 = s + 21 ∨ a0 = s + 35 ∨ a0 = s + 49 := ta0
  have ga0b : s + 7 ≤ a0 ∧ a0 ≤ s + 49 := by omega
  obtain ⟨sd1, esd1⟩ : ∃ x, x = h.2.1 a0 16 := ⟨_, rfl⟩
  have rsd1 : 0 ≤ sd1 ∧ sd1 ≤ 101 := (by rw [esd1]; exact xi_g k0.1 (lt1_V (tV_V hS ta0)) (rg_V_16 (tV_V hS ta0)))
  obtain ⟨sd2, esd2⟩ : ∃ x, x = h.2.1 9 8 := ⟨_, rfl⟩
  have rsd2 : 0 ≤ sd2 ∧ sd2 ≤ 100000 := (by rw [esd2]; exact xi_g k0.1 (by decide) rgf_9_8)
  obtain ⟨sd3, esd3⟩ : ∃ x, x = h.2.1 9 10 := ⟨_, rfl⟩
  have rsd3 : 0 ≤ sd3 ∧ sd3 ≤ 100000 := (by rw [esd3]; exact xi_g k0.1 (by decide) rgf_9_10)
  refine A_aload_n 0 d_Voice_addBar_0 rfl rfl ?_
  refine A_getIv (z := sd1) T_ok d_Voice_addBar_1 f_Voice_63 (xs_V k0.1 (tV_V hS ta0)) esd1.symm ?_
  refine A_aload_n 0 d_Voice_addBar_4 rfl rfl ?_
  refine A_getAv (z := some (a0 + 13)) T_ok d_Voice_addBar_5 f_Voice_50 (xs_V k0.1 (tV_V hS ta0)) (xr_V_15 k0.1 (tV_V hS ta0)) ?_
  refine A_alenN d_Voice_addBar_8 (xs_V_15 k0.1 (tV_V hS ta0)) (by decide) (by decide) ?_
  refine A_pc (pc' := 9) rfl ?_
  refine A_icmp_ge (tgt := 35) d_Voice_addBar_9 (by decide) (fun c => False.elim (by omega)) (fun c6 => ?_)
  refine A_aload_n 0 d_Voice_addBar_12 rfl rfl ?_
  refine A_getAv (z := some (a0 + 13)) T_ok d_Voice_addBar_13 f_Voice_50 (xs_V k0.1 (tV_V hS ta0)) (xr_V_15 k0.1 (tV_V hS ta0)) ?_
  refine A_aload_n 0 d_Voice_addBar_16 rfl rfl ?_
  refine A_getIv (z := sd1) T_ok d_Voice_addBar_17 f_Voice_63 (xs_V k0.1 (tV_V hS ta0)) esd1.symm ?_
  refine A_aload_n 0 d_Voice_addBar_20 rfl rfl ?_
  refine A_pc (pc' := 21) rfl ?_
  refine A_getIn (lo := 0) (hi := 300) T_ok d_Voice_addBar_21 f_Voice_60 (xs_V k0.1 (tV_V hS ta0)) (xi_g k0.1 (lt1_V (tV_V hS ta0)) (rg_V_14 (tV_V hS ta0))) (fun x9 ex9 _ _ => ?_)
  refine A_iastorek (KR := kF (FB s) s h) d_Voice_addBar_24 (xs_V_15 k0.1 (tV_V hS ta0)) (by omega) (by omega) (kF_j k0 (by omega) (ns_Vo (tV_V hS ta0) 13 (by decide) (by decide)) (rg_V_15 (tV_V hS ta0) _) (by omega) (by omega)) (fun h10 k11 eh10 => ?_)
  refine A_aload_n 0 d_Voice_addBar_25 rfl rfl ?_
  refine A_dupR d_Voice_addBar_26 ?_
  refine A_getIv (z := sd1) T_ok d_Voice_addBar_27 f_Voice_63 (xs_V k11.1 (tV_V hS ta0)) ((eh10.1 _ _ (fun q => by omega)).trans esd1.symm) ?_
  refine A_iconst d_Voice_addBar_30 rfl ?_
  refine A_pc (pc' := 31) rfl ?_
  refine A_iaddv (z := (sd1 + 1)) d_Voice_addBar_31 (w32_to (by omega) (by unfold i32; omega)) ?_
  refine A_putIk (KR := kF (FB s) s h) T_ok d_Voice_addBar_32 f_Voice_63 (xs_V k11.1 (tV_V hS ta0)) fin_f (kF_j k11 (by omega) (ns_V (tV_V hS ta0) (by decide)) (rg_V_16 (tV_V hS ta0)) (by omega) (by omega)) (fun h13 k14 eh13 => ?_)
  exact A_vret d_Voice_addBar_35 (by decide) rfl ⟨rfl, (by have qq0 := eh13.2.1; have qq1 := ((eh13.1 _ _ (fun q => by omega)).trans ((eh10.1 _ _ (fun q => by omega)).trans esd2.symm)); have qq2 := ((eh13.1 _ _ (fun q => by omega)).trans ((eh10.1 _ _ (fun q => by omega)).trans esd3.symm)); exact ⟨by omega, by omega, by omega⟩), k14⟩
theorem s_Voice_addEvent {G : cx_T} {s : Nat} {h : ah_T} (hx : xi s h) {a0 : Nat} {a1 : Int} {a2 : Int} {a3 : Int} (ta0 : tV s a0) (la2 : 1 ≤ a2) (ua2 : a2 ≤ 268435456) (la3 : 0 ≤ a3) (ua3 : a3 ≤ 268435456) : con G 1 0 0 m_Voice_addEvent [av_R (some a0), av_I a1, av_L a2, av_L a3] h (fun r h' => ∃ z, r = some (av_I z) ∧ (z = 0 ∨ z = 1) ∧ (h'.2.1 a0 16 = h.2.1 a0 16 ∧ h'.2.1 9 8 = h.2.1 9 8 ∧ h'.2.1 9 10 = h.2.1 9 10) ∧ kF (FB s) s h h') := by
  refine con_of (L := [some (av_R (some a0)), some (av_I a1), some (av_L a2), none, some (av_L a3), none, none, none, none, none, none, none, none, none, none, none, none, none, none]) (by decide +kernel) (Nat.le_of_ble_eq_true rfl) rfl ?_
  have hS : isS s := hx.2.1
  have hs0 : s = 17 ∨ s = 80 := hS
  have hs0b : 17 ≤ s ∧ s ≤ 80 := by omega
  have k0 : kF (FB s) s h h := kF_0 hx
  have ga0 : a0 = s + 7 ∨ a0 = s + 21 ∨ a0 = s + 35 ∨ a0 = s + 49 := ta0
  have ga0b : s + 7 ≤ a0 ∧ a0 ≤ s + 49 := by omega
  obtain ⟨sd1, esd1⟩ : ∃ x, x = h.2.1 a0 16 := ⟨_, rfl⟩
  have rsd1 : 0 ≤ sd1 ∧ sd1 ≤ 101 := (by rw [esd1]; exact xi_g k0.1 (lt1_V (tV_V hS ta0)) (rg_V_16 (tV_V hS ta0)))
  obtain ⟨sd2, esd2⟩ : ∃ x, x = h.2.1 9 8 := ⟨_, rfl⟩
  have rsd2 : 0 ≤ sd2 ∧ sd2 ≤ 100000 := (by rw [esd2]; exact xi_g k0.1 (by decide) rgf_9_8)
  obtain ⟨sd3, esd3⟩ : ∃ x, x = h.2.1 9 10 := ⟨_, rfl⟩
  have rsd3 : 0 ≤ sd3 ∧ sd3 ≤ 100000 := (by rw [esd3]; exact xi_g k0.1 (by decide) rgf_9_10)
  refine A_locI 1 rfl (fun ra => ?_)
  obtain ⟨_, _⟩ := ra
  refine A_aload_n 0 d_Voice_addEvent_0 rfl rfl ?_
  refine A_getIn (lo := 0) (hi := 300) T_ok d_Voice_addEvent_1 f_Voice_60 (xs_V k0.1 (tV_V hS ta0)) (xi_g k0.1 (lt1_V (tV_V hS ta0)) (rg_V_14 (tV_V hS ta0))) (fun x4 ex4 _ _ => ?_)
  refine A_sipush d_Voice_addEvent_4 rfl ?_
  refine A_icmp_ge (tgt := 21) d_Voice_addEvent_7 (by decide) (fun c5 => ?_) (fun c5 => ?_)
  · refine A_iconst d_Voice_addEvent_21 rfl ?_
    exact A_zret d_Voice_addEvent_22 (by decide) rfl (by omega) ⟨_, rfl, by omega, (by have qq0 := esd1.symm; have qq1 := esd2.symm; have qq2 := esd3.symm; exact ⟨by omega, by omega, by omega⟩), k0⟩
  · refine A_iload_n 1 d_Voice_addEvent_10 rfl rfl ?_
    refine A_if_lt (tgt := 21) d_Voice_addEvent_11 (by decide) (fun c6 => ?_) (fun c6 => ?_)
    · refine A_iconst d_Voice_addEvent_21 rfl ?_
      exact A_zret d_Voice_addEvent_22 (by decide) rfl (by omega) ⟨_, rfl, by omega, (by have qq0 := esd1.symm; have qq1 := esd2.symm; have qq2 := esd3.symm; exact ⟨by omega, by omega, by omega⟩), k0⟩
    · refine A_iload_n 1 d_Voice_addEvent_14 rfl rfl ?_
      refine A_sipush d_Voice_addEvent_15 rfl ?_
      refine A_icmp_lt (tgt := 23) d_Voice_addEvent_18 (by decide) (fun c7 => ?_) (fun c7 => ?_)
      · refine A_aload_n 0 d_Voice_addEvent_23 rfl rfl ?_
        refine A_getAv (z := some (a0 + 5)) T_ok d_Voice_addEvent_24 f_Voice_24 (xs_V k0.1 (tV_V hS ta0)) (xr_V_5 k0.1 (tV_V hS ta0)) ?_
        refine A_iload_n 1 d_Voice_addEvent_27 rfl rfl ?_
        refine A_ialoadn (lo := 0) (hi := 3) d_Voice_addEvent_28 (xs_V_5 k0.1 (tV_V hS ta0)) (by omega) (by omega) (xi_g k0.1 (lt2_V (tV_V hS ta0) (by decide)) (rg_V_5 (tV_V hS ta0) _)) (fun x9 ex9 _ _ => ?_)
        refine A_istore (L' := [some (av_R (some a0)), some (av_I a1), some (av_L a2), none, some (av_L a3), none, some (av_I x9), none, none, none, none, none, none, none, none, none, none, none, none]) d_Voice_addEvent_29 (Nat.le_of_ble_eq_true rfl) rfl ?_
        refine A_pc (pc' := 31) rfl ?_
        refine A_lload_n 2 d_Voice_addEvent_31 rfl rfl ?_
        refine A_ldc2 (z := 2) d_Voice_addEvent_32 cst_Voice_66 rfl ?_
        refine A_iload d_Voice_addEvent_35 rfl ?_
        refine A_lshl d_Voice_addEvent_37 ?_
        refine A_nrL (fun x10 ex10 _ _ => ?_)
        have bx10 := lshl_s (by decide) ex10 (by omega) (by omega)
        refine A_lconst_1 d_Voice_addEvent_38 ?_
        refine A_lsubv (z := (x10 - 1)) d_Voice_addEvent_39 (w64_to (by omega) (by unfold i64; omega)) ?_
        refine A_pc (pc' := 40) rfl ?_
        refine A_lmulw d_Voice_addEvent_40 (fun x11 ex11 _ _ => ?_)
        have bx11 := mul_pp64 (ux := 268435456) (uy := 15) ex11 (by omega) (by omega) (by omega) (by omega) (by decide)
        refine A_lstore (L' := [some (av_R (some a0)), some (av_I a1), some (av_L a2), none, some (av_L a3), none, some (av_I x9), some (av_L x11), none, none, none, none, none, none, none, none, none, none, none]) d_Voice_addEvent_41 (Nat.le_of_ble_eq_true rfl) rfl ?_
        refine A_lload d_Voice_addEvent_43 rfl ?_
        refine A_aload_n 0 d_Voice_addEvent_45 rfl rfl ?_
        refine A_getAv (z := some (a0 + 4)) T_ok d_Voice_addEvent_46 f_Voice_21 (xs_V k0.1 (tV_V hS ta0)) (xr_V_4 k0.1 (tV_V hS ta0)) ?_
        refine A_iload_n 1 d_Voice_addEvent_49 rfl rfl ?_
        refine A_pc (pc' := 50) rfl ?_
        refine A_ialoadn (lo := 0) (hi := 64) d_Voice_addEvent_50 (xs_V_4 k0.1 (tV_V hS ta0)) (by omega) (by omega) (xi_g k0.1 (lt2_V (tV_V hS ta0) (by decide)) (rg_V_4 (tV_V hS ta0) _)) (fun x13 ex13 _ _ => ?_)
        refine A_i2l d_Voice_addEvent_51 ?_
        refine A_lmulw d_Voice_addEvent_52 (fun x14 ex14 _ _ => ?_)
        have bx14 := mul_nn64 (ux := 268435456) (uy := 64) ex14 (by omega) (by omega) (by omega) (by omega) (by decide)
        refine A_lconst_1 d_Voice_addEvent_53 ?_
        refine A_iload d_Voice_addEvent_54 rfl ?_
        refine A_lshl d_Voice_addEvent_56 ?_
        refine A_nrL (fun x15 ex15 _ _ => ?_)
        have bx15 := lshl_s (by decide) ex15 (by omega) (by omega)
        refine A_pc (pc' := 57) rfl ?_
        refine A_lmulw d_Voice_addEvent_57 (fun x16 ex16 _ _ => ?_)
        have bx16 := mul_nn64 (ux := 17179869184) (uy := 8) ex16 (by omega) (by omega) (by omega) (by omega) (by decide)
        refine A_lstore (L' := [some (av_R (some a0)), some (av_I a1), some (av_L a2), none, some (av_L a3), none, some (av_I x9), some (av_L x11), none, some (av_L x16), none, none, none, none, none, none, none, none, none]) d_Voice_addEvent_58 (Nat.le_of_ble_eq_true rfl) rfl ?_
        refine A_lload d_Voice_addEvent_60 rfl ?_
        refine A_lload d_Voice_addEvent_62 rfl ?_
        refine A_callS2 m_PM_greatestDivisor d_Voice_addEvent_64 l_Voice_68 k_PM_greatestDivisor (by decide +kernel) (by decide) (Nat.le_of_ble_eq_true rfl) (s_PM_greatestDivisor  ) (fun r h17 hq => ?_)
        obtain ⟨x19, rfl, ⟨_, _⟩, xx19, rfl⟩ := hq
        refine A_lstore (L' := [some (av_R (some a0)), some (av_I a1), some (av_L a2), none, some (av_L a3), none, some (av_I x9), some (av_L x11), none, some (av_L x16), none, some (av_L x19), none, none, none, none, none, none, none]) d_Voice_addEvent_67 (Nat.le_of_ble_eq_true rfl) rfl ?_
        refine A_aload_n 0 d_Voice_addEvent_69 rfl rfl ?_
        refine A_getAv (z := some (a0 + 7)) T_ok d_Voice_addEvent_70 f_Voice_31 (xs_V k0.1 (tV_V hS ta0)) (xr_V_8 k0.1 (tV_V hS ta0)) ?_
        refine A_aload_n 0 d_Voice_addEvent_73 rfl rfl ?_
        refine A_getIv (z := x4) T_ok d_Voice_addEvent_74 f_Voice_60 (xs_V k0.1 (tV_V hS ta0)) ex4.symm ?_
        refine A_pc (pc' := 77) rfl ?_
        refine A_iload_n 1 d_Voice_addEvent_77 rfl rfl ?_
        refine A_iastorek (KR := kF (FB s) s h) d_Voice_addEvent_78 (xs_V_8 k0.1 (tV_V hS ta0)) (by omega) (by omega) (kF_j k0 (by omega) (ns_Vo (tV_V hS ta0) 7 (by decide) (by decide)) (rg_V_8 (tV_V hS ta0) _) (by omega) (by omega)) (fun h22 k23 eh22 => ?_)
        refine A_aload_n 0 d_Voice_addEvent_79 rfl rfl ?_
        refine A_getAv (z := some (a0 + 8)) T_ok d_Voice_addEvent_80 f_Voice_34 (xs_V k23.1 (tV_V hS ta0)) (xr_V_9 k23.1 (tV_V hS ta0)) ?_
        refine A_aload_n 0 d_Voice_addEvent_83 rfl rfl ?_
        refine A_getIv (z := x4) T_ok d_Voice_addEvent_84 f_Voice_60 (xs_V k23.1 (tV_V hS ta0)) ((eh22.1 _ _ (fun q => by omega)).trans ex4.symm) ?_
        refine A_pc (pc' := 87) rfl ?_
        refine A_aload_n 0 d_Voice_addEvent_87 rfl rfl ?_
        refine A_getIv (z := sd1) T_ok d_Voice_addEvent_88 f_Voice_63 (xs_V k23.1 (tV_V hS ta0)) ((eh22.1 _ _ (fun q => by omega)).trans esd1.symm) ?_
        refine A_iconst d_Voice_addEvent_91 rfl ?_
        refine A_isubv (z := (sd1 - 1)) d_Voice_addEvent_92 (w32_to (by omega) (by unfold i32; omega)) ?_
        refine A_iastorek (KR := kF (FB s) s h) d_Voice_addEvent_93 (xs_V_9 k23.1 (tV_V hS ta0)) (by omega) (by omega) (kF_j k23 (by omega) (ns_Vo (tV_V hS ta0) 8 (by decide) (by decide)) (rg_V_9 (tV_V hS ta0) _) (by omega) (by omega)) (fun h27 k28 eh27 => ?_)
        refine A_aload_n 0 d_Voice_addEvent_94 rfl rfl ?_
        refine A_pc (pc' := 95) rfl ?_
        refine A_getAv (z := some (a0 + 11)) T_ok d_Voice_addEvent_95 f_Voice_44 (xs_V k28.1 (tV_V hS ta0)) (xr_V_12 k28.1 (tV_V hS ta0)) ?_
        refine A_aload_n 0 d_Voice_addEvent_98 rfl rfl ?_
        refine A_getIv (z := x4) T_ok d_Voice_addEvent_99 f_Voice_60 (xs_V k28.1 (tV_V hS ta0)) ((eh27.1 _ _ (fun q => by omega)).trans ((eh22.1 _ _ (fun q => by omega)).trans ex4.symm)) ?_
        refine A_lload d_Voice_addEvent_102 rfl ?_
        refine A_lload d_Voice_addEvent_104 rfl ?_
        refine A_ldivc d_Voice_addEvent_106 (by omega) (fun x31 ex31 _ _ => ?_)
        have bx31 := div_nn64 ex31 (by omega) (by omega) (by omega)
        have gx31 : x19 ≤ x11 := (by have q1 := xx19.1 (by omega) (by omega); have q2 := gdv_le (a := x11) (b := x16) (by omega) (by omega); omega)
        have dx31 := div_ge1 bx31.2.2 (by omega) gx31
        refine A_lastorek (KR := kF (FB s) s h) d_Voice_addEvent_107 (xs_V_12 k28.1 (tV_V hS ta0)) (by omega) (by omega) (kF_ls k28 (by omega) (sem_le (kF_sem k28) (tV_V hS ta0) (by decide) (le_tn ((eh27.1 _ _ (fun q => by omega)).trans ((eh22.1 _ _ (fun q => by omega)).trans ex4.symm))))) (fun h32 k33 eh32 => ?_)
        refine A_pc (pc' := 108) rfl ?_
        refine A_aload_n 0 d_Voice_addEvent_108 rfl rfl ?_
        refine A_getAv (z := some (a0 + 12)) T_ok d_Voice_addEvent_109 f_Voice_47 (xs_V k33.1 (tV_V hS ta0)) (xr_V_13 k33.1 (tV_V hS ta0)) ?_
        refine A_aload_n 0 d_Voice_addEvent_112 rfl rfl ?_
        refine A_getIv (z := x4) T_ok d_Voice_addEvent_113 f_Voice_60 (xs_V k33.1 (tV_V hS ta0)) ((congrFun (congrFun eh32.1 _) _).trans ((eh27.1 _ _ (fun q => by omega)).trans ((eh22.1 _ _ (fun q => by omega)).trans ex4.symm))) ?_
        refine A_lload d_Voice_addEvent_116 rfl ?_
        refine A_lload d_Voice_addEvent_118 rfl ?_
        refine A_ldivc d_Voice_addEvent_120 (by omega) (fun x36 ex36 _ _ => ?_)
        have bx36 := div_nn64 ex36 (by omega) (by omega) (by omega)
        refine A_pc (pc' := 121) rfl ?_
        refine A_lastorek (KR := kF (FB s) s h) d_Voice_addEvent_121 (xs_V_13 k33.1 (tV_V hS ta0)) (by omega) (by omega) (kF_ls k33 (by omega) (sem_le (kF_sem k33) (tV_V hS ta0) (by decide) (le_tn ((congrFun (congrFun eh32.1 _) _).trans ((eh27.1 _ _ (fun q => by omega)).trans ((eh22.1 _ _ (fun q => by omega)).trans ex4.symm)))))) (fun h37 k38 eh37 => ?_)
        refine A_aload_n 0 d_Voice_addEvent_122 rfl rfl ?_
        refine A_getAv (z := some (a0 + 11)) T_ok d_Voice_addEvent_123 f_Voice_44 (xs_V k38.1 (tV_V hS ta0)) (xr_V_12 k38.1 (tV_V hS ta0)) ?_
        refine A_aload_n 0 d_Voice_addEvent_126 rfl rfl ?_
        refine A_getIv (z := x4) T_ok d_Voice_addEvent_127 f_Voice_60 (xs_V k38.1 (tV_V hS ta0)) ((congrFun (congrFun eh37.1 _) _).trans ((congrFun (congrFun eh32.1 _) _).trans ((eh27.1 _ _ (fun q => by omega)).trans ((eh22.1 _ _ (fun q => by omega)).trans ex4.symm)))) ?_
        refine A_laloadv (z := x31) d_Voice_addEvent_130 (xs_V_12 k38.1 (tV_V hS ta0)) (by omega) (by omega) ((eh37.2.1 _ _ (fun q => by omega)).trans eh32.2.2) ?_
        refine A_pc (pc' := 131) rfl ?_
        refine A_aload_n 0 d_Voice_addEvent_131 rfl rfl ?_
        refine A_getAv (z := some (a0 + 12)) T_ok d_Voice_addEvent_132 f_Voice_47 (xs_V k38.1 (tV_V hS ta0)) (xr_V_13 k38.1 (tV_V hS ta0)) ?_
        refine A_aload_n 0 d_Voice_addEvent_135 rfl rfl ?_
        refine A_getIv (z := x4) T_ok d_Voice_addEvent_136 f_Voice_60 (xs_V k38.1 (tV_V hS ta0)) ((congrFun (congrFun eh37.1 _) _).trans ((congrFun (congrFun eh32.1 _) _).trans ((eh27.1 _ _ (fun q => by omega)).trans ((eh22.1 _ _ (fun q => by omega)).trans ex4.symm)))) ?_
        refine A_laloadv (z := x36) d_Voice_addEvent_139 (xs_V_13 k38.1 (tV_V hS ta0)) (by omega) (by omega) eh37.2.2 ?_
        refine A_callS2 m_Voice_isTold d_Voice_addEvent_140 l_Voice_72 k_Voice_isTold (by decide +kernel) (by decide) (Nat.le_of_ble_eq_true rfl) (s_Voice_isTold  ) (fun r h45 hq => ?_)
        obtain ⟨x47, rfl, bx47, xx47, rfl⟩ := hq
        refine A_if_ne (tgt := 148) d_Voice_addEvent_143 (by decide) (fun c48 => ?_) (fun c48 => ?_)
        · refine A_aload_n 0 d_Voice_addEvent_148 rfl rfl ?_
          refine A_getAv (z := some (a0 + 9)) T_ok d_Voice_addEvent_149 f_Voice_37 (xs_V k38.1 (tV_V hS ta0)) (xr_V_10 k38.1 (tV_V hS ta0)) ?_
          refine A_aload_n 0 d_Voice_addEvent_152 rfl rfl ?_
          refine A_getIv (z := x4) T_ok d_Voice_addEvent_153 f_Voice_60 (xs_V k38.1 (tV_V hS ta0)) ((congrFun (congrFun eh37.1 _) _).trans ((congrFun (congrFun eh32.1 _) _).trans ((eh27.1 _ _ (fun q => by omega)).trans ((eh22.1 _ _ (fun q => by omega)).trans ex4.symm)))) ?_
          refine A_laloadf d_Voice_addEvent_156 (xs_V_10 k38.1 (tV_V hS ta0)) (by omega) (by omega) (fun x51 ex51 _ _ => ?_)
          refine A_pc (pc' := 157) rfl ?_
          refine A_aload_n 0 d_Voice_addEvent_157 rfl rfl ?_
          refine A_getAv (z := some (a0 + 12)) T_ok d_Voice_addEvent_158 f_Voice_47 (xs_V k38.1 (tV_V hS ta0)) (xr_V_13 k38.1 (tV_V hS ta0)) ?_
          refine A_aload_n 0 d_Voice_addEvent_161 rfl rfl ?_
          refine A_getIv (z := x4) T_ok d_Voice_addEvent_162 f_Voice_60 (xs_V k38.1 (tV_V hS ta0)) ((congrFun (congrFun eh37.1 _) _).trans ((congrFun (congrFun eh32.1 _) _).trans ((eh27.1 _ _ (fun q => by omega)).trans ((eh22.1 _ _ (fun q => by omega)).trans ex4.symm)))) ?_
          refine A_laloadv (z := x36) d_Voice_addEvent_165 (xs_V_13 k38.1 (tV_V hS ta0)) (by omega) (by omega) eh37.2.2 ?_
          refine A_lmulw d_Voice_addEvent_166 (fun x55 _ _ _ => ?_)
          refine A_pc (pc' := 167) rfl ?_
          refine A_aload_n 0 d_Voice_addEvent_167 rfl rfl ?_
          refine A_getAv (z := some (a0 + 11)) T_ok d_Voice_addEvent_168 f_Voice_44 (xs_V k38.1 (tV_V hS ta0)) (xr_V_12 k38.1 (tV_V hS ta0)) ?_
          refine A_aload_n 0 d_Voice_addEvent_171 rfl rfl ?_
          refine A_getIv (z := x4) T_ok d_Voice_addEvent_172 f_Voice_60 (xs_V k38.1 (tV_V hS ta0)) ((congrFun (congrFun eh37.1 _) _).trans ((congrFun (congrFun eh32.1 _) _).trans ((eh27.1 _ _ (fun q => by omega)).trans ((eh22.1 _ _ (fun q => by omega)).trans ex4.symm)))) ?_
          refine A_laloadv (z := x31) d_Voice_addEvent_175 (xs_V_12 k38.1 (tV_V hS ta0)) (by omega) (by omega) ((eh37.2.1 _ _ (fun q => by omega)).trans eh32.2.2) ?_
          refine A_aload_n 0 d_Voice_addEvent_176 rfl rfl ?_
          refine A_pc (pc' := 177) rfl ?_
          refine A_getAv (z := some (a0 + 10)) T_ok d_Voice_addEvent_177 f_Voice_41 (xs_V k38.1 (tV_V hS ta0)) (xr_V_11 k38.1 (tV_V hS ta0)) ?_
          refine A_aload_n 0 d_Voice_addEvent_180 rfl rfl ?_
          refine A_getIv (z := x4) T_ok d_Voice_addEvent_181 f_Voice_60 (xs_V k38.1 (tV_V hS ta0)) ((congrFun (congrFun eh37.1 _) _).trans ((congrFun (congrFun eh32.1 _) _).trans ((eh27.1 _ _ (fun q => by omega)).trans ((eh22.1 _ _ (fun q => by omega)).trans ex4.symm)))) ?_
          refine A_laloadf d_Voice_addEvent_184 (xs_V_11 k38.1 (tV_V hS ta0)) (by omega) (by omega) (fun x61 ex61 _ _ => ?_)
          refine A_lmulw d_Voice_addEvent_185 (fun x62 _ _ _ => ?_)
          refine A_laddw d_Voice_addEvent_186 (fun x63 _ _ _ => ?_)
          refine A_pc (pc' := 187) rfl ?_
          refine A_lstore (L' := [some (av_R (some a0)), some (av_I a1), some (av_L a2), none, some (av_L a3), none, some (av_I x9), some (av_L x11), none, some (av_L x16), none, some (av_L x19), none, some (av_L x63), none, none, none, none, none]) d_Voice_addEvent_187 (Nat.le_of_ble_eq_true rfl) rfl ?_
          refine A_aload_n 0 d_Voice_addEvent_189 rfl rfl ?_
          refine A_getAv (z := some (a0 + 10)) T_ok d_Voice_addEvent_190 f_Voice_41 (xs_V k38.1 (tV_V hS ta0)) (xr_V_11 k38.1 (tV_V hS ta0)) ?_
          refine A_aload_n 0 d_Voice_addEvent_193 rfl rfl ?_
          refine A_getIv (z := x4) T_ok d_Voice_addEvent_194 f_Voice_60 (xs_V k38.1 (tV_V hS ta0)) ((congrFun (congrFun eh37.1 _) _).trans ((congrFun (congrFun eh32.1 _) _).trans ((eh27.1 _ _ (fun q => by omega)).trans ((eh22.1 _ _ (fun q => by omega)).trans ex4.symm)))) ?_
          refine A_laloadv (z := x61) d_Voice_addEvent_197 (xs_V_11 k38.1 (tV_V hS ta0)) (by omega) (by omega) ex61.symm ?_
          refine A_pc (pc' := 198) rfl ?_
          refine A_aload_n 0 d_Voice_addEvent_198 rfl rfl ?_
          refine A_getAv (z := some (a0 + 12)) T_ok d_Voice_addEvent_199 f_Voice_47 (xs_V k38.1 (tV_V hS ta0)) (xr_V_13 k38.1 (tV_V hS ta0)) ?_
          refine A_aload_n 0 d_Voice_addEvent_202 rfl rfl ?_
          refine A_getIv (z := x4) T_ok d_Voice_addEvent_203 f_Voice_60 (xs_V k38.1 (tV_V hS ta0)) ((congrFun (congrFun eh37.1 _) _).trans ((congrFun (congrFun eh32.1 _) _).trans ((eh27.1 _ _ (fun q => by omega)).trans ((eh22.1 _ _ (fun q => by omega)).trans ex4.symm)))) ?_
          refine A_laloadv (z := x36) d_Voice_addEvent_206 (xs_V_13 k38.1 (tV_V hS ta0)) (by omega) (by omega) eh37.2.2 ?_
          refine A_lmulw d_Voice_addEvent_207 (fun x70 _ _ _ => ?_)
          refine A_pc (pc' := 208) rfl ?_
          refine A_lstore (L' := [some (av_R (some a0)), some (av_I a1), some (av_L a2), none, some (av_L a3), none, some (av_I x9), some (av_L x11), none, some (av_L x16), none, some (av_L x19), none, some (av_L x63), none, some (av_L x70), none, none, none]) d_Voice_addEvent_208 (Nat.le_of_ble_eq_true rfl) rfl ?_
          refine A_lload d_Voice_addEvent_210 rfl ?_
          refine A_lload d_Voice_addEvent_212 rfl ?_
          refine A_callS2 m_PM_greatestDivisor d_Voice_addEvent_214 l_Voice_68 k_PM_greatestDivisor (by decide +kernel) (by decide) (Nat.le_of_ble_eq_true rfl) (s_PM_greatestDivisor  ) (fun r h71 hq => ?_)
          obtain ⟨x73, rfl, ⟨_, _⟩, xx73, rfl⟩ := hq
          refine A_lstore (L' := [some (av_R (some a0)), some (av_I a1), some (av_L a2), none, some (av_L a3), none, some (av_I x9), some (av_L x11), none, some (av_L x16), none, some (av_L x19), none, some (av_L x63), none, some (av_L x70), none, some (av_L x73), none]) d_Voice_addEvent_217 (Nat.le_of_ble_eq_true rfl) rfl ?_
          refine A_aload_n 0 d_Voice_addEvent_219 rfl rfl ?_
          refine A_dupR d_Voice_addEvent_220 ?_
          refine A_getIv (z := x4) T_ok d_Voice_addEvent_221 f_Voice_60 (xs_V k38.1 (tV_V hS ta0)) ((congrFun (congrFun eh37.1 _) _).trans ((congrFun (congrFun eh32.1 _) _).trans ((eh27.1 _ _ (fun q => by omega)).trans ((eh22.1 _ _ (fun q => by omega)).trans ex4.symm)))) ?_
          refine A_iconst d_Voice_addEvent_224 rfl ?_
          refine A_pc (pc' := 225) rfl ?_
          refine A_iaddv (z := (x4 + 1)) d_Voice_addEvent_225 (w32_to (by omega) (by unfold i32; omega)) ?_
          refine A_putIk (KR := kF (FB s) s h) T_ok d_Voice_addEvent_226 f_Voice_60 (xs_V k38.1 (tV_V hS ta0)) fin_f (kF_js k38 (by omega) (sem_ev (x := x4) (kF_sem k38) (tV_V hS ta0) ((congrFun (congrFun eh37.1 _) _).trans ((congrFun (congrFun eh32.1 _) _).trans ((eh27.1 _ _ (fun q => by omega)).trans ((eh22.1 _ _ (fun q => by omega)).trans ex4.symm)))).symm (by omega) (by omega) (by have q1 := ((eh37.2.1 _ _ (fun q => by omega)).trans eh32.2.2); exact ⟨by omega, by omega⟩) (by have q2 := eh37.2.2; exact ⟨by omega, by omega⟩)) (rg_V_14 (tV_V hS ta0)) (by omega) (by omega)) (fun h75 k76 eh75 => ?_)
          refine A_aload_n 0 d_Voice_addEvent_229 rfl rfl ?_
          refine A_getAv (z := some (a0 + 9)) T_ok d_Voice_addEvent_230 f_Voice_37 (xs_V k76.1 (tV_V hS ta0)) (xr_V_10 k76.1 (tV_V hS ta0)) ?_
          refine A_aload_n 0 d_Voice_addEvent_233 rfl rfl ?_
          refine A_getIv (z := (x4 + 1)) T_ok d_Voice_addEvent_234 f_Voice_60 (xs_V k76.1 (tV_V hS ta0)) eh75.2.1 ?_
          refine A_pc (pc' := 237) rfl ?_
          refine A_lload d_Voice_addEvent_237 rfl ?_
          refine A_lload d_Voice_addEvent_239 rfl ?_
          refine A_ldivc d_Voice_addEvent_241 (by omega) (fun x79 ex79 _ _ => ?_)
          refine A_lastorek (KR := kF (FB s) s h) d_Voice_addEvent_242 (xs_V_10 k76.1 (tV_V hS ta0)) (by omega) (by omega) (kF_l k76 (by omega) (nl_Vo (tV_V hS ta0) 9 (by decide) (by decide))) (fun h80 k81 eh80 => ?_)
          refine A_aload_n 0 d_Voice_addEvent_243 rfl rfl ?_
          refine A_getAv (z := some (a0 + 10)) T_ok d_Voice_addEvent_244 f_Voice_41 (xs_V k81.1 (tV_V hS ta0)) (xr_V_11 k81.1 (tV_V hS ta0)) ?_
          refine A_pc (pc' := 247) rfl ?_
          refine A_aload_n 0 d_Voice_addEvent_247 rfl rfl ?_
          refine A_getIv (z := (x4 + 1)) T_ok d_Voice_addEvent_248 f_Voice_60 (xs_V k81.1 (tV_V hS ta0)) ((congrFun (congrFun eh80.1 _) _).trans eh75.2.1) ?_
          refine A_lload d_Voice_addEvent_251 rfl ?_
          refine A_lload d_Voice_addEvent_253 rfl ?_
          refine A_ldivc d_Voice_addEvent_255 (by omega) (fun x84 ex84 _ _ => ?_)
          refine A_lastorek (KR := kF (FB s) s h) d_Voice_addEvent_256 (xs_V_11 k81.1 (tV_V hS ta0)) (by omega) (by omega) (kF_l k81 (by omega) (nl_Vo (tV_V hS ta0) 10 (by decide) (by decide))) (fun h85 k86 eh85 => ?_)
          refine A_pc (pc' := 257) rfl ?_
          refine A_aload_n 0 d_Voice_addEvent_257 rfl rfl ?_
          refine A_getAv (z := some (a0 + 9)) T_ok d_Voice_addEvent_258 f_Voice_37 (xs_V k86.1 (tV_V hS ta0)) (xr_V_10 k86.1 (tV_V hS ta0)) ?_
          refine A_aload_n 0 d_Voice_addEvent_261 rfl rfl ?_
          refine A_getIv (z := (x4 + 1)) T_ok d_Voice_addEvent_262 f_Voice_60 (xs_V k86.1 (tV_V hS ta0)) ((congrFun (congrFun eh85.1 _) _).trans ((congrFun (congrFun eh80.1 _) _).trans eh75.2.1)) ?_
          refine A_laloadv (z := x79) d_Voice_addEvent_265 (xs_V_10 k86.1 (tV_V hS ta0)) (by omega) (by omega) ((eh85.2.1 _ _ (fun q => by omega)).trans eh80.2.2) ?_
          refine A_aload_n 0 d_Voice_addEvent_266 rfl rfl ?_
          refine A_pc (pc' := 267) rfl ?_
          refine A_getAv (z := some (a0 + 10)) T_ok d_Voice_addEvent_267 f_Voice_41 (xs_V k86.1 (tV_V hS ta0)) (xr_V_11 k86.1 (tV_V hS ta0)) ?_
          refine A_aload_n 0 d_Voice_addEvent_270 rfl rfl ?_
          refine A_getIv (z := (x4 + 1)) T_ok d_Voice_addEvent_271 f_Voice_60 (xs_V k86.1 (tV_V hS ta0)) ((congrFun (congrFun eh85.1 _) _).trans ((congrFun (congrFun eh80.1 _) _).trans eh75.2.1)) ?_
          refine A_laloadv (z := x84) d_Voice_addEvent_274 (xs_V_11 k86.1 (tV_V hS ta0)) (by omega) (by omega) eh85.2.2 ?_
          refine A_callS2 m_Voice_isTold d_Voice_addEvent_275 l_Voice_72 k_Voice_isTold (by decide +kernel) (by decide) (Nat.le_of_ble_eq_true rfl) (s_Voice_isTold  ) (fun r h93 hq => ?_)
          obtain ⟨x95, rfl, bx95, xx95, rfl⟩ := hq
          exact A_zret d_Voice_addEvent_278 (by decide) rfl (by omega) ⟨_, rfl, by omega, (by have qq0 := ((congrFun (congrFun eh85.1 _) _).trans ((congrFun (congrFun eh80.1 _) _).trans ((eh75.1 _ _ (fun _ => by decide)).trans ((congrFun (congrFun eh37.1 _) _).trans ((congrFun (congrFun eh32.1 _) _).trans ((eh27.1 _ _ (fun q => by omega)).trans ((eh22.1 _ _ (fun q => by omega)).trans esd1.symm))))))); have qq1 := ((congrFun (congrFun eh85.1 _) _).trans ((congrFun (congrFun eh80.1 _) _).trans ((eh75.1 _ _ (fun q => by omega)).trans ((congrFun (congrFun eh37.1 _) _).trans ((congrFun (congrFun eh32.1 _) _).trans ((eh27.1 _ _ (fun q => by omega)).trans ((eh22.1 _ _ (fun q => by omega)).trans esd2.symm))))))); have qq2 := ((congrFun (congrFun eh85.1 _) _).trans ((congrFun (congrFun eh80.1 _) _).trans ((eh75.1 _ _ (fun q => by omega)).trans ((congrFun (congrFun eh37.1 _) _).trans ((congrFun (congrFun eh32.1 _) _).trans ((eh27.1 _ _ (fun q => by omega)).trans ((eh22.1 _ _ (fun q => by omega)).trans esd3.symm))))))); exact ⟨by omega, by omega, by omega⟩), k86⟩
        · refine A_iconst d_Voice_addEvent_146 rfl ?_
          exact A_zret d_Voice_addEvent_147 (by decide) rfl (by omega) ⟨_, rfl, by omega, (by have qq0 := ((congrFun (congrFun eh37.1 _) _).trans ((congrFun (congrFun eh32.1 _) _).trans ((eh27.1 _ _ (fun q => by omega)).trans ((eh22.1 _ _ (fun q => by omega)).trans esd1.symm)))); have qq1 := ((congrFun (congrFun eh37.1 _) _).trans ((congrFun (congrFun eh32.1 _) _).trans ((eh27.1 _ _ (fun q => by omega)).trans ((eh22.1 _ _ (fun q => by omega)).trans esd2.symm)))); have qq2 := ((congrFun (congrFun eh37.1 _) _).trans ((congrFun (congrFun eh32.1 _) _).trans ((eh27.1 _ _ (fun q => by omega)).trans ((eh22.1 _ _ (fun q => by omega)).trans esd3.symm)))); exact ⟨by omega, by omega, by omega⟩), k38⟩
      · refine A_iconst d_Voice_addEvent_21 rfl ?_
        exact A_zret d_Voice_addEvent_22 (by decide) rfl (by omega) ⟨_, rfl, by omega, (by have qq0 := esd1.symm; have qq1 := esd2.symm; have qq2 := esd3.symm; exact ⟨by omega, by omega, by omega⟩), k0⟩
theorem s_Voice_signsOf {G : cx_T} {s : Nat} {h : ah_T} (hx : xi s h) {a0 : Nat} {a1 : Int} (ha0 : isV a0) (la1 : 0 ≤ a1) (ua1 : a1 ≤ 299) : con G 1 0 0 m_Voice_signsOf [av_R (some a0), av_I a1] h (fun r h' => ∃ z, r = some (av_I z) ∧ ((-2147483648) ≤ z ∧ z ≤ 2147483647) ∧ h = h') := by
  refine con_of (L := [some (av_R (some a0)), some (av_I a1), none, none, none, none]) (by decide +kernel) (Nat.le_of_ble_eq_true rfl) rfl ?_
  have hS : isS s := hx.2.1
  have hs0 : s = 17 ∨ s = 80 := hS
  have hs0b : 17 ≤ s ∧ s ≤ 80 := by omega
  have ga0 := lt_V ha0
  refine A_iconst d_Voice_signsOf_0 rfl ?_
  refine A_istore_n 2 (L' := [some (av_R (some a0)), some (av_I a1), some (av_I 0), none, none, none]) d_Voice_signsOf_1 rfl (Nat.le_of_ble_eq_true rfl) rfl ?_
  refine A_iconst d_Voice_signsOf_2 rfl ?_
  refine A_istore_n 3 (L' := [some (av_R (some a0)), some (av_I a1), some (av_I 0), some (av_I 0), none, none]) d_Voice_signsOf_3 rfl (Nat.le_of_ble_eq_true rfl) rfl ?_
  have lp4 : ∀ (n : Nat) (i1 i2 : Int) , (-2147483648) ≤ i1 → i1 ≤ 2147483647 → 0 ≤ i2 → i2 ≤ 300 → (301 - i2).toNat < n → aw G (rm_R 1 0 0) m_Voice_signsOf 0 0 4 [some (av_R (some a0)), some (av_I a1), some (av_I i1), some (av_I i2), none, none] [] h (fun r h' => ∃ z, r = some (av_I z) ∧ ((-2147483648) ≤ z ∧ z ≤ 2147483647) ∧ h = h') := by
    intro n
    induction n with
    | zero => intro i1 i2 _ _ _ _ hm; omega
    | succ n ih4 =>
      intro i1 i2 hl0 hl1 hl2 hl3 hm
      refine A_iload_n 3 d_Voice_signsOf_4 rfl rfl ?_
      refine A_aload_n 0 d_Voice_signsOf_5 rfl rfl ?_
      refine A_iload_n 1 d_Voice_signsOf_6 rfl rfl ?_
      refine A_callV1 m_Voice_pitchesOf T_ok d_Voice_signsOf_7 l_Voice_80 k_Voice_pitchesOf (xs_V hx ha0) rfl (by decide +kernel) (by decide) (Nat.le_of_ble_eq_true rfl) (s_Voice_pitchesOf hx ha0 (by omega) (by omega)) (fun r h3 hq => ?_)
      obtain ⟨x5, rfl, ⟨_, _⟩, rfl⟩ := hq
      refine A_icmp_ge (tgt := 66) d_Voice_signsOf_10 (by decide) (fun c6 => ?_) (fun c6 => ?_)
      · refine A_iload_n 2 d_Voice_signsOf_66 rfl rfl ?_
        exact A_iret d_Voice_signsOf_67 (by decide) rfl ⟨_, rfl, ⟨by omega, by omega⟩, rfl⟩
      · refine A_aload_n 0 d_Voice_signsOf_13 rfl rfl ?_
        refine A_iload_n 1 d_Voice_signsOf_14 rfl rfl ?_
        refine A_iload_n 3 d_Voice_signsOf_15 rfl rfl ?_
        refine A_callV2 m_Voice_stepOf T_ok d_Voice_signsOf_16 l_Voice_98 k_Voice_stepOf (xs_V hx ha0) rfl (by decide +kernel) (by decide) (Nat.le_of_ble_eq_true rfl) (s_Voice_stepOf hx ha0 (by omega) (by omega)) (fun r h7 hq => ?_)
        obtain ⟨x9, rfl, ⟨_, _⟩, rfl⟩ := hq
        refine A_istore (L' := [some (av_R (some a0)), some (av_I a1), some (av_I i1), some (av_I i2), some (av_I x9), none]) d_Voice_signsOf_19 (Nat.le_of_ble_eq_true rfl) rfl ?_
        refine A_bipush d_Voice_signsOf_21 rfl ?_
        refine A_iload d_Voice_signsOf_23 rfl ?_
        refine A_bipush d_Voice_signsOf_25 rfl ?_
        refine A_callS2 m_JMath_floorDiv d_Voice_signsOf_27 l_Voice_101 k_JMath_floorDiv (by decide +kernel) (by decide) (Nat.le_of_ble_eq_true rfl) (s_JMath_floorDiv  (by omega) (by omega)) (fun r h10 hq => ?_)
        obtain ⟨x12, rfl, ⟨_, _⟩, xx12, rfl⟩ := hq
        refine A_imulw d_Voice_signsOf_30 (fun x13 _ _ _ => ?_)
        refine A_getsA (q := ("NATURALS", 1, [0, 2, 4, 5, 7, 9, 11])) (by decide) gs_Voice_106 d_Voice_signsOf_31 ?_
        refine A_iload d_Voice_signsOf_34 rfl ?_
        refine A_bipush d_Voice_signsOf_36 rfl ?_
        refine A_callS2 m_JMath_floorMod d_Voice_signsOf_38 l_Voice_109 k_JMath_floorMod (by decide +kernel) (by decide) (Nat.le_of_ble_eq_true rfl) (s_JMath_floorMod  (by omega) (by omega)) (fun r h14 hq => ?_)
        obtain ⟨x16, rfl, ⟨_, _⟩, xx16, rfl⟩ := hq
        refine A_ialoadT (q := ("NATURALS", 1, [0, 2, 4, 5, 7, 9, 11])) d_Voice_signsOf_41 (by decide) (by decide) (by omega) (by simp only [List.length_cons, List.length_nil]; omega) (fun x17 ex17 => ?_)
        have bx17 := tab_r (lo := 0) (hi := 11) ex17 (by decide)
        refine A_iaddw d_Voice_signsOf_42 (fun x18 _ _ _ => ?_)
        refine A_istore (L' := [some (av_R (some a0)), some (av_I a1), some (av_I i1), some (av_I i2), some (av_I x9), some (av_I x18)]) d_Voice_signsOf_43 (Nat.le_of_ble_eq_true rfl) rfl ?_
        refine A_iload_n 2 d_Voice_signsOf_45 rfl rfl ?_
        refine A_aload_n 0 d_Voice_signsOf_46 rfl rfl ?_
        refine A_pc (pc' := 47) rfl ?_
        refine A_iload_n 1 d_Voice_signsOf_47 rfl rfl ?_
        refine A_iload_n 3 d_Voice_signsOf_48 rfl rfl ?_
        refine A_callV2 m_Voice_keyOf T_ok d_Voice_signsOf_49 l_Voice_91 k_Voice_keyOf (xs_V hx ha0) rfl (by decide +kernel) (by decide) (Nat.le_of_ble_eq_true rfl) (s_Voice_keyOf hx ha0 (by omega) (by omega)) (fun r h19 hq => ?_)
        obtain ⟨x21, rfl, ⟨_, _⟩, rfl⟩ := hq
        refine A_iload d_Voice_signsOf_52 rfl ?_
        refine A_isubw d_Voice_signsOf_54 (fun x22 _ _ _ => ?_)
        refine A_mabs d_Voice_signsOf_55 lm_Voice_112 ma_abs (by decide) (by decide) (Nat.le_of_ble_eq_true rfl) rfl ?_
        refine A_nrI (fun x23 ex23 _ _ => ?_)
        refine A_iaddw d_Voice_signsOf_58 (fun x24 _ _ _ => ?_)
        refine A_istore_n 2 (L' := [some (av_R (some a0)), some (av_I a1), some (av_I x24), some (av_I i2), some (av_I x9), some (av_I x18)]) d_Voice_signsOf_59 rfl (Nat.le_of_ble_eq_true rfl) rfl ?_
        refine A_pc (pc' := 60) rfl ?_
        refine A_iincv (z := (i2 + 1)) (L' := [some (av_R (some a0)), some (av_I a1), some (av_I x24), some (av_I (i2 + 1)), some (av_I x9), some (av_I x18)]) d_Voice_signsOf_60 rfl (w32_to (by omega) (by unfold i32; omega)) rfl ?_
        refine A_goto (tgt := 4) d_Voice_signsOf_63 (by decide) ?_
        refine A_free (L' := [some (av_R (some a0)), some (av_I a1), some (av_I x24), some (av_I (i2 + 1)), none, none]) (And.intro rfl (And.intro rfl (And.intro rfl (And.intro rfl trivial)))) ?_
        exact ih4 x24 (i2 + 1) (by omega) (by omega) (by omega) (by omega) (by omega)
  exact lp4 _ 0 0 (by omega) (by omega) (by omega) (by omega) (Nat.lt_succ_self _)

/-! ===== the class's methods, 22b ===== -/
def m_Score_clear : mr_T := (⟨"PlainMusic$Score", "clear", "()V"⟩, prog_8_method_2_code, 1, none)
theorem d_Score_clear_0 : decode prog_8_method_2_code 0 = .ok (.aload_n 0, 1) := by decide +kernel
theorem d_Score_clear_1 : decode prog_8_method_2_code 1 = .ok (.iconst 0, 1) := by decide +kernel
theorem d_Score_clear_2 : decode prog_8_method_2_code 2 = .ok (.putfield 41, 3) := by decide +kernel
theorem f_Score_41 : fl_OK "PlainMusic$Score" 41 6 1 .int false := ⟨_, rfl, by decide, gwi_351, rfl, rfl⟩
theorem d_Score_clear_5 : decode prog_8_method_2_code 5 = .ok (.aload_n 0, 1) := by decide +kernel
theorem d_Score_clear_6 : decode prog_8_method_2_code 6 = .ok (.iconst 4, 1) := by decide +kernel
theorem d_Score_clear_7 : decode prog_8_method_2_code 7 = .ok (.putfield 17, 3) := by decide +kernel
theorem d_Score_clear_10 : decode prog_8_method_2_code 10 = .ok (.aload_n 0, 1) := by decide +kernel
theorem d_Score_clear_11 : decode prog_8_method_2_code 11 = .ok (.iconst 4, 1) := by decide +kernel
theorem d_Score_clear_12 : decode prog_8_method_2_code 12 = .ok (.putfield 21, 3) := by decide +kernel
theorem d_Score_clear_15 : decode prog_8_method_2_code 15 = .ok (.aload_n 0, 1) := by decide +kernel
theorem d_Score_clear_16 : decode prog_8_method_2_code 16 = .ok (.iconst 0, 1) := by decide +kernel
theorem d_Score_clear_17 : decode prog_8_method_2_code 17 = .ok (.putfield 44, 3) := by decide +kernel
theorem f_Score_44 : fl_OK "PlainMusic$Score" 44 6 4 .boolean false := ⟨_, rfl, by decide, gwi_361, rfl, rfl⟩
theorem d_Score_clear_20 : decode prog_8_method_2_code 20 = .ok (.aload_n 0, 1) := by decide +kernel
theorem d_Score_clear_21 : decode prog_8_method_2_code 21 = .ok (.iconst 0, 1) := by decide +kernel
theorem d_Score_clear_22 : decode prog_8_method_2_code 22 = .ok (.putfield 48, 3) := by decide +kernel
theorem f_Score_48 : fl_OK "PlainMusic$Score" 48 6 6 .int false := ⟨_, rfl, by decide, gwi_365, rfl, rfl⟩
theorem d_Score_clear_25 : decode prog_8_method_2_code 25 = .ok (.aload_n 0, 1) := by decide +kernel
theorem d_Score_clear_26 : decode prog_8_method_2_code 26 = .ok (.iconst 0, 1) := by decide +kernel
theorem d_Score_clear_27 : decode prog_8_method_2_code 27 = .ok (.putfield 51, 3) := by decide +kernel
theorem f_Score_51 : fl_OK "PlainMusic$Score" 51 6 10 .int false := ⟨_, rfl, by decide, gwi_375, rfl, rfl⟩
theorem d_Score_clear_30 : decode prog_8_method_2_code 30 = .ok (.aload_n 0, 1) := by decide +kernel
theorem d_Score_clear_31 : decode prog_8_method_2_code 31 = .ok (.iconst 0, 1) := by decide +kernel
theorem d_Score_clear_32 : decode prog_8_method_2_code 32 = .ok (.putfield 54, 3) := by decide +kernel
theorem f_Score_54 : fl_OK "PlainMusic$Score" 54 6 12 .int false := ⟨_, rfl, by decide, gwi_381, rfl, rfl⟩
theorem d_Score_clear_35 : decode prog_8_method_2_code 35 = .ok (.return_, 1) := by decide +kernel
def m_Score_setTime : mr_T := (⟨"PlainMusic$Score", "setTime", "(II)V"⟩, prog_8_method_3_code, 3, none)
theorem d_Score_setTime_0 : decode prog_8_method_3_code 0 = .ok (.aload_n 0, 1) := by decide +kernel
theorem d_Score_setTime_1 : decode prog_8_method_3_code 1 = .ok (.iconst 1, 1) := by decide +kernel
theorem d_Score_setTime_2 : decode prog_8_method_3_code 2 = .ok (.putfield 44, 3) := by decide +kernel
theorem d_Score_setTime_5 : decode prog_8_method_3_code 5 = .ok (.aload_n 0, 1) := by decide +kernel
theorem d_Score_setTime_6 : decode prog_8_method_3_code 6 = .ok (.iload_n 1, 1) := by decide +kernel
theorem d_Score_setTime_7 : decode prog_8_method_3_code 7 = .ok (.putfield 17, 3) := by decide +kernel
theorem d_Score_setTime_10 : decode prog_8_method_3_code 10 = .ok (.aload_n 0, 1) := by decide +kernel
theorem d_Score_setTime_11 : decode prog_8_method_3_code 11 = .ok (.iload_n 2, 1) := by decide +kernel
theorem d_Score_setTime_12 : decode prog_8_method_3_code 12 = .ok (.putfield 21, 3) := by decide +kernel
theorem d_Score_setTime_15 : decode prog_8_method_3_code 15 = .ok (.return_, 1) := by decide +kernel
def m_Score_voiceAt : mr_T := (⟨"PlainMusic$Score", "voiceAt", "(I)LPlainMusic$Voice;"⟩, prog_8_method_5_code, 2, some (.object "PlainMusic$Voice"))
theorem d_Score_voiceAt_0 : decode prog_8_method_5_code 0 = .ok (.iload_n 1, 1) := by decide +kernel
theorem d_Score_voiceAt_1 : decode prog_8_method_5_code 1 = .ok (.ifCond .lt 29, 3) := by decide +kernel
theorem d_Score_voiceAt_30 : decode prog_8_method_5_code 30 = .ok (.aconst_null, 1) := by decide +kernel
theorem d_Score_voiceAt_31 : decode prog_8_method_5_code 31 = .ok (.areturn, 1) := by decide +kernel
theorem d_Score_voiceAt_4 : decode prog_8_method_5_code 4 = .ok (.iload_n 1, 1) := by decide +kernel
theorem d_Score_voiceAt_5 : decode prog_8_method_5_code 5 = .ok (.aload_n 0, 1) := by decide +kernel
theorem d_Score_voiceAt_6 : decode prog_8_method_5_code 6 = .ok (.getfield 41, 3) := by decide +kernel
theorem d_Score_voiceAt_9 : decode prog_8_method_5_code 9 = .ok (.if_icmp .ge 21, 3) := by decide +kernel
theorem d_Score_voiceAt_12 : decode prog_8_method_5_code 12 = .ok (.iload_n 1, 1) := by decide +kernel
theorem d_Score_voiceAt_13 : decode prog_8_method_5_code 13 = .ok (.aload_n 0, 1) := by decide +kernel
theorem d_Score_voiceAt_14 : decode prog_8_method_5_code 14 = .ok (.getfield 11, 3) := by decide +kernel
theorem d_Score_voiceAt_17 : decode prog_8_method_5_code 17 = .ok (.arraylength, 1) := by decide +kernel
theorem d_Score_voiceAt_18 : decode prog_8_method_5_code 18 = .ok (.if_icmp .ge 12, 3) := by decide +kernel
theorem d_Score_voiceAt_21 : decode prog_8_method_5_code 21 = .ok (.aload_n 0, 1) := by decide +kernel
theorem d_Score_voiceAt_22 : decode prog_8_method_5_code 22 = .ok (.getfield 11, 3) := by decide +kernel
theorem d_Score_voiceAt_25 : decode prog_8_method_5_code 25 = .ok (.iload_n 1, 1) := by decide +kernel
theorem d_Score_voiceAt_26 : decode prog_8_method_5_code 26 = .ok (.aaload, 1) := by decide +kernel
theorem d_Score_voiceAt_27 : decode prog_8_method_5_code 27 = .ok (.goto 4, 3) := by decide +kernel
def m_Score_newVoice : mr_T := (⟨"PlainMusic$Score", "newVoice", "()LPlainMusic$Voice;"⟩, prog_8_method_4_code, 2, some (.object "PlainMusic$Voice"))
theorem d_Score_newVoice_0 : decode prog_8_method_4_code 0 = .ok (.aload_n 0, 1) := by decide +kernel
theorem d_Score_newVoice_1 : decode prog_8_method_4_code 1 = .ok (.getfield 41, 3) := by decide +kernel
theorem d_Score_newVoice_4 : decode prog_8_method_4_code 4 = .ok (.aload_n 0, 1) := by decide +kernel
theorem d_Score_newVoice_5 : decode prog_8_method_4_code 5 = .ok (.getfield 11, 3) := by decide +kernel
theorem d_Score_newVoice_8 : decode prog_8_method_4_code 8 = .ok (.arraylength, 1) := by decide +kernel
theorem d_Score_newVoice_9 : decode prog_8_method_4_code 9 = .ok (.if_icmp .lt 5, 3) := by decide +kernel
theorem d_Score_newVoice_14 : decode prog_8_method_4_code 14 = .ok (.aload_n 0, 1) := by decide +kernel
theorem d_Score_newVoice_15 : decode prog_8_method_4_code 15 = .ok (.dup, 1) := by decide +kernel
theorem d_Score_newVoice_16 : decode prog_8_method_4_code 16 = .ok (.getfield 41, 3) := by decide +kernel
theorem d_Score_newVoice_19 : decode prog_8_method_4_code 19 = .ok (.iconst 1, 1) := by decide +kernel
theorem d_Score_newVoice_20 : decode prog_8_method_4_code 20 = .ok (.iadd, 1) := by decide +kernel
theorem d_Score_newVoice_21 : decode prog_8_method_4_code 21 = .ok (.putfield 41, 3) := by decide +kernel
theorem d_Score_newVoice_24 : decode prog_8_method_4_code 24 = .ok (.aload_n 0, 1) := by decide +kernel
theorem d_Score_newVoice_25 : decode prog_8_method_4_code 25 = .ok (.getfield 11, 3) := by decide +kernel
theorem d_Score_newVoice_28 : decode prog_8_method_4_code 28 = .ok (.aload_n 0, 1) := by decide +kernel
theorem d_Score_newVoice_29 : decode prog_8_method_4_code 29 = .ok (.getfield 41, 3) := by decide +kernel
theorem d_Score_newVoice_32 : decode prog_8_method_4_code 32 = .ok (.iconst 1, 1) := by decide +kernel
theorem d_Score_newVoice_33 : decode prog_8_method_4_code 33 = .ok (.isub, 1) := by decide +kernel
theorem d_Score_newVoice_34 : decode prog_8_method_4_code 34 = .ok (.aaload, 1) := by decide +kernel
theorem d_Score_newVoice_35 : decode prog_8_method_4_code 35 = .ok (.astore_n 1, 1) := by decide +kernel
theorem d_Score_newVoice_36 : decode prog_8_method_4_code 36 = .ok (.aload_n 1, 1) := by decide +kernel
theorem d_Score_newVoice_37 : decode prog_8_method_4_code 37 = .ok (.ifnull 7, 3) := by decide +kernel
theorem d_Score_newVoice_40 : decode prog_8_method_4_code 40 = .ok (.aload_n 1, 1) := by decide +kernel
theorem d_Score_newVoice_41 : decode prog_8_method_4_code 41 = .ok (.invokevirtual 57, 3) := by decide +kernel
theorem k_Voice_clear : mt_OK m_Voice_clear 0 1 := ⟨gwi_858, gwi_139, ⟨by decide +kernel, by decide +kernel, by decide +kernel⟩, fun h => absurd h (by decide), fun _ => ⟨gwi_856, gwi_857⟩, fun h => absurd h (by decide)⟩
theorem l_Score_57 : ml_OK "PlainMusic$Score" 57 ⟨"PlainMusic$Voice", "clear", "()V"⟩ := Or.inl gwi_855
theorem d_Score_newVoice_44 : decode prog_8_method_4_code 44 = .ok (.aload_n 1, 1) := by decide +kernel
theorem d_Score_newVoice_45 : decode prog_8_method_4_code 45 = .ok (.areturn, 1) := by decide +kernel
theorem d_Score_newVoice_12 : decode prog_8_method_4_code 12 = .ok (.aconst_null, 1) := by decide +kernel
theorem d_Score_newVoice_13 : decode prog_8_method_4_code 13 = .ok (.areturn, 1) := by decide +kernel
def m_Score_addToLine : mr_T := (⟨"PlainMusic$Score", "addToLine", "(I)Z"⟩, prog_8_method_6_code, 2, some .boolean)
theorem d_Score_addToLine_0 : decode prog_8_method_6_code 0 = .ok (.aload_n 0, 1) := by decide +kernel
theorem d_Score_addToLine_1 : decode prog_8_method_6_code 1 = .ok (.getfield 48, 3) := by decide +kernel
theorem d_Score_addToLine_4 : decode prog_8_method_6_code 4 = .ok (.aload_n 0, 1) := by decide +kernel
theorem d_Score_addToLine_5 : decode prog_8_method_6_code 5 = .ok (.getfield 24, 3) := by decide +kernel
theorem d_Score_addToLine_8 : decode prog_8_method_6_code 8 = .ok (.arraylength, 1) := by decide +kernel
theorem d_Score_addToLine_9 : decode prog_8_method_6_code 9 = .ok (.if_icmp .lt 5, 3) := by decide +kernel
theorem d_Score_addToLine_14 : decode prog_8_method_6_code 14 = .ok (.aload_n 0, 1) := by decide +kernel
theorem d_Score_addToLine_15 : decode prog_8_method_6_code 15 = .ok (.getfield 24, 3) := by decide +kernel
theorem d_Score_addToLine_18 : decode prog_8_method_6_code 18 = .ok (.aload_n 0, 1) := by decide +kernel
theorem d_Score_addToLine_19 : decode prog_8_method_6_code 19 = .ok (.getfield 48, 3) := by decide +kernel
theorem d_Score_addToLine_22 : decode prog_8_method_6_code 22 = .ok (.iload_n 1, 1) := by decide +kernel
theorem d_Score_addToLine_23 : decode prog_8_method_6_code 23 = .ok (.iastore, 1) := by decide +kernel
theorem d_Score_addToLine_24 : decode prog_8_method_6_code 24 = .ok (.aload_n 0, 1) := by decide +kernel
theorem d_Score_addToLine_25 : decode prog_8_method_6_code 25 = .ok (.dup, 1) := by decide +kernel
theorem d_Score_addToLine_26 : decode prog_8_method_6_code 26 = .ok (.getfield 48, 3) := by decide +kernel
theorem d_Score_addToLine_29 : decode prog_8_method_6_code 29 = .ok (.iconst 1, 1) := by decide +kernel
theorem d_Score_addToLine_30 : decode prog_8_method_6_code 30 = .ok (.iadd, 1) := by decide +kernel
theorem d_Score_addToLine_31 : decode prog_8_method_6_code 31 = .ok (.putfield 48, 3) := by decide +kernel
theorem d_Score_addToLine_34 : decode prog_8_method_6_code 34 = .ok (.iconst 1, 1) := by decide +kernel
theorem d_Score_addToLine_35 : decode prog_8_method_6_code 35 = .ok (.ireturn, 1) := by decide +kernel
theorem d_Score_addToLine_12 : decode prog_8_method_6_code 12 = .ok (.iconst 0, 1) := by decide +kernel
theorem d_Score_addToLine_13 : decode prog_8_method_6_code 13 = .ok (.ireturn, 1) := by decide +kernel
def m_Score_addRule : mr_T := (⟨"PlainMusic$Score", "addRule", "(III)V"⟩, prog_8_method_7_code, 4, none)
theorem d_Score_addRule_0 : decode prog_8_method_7_code 0 = .ok (.aload_n 0, 1) := by decide +kernel
theorem d_Score_addRule_1 : decode prog_8_method_7_code 1 = .ok (.getfield 51, 3) := by decide +kernel
theorem d_Score_addRule_4 : decode prog_8_method_7_code 4 = .ok (.aload_n 0, 1) := by decide +kernel
theorem d_Score_addRule_5 : decode prog_8_method_7_code 5 = .ok (.getfield 28, 3) := by decide +kernel
theorem d_Score_addRule_8 : decode prog_8_method_7_code 8 = .ok (.arraylength, 1) := by decide +kernel
theorem d_Score_addRule_9 : decode prog_8_method_7_code 9 = .ok (.if_icmp .ge 43, 3) := by decide +kernel
theorem d_Score_addRule_52 : decode prog_8_method_7_code 52 = .ok (.return_, 1) := by decide +kernel
theorem d_Score_addRule_12 : decode prog_8_method_7_code 12 = .ok (.aload_n 0, 1) := by decide +kernel
theorem d_Score_addRule_13 : decode prog_8_method_7_code 13 = .ok (.getfield 28, 3) := by decide +kernel
theorem d_Score_addRule_16 : decode prog_8_method_7_code 16 = .ok (.aload_n 0, 1) := by decide +kernel
theorem d_Score_addRule_17 : decode prog_8_method_7_code 17 = .ok (.getfield 51, 3) := by decide +kernel
theorem d_Score_addRule_20 : decode prog_8_method_7_code 20 = .ok (.iload_n 1, 1) := by decide +kernel
theorem d_Score_addRule_21 : decode prog_8_method_7_code 21 = .ok (.iastore, 1) := by decide +kernel
theorem d_Score_addRule_22 : decode prog_8_method_7_code 22 = .ok (.aload_n 0, 1) := by decide +kernel
theorem d_Score_addRule_23 : decode prog_8_method_7_code 23 = .ok (.getfield 31, 3) := by decide +kernel
theorem d_Score_addRule_26 : decode prog_8_method_7_code 26 = .ok (.aload_n 0, 1) := by decide +kernel
theorem d_Score_addRule_27 : decode prog_8_method_7_code 27 = .ok (.getfield 51, 3) := by decide +kernel
theorem d_Score_addRule_30 : decode prog_8_method_7_code 30 = .ok (.iload_n 2, 1) := by decide +kernel
theorem d_Score_addRule_31 : decode prog_8_method_7_code 31 = .ok (.iastore, 1) := by decide +kernel
theorem d_Score_addRule_32 : decode prog_8_method_7_code 32 = .ok (.aload_n 0, 1) := by decide +kernel
theorem d_Score_addRule_33 : decode prog_8_method_7_code 33 = .ok (.getfield 34, 3) := by decide +kernel
theorem d_Score_addRule_36 : decode prog_8_method_7_code 36 = .ok (.aload_n 0, 1) := by decide +kernel
theorem d_Score_addRule_37 : decode prog_8_method_7_code 37 = .ok (.getfield 51, 3) := by decide +kernel
theorem d_Score_addRule_40 : decode prog_8_method_7_code 40 = .ok (.iload_n 3, 1) := by decide +kernel
theorem d_Score_addRule_41 : decode prog_8_method_7_code 41 = .ok (.iastore, 1) := by decide +kernel
theorem d_Score_addRule_42 : decode prog_8_method_7_code 42 = .ok (.aload_n 0, 1) := by decide +kernel
theorem d_Score_addRule_43 : decode prog_8_method_7_code 43 = .ok (.dup, 1) := by decide +kernel
theorem d_Score_addRule_44 : decode prog_8_method_7_code 44 = .ok (.getfield 51, 3) := by decide +kernel
theorem d_Score_addRule_47 : decode prog_8_method_7_code 47 = .ok (.iconst 1, 1) := by decide +kernel
theorem d_Score_addRule_48 : decode prog_8_method_7_code 48 = .ok (.iadd, 1) := by decide +kernel
theorem d_Score_addRule_49 : decode prog_8_method_7_code 49 = .ok (.putfield 51, 3) := by decide +kernel
def m_Score_addToRow : mr_T := (⟨"PlainMusic$Score", "addToRow", "(I)V"⟩, prog_8_method_8_code, 2, none)
theorem d_Score_addToRow_0 : decode prog_8_method_8_code 0 = .ok (.aload_n 0, 1) := by decide +kernel
theorem d_Score_addToRow_1 : decode prog_8_method_8_code 1 = .ok (.getfield 54, 3) := by decide +kernel
theorem d_Score_addToRow_4 : decode prog_8_method_8_code 4 = .ok (.aload_n 0, 1) := by decide +kernel
theorem d_Score_addToRow_5 : decode prog_8_method_8_code 5 = .ok (.getfield 37, 3) := by decide +kernel
theorem d_Score_addToRow_8 : decode prog_8_method_8_code 8 = .ok (.arraylength, 1) := by decide +kernel
theorem d_Score_addToRow_9 : decode prog_8_method_8_code 9 = .ok (.if_icmp .ge 23, 3) := by decide +kernel
theorem d_Score_addToRow_32 : decode prog_8_method_8_code 32 = .ok (.return_, 1) := by decide +kernel
theorem d_Score_addToRow_12 : decode prog_8_method_8_code 12 = .ok (.aload_n 0, 1) := by decide +kernel
theorem d_Score_addToRow_13 : decode prog_8_method_8_code 13 = .ok (.getfield 37, 3) := by decide +kernel
theorem d_Score_addToRow_16 : decode prog_8_method_8_code 16 = .ok (.aload_n 0, 1) := by decide +kernel
theorem d_Score_addToRow_17 : decode prog_8_method_8_code 17 = .ok (.getfield 54, 3) := by decide +kernel
theorem d_Score_addToRow_20 : decode prog_8_method_8_code 20 = .ok (.iload_n 1, 1) := by decide +kernel
theorem d_Score_addToRow_21 : decode prog_8_method_8_code 21 = .ok (.iastore, 1) := by decide +kernel
theorem d_Score_addToRow_22 : decode prog_8_method_8_code 22 = .ok (.aload_n 0, 1) := by decide +kernel
theorem d_Score_addToRow_23 : decode prog_8_method_8_code 23 = .ok (.dup, 1) := by decide +kernel
theorem d_Score_addToRow_24 : decode prog_8_method_8_code 24 = .ok (.getfield 54, 3) := by decide +kernel
theorem d_Score_addToRow_27 : decode prog_8_method_8_code 27 = .ok (.iconst 1, 1) := by decide +kernel
theorem d_Score_addToRow_28 : decode prog_8_method_8_code 28 = .ok (.iadd, 1) := by decide +kernel
theorem d_Score_addToRow_29 : decode prog_8_method_8_code 29 = .ok (.putfield 54, 3) := by decide +kernel
def m_Score_allEvents : mr_T := (⟨"PlainMusic$Score", "allEvents", "()I"⟩, prog_8_method_9_code, 4, some .int)
theorem d_Score_allEvents_0 : decode prog_8_method_9_code 0 = .ok (.iconst 0, 1) := by decide +kernel
theorem d_Score_allEvents_1 : decode prog_8_method_9_code 1 = .ok (.istore_n 1, 1) := by decide +kernel
theorem d_Score_allEvents_2 : decode prog_8_method_9_code 2 = .ok (.iconst 0, 1) := by decide +kernel
theorem d_Score_allEvents_3 : decode prog_8_method_9_code 3 = .ok (.istore_n 2, 1) := by decide +kernel
theorem d_Score_allEvents_4 : decode prog_8_method_9_code 4 = .ok (.iload_n 2, 1) := by decide +kernel
theorem d_Score_allEvents_5 : decode prog_8_method_9_code 5 = .ok (.aload_n 0, 1) := by decide +kernel
theorem d_Score_allEvents_6 : decode prog_8_method_9_code 6 = .ok (.getfield 41, 3) := by decide +kernel
theorem d_Score_allEvents_9 : decode prog_8_method_9_code 9 = .ok (.if_icmp .ge 30, 3) := by decide +kernel
theorem d_Score_allEvents_39 : decode prog_8_method_9_code 39 = .ok (.iload_n 1, 1) := by decide +kernel
theorem d_Score_allEvents_40 : decode prog_8_method_9_code 40 = .ok (.ireturn, 1) := by decide +kernel
theorem d_Score_allEvents_12 : decode prog_8_method_9_code 12 = .ok (.aload_n 0, 1) := by decide +kernel
theorem d_Score_allEvents_13 : decode prog_8_method_9_code 13 = .ok (.iload_n 2, 1) := by decide +kernel
theorem d_Score_allEvents_14 : decode prog_8_method_9_code 14 = .ok (.invokevirtual 60, 3) := by decide +kernel
theorem k_Score_voiceAt : mt_OK m_Score_voiceAt 1 1 := ⟨gwi_1018, gwi_138, ⟨by decide +kernel, by decide +kernel, by decide +kernel⟩, fun h => absurd h (by decide), fun _ => ⟨gwi_1016, gwi_1017⟩, fun h => absurd h (by decide)⟩
theorem l_Score_60 : ml_OK "PlainMusic$Score" 60 ⟨"PlainMusic$Score", "voiceAt", "(I)LPlainMusic$Voice;"⟩ := Or.inl gwi_1015
theorem d_Score_allEvents_17 : decode prog_8_method_9_code 17 = .ok (.astore_n 3, 1) := by decide +kernel
theorem d_Score_allEvents_18 : decode prog_8_method_9_code 18 = .ok (.iload_n 1, 1) := by decide +kernel
theorem d_Score_allEvents_19 : decode prog_8_method_9_code 19 = .ok (.aload_n 3, 1) := by decide +kernel
theorem d_Score_allEvents_20 : decode prog_8_method_9_code 20 = .ok (.ifnonnull 7, 3) := by decide +kernel
theorem d_Score_allEvents_23 : decode prog_8_method_9_code 23 = .ok (.iconst 0, 1) := by decide +kernel
theorem d_Score_allEvents_24 : decode prog_8_method_9_code 24 = .ok (.goto 7, 3) := by decide +kernel
theorem d_Score_allEvents_31 : decode prog_8_method_9_code 31 = .ok (.iadd, 1) := by decide +kernel
theorem d_Score_allEvents_32 : decode prog_8_method_9_code 32 = .ok (.istore_n 1, 1) := by decide +kernel
theorem d_Score_allEvents_33 : decode prog_8_method_9_code 33 = .ok (.iinc 2 1, 3) := by decide +kernel
theorem d_Score_allEvents_36 : decode prog_8_method_9_code 36 = .ok (.goto (-32), 3) := by decide +kernel
theorem d_Score_allEvents_27 : decode prog_8_method_9_code 27 = .ok (.aload_n 3, 1) := by decide +kernel
theorem d_Score_allEvents_28 : decode prog_8_method_9_code 28 = .ok (.getfield 64, 3) := by decide +kernel
theorem f_Score_64 : fl_OK "PlainMusic$Score" 64 10 14 .int false := ⟨_, rfl, by decide, gwi_304, rfl, rfl⟩
def m_Score_mostBars : mr_T := (⟨"PlainMusic$Score", "mostBars", "()I"⟩, prog_8_method_10_code, 4, some .int)
theorem d_Score_mostBars_0 : decode prog_8_method_10_code 0 = .ok (.iconst 0, 1) := by decide +kernel
theorem d_Score_mostBars_1 : decode prog_8_method_10_code 1 = .ok (.istore_n 1, 1) := by decide +kernel
theorem d_Score_mostBars_2 : decode prog_8_method_10_code 2 = .ok (.iconst 0, 1) := by decide +kernel
theorem d_Score_mostBars_3 : decode prog_8_method_10_code 3 = .ok (.istore_n 2, 1) := by decide +kernel
theorem d_Score_mostBars_4 : decode prog_8_method_10_code 4 = .ok (.iload_n 2, 1) := by decide +kernel
theorem d_Score_mostBars_5 : decode prog_8_method_10_code 5 = .ok (.aload_n 0, 1) := by decide +kernel
theorem d_Score_mostBars_6 : decode prog_8_method_10_code 6 = .ok (.getfield 41, 3) := by decide +kernel
theorem d_Score_mostBars_9 : decode prog_8_method_10_code 9 = .ok (.if_icmp .ge 32, 3) := by decide +kernel
theorem d_Score_mostBars_41 : decode prog_8_method_10_code 41 = .ok (.iload_n 1, 1) := by decide +kernel
theorem d_Score_mostBars_42 : decode prog_8_method_10_code 42 = .ok (.ireturn, 1) := by decide +kernel
theorem d_Score_mostBars_12 : decode prog_8_method_10_code 12 = .ok (.aload_n 0, 1) := by decide +kernel
theorem d_Score_mostBars_13 : decode prog_8_method_10_code 13 = .ok (.iload_n 2, 1) := by decide +kernel
theorem d_Score_mostBars_14 : decode prog_8_method_10_code 14 = .ok (.invokevirtual 60, 3) := by decide +kernel
theorem d_Score_mostBars_17 : decode prog_8_method_10_code 17 = .ok (.astore_n 3, 1) := by decide +kernel
theorem d_Score_mostBars_18 : decode prog_8_method_10_code 18 = .ok (.iload_n 1, 1) := by decide +kernel
theorem d_Score_mostBars_19 : decode prog_8_method_10_code 19 = .ok (.aload_n 3, 1) := by decide +kernel
theorem d_Score_mostBars_20 : decode prog_8_method_10_code 20 = .ok (.ifnonnull 7, 3) := by decide +kernel
theorem d_Score_mostBars_23 : decode prog_8_method_10_code 23 = .ok (.iconst 0, 1) := by decide +kernel
theorem d_Score_mostBars_24 : decode prog_8_method_10_code 24 = .ok (.goto 7, 3) := by decide +kernel
theorem d_Score_mostBars_31 : decode prog_8_method_10_code 31 = .ok (.invokestatic 70, 3) := by decide +kernel
theorem lm_Score_70 : Cond.methodLink "PlainMusic$Score" 70 Lib.Math.max.name ∈ gw := gwi_1032
theorem d_Score_mostBars_34 : decode prog_8_method_10_code 34 = .ok (.istore_n 1, 1) := by decide +kernel
theorem d_Score_mostBars_35 : decode prog_8_method_10_code 35 = .ok (.iinc 2 1, 3) := by decide +kernel
theorem d_Score_mostBars_38 : decode prog_8_method_10_code 38 = .ok (.goto (-34), 3) := by decide +kernel
theorem d_Score_mostBars_27 : decode prog_8_method_10_code 27 = .ok (.aload_n 3, 1) := by decide +kernel
theorem d_Score_mostBars_28 : decode prog_8_method_10_code 28 = .ok (.getfield 67, 3) := by decide +kernel
theorem f_Score_67 : fl_OK "PlainMusic$Score" 67 10 16 .int false := ⟨_, rfl, by decide, gwi_313, rfl, rfl⟩
theorem s_Score_clear {G : cx_T} {s : Nat} {h : ah_T} (hx : xi s h)   : con G 0 0 0 m_Score_clear [av_R (some s)] h (fun r h' => r = none ∧ kF (FB s) s h h') := by
  refine con_of (L := [some (av_R (some s))]) (by decide +kernel) (Nat.le_of_ble_eq_true rfl) rfl ?_
  have hS : isS s := hx.2.1
  have hs0 : s = 17 ∨ s = 80 := hS
  have hs0b : 17 ≤ s ∧ s ≤ 80 := by omega
  have k0 : kF (FB s) s h h := kF_0 hx
  refine A_aload_n 0 d_Score_clear_0 rfl rfl ?_
  refine A_iconst d_Score_clear_1 rfl ?_
  refine A_putIk (KR := kF (FB s) s h) T_ok d_Score_clear_2 f_Score_41 (xs_S k0.1 hS) fin_f (kF_j k0 (by omega) (ns_S hS) (rg_S_1 hS) (by omega) (by omega)) (fun h1 k2 eh1 => ?_)
  refine A_aload_n 0 d_Score_clear_5 rfl rfl ?_
  refine A_iconst d_Score_clear_6 rfl ?_
  refine A_pc (pc' := 7) rfl ?_
  refine A_putIk (KR := kF (FB s) s h) T_ok d_Score_clear_7 f_Score_17 (xs_S k2.1 hS) fin_f (kF_j k2 (by omega) (ns_S hS) (rg_S_2 hS) (by omega) (by omega)) (fun h3 k4 eh3 => ?_)
  refine A_aload_n 0 d_Score_clear_10 rfl rfl ?_
  refine A_iconst d_Score_clear_11 rfl ?_
  refine A_putIk (KR := kF (FB s) s h) T_ok d_Score_clear_12 f_Score_21 (xs_S k4.1 hS) fin_f (kF_j k4 (by omega) (ns_S hS) (rg_S_3 hS) (by omega) (by omega)) (fun h5 k6 eh5 => ?_)
  refine A_aload_n 0 d_Score_clear_15 rfl rfl ?_
  refine A_iconst d_Score_clear_16 rfl ?_
  refine A_pc (pc' := 17) rfl ?_
  refine A_putZk (KR := kF (FB s) s h) T_ok d_Score_clear_17 f_Score_44 (xs_S k6.1 hS) fin_f (by omega) (kF_j k6 (by omega) (ns_S hS) (rg_S_4 hS) (by omega) (by omega)) (fun h7 k8 eh7 => ?_)
  refine A_aload_n 0 d_Score_clear_20 rfl rfl ?_
  refine A_iconst d_Score_clear_21 rfl ?_
  refine A_putIk (KR := kF (FB s) s h) T_ok d_Score_clear_22 f_Score_48 (xs_S k8.1 hS) fin_f (kF_j k8 (by omega) (ns_S hS) (rg_S_6 hS) (by omega) (by omega)) (fun h9 k10 eh9 => ?_)
  refine A_aload_n 0 d_Score_clear_25 rfl rfl ?_
  refine A_iconst d_Score_clear_26 rfl ?_
  refine A_pc (pc' := 27) rfl ?_
  refine A_putIk (KR := kF (FB s) s h) T_ok d_Score_clear_27 f_Score_51 (xs_S k10.1 hS) fin_f (kF_j k10 (by omega) (ns_S hS) (rg_S_10 hS) (by omega) (by omega)) (fun h11 k12 eh11 => ?_)
  refine A_aload_n 0 d_Score_clear_30 rfl rfl ?_
  refine A_iconst d_Score_clear_31 rfl ?_
  refine A_putIk (KR := kF (FB s) s h) T_ok d_Score_clear_32 f_Score_54 (xs_S k12.1 hS) fin_f (kF_j k12 (by omega) (ns_S hS) (rg_S_12 hS) (by omega) (by omega)) (fun h13 k14 eh13 => ?_)
  exact A_vret d_Score_clear_35 (by decide) rfl ⟨rfl, k14⟩
theorem s_Score_setTime {G : cx_T} {s : Nat} {h : ah_T} (hx : xi s h) {a1 : Int} {a2 : Int}  : con G 0 0 0 m_Score_setTime [av_R (some s), av_I a1, av_I a2] h (fun r h' => r = none ∧ kF (FB s) s h h') := by
  refine con_of (L := [some (av_R (some s)), some (av_I a1), some (av_I a2)]) (by decide +kernel) (Nat.le_of_ble_eq_true rfl) rfl ?_
  have hS : isS s := hx.2.1
  have hs0 : s = 17 ∨ s = 80 := hS
  have hs0b : 17 ≤ s ∧ s ≤ 80 := by omega
  have k0 : kF (FB s) s h h := kF_0 hx
  refine A_locI 1 rfl (fun ra => ?_)
  obtain ⟨_, _⟩ := ra
  refine A_locI 2 rfl (fun ra => ?_)
  obtain ⟨_, _⟩ := ra
  refine A_aload_n 0 d_Score_setTime_0 rfl rfl ?_
  refine A_iconst d_Score_setTime_1 rfl ?_
  refine A_putZk (KR := kF (FB s) s h) T_ok d_Score_setTime_2 f_Score_44 (xs_S k0.1 hS) fin_f (by omega) (kF_j k0 (by omega) (ns_S hS) (rg_S_4 hS) (by omega) (by omega)) (fun h1 k2 eh1 => ?_)
  refine A_aload_n 0 d_Score_setTime_5 rfl rfl ?_
  refine A_iload_n 1 d_Score_setTime_6 rfl rfl ?_
  refine A_pc (pc' := 7) rfl ?_
  refine A_putIk (KR := kF (FB s) s h) T_ok d_Score_setTime_7 f_Score_17 (xs_S k2.1 hS) fin_f (kF_j k2 (by omega) (ns_S hS) (rg_S_2 hS) (by omega) (by omega)) (fun h3 k4 eh3 => ?_)
  refine A_aload_n 0 d_Score_setTime_10 rfl rfl ?_
  refine A_iload_n 2 d_Score_setTime_11 rfl rfl ?_
  refine A_putIk (KR := kF (FB s) s h) T_ok d_Score_setTime_12 f_Score_21 (xs_S k4.1 hS) fin_f (kF_j k4 (by omega) (ns_S hS) (rg_S_3 hS) (by omega) (by omega)) (fun h5 k6 eh5 => ?_)
  exact A_vret d_Score_setTime_15 (by decide) rfl ⟨rfl, k6⟩
theorem s_Score_voiceAt {G : cx_T} {s : Nat} {h : ah_T} (hx : xi s h) {a0 : Nat} {a1 : Int} (ha0 : isS a0) : con G 0 0 0 m_Score_voiceAt [av_R (some a0), av_I a1] h (fun r h' => ∃ o, r = some (av_R o) ∧ (o = none ∨ ∃ v, o = some v ∧ tV a0 v) ∧ h = h') := by
  refine con_of (L := [some (av_R (some a0)), some (av_I a1)]) (by decide +kernel) (Nat.le_of_ble_eq_true rfl) rfl ?_
  have hS : isS s := hx.2.1
  have hs0 : s = 17 ∨ s = 80 := hS
  have hs0b : 17 ≤ s ∧ s ≤ 80 := by omega
  refine A_locI 1 rfl (fun ra => ?_)
  obtain ⟨_, _⟩ := ra
  refine A_iload_n 1 d_Score_voiceAt_0 rfl rfl ?_
  refine A_if_lt (tgt := 30) d_Score_voiceAt_1 (by decide) (fun c1 => ?_) (fun c1 => ?_)
  · refine A_null d_Score_voiceAt_30 ?_
    exact A_aret d_Score_voiceAt_31 (by decide) rfl ty_o ⟨_, rfl, Or.inl rfl, rfl⟩
  · refine A_iload_n 1 d_Score_voiceAt_4 rfl rfl ?_
    refine A_aload_n 0 d_Score_voiceAt_5 rfl rfl ?_
    refine A_getIn (lo := 0) (hi := 4) T_ok d_Score_voiceAt_6 f_Score_41 (xs_S hx ha0) (xi_g hx (lt1_S ha0) (rg_S_1 ha0)) (fun x2 ex2 _ _ => ?_)
    refine A_icmp_ge (tgt := 30) d_Score_voiceAt_9 (by decide) (fun c3 => ?_) (fun c3 => ?_)
    · refine A_null d_Score_voiceAt_30 ?_
      exact A_aret d_Score_voiceAt_31 (by decide) rfl ty_o ⟨_, rfl, Or.inl rfl, rfl⟩
    · refine A_iload_n 1 d_Score_voiceAt_12 rfl rfl ?_
      refine A_aload_n 0 d_Score_voiceAt_13 rfl rfl ?_
      refine A_getAv (z := some (a0 + 1)) T_ok d_Score_voiceAt_14 f_Score_11 (xs_S hx ha0) (xr_S_0 hx ha0) ?_
      refine A_alenN d_Score_voiceAt_17 (xs_S_0 hx ha0) (by decide) (by decide) ?_
      refine A_icmp_ge (tgt := 30) d_Score_voiceAt_18 (by decide) (fun c => False.elim (by omega)) (fun c5 => ?_)
      refine A_aload_n 0 d_Score_voiceAt_21 rfl rfl ?_
      refine A_getAv (z := some (a0 + 1)) T_ok d_Score_voiceAt_22 f_Score_11 (xs_S hx ha0) (xr_S_0 hx ha0) ?_
      refine A_iload_n 1 d_Score_voiceAt_25 rfl rfl ?_
      refine A_aaloadn (S := fun o => ∃ v, o = some v ∧ tV a0 v) d_Score_voiceAt_26 (xs_S_0 hx ha0) (by omega) (by omega) (xr_Sv hx ha0 (by omega) (by omega)) (fun ox7 qx7 => ?_)
      obtain ⟨x7, rfl, tx7⟩ := qx7
      refine A_goto (tgt := 31) d_Score_voiceAt_27 (by decide) ?_
      exact A_aret d_Score_voiceAt_31 (by decide) rfl ty_o ⟨_, rfl, Or.inr ⟨_, rfl, tx7⟩, rfl⟩
theorem s_Score_newVoice {G : cx_T} {s : Nat} {h : ah_T} (hx : xi s h)   : con G 1 0 0 m_Score_newVoice [av_R (some s)] h (fun r h' => ∃ o, r = some (av_R o) ∧ (o = none ∨ ∃ v, o = some v ∧ tV s v) ∧ kF (FB s) s h h') := by
  refine con_of (L := [some (av_R (some s)), none]) (by decide +kernel) (Nat.le_of_ble_eq_true rfl) rfl ?_
  have hS : isS s := hx.2.1
  have hs0 : s = 17 ∨ s = 80 := hS
  have hs0b : 17 ≤ s ∧ s ≤ 80 := by omega
  have k0 : kF (FB s) s h h := kF_0 hx
  refine A_aload_n 0 d_Score_newVoice_0 rfl rfl ?_
  refine A_getIn (lo := 0) (hi := 4) T_ok d_Score_newVoice_1 f_Score_41 (xs_S k0.1 hS) (xi_g k0.1 (lt1_S hS) (rg_S_1 hS)) (fun x1 ex1 _ _ => ?_)
  refine A_aload_n 0 d_Score_newVoice_4 rfl rfl ?_
  refine A_getAv (z := some (s + 1)) T_ok d_Score_newVoice_5 f_Score_11 (xs_S k0.1 hS) (xr_S_0 k0.1 hS) ?_
  refine A_alenN d_Score_newVoice_8 (xs_S_0 k0.1 hS) (by decide) (by decide) ?_
  refine A_pc (pc' := 9) rfl ?_
  refine A_icmp_lt (tgt := 14) d_Score_newVoice_9 (by decide) (fun c3 => ?_) (fun c3 => ?_)
  · refine A_aload_n 0 d_Score_newVoice_14 rfl rfl ?_
    refine A_dupR d_Score_newVoice_15 ?_
    refine A_getIv (z := x1) T_ok d_Score_newVoice_16 f_Score_41 (xs_S k0.1 hS) ex1.symm ?_
    refine A_iconst d_Score_newVoice_19 rfl ?_
    refine A_iaddv (z := (x1 + 1)) d_Score_newVoice_20 (w32_to (by omega) (by unfold i32; omega)) ?_
    refine A_pc (pc' := 21) rfl ?_
    refine A_putIk (KR := kF (FB s) s h) T_ok d_Score_newVoice_21 f_Score_41 (xs_S k0.1 hS) fin_f (kF_j k0 (by omega) (ns_S hS) (rg_S_1 hS) (by omega) (by omega)) (fun h5 k6 eh5 => ?_)
    refine A_aload_n 0 d_Score_newVoice_24 rfl rfl ?_
    refine A_getAv (z := some (s + 1)) T_ok d_Score_newVoice_25 f_Score_11 (xs_S k6.1 hS) (xr_S_0 k6.1 hS) ?_
    refine A_aload_n 0 d_Score_newVoice_28 rfl rfl ?_
    refine A_getIv (z := (x1 + 1)) T_ok d_Score_newVoice_29 f_Score_41 (xs_S k6.1 hS) eh5.2.1 ?_
    refine A_iconst d_Score_newVoice_32 rfl ?_
    refine A_pc (pc' := 33) rfl ?_
    refine A_isubv (z := x1) d_Score_newVoice_33 (w32_to (by omega) (by unfold i32; omega)) ?_
    refine A_aaloadn (S := fun o => ∃ v, o = some v ∧ tV s v) d_Score_newVoice_34 (xs_S_0 k6.1 hS) (by omega) (by omega) (xr_Sv k6.1 hS (by omega) (by omega)) (fun ox9 qx9 => ?_)
    obtain ⟨x9, rfl, tx9⟩ := qx9
    refine A_astore_n 1 (L' := [some (av_R (some s)), some (av_R (some x9))]) d_Score_newVoice_35 rfl (Nat.le_of_ble_eq_true rfl) rfl ?_
    refine A_aload_n 1 d_Score_newVoice_36 rfl rfl ?_
    refine A_ifnull (tgt := 44) d_Score_newVoice_37 (by decide) (fun q => by cases q) (fun _ _ => ?_)
    refine A_aload_n 1 d_Score_newVoice_40 rfl rfl ?_
    refine A_callV0 m_Voice_clear T_ok d_Score_newVoice_41 l_Score_57 k_Voice_clear (xs_V k6.1 (tV_V hS tx9)) rfl (by decide +kernel) (by decide) (Nat.le_of_ble_eq_true rfl) (s_Voice_clear k6.1 tx9) (fun r h10 hq => ?_)
    obtain ⟨rfl, k11⟩ := hq
    have k12 := kF_t k6 k11 (fun _ q => q)
    refine A_aload_n 1 d_Score_newVoice_44 rfl rfl ?_
    exact A_aret d_Score_newVoice_45 (by decide) rfl ty_o ⟨_, rfl, Or.inr ⟨_, rfl, tx9⟩, k12⟩
  · refine A_null d_Score_newVoice_12 ?_
    exact A_aret d_Score_newVoice_13 (by decide) rfl ty_o ⟨_, rfl, Or.inl rfl, k0⟩
theorem s_Score_addToLine {G : cx_T} {s : Nat} {h : ah_T} (hx : xi s h) {a1 : Int}  : con G 0 0 0 m_Score_addToLine [av_R (some s), av_I a1] h (fun r h' => ∃ z, r = some (av_I z) ∧ (z = 0 ∨ z = 1) ∧ kF (FB s) s h h') := by
  refine con_of (L := [some (av_R (some s)), some (av_I a1)]) (by decide +kernel) (Nat.le_of_ble_eq_true rfl) rfl ?_
  have hS : isS s := hx.2.1
  have hs0 : s = 17 ∨ s = 80 := hS
  have hs0b : 17 ≤ s ∧ s ≤ 80 := by omega
  have k0 : kF (FB s) s h h := kF_0 hx
  refine A_locI 1 rfl (fun ra => ?_)
  obtain ⟨_, _⟩ := ra
  refine A_aload_n 0 d_Score_addToLine_0 rfl rfl ?_
  refine A_getIn (lo := 0) (hi := 8) T_ok d_Score_addToLine_1 f_Score_48 (xs_S k0.1 hS) (xi_g k0.1 (lt1_S hS) (rg_S_6 hS)) (fun x1 ex1 _ _ => ?_)
  refine A_aload_n 0 d_Score_addToLine_4 rfl rfl ?_
  refine A_getAv (z := some (s + 2)) T_ok d_Score_addToLine_5 f_Score_24 (xs_S k0.1 hS) (xr_S_5 k0.1 hS) ?_
  refine A_alenN d_Score_addToLine_8 (xs_S_5 k0.1 hS) (by decide) (by decide) ?_
  refine A_pc (pc' := 9) rfl ?_
  refine A_icmp_lt (tgt := 14) d_Score_addToLine_9 (by decide) (fun c3 => ?_) (fun c3 => ?_)
  · refine A_aload_n 0 d_Score_addToLine_14 rfl rfl ?_
    refine A_getAv (z := some (s + 2)) T_ok d_Score_addToLine_15 f_Score_24 (xs_S k0.1 hS) (xr_S_5 k0.1 hS) ?_
    refine A_aload_n 0 d_Score_addToLine_18 rfl rfl ?_
    refine A_getIv (z := x1) T_ok d_Score_addToLine_19 f_Score_48 (xs_S k0.1 hS) ex1.symm ?_
    refine A_iload_n 1 d_Score_addToLine_22 rfl rfl ?_
    refine A_pc (pc' := 23) rfl ?_
    refine A_iastorek (KR := kF (FB s) s h) d_Score_addToLine_23 (xs_S_5 k0.1 hS) (by omega) (by omega) (kF_j k0 (by omega) (ns_So hS 2 (by decide) (by decide)) (rg_S_5 hS _) (by omega) (by omega)) (fun h6 k7 eh6 => ?_)
    refine A_aload_n 0 d_Score_addToLine_24 rfl rfl ?_
    refine A_dupR d_Score_addToLine_25 ?_
    refine A_getIv (z := x1) T_ok d_Score_addToLine_26 f_Score_48 (xs_S k7.1 hS) ((eh6.1 _ _ (fun q => by omega)).trans ex1.symm) ?_
    refine A_iconst d_Score_addToLine_29 rfl ?_
    refine A_iaddv (z := (x1 + 1)) d_Score_addToLine_30 (w32_to (by omega) (by unfold i32; omega)) ?_
    refine A_pc (pc' := 31) rfl ?_
    refine A_putIk (KR := kF (FB s) s h) T_ok d_Score_addToLine_31 f_Score_48 (xs_S k7.1 hS) fin_f (kF_j k7 (by omega) (ns_S hS) (rg_S_6 hS) (by omega) (by omega)) (fun h9 k10 eh9 => ?_)
    refine A_iconst d_Score_addToLine_34 rfl ?_
    exact A_zret d_Score_addToLine_35 (by decide) rfl (by omega) ⟨_, rfl, by omega, k10⟩
  · refine A_iconst d_Score_addToLine_12 rfl ?_
    exact A_zret d_Score_addToLine_13 (by decide) rfl (by omega) ⟨_, rfl, by omega, k0⟩
theorem s_Score_addRule {G : cx_T} {s : Nat} {h : ah_T} (hx : xi s h) {a1 : Int} {a2 : Int} {a3 : Int}  : con G 0 0 0 m_Score_addRule [av_R (some s), av_I a1, av_I a2, av_I a3] h (fun r h' => r = none ∧ kF (FB s) s h h') := by
  refine con_of (L := [some (av_R (some s)), some (av_I a1), some (av_I a2), some (av_I a3)]) (by decide +kernel) (Nat.le_of_ble_eq_true rfl) rfl ?_
  have hS : isS s := hx.2.1
  have hs0 : s = 17 ∨ s = 80 := hS
  have hs0b : 17 ≤ s ∧ s ≤ 80 := by omega
  have k0 : kF (FB s) s h h := kF_0 hx
  refine A_locI 1 rfl (fun ra => ?_)
  obtain ⟨_, _⟩ := ra
  refine A_locI 2 rfl (fun ra => ?_)
  obtain ⟨_, _⟩ := ra
  refine A_locI 3 rfl (fun ra => ?_)
  obtain ⟨_, _⟩ := ra
  refine A_aload_n 0 d_Score_addRule_0 rfl rfl ?_
  refine A_getIn (lo := 0) (hi := 24) T_ok d_Score_addRule_1 f_Score_51 (xs_S k0.1 hS) (xi_g k0.1 (lt1_S hS) (rg_S_10 hS)) (fun x1 ex1 _ _ => ?_)
  refine A_aload_n 0 d_Score_addRule_4 rfl rfl ?_
  refine A_getAv (z := some (s + 3)) T_ok d_Score_addRule_5 f_Score_28 (xs_S k0.1 hS) (xr_S_7 k0.1 hS) ?_
  refine A_alenN d_Score_addRule_8 (xs_S_7 k0.1 hS) (by decide) (by decide) ?_
  refine A_pc (pc' := 9) rfl ?_
  refine A_icmp_ge (tgt := 52) d_Score_addRule_9 (by decide) (fun c3 => ?_) (fun c3 => ?_)
  · exact A_vret d_Score_addRule_52 (by decide) rfl ⟨rfl, k0⟩
  · refine A_aload_n 0 d_Score_addRule_12 rfl rfl ?_
    refine A_getAv (z := some (s + 3)) T_ok d_Score_addRule_13 f_Score_28 (xs_S k0.1 hS) (xr_S_7 k0.1 hS) ?_
    refine A_aload_n 0 d_Score_addRule_16 rfl rfl ?_
    refine A_getIv (z := x1) T_ok d_Score_addRule_17 f_Score_51 (xs_S k0.1 hS) ex1.symm ?_
    refine A_iload_n 1 d_Score_addRule_20 rfl rfl ?_
    refine A_pc (pc' := 21) rfl ?_
    refine A_iastorek (KR := kF (FB s) s h) d_Score_addRule_21 (xs_S_7 k0.1 hS) (by omega) (by omega) (kF_j k0 (by omega) (ns_So hS 3 (by decide) (by decide)) (rg_S_7 hS _) (by omega) (by omega)) (fun h6 k7 eh6 => ?_)
    refine A_aload_n 0 d_Score_addRule_22 rfl rfl ?_
    refine A_getAv (z := some (s + 4)) T_ok d_Score_addRule_23 f_Score_31 (xs_S k7.1 hS) (xr_S_8 k7.1 hS) ?_
    refine A_aload_n 0 d_Score_addRule_26 rfl rfl ?_
    refine A_getIv (z := x1) T_ok d_Score_addRule_27 f_Score_51 (xs_S k7.1 hS) ((eh6.1 _ _ (fun q => by omega)).trans ex1.symm) ?_
    refine A_iload_n 2 d_Score_addRule_30 rfl rfl ?_
    refine A_pc (pc' := 31) rfl ?_
    refine A_iastorek (KR := kF (FB s) s h) d_Score_addRule_31 (xs_S_8 k7.1 hS) (by omega) (by omega) (kF_j k7 (by omega) (ns_So hS 4 (by decide) (by decide)) (rg_S_8 hS _) (by omega) (by omega)) (fun h10 k11 eh10 => ?_)
    refine A_aload_n 0 d_Score_addRule_32 rfl rfl ?_
    refine A_getAv (z := some (s + 5)) T_ok d_Score_addRule_33 f_Score_34 (xs_S k11.1 hS) (xr_S_9 k11.1 hS) ?_
    refine A_aload_n 0 d_Score_addRule_36 rfl rfl ?_
    refine A_getIv (z := x1) T_ok d_Score_addRule_37 f_Score_51 (xs_S k11.1 hS) ((eh10.1 _ _ (fun q => by omega)).trans ((eh6.1 _ _ (fun q => by omega)).trans ex1.symm)) ?_
    refine A_iload_n 3 d_Score_addRule_40 rfl rfl ?_
    refine A_pc (pc' := 41) rfl ?_
    refine A_iastorek (KR := kF (FB s) s h) d_Score_addRule_41 (xs_S_9 k11.1 hS) (by omega) (by omega) (kF_j k11 (by omega) (ns_So hS 5 (by decide) (by decide)) (rg_S_9 hS _) (by omega) (by omega)) (fun h14 k15 eh14 => ?_)
    refine A_aload_n 0 d_Score_addRule_42 rfl rfl ?_
    refine A_dupR d_Score_addRule_43 ?_
    refine A_getIv (z := x1) T_ok d_Score_addRule_44 f_Score_51 (xs_S k15.1 hS) ((eh14.1 _ _ (fun q => by omega)).trans ((eh10.1 _ _ (fun q => by omega)).trans ((eh6.1 _ _ (fun q => by omega)).trans ex1.symm))) ?_
    refine A_iconst d_Score_addRule_47 rfl ?_
    refine A_iaddv (z := (x1 + 1)) d_Score_addRule_48 (w32_to (by omega) (by unfold i32; omega)) ?_
    refine A_pc (pc' := 49) rfl ?_
    refine A_putIk (KR := kF (FB s) s h) T_ok d_Score_addRule_49 f_Score_51 (xs_S k15.1 hS) fin_f (kF_j k15 (by omega) (ns_S hS) (rg_S_10 hS) (by omega) (by omega)) (fun h17 k18 eh17 => ?_)
    exact A_vret d_Score_addRule_52 (by decide) rfl ⟨rfl, k18⟩
theorem s_Score_addToRow {G : cx_T} {s : Nat} {h : ah_T} (hx : xi s h) {a1 : Int}  : con G 0 0 0 m_Score_addToRow [av_R (some s), av_I a1] h (fun r h' => r = none ∧ kF (FB s) s h h') := by
  refine con_of (L := [some (av_R (some s)), some (av_I a1)]) (by decide +kernel) (Nat.le_of_ble_eq_true rfl) rfl ?_
  have hS : isS s := hx.2.1
  have hs0 : s = 17 ∨ s = 80 := hS
  have hs0b : 17 ≤ s ∧ s ≤ 80 := by omega
  have k0 : kF (FB s) s h h := kF_0 hx
  refine A_locI 1 rfl (fun ra => ?_)
  obtain ⟨_, _⟩ := ra
  refine A_aload_n 0 d_Score_addToRow_0 rfl rfl ?_
  refine A_getIn (lo := 0) (hi := 12) T_ok d_Score_addToRow_1 f_Score_54 (xs_S k0.1 hS) (xi_g k0.1 (lt1_S hS) (rg_S_12 hS)) (fun x1 ex1 _ _ => ?_)
  refine A_aload_n 0 d_Score_addToRow_4 rfl rfl ?_
  refine A_getAv (z := some (s + 6)) T_ok d_Score_addToRow_5 f_Score_37 (xs_S k0.1 hS) (xr_S_11 k0.1 hS) ?_
  refine A_alenN d_Score_addToRow_8 (xs_S_11 k0.1 hS) (by decide) (by decide) ?_
  refine A_pc (pc' := 9) rfl ?_
  refine A_icmp_ge (tgt := 32) d_Score_addToRow_9 (by decide) (fun c3 => ?_) (fun c3 => ?_)
  · exact A_vret d_Score_addToRow_32 (by decide) rfl ⟨rfl, k0⟩
  · refine A_aload_n 0 d_Score_addToRow_12 rfl rfl ?_
    refine A_getAv (z := some (s + 6)) T_ok d_Score_addToRow_13 f_Score_37 (xs_S k0.1 hS) (xr_S_11 k0.1 hS) ?_
    refine A_aload_n 0 d_Score_addToRow_16 rfl rfl ?_
    refine A_getIv (z := x1) T_ok d_Score_addToRow_17 f_Score_54 (xs_S k0.1 hS) ex1.symm ?_
    refine A_iload_n 1 d_Score_addToRow_20 rfl rfl ?_
    refine A_pc (pc' := 21) rfl ?_
    refine A_iastorek (KR := kF (FB s) s h) d_Score_addToRow_21 (xs_S_11 k0.1 hS) (by omega) (by omega) (kF_j k0 (by omega) (ns_So hS 6 (by decide) (by decide)) (rg_S_11 hS _) (by omega) (by omega)) (fun h6 k7 eh6 => ?_)
    refine A_aload_n 0 d_Score_addToRow_22 rfl rfl ?_
    refine A_dupR d_Score_addToRow_23 ?_
    refine A_getIv (z := x1) T_ok d_Score_addToRow_24 f_Score_54 (xs_S k7.1 hS) ((eh6.1 _ _ (fun q => by omega)).trans ex1.symm) ?_
    refine A_iconst d_Score_addToRow_27 rfl ?_
    refine A_iaddv (z := (x1 + 1)) d_Score_addToRow_28 (w32_to (by omega) (by unfold i32; omega)) ?_
    refine A_pc (pc' := 29) rfl ?_
    refine A_putIk (KR := kF (FB s) s h) T_ok d_Score_addToRow_29 f_Score_54 (xs_S k7.1 hS) fin_f (kF_j k7 (by omega) (ns_S hS) (rg_S_12 hS) (by omega) (by omega)) (fun h9 k10 eh9 => ?_)
    exact A_vret d_Score_addToRow_32 (by decide) rfl ⟨rfl, k10⟩
theorem s_Score_allEvents {G : cx_T} {s : Nat} {h : ah_T} (hx : xi s h) {a0 : Nat} (ha0 : isS a0) : con G 1 0 0 m_Score_allEvents [av_R (some a0)] h (fun r h' => ∃ z, r = some (av_I z) ∧ ((-2147483648) ≤ z ∧ z ≤ 2147483647) ∧ h = h') := by
  refine con_of (L := [some (av_R (some a0)), none, none, none]) (by decide +kernel) (Nat.le_of_ble_eq_true rfl) rfl ?_
  have hS : isS s := hx.2.1
  have hs0 : s = 17 ∨ s = 80 := hS
  have hs0b : 17 ≤ s ∧ s ≤ 80 := by omega
  refine A_iconst d_Score_allEvents_0 rfl ?_
  refine A_istore_n 1 (L' := [some (av_R (some a0)), some (av_I 0), none, none]) d_Score_allEvents_1 rfl (Nat.le_of_ble_eq_true rfl) rfl ?_
  refine A_iconst d_Score_allEvents_2 rfl ?_
  refine A_istore_n 2 (L' := [some (av_R (some a0)), some (av_I 0), some (av_I 0), none]) d_Score_allEvents_3 rfl (Nat.le_of_ble_eq_true rfl) rfl ?_
  have lp4 : ∀ (n : Nat) (i1 i2 : Int) , (-2147483648) ≤ i1 → i1 ≤ 2147483647 → 0 ≤ i2 → i2 ≤ 4 → (5 - i2).toNat < n → aw G (rm_R 1 0 0) m_Score_allEvents 0 0 4 [some (av_R (some a0)), some (av_I i1), some (av_I i2), none] [] h (fun r h' => ∃ z, r = some (av_I z) ∧ ((-2147483648) ≤ z ∧ z ≤ 2147483647) ∧ h = h') := by
    intro n
    induction n with
    | zero => intro i1 i2 _ _ _ _ hm; omega
    | succ n ih4 =>
      intro i1 i2 hl0 hl1 hl2 hl3 hm
      refine A_iload_n 2 d_Score_allEvents_4 rfl rfl ?_
      refine A_aload_n 0 d_Score_allEvents_5 rfl rfl ?_
      refine A_getIn (lo := 0) (hi := 4) T_ok d_Score_allEvents_6 f_Score_41 (xs_S hx ha0) (xi_g hx (lt1_S ha0) (rg_S_1 ha0)) (fun x3 ex3 _ _ => ?_)
      refine A_icmp_ge (tgt := 39) d_Score_allEvents_9 (by decide) (fun c4 => ?_) (fun c4 => ?_)
      · refine A_iload_n 1 d_Score_allEvents_39 rfl rfl ?_
        exact A_iret d_Score_allEvents_40 (by decide) rfl ⟨_, rfl, ⟨by omega, by omega⟩, rfl⟩
      · refine A_aload_n 0 d_Score_allEvents_12 rfl rfl ?_
        refine A_iload_n 2 d_Score_allEvents_13 rfl rfl ?_
        refine A_callV1 m_Score_voiceAt T_ok d_Score_allEvents_14 l_Score_60 k_Score_voiceAt (xs_S hx ha0) rfl (by decide +kernel) (by decide) (Nat.le_of_ble_eq_true rfl) (s_Score_voiceAt hx ha0) (fun r h5 hq => ?_)
        obtain ⟨ox7, rfl, qx7, rfl⟩ := hq
        rcases qx7 with rfl | ⟨x7, rfl, tx7⟩
        · refine A_astore_n 3 (L' := [some (av_R (some a0)), some (av_I i1), some (av_I i2), some (av_R none)]) d_Score_allEvents_17 rfl (Nat.le_of_ble_eq_true rfl) rfl ?_
          refine A_iload_n 1 d_Score_allEvents_18 rfl rfl ?_
          refine A_aload_n 3 d_Score_allEvents_19 rfl rfl ?_
          refine A_ifnonnull (tgt := 27) d_Score_allEvents_20 (by decide) (fun a q => by cases q) (fun _ => ?_)
          refine A_iconst d_Score_allEvents_23 rfl ?_
          refine A_goto (tgt := 31) d_Score_allEvents_24 (by decide) ?_
          refine A_iaddv (z := i1) d_Score_allEvents_31 (w32_to (by omega) (by unfold i32; omega)) ?_
          refine A_istore_n 1 (L' := [some (av_R (some a0)), some (av_I i1), some (av_I i2), some (av_R none)]) d_Score_allEvents_32 rfl (Nat.le_of_ble_eq_true rfl) rfl ?_
          refine A_iincv (z := (i2 + 1)) (L' := [some (av_R (some a0)), some (av_I i1), some (av_I (i2 + 1)), some (av_R none)]) d_Score_allEvents_33 rfl (w32_to (by omega) (by unfold i32; omega)) rfl ?_
          refine A_goto (tgt := 4) d_Score_allEvents_36 (by decide) ?_
          refine A_free (L' := [some (av_R (some a0)), some (av_I i1), some (av_I (i2 + 1)), none]) (And.intro rfl (And.intro rfl (And.intro rfl trivial))) ?_
          exact ih4 i1 (i2 + 1) (by omega) (by omega) (by omega) (by omega) (by omega)
        · refine A_astore_n 3 (L' := [some (av_R (some a0)), some (av_I i1), some (av_I i2), some (av_R (some x7))]) d_Score_allEvents_17 rfl (Nat.le_of_ble_eq_true rfl) rfl ?_
          refine A_iload_n 1 d_Score_allEvents_18 rfl rfl ?_
          refine A_aload_n 3 d_Score_allEvents_19 rfl rfl ?_
          refine A_ifnonnull (tgt := 27) d_Score_allEvents_20 (by decide) (fun _ _ => ?_) (fun q => by cases q)
          refine A_aload_n 3 d_Score_allEvents_27 rfl rfl ?_
          refine A_getIn (lo := 0) (hi := 300) T_ok d_Score_allEvents_28 f_Score_64 (xs_V hx (tV_V ha0 tx7)) (xi_g hx (lt1_V (tV_V ha0 tx7)) (rg_V_14 (tV_V ha0 tx7))) (fun x8 ex8 _ _ => ?_)
          refine A_iaddw d_Score_allEvents_31 (fun x9 _ _ _ => ?_)
          refine A_istore_n 1 (L' := [some (av_R (some a0)), some (av_I x9), some (av_I i2), some (av_R (some x7))]) d_Score_allEvents_32 rfl (Nat.le_of_ble_eq_true rfl) rfl ?_
          refine A_iincv (z := (i2 + 1)) (L' := [some (av_R (some a0)), some (av_I x9), some (av_I (i2 + 1)), some (av_R (some x7))]) d_Score_allEvents_33 rfl (w32_to (by omega) (by unfold i32; omega)) rfl ?_
          refine A_pc (pc' := 36) rfl ?_
          refine A_goto (tgt := 4) d_Score_allEvents_36 (by decide) ?_
          refine A_free (L' := [some (av_R (some a0)), some (av_I x9), some (av_I (i2 + 1)), none]) (And.intro rfl (And.intro rfl (And.intro rfl trivial))) ?_
          exact ih4 x9 (i2 + 1) (by omega) (by omega) (by omega) (by omega) (by omega)
  exact lp4 _ 0 0 (by omega) (by omega) (by omega) (by omega) (Nat.lt_succ_self _)
theorem s_Score_mostBars {G : cx_T} {s : Nat} {h : ah_T} (hx : xi s h) {a0 : Nat} (ha0 : isS a0) : con G 1 0 0 m_Score_mostBars [av_R (some a0)] h (fun r h' => ∃ z, r = some (av_I z) ∧ (0 ≤ z ∧ z ≤ 101) ∧ h = h') := by
  refine con_of (L := [some (av_R (some a0)), none, none, none]) (by decide +kernel) (Nat.le_of_ble_eq_true rfl) rfl ?_
  have hS : isS s := hx.2.1
  have hs0 : s = 17 ∨ s = 80 := hS
  have hs0b : 17 ≤ s ∧ s ≤ 80 := by omega
  refine A_iconst d_Score_mostBars_0 rfl ?_
  refine A_istore_n 1 (L' := [some (av_R (some a0)), some (av_I 0), none, none]) d_Score_mostBars_1 rfl (Nat.le_of_ble_eq_true rfl) rfl ?_
  refine A_iconst d_Score_mostBars_2 rfl ?_
  refine A_istore_n 2 (L' := [some (av_R (some a0)), some (av_I 0), some (av_I 0), none]) d_Score_mostBars_3 rfl (Nat.le_of_ble_eq_true rfl) rfl ?_
  have lp4 : ∀ (n : Nat) (i1 i2 : Int) , 0 ≤ i1 → i1 ≤ 101 → 0 ≤ i2 → i2 ≤ 4 → (5 - i2).toNat < n → aw G (rm_R 1 0 0) m_Score_mostBars 0 0 4 [some (av_R (some a0)), some (av_I i1), some (av_I i2), none] [] h (fun r h' => ∃ z, r = some (av_I z) ∧ (0 ≤ z ∧ z ≤ 101) ∧ h = h') := by
    intro n
    induction n with
    | zero => intro i1 i2 _ _ _ _ hm; omega
    | succ n ih4 =>
      intro i1 i2 hl0 hl1 hl2 hl3 hm
      refine A_iload_n 2 d_Score_mostBars_4 rfl rfl ?_
      refine A_aload_n 0 d_Score_mostBars_5 rfl rfl ?_
      refine A_getIn (lo := 0) (hi := 4) T_ok d_Score_mostBars_6 f_Score_41 (xs_S hx ha0) (xi_g hx (lt1_S ha0) (rg_S_1 ha0)) (fun x3 ex3 _ _ => ?_)
      refine A_icmp_ge (tgt := 41) d_Score_mostBars_9 (by decide) (fun c4 => ?_) (fun c4 => ?_)
      · refine A_iload_n 1 d_Score_mostBars_41 rfl rfl ?_
        exact A_iret d_Score_mostBars_42 (by decide) rfl ⟨_, rfl, ⟨by omega, by omega⟩, rfl⟩
      · refine A_aload_n 0 d_Score_mostBars_12 rfl rfl ?_
        refine A_iload_n 2 d_Score_mostBars_13 rfl rfl ?_
        refine A_callV1 m_Score_voiceAt T_ok d_Score_mostBars_14 l_Score_60 k_Score_voiceAt (xs_S hx ha0) rfl (by decide +kernel) (by decide) (Nat.le_of_ble_eq_true rfl) (s_Score_voiceAt hx ha0) (fun r h5 hq => ?_)
        obtain ⟨ox7, rfl, qx7, rfl⟩ := hq
        rcases qx7 with rfl | ⟨x7, rfl, tx7⟩
        · refine A_astore_n 3 (L' := [some (av_R (some a0)), some (av_I i1), some (av_I i2), some (av_R none)]) d_Score_mostBars_17 rfl (Nat.le_of_ble_eq_true rfl) rfl ?_
          refine A_iload_n 1 d_Score_mostBars_18 rfl rfl ?_
          refine A_aload_n 3 d_Score_mostBars_19 rfl rfl ?_
          refine A_ifnonnull (tgt := 27) d_Score_mostBars_20 (by decide) (fun a q => by cases q) (fun _ => ?_)
          refine A_iconst d_Score_mostBars_23 rfl ?_
          refine A_goto (tgt := 31) d_Score_mostBars_24 (by decide) ?_
          refine A_mmax d_Score_mostBars_31 lm_Score_70 ma_max (by decide) (by decide) (Nat.le_of_ble_eq_true rfl) rfl ?_
          refine A_nrI (fun x8 ex8 _ _ => ?_)
          have bx8 := mmax_r ex8
          refine A_istore_n 1 (L' := [some (av_R (some a0)), some (av_I x8), some (av_I i2), some (av_R none)]) d_Score_mostBars_34 rfl (Nat.le_of_ble_eq_true rfl) rfl ?_
          refine A_iincv (z := (i2 + 1)) (L' := [some (av_R (some a0)), some (av_I x8), some (av_I (i2 + 1)), some (av_R none)]) d_Score_mostBars_35 rfl (w32_to (by omega) (by unfold i32; omega)) rfl ?_
          refine A_goto (tgt := 4) d_Score_mostBars_38 (by decide) ?_
          refine A_free (L' := [some (av_R (some a0)), some (av_I x8), some (av_I (i2 + 1)), none]) (And.intro rfl (And.intro rfl (And.intro rfl trivial))) ?_
          exact ih4 x8 (i2 + 1) (by omega) (by omega) (by omega) (by omega) (by omega)
        · refine A_astore_n 3 (L' := [some (av_R (some a0)), some (av_I i1), some (av_I i2), some (av_R (some x7))]) d_Score_mostBars_17 rfl (Nat.le_of_ble_eq_true rfl) rfl ?_
          refine A_iload_n 1 d_Score_mostBars_18 rfl rfl ?_
          refine A_aload_n 3 d_Score_mostBars_19 rfl rfl ?_
          refine A_ifnonnull (tgt := 27) d_Score_mostBars_20 (by decide) (fun _ _ => ?_) (fun q => by cases q)
          refine A_aload_n 3 d_Score_mostBars_27 rfl rfl ?_
          refine A_getIn (lo := 0) (hi := 101) T_ok d_Score_mostBars_28 f_Score_67 (xs_V hx (tV_V ha0 tx7)) (xi_g hx (lt1_V (tV_V ha0 tx7)) (rg_V_16 (tV_V ha0 tx7))) (fun x9 ex9 _ _ => ?_)
          refine A_mmax d_Score_mostBars_31 lm_Score_70 ma_max (by decide) (by decide) (Nat.le_of_ble_eq_true rfl) rfl ?_
          refine A_nrI (fun x10 ex10 _ _ => ?_)
          have bx10 := mmax_r ex10
          refine A_istore_n 1 (L' := [some (av_R (some a0)), some (av_I x10), some (av_I i2), some (av_R (some x7))]) d_Score_mostBars_34 rfl (Nat.le_of_ble_eq_true rfl) rfl ?_
          refine A_iincv (z := (i2 + 1)) (L' := [some (av_R (some a0)), some (av_I x10), some (av_I (i2 + 1)), some (av_R (some x7))]) d_Score_mostBars_35 rfl (w32_to (by omega) (by unfold i32; omega)) rfl ?_
          refine A_pc (pc' := 38) rfl ?_
          refine A_goto (tgt := 4) d_Score_mostBars_38 (by decide) ?_
          refine A_free (L' := [some (av_R (some a0)), some (av_I x10), some (av_I (i2 + 1)), none]) (And.intro rfl (And.intro rfl (And.intro rfl trivial))) ?_
          exact ih4 x10 (i2 + 1) (by omega) (by omega) (by omega) (by omega) (by omega)
  exact lp4 _ 0 0 (by omega) (by omega) (by omega) (by omega) (Nat.lt_succ_self _)
