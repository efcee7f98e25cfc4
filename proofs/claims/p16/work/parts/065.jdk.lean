/-! ===== the JDK's own methods ===== -/
def m_JPreconditions_checkIndex : mr_T := (⟨"jdk/internal/util/Preconditions", "checkIndex", "(IILjava/util/function/BiFunction;)I"⟩, prog_22_method_11_code, 3, some .int)
theorem d_JPreconditions_checkIndex_0 : decode prog_22_method_11_code 0 = .ok (.iload_n 0, 1) := by decide +kernel
theorem d_JPreconditions_checkIndex_1 : decode prog_22_method_11_code 1 = .ok (.ifCond .lt 8, 3) := by decide +kernel
theorem d_JPreconditions_checkIndex_4 : decode prog_22_method_11_code 4 = .ok (.iload_n 0, 1) := by decide +kernel
theorem d_JPreconditions_checkIndex_5 : decode prog_22_method_11_code 5 = .ok (.iload_n 1, 1) := by decide +kernel
theorem d_JPreconditions_checkIndex_6 : decode prog_22_method_11_code 6 = .ok (.if_icmp .lt 10, 3) := by decide +kernel
theorem d_JPreconditions_checkIndex_16 : decode prog_22_method_11_code 16 = .ok (.iload_n 0, 1) := by decide +kernel
theorem d_JPreconditions_checkIndex_17 : decode prog_22_method_11_code 17 = .ok (.ireturn, 1) := by decide +kernel
def m_JString_checkIndex : mr_T := (⟨"java/lang/String", "checkIndex", "(II)V"⟩, prog_19_method_155_code, 2, none)
theorem d_JString_checkIndex_0 : decode prog_19_method_155_code 0 = .ok (.iload_n 0, 1) := by decide +kernel
theorem d_JString_checkIndex_1 : decode prog_19_method_155_code 1 = .ok (.iload_n 1, 1) := by decide +kernel
theorem d_JString_checkIndex_2 : decode prog_19_method_155_code 2 = .ok (.getstatic 1053, 3) := by decide +kernel
theorem gs_JString_1053 : Cond.fieldLink "java/lang/String" 1053 "jdk/internal/util/Preconditions" "SIOOBE_FORMATTER" "Ljava/util/function/BiFunction;" ∈ gw := (gw_in 718 (by decide +kernel) (by decide +kernel))
theorem d_JString_checkIndex_5 : decode prog_19_method_155_code 5 = .ok (.invokestatic 1059, 3) := by decide +kernel
theorem k_JPreconditions_checkIndex : mt_OK m_JPreconditions_checkIndex 3 0 := ⟨(gw_in 722 (by decide +kernel) (by decide +kernel)), (gw_in 150 (by decide +kernel) (by decide +kernel)), ⟨by decide +kernel, by decide +kernel, by decide +kernel⟩, fun _ => (gw_in 721 (by decide +kernel) (by decide +kernel)), fun h => absurd h (by decide), fun h => absurd h (by decide)⟩
theorem l_JString_1059 : ml_OK "java/lang/String" 1059 ⟨"jdk/internal/util/Preconditions", "checkIndex", "(IILjava/util/function/BiFunction;)I"⟩ := Or.inl (gw_in 720 (by decide +kernel) (by decide +kernel))
theorem d_JString_checkIndex_8 : decode prog_19_method_155_code 8 = .ok (.pop, 1) := by decide +kernel
theorem d_JString_checkIndex_9 : decode prog_19_method_155_code 9 = .ok (.return_, 1) := by decide +kernel
def m_JString_isLatin1 : mr_T := (⟨"java/lang/String", "isLatin1", "()Z"⟩, prog_19_method_154_code, 1, some .boolean)
theorem d_JString_isLatin1_0 : decode prog_19_method_154_code 0 = .ok (.getstatic 38, 3) := by decide +kernel
theorem gs_JString_38 : Cond.fieldLink "java/lang/String" 38 "java/lang/String" "COMPACT_STRINGS" "Z" ∈ gw := (gw_in 702 (by decide +kernel) (by decide +kernel))
theorem d_JString_isLatin1_3 : decode prog_19_method_154_code 3 = .ok (.ifCond .eq 14, 3) := by decide +kernel
theorem d_JString_isLatin1_6 : decode prog_19_method_154_code 6 = .ok (.aload_n 0, 1) := by decide +kernel
theorem d_JString_isLatin1_7 : decode prog_19_method_154_code 7 = .ok (.getfield 15, 3) := by decide +kernel
theorem gs_JString_15 : Cond.fieldLink "java/lang/String" 15 "java/lang/String" "coder" "B" ∈ gw := (gw_in 2222 (by decide +kernel) (by decide +kernel))
theorem d_JString_isLatin1_10 : decode prog_19_method_154_code 10 = .ok (.ifCond .ne 7, 3) := by decide +kernel
theorem d_JString_isLatin1_13 : decode prog_19_method_154_code 13 = .ok (.iconst 1, 1) := by decide +kernel
theorem d_JString_isLatin1_14 : decode prog_19_method_154_code 14 = .ok (.goto 4, 3) := by decide +kernel
theorem d_JString_isLatin1_18 : decode prog_19_method_154_code 18 = .ok (.ireturn, 1) := by decide +kernel
def m_JString_coder : mr_T := (⟨"java/lang/String", "coder", "()B"⟩, prog_19_method_152_code, 1, some .byte)
theorem d_JString_coder_0 : decode prog_19_method_152_code 0 = .ok (.getstatic 38, 3) := by decide +kernel
theorem d_JString_coder_3 : decode prog_19_method_152_code 3 = .ok (.ifCond .eq 10, 3) := by decide +kernel
theorem d_JString_coder_6 : decode prog_19_method_152_code 6 = .ok (.aload_n 0, 1) := by decide +kernel
theorem d_JString_coder_7 : decode prog_19_method_152_code 7 = .ok (.getfield 15, 3) := by decide +kernel
theorem d_JString_coder_10 : decode prog_19_method_152_code 10 = .ok (.goto 4, 3) := by decide +kernel
theorem d_JString_coder_14 : decode prog_19_method_152_code 14 = .ok (.ireturn, 1) := by decide +kernel
def m_JString_length : mr_T := (⟨"java/lang/String", "length", "()I"⟩, prog_19_method_54_code, 1, some .int)
theorem d_JString_length_0 : decode prog_19_method_54_code 0 = .ok (.aload_n 0, 1) := by decide +kernel
theorem d_JString_length_1 : decode prog_19_method_54_code 1 = .ok (.getfield 9, 3) := by decide +kernel
theorem gs_JString_9 : Cond.fieldLink "java/lang/String" 9 "java/lang/String" "value" "[B" ∈ gw := (gw_in 2221 (by decide +kernel) (by decide +kernel))
theorem d_JString_length_4 : decode prog_19_method_54_code 4 = .ok (.arraylength, 1) := by decide +kernel
theorem d_JString_length_5 : decode prog_19_method_54_code 5 = .ok (.aload_n 0, 1) := by decide +kernel
theorem d_JString_length_6 : decode prog_19_method_54_code 6 = .ok (.invokevirtual 335, 3) := by decide +kernel
theorem k_JString_coder : mt_OK m_JString_coder 0 1 := ⟨(gw_in 701 (by decide +kernel) (by decide +kernel)), (gw_in 148 (by decide +kernel) (by decide +kernel)), ⟨by decide +kernel, by decide +kernel, by decide +kernel⟩, fun h => absurd h (by decide), fun _ => ⟨(gw_in 699 (by decide +kernel) (by decide +kernel)), (gw_in 700 (by decide +kernel) (by decide +kernel))⟩, fun h => absurd h (by decide)⟩
theorem ll_JString_335 : Cond.methodLink "java/lang/String" 335 ⟨"java/lang/String", "coder", "()B"⟩ ∈ gw := (gw_in 698 (by decide +kernel) (by decide +kernel))
theorem d_JString_length_9 : decode prog_19_method_54_code 9 = .ok (.ishr, 1) := by decide +kernel
theorem d_JString_length_10 : decode prog_19_method_54_code 10 = .ok (.ireturn, 1) := by decide +kernel
def m_JStringLatin1_charAt : mr_T := (⟨"java/lang/StringLatin1", "charAt", "([BI)C"⟩, prog_20_method_2_code, 2, some .char)
theorem d_JStringLatin1_charAt_0 : decode prog_20_method_2_code 0 = .ok (.iload_n 1, 1) := by decide +kernel
theorem d_JStringLatin1_charAt_1 : decode prog_20_method_2_code 1 = .ok (.aload_n 0, 1) := by decide +kernel
theorem d_JStringLatin1_charAt_2 : decode prog_20_method_2_code 2 = .ok (.arraylength, 1) := by decide +kernel
theorem d_JStringLatin1_charAt_3 : decode prog_20_method_2_code 3 = .ok (.invokestatic 9, 3) := by decide +kernel
theorem k_JString_checkIndex : mt_OK m_JString_checkIndex 2 0 := ⟨(gw_in 717 (by decide +kernel) (by decide +kernel)), (gw_in 148 (by decide +kernel) (by decide +kernel)), ⟨by decide +kernel, by decide +kernel, by decide +kernel⟩, fun _ => (gw_in 716 (by decide +kernel) (by decide +kernel)), fun h => absurd h (by decide), fun h => absurd h (by decide)⟩
theorem l_JStringLatin1_9 : ml_OK "java/lang/StringLatin1" 9 ⟨"java/lang/String", "checkIndex", "(II)V"⟩ := Or.inl (gw_in 715 (by decide +kernel) (by decide +kernel))
theorem d_JStringLatin1_charAt_6 : decode prog_20_method_2_code 6 = .ok (.aload_n 0, 1) := by decide +kernel
theorem d_JStringLatin1_charAt_7 : decode prog_20_method_2_code 7 = .ok (.iload_n 1, 1) := by decide +kernel
theorem d_JStringLatin1_charAt_8 : decode prog_20_method_2_code 8 = .ok (.baload, 1) := by decide +kernel
theorem d_JStringLatin1_charAt_9 : decode prog_20_method_2_code 9 = .ok (.sipush 255, 3) := by decide +kernel
theorem d_JStringLatin1_charAt_12 : decode prog_20_method_2_code 12 = .ok (.iand, 1) := by decide +kernel
theorem d_JStringLatin1_charAt_13 : decode prog_20_method_2_code 13 = .ok (.i2c, 1) := by decide +kernel
theorem d_JStringLatin1_charAt_14 : decode prog_20_method_2_code 14 = .ok (.ireturn, 1) := by decide +kernel
def m_JString_charAt : mr_T := (⟨"java/lang/String", "charAt", "(I)C"⟩, prog_19_method_56_code, 2, some .char)
theorem d_JString_charAt_0 : decode prog_19_method_56_code 0 = .ok (.aload_n 0, 1) := by decide +kernel
theorem d_JString_charAt_1 : decode prog_19_method_56_code 1 = .ok (.invokevirtual 492, 3) := by decide +kernel
theorem k_JString_isLatin1 : mt_OK m_JString_isLatin1 0 1 := ⟨(gw_in 711 (by decide +kernel) (by decide +kernel)), (gw_in 148 (by decide +kernel) (by decide +kernel)), ⟨by decide +kernel, by decide +kernel, by decide +kernel⟩, fun h => absurd h (by decide), fun _ => ⟨(gw_in 709 (by decide +kernel) (by decide +kernel)), (gw_in 710 (by decide +kernel) (by decide +kernel))⟩, fun h => absurd h (by decide)⟩
theorem ll_JString_492 : Cond.methodLink "java/lang/String" 492 ⟨"java/lang/String", "isLatin1", "()Z"⟩ ∈ gw := (gw_in 708 (by decide +kernel) (by decide +kernel))
theorem d_JString_charAt_4 : decode prog_19_method_56_code 4 = .ok (.ifCond .eq 12, 3) := by decide +kernel
theorem d_JString_charAt_7 : decode prog_19_method_56_code 7 = .ok (.aload_n 0, 1) := by decide +kernel
theorem d_JString_charAt_8 : decode prog_19_method_56_code 8 = .ok (.getfield 9, 3) := by decide +kernel
theorem d_JString_charAt_11 : decode prog_19_method_56_code 11 = .ok (.iload_n 1, 1) := by decide +kernel
theorem d_JString_charAt_12 : decode prog_19_method_56_code 12 = .ok (.invokestatic 495, 3) := by decide +kernel
theorem k_JStringLatin1_charAt : mt_OK m_JStringLatin1_charAt 2 0 := ⟨(gw_in 714 (by decide +kernel) (by decide +kernel)), (gw_in 149 (by decide +kernel) (by decide +kernel)), ⟨by decide +kernel, by decide +kernel, by decide +kernel⟩, fun _ => (gw_in 713 (by decide +kernel) (by decide +kernel)), fun h => absurd h (by decide), fun h => absurd h (by decide)⟩
theorem l_JString_495 : ml_OK "java/lang/String" 495 ⟨"java/lang/StringLatin1", "charAt", "([BI)C"⟩ := Or.inl (gw_in 712 (by decide +kernel) (by decide +kernel))
theorem d_JString_charAt_15 : decode prog_19_method_56_code 15 = .ok (.ireturn, 1) := by decide +kernel
def m_JStringLatin1_canEncode : mr_T := (⟨"java/lang/StringLatin1", "canEncode", "(I)Z"⟩, prog_20_method_4_code, 1, some .boolean)
theorem d_JStringLatin1_canEncode_0 : decode prog_20_method_4_code 0 = .ok (.iload_n 0, 1) := by decide +kernel
theorem d_JStringLatin1_canEncode_1 : decode prog_20_method_4_code 1 = .ok (.ifCond .lt 14, 3) := by decide +kernel
theorem d_JStringLatin1_canEncode_4 : decode prog_20_method_4_code 4 = .ok (.iload_n 0, 1) := by decide +kernel
theorem d_JStringLatin1_canEncode_5 : decode prog_20_method_4_code 5 = .ok (.sipush 255, 3) := by decide +kernel
theorem d_JStringLatin1_canEncode_8 : decode prog_20_method_4_code 8 = .ok (.if_icmp .gt 7, 3) := by decide +kernel
theorem d_JStringLatin1_canEncode_11 : decode prog_20_method_4_code 11 = .ok (.iconst 1, 1) := by decide +kernel
theorem d_JStringLatin1_canEncode_12 : decode prog_20_method_4_code 12 = .ok (.goto 4, 3) := by decide +kernel
theorem d_JStringLatin1_canEncode_16 : decode prog_20_method_4_code 16 = .ok (.ireturn, 1) := by decide +kernel
def m_JStringLatin1_indexOfChar : mr_T := (⟨"java/lang/StringLatin1", "indexOfChar", "([BIII)I"⟩, prog_20_method_23_code, 6, some .int)
theorem d_JStringLatin1_indexOfChar_0 : decode prog_20_method_23_code 0 = .ok (.iload_n 1, 1) := by decide +kernel
theorem d_JStringLatin1_indexOfChar_1 : decode prog_20_method_23_code 1 = .ok (.i2b, 1) := by decide +kernel
theorem d_JStringLatin1_indexOfChar_2 : decode prog_20_method_23_code 2 = .ok (.istore 4, 2) := by decide +kernel
theorem d_JStringLatin1_indexOfChar_4 : decode prog_20_method_23_code 4 = .ok (.iload_n 2, 1) := by decide +kernel
theorem d_JStringLatin1_indexOfChar_5 : decode prog_20_method_23_code 5 = .ok (.istore 5, 2) := by decide +kernel
theorem d_JStringLatin1_indexOfChar_7 : decode prog_20_method_23_code 7 = .ok (.iload 5, 2) := by decide +kernel
theorem d_JStringLatin1_indexOfChar_9 : decode prog_20_method_23_code 9 = .ok (.iload_n 3, 1) := by decide +kernel
theorem d_JStringLatin1_indexOfChar_10 : decode prog_20_method_23_code 10 = .ok (.if_icmp .ge 21, 3) := by decide +kernel
theorem d_JStringLatin1_indexOfChar_13 : decode prog_20_method_23_code 13 = .ok (.aload_n 0, 1) := by decide +kernel
theorem d_JStringLatin1_indexOfChar_14 : decode prog_20_method_23_code 14 = .ok (.iload 5, 2) := by decide +kernel
theorem d_JStringLatin1_indexOfChar_16 : decode prog_20_method_23_code 16 = .ok (.baload, 1) := by decide +kernel
theorem d_JStringLatin1_indexOfChar_17 : decode prog_20_method_23_code 17 = .ok (.iload 4, 2) := by decide +kernel
theorem d_JStringLatin1_indexOfChar_19 : decode prog_20_method_23_code 19 = .ok (.if_icmp .ne 6, 3) := by decide +kernel
theorem d_JStringLatin1_indexOfChar_25 : decode prog_20_method_23_code 25 = .ok (.iinc 5 1, 3) := by decide +kernel
theorem d_JStringLatin1_indexOfChar_28 : decode prog_20_method_23_code 28 = .ok (.goto (-21), 3) := by decide +kernel
theorem d_JStringLatin1_indexOfChar_22 : decode prog_20_method_23_code 22 = .ok (.iload 5, 2) := by decide +kernel
theorem d_JStringLatin1_indexOfChar_24 : decode prog_20_method_23_code 24 = .ok (.ireturn, 1) := by decide +kernel
theorem d_JStringLatin1_indexOfChar_31 : decode prog_20_method_23_code 31 = .ok (.iconst (-1), 1) := by decide +kernel
theorem d_JStringLatin1_indexOfChar_32 : decode prog_20_method_23_code 32 = .ok (.ireturn, 1) := by decide +kernel
def m_JStringLatin1_indexOf : mr_T := (⟨"java/lang/StringLatin1", "indexOf", "([BIII)I"⟩, prog_20_method_22_code, 4, some .int)
theorem d_JStringLatin1_indexOf_0 : decode prog_20_method_22_code 0 = .ok (.iload_n 1, 1) := by decide +kernel
theorem d_JStringLatin1_indexOf_1 : decode prog_20_method_22_code 1 = .ok (.invokestatic 88, 3) := by decide +kernel
theorem k_JStringLatin1_canEncode : mt_OK m_JStringLatin1_canEncode 1 0 := ⟨(gw_in 769 (by decide +kernel) (by decide +kernel)), (gw_in 149 (by decide +kernel) (by decide +kernel)), ⟨by decide +kernel, by decide +kernel, by decide +kernel⟩, fun _ => (gw_in 768 (by decide +kernel) (by decide +kernel)), fun h => absurd h (by decide), fun h => absurd h (by decide)⟩
theorem l_JStringLatin1_88 : ml_OK "java/lang/StringLatin1" 88 ⟨"java/lang/StringLatin1", "canEncode", "(I)Z"⟩ := Or.inl (gw_in 767 (by decide +kernel) (by decide +kernel))
theorem d_JStringLatin1_indexOf_4 : decode prog_20_method_22_code 4 = .ok (.ifCond .ne 5, 3) := by decide +kernel
theorem d_JStringLatin1_indexOf_9 : decode prog_20_method_22_code 9 = .ok (.iload_n 2, 1) := by decide +kernel
theorem d_JStringLatin1_indexOf_10 : decode prog_20_method_22_code 10 = .ok (.iconst 0, 1) := by decide +kernel
theorem d_JStringLatin1_indexOf_11 : decode prog_20_method_22_code 11 = .ok (.invokestatic 92, 3) := by decide +kernel
theorem ma_max : Cond.static Lib.Math.max.name ∈ gw ∧ Cond.initialized "java/lang/Math" ∈ gw ∧ Cond.code Lib.Math.max.name Lib.Math.max.code 2 (some .int) ∈ gw := ⟨(gw_in 771 (by decide +kernel) (by decide +kernel)), (gw_in 147 (by decide +kernel) (by decide +kernel)), (gw_in 772 (by decide +kernel) (by decide +kernel))⟩
theorem lm_JStringLatin1_92 : Cond.methodLink "java/lang/StringLatin1" 92 Lib.Math.max.name ∈ gw := (gw_in 770 (by decide +kernel) (by decide +kernel))
theorem d_JStringLatin1_indexOf_14 : decode prog_20_method_22_code 14 = .ok (.istore_n 2, 1) := by decide +kernel
theorem d_JStringLatin1_indexOf_15 : decode prog_20_method_22_code 15 = .ok (.iload_n 3, 1) := by decide +kernel
theorem d_JStringLatin1_indexOf_16 : decode prog_20_method_22_code 16 = .ok (.aload_n 0, 1) := by decide +kernel
theorem d_JStringLatin1_indexOf_17 : decode prog_20_method_22_code 17 = .ok (.arraylength, 1) := by decide +kernel
theorem d_JStringLatin1_indexOf_18 : decode prog_20_method_22_code 18 = .ok (.invokestatic 38, 3) := by decide +kernel
theorem ma_min : Cond.static Lib.Math.min.name ∈ gw ∧ Cond.initialized "java/lang/Math" ∈ gw ∧ Cond.code Lib.Math.min.name Lib.Math.min.code 2 (some .int) ∈ gw := ⟨(gw_in 657 (by decide +kernel) (by decide +kernel)), (gw_in 147 (by decide +kernel) (by decide +kernel)), (gw_in 658 (by decide +kernel) (by decide +kernel))⟩
theorem lm_JStringLatin1_38 : Cond.methodLink "java/lang/StringLatin1" 38 Lib.Math.min.name ∈ gw := (gw_in 773 (by decide +kernel) (by decide +kernel))
theorem d_JStringLatin1_indexOf_21 : decode prog_20_method_22_code 21 = .ok (.istore_n 3, 1) := by decide +kernel
theorem d_JStringLatin1_indexOf_22 : decode prog_20_method_22_code 22 = .ok (.iload_n 2, 1) := by decide +kernel
theorem d_JStringLatin1_indexOf_23 : decode prog_20_method_22_code 23 = .ok (.iload_n 3, 1) := by decide +kernel
theorem d_JStringLatin1_indexOf_24 : decode prog_20_method_22_code 24 = .ok (.if_icmp .lt 5, 3) := by decide +kernel
theorem d_JStringLatin1_indexOf_29 : decode prog_20_method_22_code 29 = .ok (.aload_n 0, 1) := by decide +kernel
theorem d_JStringLatin1_indexOf_30 : decode prog_20_method_22_code 30 = .ok (.iload_n 1, 1) := by decide +kernel
theorem d_JStringLatin1_indexOf_31 : decode prog_20_method_22_code 31 = .ok (.iload_n 2, 1) := by decide +kernel
theorem d_JStringLatin1_indexOf_32 : decode prog_20_method_22_code 32 = .ok (.iload_n 3, 1) := by decide +kernel
theorem d_JStringLatin1_indexOf_33 : decode prog_20_method_22_code 33 = .ok (.invokestatic 95, 3) := by decide +kernel
theorem k_JStringLatin1_indexOfChar : mt_OK m_JStringLatin1_indexOfChar 4 0 := ⟨(gw_in 776 (by decide +kernel) (by decide +kernel)), (gw_in 149 (by decide +kernel) (by decide +kernel)), ⟨by decide +kernel, by decide +kernel, by decide +kernel⟩, fun _ => (gw_in 775 (by decide +kernel) (by decide +kernel)), fun h => absurd h (by decide), fun h => absurd h (by decide)⟩
theorem l_JStringLatin1_95 : ml_OK "java/lang/StringLatin1" 95 ⟨"java/lang/StringLatin1", "indexOfChar", "([BIII)I"⟩ := Or.inl (gw_in 774 (by decide +kernel) (by decide +kernel))
theorem d_JStringLatin1_indexOf_36 : decode prog_20_method_22_code 36 = .ok (.ireturn, 1) := by decide +kernel
def m_JString_indexOf_III : mr_T := (⟨"java/lang/String", "indexOf", "(II)I"⟩, prog_19_method_80_code, 3, some .int)
theorem d_JString_indexOf_III_0 : decode prog_19_method_80_code 0 = .ok (.aload_n 0, 1) := by decide +kernel
theorem d_JString_indexOf_III_1 : decode prog_19_method_80_code 1 = .ok (.invokevirtual 492, 3) := by decide +kernel
theorem d_JString_indexOf_III_4 : decode prog_19_method_80_code 4 = .ok (.ifCond .eq 19, 3) := by decide +kernel
theorem d_JString_indexOf_III_7 : decode prog_19_method_80_code 7 = .ok (.aload_n 0, 1) := by decide +kernel
theorem d_JString_indexOf_III_8 : decode prog_19_method_80_code 8 = .ok (.getfield 9, 3) := by decide +kernel
theorem d_JString_indexOf_III_11 : decode prog_19_method_80_code 11 = .ok (.iload_n 1, 1) := by decide +kernel
theorem d_JString_indexOf_III_12 : decode prog_19_method_80_code 12 = .ok (.iload_n 2, 1) := by decide +kernel
theorem d_JString_indexOf_III_13 : decode prog_19_method_80_code 13 = .ok (.aload_n 0, 1) := by decide +kernel
theorem d_JString_indexOf_III_14 : decode prog_19_method_80_code 14 = .ok (.invokevirtual 505, 3) := by decide +kernel
theorem k_JString_length : mt_OK m_JString_length 0 1 := ⟨(gw_in 697 (by decide +kernel) (by decide +kernel)), (gw_in 148 (by decide +kernel) (by decide +kernel)), ⟨by decide +kernel, by decide +kernel, by decide +kernel⟩, fun h => absurd h (by decide), fun _ => ⟨(gw_in 695 (by decide +kernel) (by decide +kernel)), (gw_in 696 (by decide +kernel) (by decide +kernel))⟩, fun h => absurd h (by decide)⟩
theorem ll_JString_505 : Cond.methodLink "java/lang/String" 505 ⟨"java/lang/String", "length", "()I"⟩ ∈ gw := (gw_in 763 (by decide +kernel) (by decide +kernel))
theorem d_JString_indexOf_III_17 : decode prog_19_method_80_code 17 = .ok (.invokestatic 637, 3) := by decide +kernel
theorem k_JStringLatin1_indexOf : mt_OK m_JStringLatin1_indexOf 4 0 := ⟨(gw_in 766 (by decide +kernel) (by decide +kernel)), (gw_in 149 (by decide +kernel) (by decide +kernel)), ⟨by decide +kernel, by decide +kernel, by decide +kernel⟩, fun _ => (gw_in 765 (by decide +kernel) (by decide +kernel)), fun h => absurd h (by decide), fun h => absurd h (by decide)⟩
theorem l_JString_637 : ml_OK "java/lang/String" 637 ⟨"java/lang/StringLatin1", "indexOf", "([BIII)I"⟩ := Or.inl (gw_in 764 (by decide +kernel) (by decide +kernel))
theorem d_JString_indexOf_III_20 : decode prog_19_method_80_code 20 = .ok (.goto 16, 3) := by decide +kernel
theorem d_JString_indexOf_III_36 : decode prog_19_method_80_code 36 = .ok (.ireturn, 1) := by decide +kernel
def m_JString_indexOf_II : mr_T := (⟨"java/lang/String", "indexOf", "(I)I"⟩, prog_19_method_79_code, 2, some .int)
theorem d_JString_indexOf_II_0 : decode prog_19_method_79_code 0 = .ok (.aload_n 0, 1) := by decide +kernel
theorem d_JString_indexOf_II_1 : decode prog_19_method_79_code 1 = .ok (.iload_n 1, 1) := by decide +kernel
theorem d_JString_indexOf_II_2 : decode prog_19_method_79_code 2 = .ok (.iconst 0, 1) := by decide +kernel
theorem d_JString_indexOf_II_3 : decode prog_19_method_79_code 3 = .ok (.invokevirtual 633, 3) := by decide +kernel
theorem k_JString_indexOf_III : mt_OK m_JString_indexOf_III 2 1 := ⟨(gw_in 762 (by decide +kernel) (by decide +kernel)), (gw_in 148 (by decide +kernel) (by decide +kernel)), ⟨by decide +kernel, by decide +kernel, by decide +kernel⟩, fun h => absurd h (by decide), fun _ => ⟨(gw_in 760 (by decide +kernel) (by decide +kernel)), (gw_in 761 (by decide +kernel) (by decide +kernel))⟩, fun h => absurd h (by decide)⟩
theorem ll_JString_633 : Cond.methodLink "java/lang/String" 633 ⟨"java/lang/String", "indexOf", "(II)I"⟩ ∈ gw := (gw_in 759 (by decide +kernel) (by decide +kernel))
theorem d_JString_indexOf_II_6 : decode prog_19_method_79_code 6 = .ok (.ireturn, 1) := by decide +kernel
def m_JMath_floorMod : mr_T := (⟨"java/lang/Math", "floorMod", "(II)I"⟩, prog_18_method_50_code, 3, some .int)
theorem d_JMath_floorMod_0 : decode prog_18_method_50_code 0 = .ok (.iload_n 0, 1) := by decide +kernel
theorem d_JMath_floorMod_1 : decode prog_18_method_50_code 1 = .ok (.iload_n 1, 1) := by decide +kernel
theorem d_JMath_floorMod_2 : decode prog_18_method_50_code 2 = .ok (.irem, 1) := by decide +kernel
theorem d_JMath_floorMod_3 : decode prog_18_method_50_code 3 = .ok (.istore_n 2, 1) := by decide +kernel
theorem d_JMath_floorMod_4 : decode prog_18_method_50_code 4 = .ok (.iload_n 0, 1) := by decide +kernel
theorem d_JMath_floorMod_5 : decode prog_18_method_50_code 5 = .ok (.iload_n 1, 1) := by decide +kernel
theorem d_JMath_floorMod_6 : decode prog_18_method_50_code 6 = .ok (.ixor, 1) := by decide +kernel
theorem d_JMath_floorMod_7 : decode prog_18_method_50_code 7 = .ok (.ifCond .ge 11, 3) := by decide +kernel
theorem d_JMath_floorMod_18 : decode prog_18_method_50_code 18 = .ok (.iload_n 2, 1) := by decide +kernel
theorem d_JMath_floorMod_19 : decode prog_18_method_50_code 19 = .ok (.ireturn, 1) := by decide +kernel
theorem d_JMath_floorMod_10 : decode prog_18_method_50_code 10 = .ok (.iload_n 2, 1) := by decide +kernel
theorem d_JMath_floorMod_11 : decode prog_18_method_50_code 11 = .ok (.ifCond .eq 7, 3) := by decide +kernel
theorem d_JMath_floorMod_14 : decode prog_18_method_50_code 14 = .ok (.iload_n 2, 1) := by decide +kernel
theorem d_JMath_floorMod_15 : decode prog_18_method_50_code 15 = .ok (.iload_n 1, 1) := by decide +kernel
theorem d_JMath_floorMod_16 : decode prog_18_method_50_code 16 = .ok (.iadd, 1) := by decide +kernel
theorem d_JMath_floorMod_17 : decode prog_18_method_50_code 17 = .ok (.ireturn, 1) := by decide +kernel
def m_JMath_floorDiv : mr_T := (⟨"java/lang/Math", "floorDiv", "(II)I"⟩, prog_18_method_47_code, 3, some .int)
theorem d_JMath_floorDiv_0 : decode prog_18_method_47_code 0 = .ok (.iload_n 0, 1) := by decide +kernel
theorem d_JMath_floorDiv_1 : decode prog_18_method_47_code 1 = .ok (.iload_n 1, 1) := by decide +kernel
theorem d_JMath_floorDiv_2 : decode prog_18_method_47_code 2 = .ok (.idiv, 1) := by decide +kernel
theorem d_JMath_floorDiv_3 : decode prog_18_method_47_code 3 = .ok (.istore_n 2, 1) := by decide +kernel
theorem d_JMath_floorDiv_4 : decode prog_18_method_47_code 4 = .ok (.iload_n 0, 1) := by decide +kernel
theorem d_JMath_floorDiv_5 : decode prog_18_method_47_code 5 = .ok (.iload_n 1, 1) := by decide +kernel
theorem d_JMath_floorDiv_6 : decode prog_18_method_47_code 6 = .ok (.ixor, 1) := by decide +kernel
theorem d_JMath_floorDiv_7 : decode prog_18_method_47_code 7 = .ok (.ifCond .ge 14, 3) := by decide +kernel
theorem d_JMath_floorDiv_21 : decode prog_18_method_47_code 21 = .ok (.iload_n 2, 1) := by decide +kernel
theorem d_JMath_floorDiv_22 : decode prog_18_method_47_code 22 = .ok (.ireturn, 1) := by decide +kernel
theorem d_JMath_floorDiv_10 : decode prog_18_method_47_code 10 = .ok (.iload_n 2, 1) := by decide +kernel
theorem d_JMath_floorDiv_11 : decode prog_18_method_47_code 11 = .ok (.iload_n 1, 1) := by decide +kernel
theorem d_JMath_floorDiv_12 : decode prog_18_method_47_code 12 = .ok (.imul, 1) := by decide +kernel
theorem d_JMath_floorDiv_13 : decode prog_18_method_47_code 13 = .ok (.iload_n 0, 1) := by decide +kernel
theorem d_JMath_floorDiv_14 : decode prog_18_method_47_code 14 = .ok (.if_icmp .eq 7, 3) := by decide +kernel
theorem d_JMath_floorDiv_17 : decode prog_18_method_47_code 17 = .ok (.iload_n 2, 1) := by decide +kernel
theorem d_JMath_floorDiv_18 : decode prog_18_method_47_code 18 = .ok (.iconst 1, 1) := by decide +kernel
theorem d_JMath_floorDiv_19 : decode prog_18_method_47_code 19 = .ok (.isub, 1) := by decide +kernel
theorem d_JMath_floorDiv_20 : decode prog_18_method_47_code 20 = .ok (.ireturn, 1) := by decide +kernel
def m_JMath_min_JJJ : mr_T := (⟨"java/lang/Math", "min", "(JJ)J"⟩, prog_18_method_70_code, 4, some .long)
theorem d_JMath_min_JJJ_0 : decode prog_18_method_70_code 0 = .ok (.lload_n 0, 1) := by decide +kernel
theorem d_JMath_min_JJJ_1 : decode prog_18_method_70_code 1 = .ok (.lload_n 2, 1) := by decide +kernel
theorem d_JMath_min_JJJ_2 : decode prog_18_method_70_code 2 = .ok (.lcmp, 1) := by decide +kernel
theorem d_JMath_min_JJJ_3 : decode prog_18_method_70_code 3 = .ok (.ifCond .gt 7, 3) := by decide +kernel
theorem d_JMath_min_JJJ_10 : decode prog_18_method_70_code 10 = .ok (.lload_n 2, 1) := by decide +kernel
theorem d_JMath_min_JJJ_11 : decode prog_18_method_70_code 11 = .ok (.lreturn, 1) := by decide +kernel
theorem d_JMath_min_JJJ_6 : decode prog_18_method_70_code 6 = .ok (.lload_n 0, 1) := by decide +kernel
theorem d_JMath_min_JJJ_7 : decode prog_18_method_70_code 7 = .ok (.goto 4, 3) := by decide +kernel
def m_JLong_bitCount : mr_T := (⟨"java/lang/Long", "bitCount", "(J)I"⟩, prog_17_method_50_code, 2, some .int)
theorem d_JLong_bitCount_0 : decode prog_17_method_50_code 0 = .ok (.lload_n 0, 1) := by decide +kernel
theorem d_JLong_bitCount_1 : decode prog_17_method_50_code 1 = .ok (.lload_n 0, 1) := by decide +kernel
theorem d_JLong_bitCount_2 : decode prog_17_method_50_code 2 = .ok (.iconst 1, 1) := by decide +kernel
theorem d_JLong_bitCount_3 : decode prog_17_method_50_code 3 = .ok (.lushr, 1) := by decide +kernel
theorem d_JLong_bitCount_4 : decode prog_17_method_50_code 4 = .ok (.ldc2_w 314, 3) := by decide +kernel
theorem cst_JLong_314 : Cond.constantLong "java/lang/Long" 314 (Int64.ofInt 6148914691236517205) ∈ gw := (gw_in 1329 (by decide +kernel) (by decide +kernel))
theorem d_JLong_bitCount_7 : decode prog_17_method_50_code 7 = .ok (.land, 1) := by decide +kernel
theorem d_JLong_bitCount_8 : decode prog_17_method_50_code 8 = .ok (.lsub, 1) := by decide +kernel
theorem d_JLong_bitCount_9 : decode prog_17_method_50_code 9 = .ok (.lstore_n 0, 1) := by decide +kernel
theorem d_JLong_bitCount_10 : decode prog_17_method_50_code 10 = .ok (.lload_n 0, 1) := by decide +kernel
theorem d_JLong_bitCount_11 : decode prog_17_method_50_code 11 = .ok (.ldc2_w 316, 3) := by decide +kernel
theorem cst_JLong_316 : Cond.constantLong "java/lang/Long" 316 (Int64.ofInt 3689348814741910323) ∈ gw := (gw_in 1330 (by decide +kernel) (by decide +kernel))
theorem d_JLong_bitCount_14 : decode prog_17_method_50_code 14 = .ok (.land, 1) := by decide +kernel
theorem d_JLong_bitCount_15 : decode prog_17_method_50_code 15 = .ok (.lload_n 0, 1) := by decide +kernel
theorem d_JLong_bitCount_16 : decode prog_17_method_50_code 16 = .ok (.iconst 2, 1) := by decide +kernel
theorem d_JLong_bitCount_17 : decode prog_17_method_50_code 17 = .ok (.lushr, 1) := by decide +kernel
theorem d_JLong_bitCount_18 : decode prog_17_method_50_code 18 = .ok (.ldc2_w 316, 3) := by decide +kernel
theorem d_JLong_bitCount_21 : decode prog_17_method_50_code 21 = .ok (.land, 1) := by decide +kernel
theorem d_JLong_bitCount_22 : decode prog_17_method_50_code 22 = .ok (.ladd, 1) := by decide +kernel
theorem d_JLong_bitCount_23 : decode prog_17_method_50_code 23 = .ok (.lstore_n 0, 1) := by decide +kernel
theorem d_JLong_bitCount_24 : decode prog_17_method_50_code 24 = .ok (.lload_n 0, 1) := by decide +kernel
theorem d_JLong_bitCount_25 : decode prog_17_method_50_code 25 = .ok (.lload_n 0, 1) := by decide +kernel
theorem d_JLong_bitCount_26 : decode prog_17_method_50_code 26 = .ok (.iconst 4, 1) := by decide +kernel
theorem d_JLong_bitCount_27 : decode prog_17_method_50_code 27 = .ok (.lushr, 1) := by decide +kernel
theorem d_JLong_bitCount_28 : decode prog_17_method_50_code 28 = .ok (.ladd, 1) := by decide +kernel
theorem d_JLong_bitCount_29 : decode prog_17_method_50_code 29 = .ok (.ldc2_w 318, 3) := by decide +kernel
theorem cst_JLong_318 : Cond.constantLong "java/lang/Long" 318 (Int64.ofInt 1085102592571150095) ∈ gw := (gw_in 1331 (by decide +kernel) (by decide +kernel))
theorem d_JLong_bitCount_32 : decode prog_17_method_50_code 32 = .ok (.land, 1) := by decide +kernel
theorem d_JLong_bitCount_33 : decode prog_17_method_50_code 33 = .ok (.lstore_n 0, 1) := by decide +kernel
theorem d_JLong_bitCount_34 : decode prog_17_method_50_code 34 = .ok (.lload_n 0, 1) := by decide +kernel
theorem d_JLong_bitCount_35 : decode prog_17_method_50_code 35 = .ok (.lload_n 0, 1) := by decide +kernel
theorem d_JLong_bitCount_36 : decode prog_17_method_50_code 36 = .ok (.bipush 8, 2) := by decide +kernel
theorem d_JLong_bitCount_38 : decode prog_17_method_50_code 38 = .ok (.lushr, 1) := by decide +kernel
theorem d_JLong_bitCount_39 : decode prog_17_method_50_code 39 = .ok (.ladd, 1) := by decide +kernel
theorem d_JLong_bitCount_40 : decode prog_17_method_50_code 40 = .ok (.lstore_n 0, 1) := by decide +kernel
theorem d_JLong_bitCount_41 : decode prog_17_method_50_code 41 = .ok (.lload_n 0, 1) := by decide +kernel
theorem d_JLong_bitCount_42 : decode prog_17_method_50_code 42 = .ok (.lload_n 0, 1) := by decide +kernel
theorem d_JLong_bitCount_43 : decode prog_17_method_50_code 43 = .ok (.bipush 16, 2) := by decide +kernel
theorem d_JLong_bitCount_45 : decode prog_17_method_50_code 45 = .ok (.lushr, 1) := by decide +kernel
theorem d_JLong_bitCount_46 : decode prog_17_method_50_code 46 = .ok (.ladd, 1) := by decide +kernel
theorem d_JLong_bitCount_47 : decode prog_17_method_50_code 47 = .ok (.lstore_n 0, 1) := by decide +kernel
theorem d_JLong_bitCount_48 : decode prog_17_method_50_code 48 = .ok (.lload_n 0, 1) := by decide +kernel
theorem d_JLong_bitCount_49 : decode prog_17_method_50_code 49 = .ok (.lload_n 0, 1) := by decide +kernel
theorem d_JLong_bitCount_50 : decode prog_17_method_50_code 50 = .ok (.bipush 32, 2) := by decide +kernel
theorem d_JLong_bitCount_52 : decode prog_17_method_50_code 52 = .ok (.lushr, 1) := by decide +kernel
theorem d_JLong_bitCount_53 : decode prog_17_method_50_code 53 = .ok (.ladd, 1) := by decide +kernel
theorem d_JLong_bitCount_54 : decode prog_17_method_50_code 54 = .ok (.lstore_n 0, 1) := by decide +kernel
theorem d_JLong_bitCount_55 : decode prog_17_method_50_code 55 = .ok (.lload_n 0, 1) := by decide +kernel
theorem d_JLong_bitCount_56 : decode prog_17_method_50_code 56 = .ok (.l2i, 1) := by decide +kernel
theorem d_JLong_bitCount_57 : decode prog_17_method_50_code 57 = .ok (.bipush 127, 2) := by decide +kernel
theorem d_JLong_bitCount_59 : decode prog_17_method_50_code 59 = .ok (.iand, 1) := by decide +kernel
theorem d_JLong_bitCount_60 : decode prog_17_method_50_code 60 = .ok (.ireturn, 1) := by decide +kernel
def m_JInteger_bitCount : mr_T := (⟨"java/lang/Integer", "bitCount", "(I)I"⟩, prog_16_method_49_code, 1, some .int)
theorem d_JInteger_bitCount_0 : decode prog_16_method_49_code 0 = .ok (.iload_n 0, 1) := by decide +kernel
theorem d_JInteger_bitCount_1 : decode prog_16_method_49_code 1 = .ok (.iload_n 0, 1) := by decide +kernel
theorem d_JInteger_bitCount_2 : decode prog_16_method_49_code 2 = .ok (.iconst 1, 1) := by decide +kernel
theorem d_JInteger_bitCount_3 : decode prog_16_method_49_code 3 = .ok (.iushr, 1) := by decide +kernel
theorem d_JInteger_bitCount_4 : decode prog_16_method_49_code 4 = .ok (.ldc_w 265, 3) := by decide +kernel
theorem cst_JInteger_265 : Cond.constant "java/lang/Integer" 265 (Int32.ofInt 1431655765) ∈ gw := (gw_in 836 (by decide +kernel) (by decide +kernel))
theorem d_JInteger_bitCount_7 : decode prog_16_method_49_code 7 = .ok (.iand, 1) := by decide +kernel
theorem d_JInteger_bitCount_8 : decode prog_16_method_49_code 8 = .ok (.isub, 1) := by decide +kernel
theorem d_JInteger_bitCount_9 : decode prog_16_method_49_code 9 = .ok (.istore_n 0, 1) := by decide +kernel
theorem d_JInteger_bitCount_10 : decode prog_16_method_49_code 10 = .ok (.iload_n 0, 1) := by decide +kernel
theorem d_JInteger_bitCount_11 : decode prog_16_method_49_code 11 = .ok (.ldc_w 266, 3) := by decide +kernel
theorem cst_JInteger_266 : Cond.constant "java/lang/Integer" 266 (Int32.ofInt 858993459) ∈ gw := (gw_in 837 (by decide +kernel) (by decide +kernel))
theorem d_JInteger_bitCount_14 : decode prog_16_method_49_code 14 = .ok (.iand, 1) := by decide +kernel
theorem d_JInteger_bitCount_15 : decode prog_16_method_49_code 15 = .ok (.iload_n 0, 1) := by decide +kernel
theorem d_JInteger_bitCount_16 : decode prog_16_method_49_code 16 = .ok (.iconst 2, 1) := by decide +kernel
theorem d_JInteger_bitCount_17 : decode prog_16_method_49_code 17 = .ok (.iushr, 1) := by decide +kernel
theorem d_JInteger_bitCount_18 : decode prog_16_method_49_code 18 = .ok (.ldc_w 266, 3) := by decide +kernel
theorem d_JInteger_bitCount_21 : decode prog_16_method_49_code 21 = .ok (.iand, 1) := by decide +kernel
theorem d_JInteger_bitCount_22 : decode prog_16_method_49_code 22 = .ok (.iadd, 1) := by decide +kernel
theorem d_JInteger_bitCount_23 : decode prog_16_method_49_code 23 = .ok (.istore_n 0, 1) := by decide +kernel
theorem d_JInteger_bitCount_24 : decode prog_16_method_49_code 24 = .ok (.iload_n 0, 1) := by decide +kernel
theorem d_JInteger_bitCount_25 : decode prog_16_method_49_code 25 = .ok (.iload_n 0, 1) := by decide +kernel
theorem d_JInteger_bitCount_26 : decode prog_16_method_49_code 26 = .ok (.iconst 4, 1) := by decide +kernel
theorem d_JInteger_bitCount_27 : decode prog_16_method_49_code 27 = .ok (.iushr, 1) := by decide +kernel
theorem d_JInteger_bitCount_28 : decode prog_16_method_49_code 28 = .ok (.iadd, 1) := by decide +kernel
theorem d_JInteger_bitCount_29 : decode prog_16_method_49_code 29 = .ok (.ldc_w 267, 3) := by decide +kernel
theorem cst_JInteger_267 : Cond.constant "java/lang/Integer" 267 (Int32.ofInt 252645135) ∈ gw := (gw_in 838 (by decide +kernel) (by decide +kernel))
theorem d_JInteger_bitCount_32 : decode prog_16_method_49_code 32 = .ok (.iand, 1) := by decide +kernel
theorem d_JInteger_bitCount_33 : decode prog_16_method_49_code 33 = .ok (.istore_n 0, 1) := by decide +kernel
theorem d_JInteger_bitCount_34 : decode prog_16_method_49_code 34 = .ok (.iload_n 0, 1) := by decide +kernel
theorem d_JInteger_bitCount_35 : decode prog_16_method_49_code 35 = .ok (.iload_n 0, 1) := by decide +kernel
theorem d_JInteger_bitCount_36 : decode prog_16_method_49_code 36 = .ok (.bipush 8, 2) := by decide +kernel
theorem d_JInteger_bitCount_38 : decode prog_16_method_49_code 38 = .ok (.iushr, 1) := by decide +kernel
theorem d_JInteger_bitCount_39 : decode prog_16_method_49_code 39 = .ok (.iadd, 1) := by decide +kernel
theorem d_JInteger_bitCount_40 : decode prog_16_method_49_code 40 = .ok (.istore_n 0, 1) := by decide +kernel
theorem d_JInteger_bitCount_41 : decode prog_16_method_49_code 41 = .ok (.iload_n 0, 1) := by decide +kernel
theorem d_JInteger_bitCount_42 : decode prog_16_method_49_code 42 = .ok (.iload_n 0, 1) := by decide +kernel
theorem d_JInteger_bitCount_43 : decode prog_16_method_49_code 43 = .ok (.bipush 16, 2) := by decide +kernel
theorem d_JInteger_bitCount_45 : decode prog_16_method_49_code 45 = .ok (.iushr, 1) := by decide +kernel
theorem d_JInteger_bitCount_46 : decode prog_16_method_49_code 46 = .ok (.iadd, 1) := by decide +kernel
theorem d_JInteger_bitCount_47 : decode prog_16_method_49_code 47 = .ok (.istore_n 0, 1) := by decide +kernel
theorem d_JInteger_bitCount_48 : decode prog_16_method_49_code 48 = .ok (.iload_n 0, 1) := by decide +kernel
theorem d_JInteger_bitCount_49 : decode prog_16_method_49_code 49 = .ok (.bipush 63, 2) := by decide +kernel
theorem d_JInteger_bitCount_51 : decode prog_16_method_49_code 51 = .ok (.iand, 1) := by decide +kernel
theorem d_JInteger_bitCount_52 : decode prog_16_method_49_code 52 = .ok (.ireturn, 1) := by decide +kernel
def m_JLong_compare : mr_T := (⟨"java/lang/Long", "compare", "(JJ)I"⟩, prog_17_method_42_code, 4, some .int)
theorem d_JLong_compare_0 : decode prog_17_method_42_code 0 = .ok (.lload_n 0, 1) := by decide +kernel
theorem d_JLong_compare_1 : decode prog_17_method_42_code 1 = .ok (.lload_n 2, 1) := by decide +kernel
theorem d_JLong_compare_2 : decode prog_17_method_42_code 2 = .ok (.lcmp, 1) := by decide +kernel
theorem d_JLong_compare_3 : decode prog_17_method_42_code 3 = .ok (.ifCond .ge 7, 3) := by decide +kernel
theorem d_JLong_compare_10 : decode prog_17_method_42_code 10 = .ok (.lload_n 0, 1) := by decide +kernel
theorem d_JLong_compare_11 : decode prog_17_method_42_code 11 = .ok (.lload_n 2, 1) := by decide +kernel
theorem d_JLong_compare_12 : decode prog_17_method_42_code 12 = .ok (.lcmp, 1) := by decide +kernel
theorem d_JLong_compare_13 : decode prog_17_method_42_code 13 = .ok (.ifCond .ne 7, 3) := by decide +kernel
theorem d_JLong_compare_20 : decode prog_17_method_42_code 20 = .ok (.iconst 1, 1) := by decide +kernel
theorem d_JLong_compare_21 : decode prog_17_method_42_code 21 = .ok (.ireturn, 1) := by decide +kernel
theorem d_JLong_compare_16 : decode prog_17_method_42_code 16 = .ok (.iconst 0, 1) := by decide +kernel
theorem d_JLong_compare_17 : decode prog_17_method_42_code 17 = .ok (.goto 4, 3) := by decide +kernel
theorem d_JLong_compare_6 : decode prog_17_method_42_code 6 = .ok (.iconst (-1), 1) := by decide +kernel
theorem d_JLong_compare_7 : decode prog_17_method_42_code 7 = .ok (.goto 14, 3) := by decide +kernel
theorem s_JPreconditions_checkIndex {G : cx_T} {h : ah_T} {a0 : Int} {a1 : Int} (la0 : 0 ≤ a0) (ua0 : a0 ≤ 2147483647) (la1 : 0 ≤ a1) (ua1 : a1 ≤ 2147483647) (hlt : a0 < a1) : con G 0 0 0 m_JPreconditions_checkIndex [av_I a0, av_I a1, av_R none] h (fun r h' => ∃ z, r = some (av_I z) ∧ ((-2147483648) ≤ z ∧ z ≤ 2147483647) ∧ h = h') := by
  refine con_of (L := [some (av_I a0), some (av_I a1), some (av_R none)]) (by decide +kernel) (Nat.le_of_ble_eq_true rfl) rfl ?_
  refine A_iload_n 0 d_JPreconditions_checkIndex_0 rfl rfl ?_
  refine A_if_lt (tgt := 9) d_JPreconditions_checkIndex_1 (by decide) (fun c => False.elim (by omega)) (fun c1 => ?_)
  refine A_iload_n 0 d_JPreconditions_checkIndex_4 rfl rfl ?_
  refine A_iload_n 1 d_JPreconditions_checkIndex_5 rfl rfl ?_
  refine A_icmp_lt (tgt := 16) d_JPreconditions_checkIndex_6 (by decide) (fun c2 => ?_) (fun c => False.elim (by omega))
  refine A_iload_n 0 d_JPreconditions_checkIndex_16 rfl rfl ?_
  exact A_iret d_JPreconditions_checkIndex_17 (by decide) rfl ⟨_, rfl, ⟨by omega, by omega⟩, rfl⟩
theorem s_JPreconditions_checkIndex_f {G : cx_T} {h : ah_T} {a0 : Int} {a1 : Int} (la0 : 0 ≤ a0) (ua0 : a0 ≤ 2147483647) (la1 : 0 ≤ a1) (ua1 : a1 ≤ 2147483647) (hlt : a0 < a1) : con G 0 0 0 m_JPreconditions_checkIndex [av_I a0, av_I a1, av_S 9] h (fun r h' => ∃ z, r = some (av_I z) ∧ ((-2147483648) ≤ z ∧ z ≤ 2147483647) ∧ h = h') := by
  refine con_of (L := [some (av_I a0), some (av_I a1), some (av_S 9)]) (by decide +kernel) (Nat.le_of_ble_eq_true rfl) rfl ?_
  refine A_iload_n 0 d_JPreconditions_checkIndex_0 rfl rfl ?_
  refine A_if_lt (tgt := 9) d_JPreconditions_checkIndex_1 (by decide) (fun c => False.elim (by omega)) (fun c1 => ?_)
  refine A_iload_n 0 d_JPreconditions_checkIndex_4 rfl rfl ?_
  refine A_iload_n 1 d_JPreconditions_checkIndex_5 rfl rfl ?_
  refine A_icmp_lt (tgt := 16) d_JPreconditions_checkIndex_6 (by decide) (fun c2 => ?_) (fun c => False.elim (by omega))
  refine A_iload_n 0 d_JPreconditions_checkIndex_16 rfl rfl ?_
  exact A_iret d_JPreconditions_checkIndex_17 (by decide) rfl ⟨_, rfl, ⟨by omega, by omega⟩, rfl⟩
theorem s_JString_checkIndex {G : cx_T} {h : ah_T} {a0 : Int} {a1 : Int} (la0 : 0 ≤ a0) (ua0 : a0 ≤ 2147483647) (la1 : 0 ≤ a1) (ua1 : a1 ≤ 2147483647) (hlt : a0 < a1) : con G 1 0 0 m_JString_checkIndex [av_I a0, av_I a1] h (fun r h' => r = none ∧ h = h') := by
  refine con_of (L := [some (av_I a0), some (av_I a1)]) (by decide +kernel) (Nat.le_of_ble_eq_true rfl) rfl ?_
  refine A_iload_n 0 d_JString_checkIndex_0 rfl rfl ?_
  refine A_iload_n 1 d_JString_checkIndex_1 rfl rfl ?_
  refine A_getsF gs_JString_1053 d_JString_checkIndex_2 ?_ ?_
  · refine A_callS3 m_JPreconditions_checkIndex d_JString_checkIndex_5 l_JString_1059 k_JPreconditions_checkIndex (by decide +kernel) (by decide) (Nat.le_of_ble_eq_true rfl) (s_JPreconditions_checkIndex  (by omega) (by omega) (by omega) (by omega) (by omega)) (fun r h1 hq => ?_)
    obtain ⟨x3, rfl, ⟨_, _⟩, rfl⟩ := hq
    refine A_popI d_JString_checkIndex_8 ?_
    exact A_vret d_JString_checkIndex_9 (by decide) rfl ⟨rfl, rfl⟩
  · refine A_callS3 m_JPreconditions_checkIndex d_JString_checkIndex_5 l_JString_1059 k_JPreconditions_checkIndex (by decide +kernel) (by decide) (Nat.le_of_ble_eq_true rfl) (s_JPreconditions_checkIndex_f  (by omega) (by omega) (by omega) (by omega) (by omega)) (fun r h4 hq => ?_)
    obtain ⟨x6, rfl, ⟨_, _⟩, rfl⟩ := hq
    refine A_popI d_JString_checkIndex_8 ?_
    exact A_vret d_JString_checkIndex_9 (by decide) rfl ⟨rfl, rfl⟩
theorem s_JString_isLatin1 {G : cx_T} {h : ah_T} {i : Nat} (hi : i < 7) : con G 0 0 0 m_JString_isLatin1 [av_S (10 + i)] h (fun r h' => ∃ z, r = some (av_I z) ∧ (1 ≤ z ∧ z ≤ 1) ∧ h = h') := by
  refine con_of (L := [some (av_S (10 + i))]) (by decide +kernel) (Nat.le_of_ble_eq_true rfl) rfl ?_
  refine A_getsC gs_JString_38 d_JString_isLatin1_0 ?_
  refine A_if_eq (tgt := 17) d_JString_isLatin1_3 (by decide) (fun c => absurd c (by decide)) (fun _ => ?_)
  refine A_aload_nS 0 d_JString_isLatin1_6 rfl rfl ?_
  refine A_scod (i := i) (by omega) gs_JString_15 d_JString_isLatin1_7 ?_
  refine A_if_ne (tgt := 17) d_JString_isLatin1_10 (by decide) (fun c => absurd c (by decide)) (fun _ => ?_)
  refine A_iconst d_JString_isLatin1_13 rfl ?_
  refine A_goto (tgt := 18) d_JString_isLatin1_14 (by decide) ?_
  exact A_zret d_JString_isLatin1_18 (by decide) rfl (by omega) ⟨_, rfl, ⟨by omega, by omega⟩, rfl⟩
theorem s_JString_coder {G : cx_T} {h : ah_T} {i : Nat} (hi : i < 7) : con G 0 0 0 m_JString_coder [av_S (10 + i)] h (fun r h' => ∃ z, r = some (av_I z) ∧ (0 ≤ z ∧ z ≤ 0) ∧ h = h') := by
  refine con_of (L := [some (av_S (10 + i))]) (by decide +kernel) (Nat.le_of_ble_eq_true rfl) rfl ?_
  refine A_getsC gs_JString_38 d_JString_coder_0 ?_
  refine A_if_eq (tgt := 13) d_JString_coder_3 (by decide) (fun c => absurd c (by decide)) (fun _ => ?_)
  refine A_aload_nS 0 d_JString_coder_6 rfl rfl ?_
  refine A_scod (i := i) (by omega) gs_JString_15 d_JString_coder_7 ?_
  refine A_goto (tgt := 14) d_JString_coder_10 (by decide) ?_
  exact A_bret d_JString_coder_14 (by decide) rfl (by decide) ⟨_, rfl, ⟨by omega, by omega⟩, rfl⟩
theorem s_JString_length {G : cx_T} {h : ah_T} {i : Nat} (hi : i < 7) : con G 1 0 0 m_JString_length [av_S (10 + i)] h (fun r h' => ∃ z, r = some (av_I z) ∧ (1 ≤ z ∧ z ≤ 13) ∧ (z = ((sk_len.getD i 0 : Nat) : Int)) ∧ h = h') := by
  refine con_of (L := [some (av_S (10 + i))]) (by decide +kernel) (Nat.le_of_ble_eq_true rfl) rfl ?_
  refine A_aload_nS 0 d_JString_length_0 rfl rfl ?_
  refine A_sval (i := i) (by omega) gs_JString_9 d_JString_length_1 ?_
  refine A_slen (i := i) (by omega) rfl d_JString_length_4 ?_
  refine A_nrI (fun x1 ex1 _ _ => ?_)
  have bx1 : 1 ≤ x1 ∧ x1 ≤ 13 := slen_r ex1 (by omega)
  refine A_aload_nS 0 d_JString_length_5 rfl rfl ?_
  refine A_pc (pc' := 6) rfl ?_
  refine A_callT0 (i := i) (N := m_JString_coder) (by omega) rfl d_JString_length_6 ll_JString_335 k_JString_coder (by decide +kernel) (by decide) (Nat.le_of_ble_eq_true rfl) (s_JString_coder  (i := i) (by omega)) (fun r h2 hq => ?_)
  obtain ⟨x4, rfl, ⟨_, _⟩, rfl⟩ := hq
  obtain rfl : x4 = 0 := by omega
  refine A_ishr d_JString_length_9 ?_
  refine A_nrI (fun x5 ex5 _ _ => ?_)
  have bx5 := ishr0 ex5 (by unfold i32; omega)
  exact A_iret d_JString_length_10 (by decide) rfl ⟨_, rfl, ⟨by omega, by omega⟩, by omega, rfl⟩
theorem s_JStringLatin1_charAt {G : cx_T} {h : ah_T} {i : Nat} {a1 : Int} (hi : i < 7) (la1 : 0 ≤ a1) (ua1 : a1 ≤ 2147483647) (hlt : a1 < ((sk_len.getD i 0 : Nat) : Int)) : con G 2 0 0 m_JStringLatin1_charAt [av_S (20 + i), av_I a1] h (fun r h' => ∃ z, r = some (av_I z) ∧ (0 ≤ z ∧ z ≤ 127) ∧ (z = ((sk_byt.getD i []).getD a1.toNat 0).toInt) ∧ h = h') := by
  refine con_of (L := [some (av_S (20 + i)), some (av_I a1)]) (by decide +kernel) (Nat.le_of_ble_eq_true rfl) rfl ?_
  refine A_iload_n 1 d_JStringLatin1_charAt_0 rfl rfl ?_
  refine A_aload_nS 0 d_JStringLatin1_charAt_1 rfl rfl ?_
  refine A_slen (i := i) (by omega) rfl d_JStringLatin1_charAt_2 ?_
  refine A_nrI (fun x1 ex1 _ _ => ?_)
  have bx1 : 1 ≤ x1 ∧ x1 ≤ 13 := slen_r ex1 (by omega)
  refine A_callS2 m_JString_checkIndex d_JStringLatin1_charAt_3 l_JStringLatin1_9 k_JString_checkIndex (by decide +kernel) (by decide) (Nat.le_of_ble_eq_true rfl) (s_JString_checkIndex  (by omega) (by omega) (by omega) (by omega) (by omega)) (fun r h2 hq => ?_)
  obtain ⟨rfl, rfl⟩ := hq
  refine A_aload_nS 0 d_JStringLatin1_charAt_6 rfl rfl ?_
  refine A_iload_n 1 d_JStringLatin1_charAt_7 rfl rfl ?_
  refine A_sbyt (i := i) (by omega) (by omega) hlt d_JStringLatin1_charAt_8 ?_
  refine A_nrI (fun x4 ex4 _ _ => ?_)
  have bx4 : 0 ≤ x4 ∧ x4 ≤ 127 := sbyt_r ex4
  refine A_sipush d_JStringLatin1_charAt_9 rfl ?_
  refine A_iand d_JStringLatin1_charAt_12 ?_
  refine A_nrI (fun x5 ex5 _ _ => ?_)
  have bx5 := and_id (m := 255) 8 ex5 (by decide) (by decide) (by decide) (by omega) (by omega)
  refine A_pc (pc' := 13) rfl ?_
  refine A_i2c d_JStringLatin1_charAt_13 ?_
  refine A_cI (z := x5) (i2c_r (by omega) (by omega)) ?_
  exact A_cret d_JStringLatin1_charAt_14 (by decide) rfl ⟨by omega, by omega⟩ ⟨_, rfl, ⟨by omega, by omega⟩, by omega, rfl⟩
theorem s_JString_charAt {G : cx_T} {h : ah_T} {i : Nat} {a1 : Int} (hi : i < 7) (la1 : 0 ≤ a1) (ua1 : a1 ≤ 2147483647) (hlt : a1 < ((sk_len.getD i 0 : Nat) : Int)) : con G 4 0 0 m_JString_charAt [av_S (10 + i), av_I a1] h (fun r h' => ∃ z, r = some (av_I z) ∧ (0 ≤ z ∧ z ≤ 127) ∧ (z = ((sk_byt.getD i []).getD a1.toNat 0).toInt) ∧ h = h') := by
  refine con_of (L := [some (av_S (10 + i)), some (av_I a1)]) (by decide +kernel) (Nat.le_of_ble_eq_true rfl) rfl ?_
  refine A_aload_nS 0 d_JString_charAt_0 rfl rfl ?_
  refine A_pc (pc' := 1) rfl ?_
  refine A_callT0 (i := i) (N := m_JString_isLatin1) (by omega) rfl d_JString_charAt_1 ll_JString_492 k_JString_isLatin1 (by decide +kernel) (by decide) (Nat.le_of_ble_eq_true rfl) (s_JString_isLatin1  (i := i) (by omega)) (fun r h1 hq => ?_)
  obtain ⟨x3, rfl, ⟨_, _⟩, rfl⟩ := hq
  obtain rfl : x3 = 1 := by omega
  refine A_if_eq (tgt := 16) d_JString_charAt_4 (by decide) (fun c => absurd c (by decide)) (fun _ => ?_)
  refine A_aload_nS 0 d_JString_charAt_7 rfl rfl ?_
  refine A_sval (i := i) (by omega) gs_JString_9 d_JString_charAt_8 ?_
  refine A_iload_n 1 d_JString_charAt_11 rfl rfl ?_
  refine A_callS2 m_JStringLatin1_charAt d_JString_charAt_12 l_JString_495 k_JStringLatin1_charAt (by decide +kernel) (by decide) (Nat.le_of_ble_eq_true rfl) (s_JStringLatin1_charAt  (i := i) (by omega) (by omega) (by omega) (by first | omega | decide)) (fun r h5 hq => ?_)
  obtain ⟨x7, rfl, ⟨_, _⟩, xx7, rfl⟩ := hq
  exact A_cret d_JString_charAt_15 (by decide) rfl ⟨by omega, by omega⟩ ⟨_, rfl, ⟨by omega, by omega⟩, by omega, rfl⟩
theorem s_JStringLatin1_canEncode {G : cx_T} {h : ah_T} {a0 : Int} (la0 : 0 ≤ a0) (ua0 : a0 ≤ 255) : con G 0 0 0 m_JStringLatin1_canEncode [av_I a0] h (fun r h' => ∃ z, r = some (av_I z) ∧ (1 ≤ z ∧ z ≤ 1) ∧ h = h') := by
  refine con_of (L := [some (av_I a0)]) (by decide +kernel) (Nat.le_of_ble_eq_true rfl) rfl ?_
  refine A_iload_n 0 d_JStringLatin1_canEncode_0 rfl rfl ?_
  refine A_if_lt (tgt := 15) d_JStringLatin1_canEncode_1 (by decide) (fun c => False.elim (by omega)) (fun c1 => ?_)
  refine A_iload_n 0 d_JStringLatin1_canEncode_4 rfl rfl ?_
  refine A_sipush d_JStringLatin1_canEncode_5 rfl ?_
  refine A_icmp_gt (tgt := 15) d_JStringLatin1_canEncode_8 (by decide) (fun c => False.elim (by omega)) (fun c2 => ?_)
  refine A_iconst d_JStringLatin1_canEncode_11 rfl ?_
  refine A_goto (tgt := 16) d_JStringLatin1_canEncode_12 (by decide) ?_
  exact A_zret d_JStringLatin1_canEncode_16 (by decide) rfl (by omega) ⟨_, rfl, ⟨by omega, by omega⟩, rfl⟩
theorem s_JStringLatin1_indexOfChar {G : cx_T} {h : ah_T} {a1 : Int} {a2 : Int} {a3 : Int} (la1 : 0 ≤ a1) (ua1 : a1 ≤ 255) (la2 : 0 ≤ a2) (ua2 : a2 ≤ 0) (la3 : 13 ≤ a3) (ua3 : a3 ≤ 13) : con G 0 0 0 m_JStringLatin1_indexOfChar [av_S 26, av_I a1, av_I a2, av_I a3] h (fun r h' => ∃ z, r = some (av_I z) ∧ ((-1) ≤ z ∧ z ≤ 12) ∧ h = h') := by
  refine con_of (L := [some (av_S 26), some (av_I a1), some (av_I a2), some (av_I a3), none, none]) (by decide +kernel) (Nat.le_of_ble_eq_true rfl) rfl ?_
  refine A_iload_n 1 d_JStringLatin1_indexOfChar_0 rfl rfl ?_
  refine A_i2b d_JStringLatin1_indexOfChar_1 ?_
  refine A_nrI (fun x1 ex1 _ _ => ?_)
  have bx1 := i2b_r ex1
  refine A_istore (L' := [some (av_S 26), some (av_I a1), some (av_I a2), some (av_I a3), some (av_I x1), none]) d_JStringLatin1_indexOfChar_2 (Nat.le_of_ble_eq_true rfl) rfl ?_
  refine A_iload_n 2 d_JStringLatin1_indexOfChar_4 rfl rfl ?_
  refine A_istore (L' := [some (av_S 26), some (av_I a1), some (av_I a2), some (av_I a3), some (av_I x1), some (av_I a2)]) d_JStringLatin1_indexOfChar_5 (Nat.le_of_ble_eq_true rfl) rfl ?_
  have lp7 : ∀ (n : Nat) (i2 : Int) , 0 ≤ i2 → i2 ≤ 13 → (14 - i2).toNat < n → aw G (rm_R 0 0 0) m_JStringLatin1_indexOfChar 0 0 7 [some (av_S 26), some (av_I a1), some (av_I a2), some (av_I a3), some (av_I x1), some (av_I i2)] [] h (fun r h' => ∃ z, r = some (av_I z) ∧ ((-1) ≤ z ∧ z ≤ 12) ∧ h = h') := by
    intro n
    induction n with
    | zero => intro i2 _ _ hm; omega
    | succ n ih7 =>
      intro i2 hl0 hl1 hm
      refine A_iload d_JStringLatin1_indexOfChar_7 rfl ?_
      refine A_iload_n 3 d_JStringLatin1_indexOfChar_9 rfl rfl ?_
      refine A_icmp_ge (tgt := 31) d_JStringLatin1_indexOfChar_10 (by decide) (fun c3 => ?_) (fun c3 => ?_)
      · refine A_iconst d_JStringLatin1_indexOfChar_31 rfl ?_
        exact A_iret d_JStringLatin1_indexOfChar_32 (by decide) rfl ⟨_, rfl, ⟨by omega, by omega⟩, rfl⟩
      · refine A_aload_nS 0 d_JStringLatin1_indexOfChar_13 rfl rfl ?_
        refine A_iload d_JStringLatin1_indexOfChar_14 rfl ?_
        refine A_sbyt (i := 6) (by omega) (by omega) (Int.lt_of_lt_of_le (by omega : i2 < 13) (by decide)) d_JStringLatin1_indexOfChar_16 ?_
        refine A_nrI (fun x4 ex4 _ _ => ?_)
        have bx4 : 0 ≤ x4 ∧ x4 ≤ 127 := sbyt_r ex4
        refine A_iload d_JStringLatin1_indexOfChar_17 rfl ?_
        refine A_icmp_ne (tgt := 25) d_JStringLatin1_indexOfChar_19 (by decide) (fun c5 => ?_) (fun c5 => ?_)
        · refine A_iincv (z := (i2 + 1)) (L' := [some (av_S 26), some (av_I a1), some (av_I a2), some (av_I a3), some (av_I x1), some (av_I (i2 + 1))]) d_JStringLatin1_indexOfChar_25 rfl (w32_to (by omega) (by unfold i32; omega)) rfl ?_
          refine A_goto (tgt := 7) d_JStringLatin1_indexOfChar_28 (by decide) ?_
          exact ih7 (i2 + 1) (by omega) (by omega) (by omega)
        · refine A_iload d_JStringLatin1_indexOfChar_22 rfl ?_
          exact A_iret d_JStringLatin1_indexOfChar_24 (by decide) rfl ⟨_, rfl, ⟨by omega, by omega⟩, rfl⟩
  exact lp7 _ a2 (by omega) (by omega) (Nat.lt_succ_self _)
theorem s_JStringLatin1_indexOf {G : cx_T} {h : ah_T} {a1 : Int} {a2 : Int} {a3 : Int} (la1 : 0 ≤ a1) (ua1 : a1 ≤ 255) (la2 : 0 ≤ a2) (ua2 : a2 ≤ 0) (la3 : 13 ≤ a3) (ua3 : a3 ≤ 13) : con G 1 0 0 m_JStringLatin1_indexOf [av_S 26, av_I a1, av_I a2, av_I a3] h (fun r h' => ∃ z, r = some (av_I z) ∧ ((-1) ≤ z ∧ z ≤ 12) ∧ h = h') := by
  refine con_of (L := [some (av_S 26), some (av_I a1), some (av_I a2), some (av_I a3)]) (by decide +kernel) (Nat.le_of_ble_eq_true rfl) rfl ?_
  refine A_iload_n 1 d_JStringLatin1_indexOf_0 rfl rfl ?_
  refine A_callS1 m_JStringLatin1_canEncode d_JStringLatin1_indexOf_1 l_JStringLatin1_88 k_JStringLatin1_canEncode (by decide +kernel) (by decide) (Nat.le_of_ble_eq_true rfl) (s_JStringLatin1_canEncode  (by omega) (by omega)) (fun r h1 hq => ?_)
  obtain ⟨x3, rfl, ⟨_, _⟩, rfl⟩ := hq
  obtain rfl : x3 = 1 := by omega
  refine A_if_ne (tgt := 9) d_JStringLatin1_indexOf_4 (by decide) (fun _ => ?_) (fun c => absurd c (by decide))
  refine A_iload_n 2 d_JStringLatin1_indexOf_9 rfl rfl ?_
  refine A_iconst d_JStringLatin1_indexOf_10 rfl ?_
  refine A_mmax d_JStringLatin1_indexOf_11 lm_JStringLatin1_92 ma_max (by decide) (by decide) (Nat.le_of_ble_eq_true rfl) rfl ?_
  refine A_nrI (fun x5 ex5 _ _ => ?_)
  have bx5 := mmax_r ex5
  refine A_istore_n 2 (L' := [some (av_S 26), some (av_I a1), some (av_I x5), some (av_I a3)]) d_JStringLatin1_indexOf_14 rfl (Nat.le_of_ble_eq_true rfl) rfl ?_
  refine A_iload_n 3 d_JStringLatin1_indexOf_15 rfl rfl ?_
  refine A_pc (pc' := 16) rfl ?_
  refine A_aload_nS 0 d_JStringLatin1_indexOf_16 rfl rfl ?_
  refine A_slen (i := 6) (z := 13) (by decide) rfl d_JStringLatin1_indexOf_17 ?_
  refine A_mmin d_JStringLatin1_indexOf_18 lm_JStringLatin1_38 ma_min (by decide) (by decide) (Nat.le_of_ble_eq_true rfl) rfl ?_
  refine A_nrI (fun x6 ex6 _ _ => ?_)
  have bx6 := mmin_r ex6
  refine A_istore_n 3 (L' := [some (av_S 26), some (av_I a1), some (av_I x5), some (av_I x6)]) d_JStringLatin1_indexOf_21 rfl (Nat.le_of_ble_eq_true rfl) rfl ?_
  refine A_iload_n 2 d_JStringLatin1_indexOf_22 rfl rfl ?_
  refine A_iload_n 3 d_JStringLatin1_indexOf_23 rfl rfl ?_
  refine A_pc (pc' := 24) rfl ?_
  refine A_icmp_lt (tgt := 29) d_JStringLatin1_indexOf_24 (by decide) (fun c7 => ?_) (fun c => False.elim (by omega))
  refine A_aload_nS 0 d_JStringLatin1_indexOf_29 rfl rfl ?_
  refine A_iload_n 1 d_JStringLatin1_indexOf_30 rfl rfl ?_
  refine A_iload_n 2 d_JStringLatin1_indexOf_31 rfl rfl ?_
  refine A_iload_n 3 d_JStringLatin1_indexOf_32 rfl rfl ?_
  refine A_callS4 m_JStringLatin1_indexOfChar d_JStringLatin1_indexOf_33 l_JStringLatin1_95 k_JStringLatin1_indexOfChar (by decide +kernel) (by decide) (Nat.le_of_ble_eq_true rfl) (s_JStringLatin1_indexOfChar  (by omega) (by omega) (by omega) (by omega) (by omega) (by omega)) (fun r h8 hq => ?_)
  obtain ⟨x10, rfl, ⟨_, _⟩, rfl⟩ := hq
  exact A_iret d_JStringLatin1_indexOf_36 (by decide) rfl ⟨_, rfl, ⟨by omega, by omega⟩, rfl⟩
theorem s_JString_indexOf_III {G : cx_T} {h : ah_T} {a1 : Int} {a2 : Int} (la1 : 0 ≤ a1) (ua1 : a1 ≤ 255) (la2 : 0 ≤ a2) (ua2 : a2 ≤ 0) : con G 5 0 0 m_JString_indexOf_III [av_S 16, av_I a1, av_I a2] h (fun r h' => ∃ z, r = some (av_I z) ∧ ((-1) ≤ z ∧ z ≤ 12) ∧ h = h') := by
  refine con_of (L := [some (av_S 16), some (av_I a1), some (av_I a2)]) (by decide +kernel) (Nat.le_of_ble_eq_true rfl) rfl ?_
  refine A_aload_nS 0 d_JString_indexOf_III_0 rfl rfl ?_
  refine A_pc (pc' := 1) rfl ?_
  refine A_callT0 (i := 6) (N := m_JString_isLatin1) (by decide) rfl d_JString_indexOf_III_1 ll_JString_492 k_JString_isLatin1 (by decide +kernel) (by decide) (Nat.le_of_ble_eq_true rfl) (s_JString_isLatin1  (i := 6) (by decide)) (fun r h1 hq => ?_)
  obtain ⟨x3, rfl, ⟨_, _⟩, rfl⟩ := hq
  obtain rfl : x3 = 1 := by omega
  refine A_if_eq (tgt := 23) d_JString_indexOf_III_4 (by decide) (fun c => absurd c (by decide)) (fun _ => ?_)
  refine A_aload_nS 0 d_JString_indexOf_III_7 rfl rfl ?_
  refine A_sval (i := 6) (by decide) gs_JString_9 d_JString_indexOf_III_8 ?_
  refine A_iload_n 1 d_JString_indexOf_III_11 rfl rfl ?_
  refine A_iload_n 2 d_JString_indexOf_III_12 rfl rfl ?_
  refine A_aload_nS 0 d_JString_indexOf_III_13 rfl rfl ?_
  refine A_pc (pc' := 14) rfl ?_
  refine A_pc (pc' := 14) rfl ?_
  refine A_callT0 (i := 6) (N := m_JString_length) (by decide) rfl d_JString_indexOf_III_14 ll_JString_505 k_JString_length (by decide +kernel) (by decide) (Nat.le_of_ble_eq_true rfl) (s_JString_length  (i := 6) (by decide)) (fun r h5 hq => ?_)
  obtain ⟨x7, rfl, ⟨_, _⟩, xx7, rfl⟩ := hq
  obtain rfl : x7 = 13 := xx7.trans (by decide)
  refine A_callS4 m_JStringLatin1_indexOf d_JString_indexOf_III_17 l_JString_637 k_JStringLatin1_indexOf (by decide +kernel) (by decide) (Nat.le_of_ble_eq_true rfl) (s_JStringLatin1_indexOf  (by omega) (by omega) (by omega) (by omega) (by omega) (by omega)) (fun r h8 hq => ?_)
  obtain ⟨x10, rfl, ⟨_, _⟩, rfl⟩ := hq
  refine A_goto (tgt := 36) d_JString_indexOf_III_20 (by decide) ?_
  exact A_iret d_JString_indexOf_III_36 (by decide) rfl ⟨_, rfl, ⟨by omega, by omega⟩, rfl⟩
theorem s_JString_indexOf_II {G : cx_T} {h : ah_T} {a1 : Int} (la1 : 0 ≤ a1) (ua1 : a1 ≤ 255) : con G 6 0 0 m_JString_indexOf_II [av_S 16, av_I a1] h (fun r h' => ∃ z, r = some (av_I z) ∧ ((-1) ≤ z ∧ z ≤ 12) ∧ h = h') := by
  refine con_of (L := [some (av_S 16), some (av_I a1)]) (by decide +kernel) (Nat.le_of_ble_eq_true rfl) rfl ?_
  refine A_aload_nS 0 d_JString_indexOf_II_0 rfl rfl ?_
  refine A_iload_n 1 d_JString_indexOf_II_1 rfl rfl ?_
  refine A_iconst d_JString_indexOf_II_2 rfl ?_
  refine A_pc (pc' := 3) rfl ?_
  refine A_callT2 (i := 6) (N := m_JString_indexOf_III) (by decide) rfl d_JString_indexOf_II_3 ll_JString_633 k_JString_indexOf_III (by decide +kernel) (by decide) (Nat.le_of_ble_eq_true rfl) (s_JString_indexOf_III  (by omega) (by omega) (by omega) (by omega)) (fun r h1 hq => ?_)
  obtain ⟨x3, rfl, ⟨_, _⟩, rfl⟩ := hq
  exact A_iret d_JString_indexOf_II_6 (by decide) rfl ⟨_, rfl, ⟨by omega, by omega⟩, rfl⟩
theorem s_JMath_floorMod {G : cx_T} {h : ah_T} {a0 : Int} {a1 : Int} (la1 : 1 ≤ a1) (ua1 : a1 ≤ 1000) : con G 0 0 0 m_JMath_floorMod [av_I a0, av_I a1] h (fun r h' => ∃ z, r = some (av_I z) ∧ (0 ≤ z ∧ z ≤ 999) ∧ (z < a1 ∧ z = a0 % a1) ∧ h = h') := by
  refine con_ofF (L := [some (av_I a0), some (av_I a1), none]) (mathPlain0 rfl (by decide)) (Nat.le_of_ble_eq_true rfl) rfl ?_
  refine A_locI 0 rfl (fun ra => ?_)
  obtain ⟨_, _⟩ := ra
  refine A_iload_n 0 d_JMath_floorMod_0 rfl rfl ?_
  refine A_iload_n 1 d_JMath_floorMod_1 rfl rfl ?_
  refine A_iremc d_JMath_floorMod_2 (by omega) (fun x1 ex1 _ _ => ?_)
  have bx1 := rem_p ex1 (by omega)
  refine A_istore_n 2 (L' := [some (av_I a0), some (av_I a1), some (av_I x1)]) d_JMath_floorMod_3 rfl (Nat.le_of_ble_eq_true rfl) rfl ?_
  refine A_iload_n 0 d_JMath_floorMod_4 rfl rfl ?_
  refine A_pc (pc' := 5) rfl ?_
  refine A_iload_n 1 d_JMath_floorMod_5 rfl rfl ?_
  refine A_ixor d_JMath_floorMod_6 ?_
  refine A_nrI (fun x2 ex2 _ _ => ?_)
  have bx2 := xor_neg32 ex2 (by unfold i32; omega) (by unfold i32; omega)
  refine A_if_ge (tgt := 18) d_JMath_floorMod_7 (by decide) (fun c3 => ?_) (fun c3 => ?_)
  · refine A_iload_n 2 d_JMath_floorMod_18 rfl rfl ?_
    exact A_iret d_JMath_floorMod_19 (by decide) rfl ⟨_, rfl, ⟨by omega, by omega⟩, And.intro (by omega) (by omega), rfl⟩
  · refine A_iload_n 2 d_JMath_floorMod_10 rfl rfl ?_
    refine A_if_eq (tgt := 18) d_JMath_floorMod_11 (by decide) (fun c4 => ?_) (fun c4 => ?_)
    · refine A_iload_n 2 d_JMath_floorMod_18 rfl rfl ?_
      exact A_iret d_JMath_floorMod_19 (by decide) rfl ⟨_, rfl, ⟨by omega, by omega⟩, And.intro (by omega) (by omega), rfl⟩
    · refine A_iload_n 2 d_JMath_floorMod_14 rfl rfl ?_
      refine A_iload_n 1 d_JMath_floorMod_15 rfl rfl ?_
      refine A_iaddv (z := (x1 + a1)) d_JMath_floorMod_16 (w32_to (by omega) (by unfold i32; omega)) ?_
      exact A_iret d_JMath_floorMod_17 (by decide) rfl ⟨_, rfl, ⟨by omega, by omega⟩, And.intro (by omega) (by omega), rfl⟩
theorem s_JMath_floorDiv {G : cx_T} {h : ah_T} {a0 : Int} {a1 : Int} (la1 : 2 ≤ a1) (ua1 : a1 ≤ 1000) : con G 0 0 0 m_JMath_floorDiv [av_I a0, av_I a1] h (fun r h' => ∃ z, r = some (av_I z) ∧ ((-2147483648) ≤ z ∧ z ≤ 2147483647) ∧ (z = a0 / a1) ∧ h = h') := by
  refine con_ofF (L := [some (av_I a0), some (av_I a1), none]) (mathPlain0 rfl (by decide)) (Nat.le_of_ble_eq_true rfl) rfl ?_
  refine A_locI 0 rfl (fun ra => ?_)
  obtain ⟨_, _⟩ := ra
  refine A_iload_n 0 d_JMath_floorDiv_0 rfl rfl ?_
  refine A_iload_n 1 d_JMath_floorDiv_1 rfl rfl ?_
  refine A_idivc d_JMath_floorDiv_2 (by omega) (fun x1 ex1 _ _ => ?_)
  have bx1 := div_p ex1 (by unfold i32; omega) (by omega)
  refine A_istore_n 2 (L' := [some (av_I a0), some (av_I a1), some (av_I x1)]) d_JMath_floorDiv_3 rfl (Nat.le_of_ble_eq_true rfl) rfl ?_
  refine A_iload_n 0 d_JMath_floorDiv_4 rfl rfl ?_
  refine A_pc (pc' := 5) rfl ?_
  refine A_iload_n 1 d_JMath_floorDiv_5 rfl rfl ?_
  refine A_ixor d_JMath_floorDiv_6 ?_
  refine A_nrI (fun x2 ex2 _ _ => ?_)
  have bx2 := xor_neg32 ex2 (by unfold i32; omega) (by unfold i32; omega)
  refine A_if_ge (tgt := 21) d_JMath_floorDiv_7 (by decide) (fun c3 => ?_) (fun c3 => ?_)
  · refine A_iload_n 2 d_JMath_floorDiv_21 rfl rfl ?_
    exact A_iret d_JMath_floorDiv_22 (by decide) rfl ⟨_, rfl, ⟨by omega, by omega⟩, by omega, rfl⟩
  · refine A_iload_n 2 d_JMath_floorDiv_10 rfl rfl ?_
    refine A_iload_n 1 d_JMath_floorDiv_11 rfl rfl ?_
    refine A_imulw d_JMath_floorDiv_12 (fun x4 ex4 _ _ => ?_)
    rw [w32_id bx1.2.1] at ex4
    have cx4 := bx1.1
    generalize x1 * a1 = pq at ex4 cx4
    refine A_iload_n 0 d_JMath_floorDiv_13 rfl rfl ?_
    refine A_icmp_eq (tgt := 21) d_JMath_floorDiv_14 (by decide) (fun c5 => ?_) (fun c5 => ?_)
    · refine A_iload_n 2 d_JMath_floorDiv_21 rfl rfl ?_
      exact A_iret d_JMath_floorDiv_22 (by decide) rfl ⟨_, rfl, ⟨by omega, by omega⟩, by omega, rfl⟩
    · refine A_iload_n 2 d_JMath_floorDiv_17 rfl rfl ?_
      refine A_iconst d_JMath_floorDiv_18 rfl ?_
      refine A_isubv (z := (x1 - 1)) d_JMath_floorDiv_19 (w32_to (by omega) (by unfold i32; omega)) ?_
      exact A_iret d_JMath_floorDiv_20 (by decide) rfl ⟨_, rfl, ⟨by omega, by omega⟩, by omega, rfl⟩
theorem s_JMath_min_JJJ {G : cx_T} {h : ah_T} {a0 : Int} {a1 : Int}  : con G 0 0 0 m_JMath_min_JJJ [av_L a0, av_L a1] h (fun r h' => ∃ z, r = some (av_L z) ∧ ((-9223372036854775808) ≤ z ∧ z ≤ 9223372036854775807) ∧ (z ≤ a0 ∧ z ≤ a1 ∧ (z = a0 ∨ z = a1)) ∧ h = h') := by
  refine con_ofF (L := [some (av_L a0), none, some (av_L a1), none]) (mathPlain0 rfl (by decide)) (Nat.le_of_ble_eq_true rfl) rfl ?_
  refine A_locL 0 rfl (fun ra => ?_)
  obtain ⟨_, _⟩ := ra
  refine A_locL 2 rfl (fun ra => ?_)
  obtain ⟨_, _⟩ := ra
  refine A_lload_n 0 d_JMath_min_JJJ_0 rfl rfl ?_
  refine A_lload_n 2 d_JMath_min_JJJ_1 rfl rfl ?_
  refine A_lcmpn d_JMath_min_JJJ_2 (fun x1 lx1 ex1 gx1 _ _ => ?_)
  refine A_if_gt (tgt := 10) d_JMath_min_JJJ_3 (by decide) (fun c2 => ?_) (fun c2 => ?_)
  · have mc2 : (a0 - a1) > 0 := by omega
    refine A_lload_n 2 d_JMath_min_JJJ_10 rfl rfl ?_
    exact A_lret d_JMath_min_JJJ_11 (by decide) rfl ⟨_, rfl, ⟨by omega, by omega⟩, by omega, rfl⟩
  · have mc2 : (a0 - a1) ≤ 0 := by omega
    refine A_lload_n 0 d_JMath_min_JJJ_6 rfl rfl ?_
    refine A_goto (tgt := 11) d_JMath_min_JJJ_7 (by decide) ?_
    exact A_lret d_JMath_min_JJJ_11 (by decide) rfl ⟨_, rfl, ⟨by omega, by omega⟩, by omega, rfl⟩
theorem s_JLong_bitCount {G : cx_T} {h : ah_T} {a0 : Int}  : con G 0 0 0 m_JLong_bitCount [av_L a0] h (fun r h' => ∃ z, r = some (av_I z) ∧ ((-2147483648) ≤ z ∧ z ≤ 2147483647) ∧ h = h') := by
  refine con_of (L := [some (av_L a0), none]) (by decide +kernel) (Nat.le_of_ble_eq_true rfl) rfl ?_
  refine A_locL 0 rfl (fun ra => ?_)
  obtain ⟨_, _⟩ := ra
  refine A_lload_n 0 d_JLong_bitCount_0 rfl rfl ?_
  refine A_lload_n 0 d_JLong_bitCount_1 rfl rfl ?_
  refine A_iconst d_JLong_bitCount_2 rfl ?_
  refine A_lushr d_JLong_bitCount_3 ?_
  refine A_nrL (fun x1 ex1 _ _ => ?_)
  refine A_ldc2 (z := 6148914691236517205) d_JLong_bitCount_4 cst_JLong_314 rfl ?_
  refine A_pc (pc' := 7) rfl ?_
  refine A_land d_JLong_bitCount_7 ?_
  refine A_nrL (fun x2 ex2 _ _ => ?_)
  refine A_lsubw d_JLong_bitCount_8 (fun x3 _ _ _ => ?_)
  refine A_lstore_n 0 (L' := [some (av_L x3), none]) d_JLong_bitCount_9 rfl (Nat.le_of_ble_eq_true rfl) rfl ?_
  refine A_lload_n 0 d_JLong_bitCount_10 rfl rfl ?_
  refine A_ldc2 (z := 3689348814741910323) d_JLong_bitCount_11 cst_JLong_316 rfl ?_
  refine A_land d_JLong_bitCount_14 ?_
  refine A_nrL (fun x4 ex4 _ _ => ?_)
  refine A_pc (pc' := 15) rfl ?_
  refine A_lload_n 0 d_JLong_bitCount_15 rfl rfl ?_
  refine A_iconst d_JLong_bitCount_16 rfl ?_
  refine A_lushr d_JLong_bitCount_17 ?_
  refine A_nrL (fun x5 ex5 _ _ => ?_)
  refine A_ldc2 (z := 3689348814741910323) d_JLong_bitCount_18 cst_JLong_316 rfl ?_
  refine A_land d_JLong_bitCount_21 ?_
  refine A_nrL (fun x6 ex6 _ _ => ?_)
  refine A_laddw d_JLong_bitCount_22 (fun x7 _ _ _ => ?_)
  refine A_pc (pc' := 23) rfl ?_
  refine A_lstore_n 0 (L' := [some (av_L x7), none]) d_JLong_bitCount_23 rfl (Nat.le_of_ble_eq_true rfl) rfl ?_
  refine A_lload_n 0 d_JLong_bitCount_24 rfl rfl ?_
  refine A_lload_n 0 d_JLong_bitCount_25 rfl rfl ?_
  refine A_iconst d_JLong_bitCount_26 rfl ?_
  refine A_lushr d_JLong_bitCount_27 ?_
  refine A_nrL (fun x8 ex8 _ _ => ?_)
  refine A_laddw d_JLong_bitCount_28 (fun x9 _ _ _ => ?_)
  refine A_pc (pc' := 29) rfl ?_
  refine A_ldc2 (z := 1085102592571150095) d_JLong_bitCount_29 cst_JLong_318 rfl ?_
  refine A_land d_JLong_bitCount_32 ?_
  refine A_nrL (fun x10 ex10 _ _ => ?_)
  refine A_lstore_n 0 (L' := [some (av_L x10), none]) d_JLong_bitCount_33 rfl (Nat.le_of_ble_eq_true rfl) rfl ?_
  refine A_lload_n 0 d_JLong_bitCount_34 rfl rfl ?_
  refine A_lload_n 0 d_JLong_bitCount_35 rfl rfl ?_
  refine A_bipush d_JLong_bitCount_36 rfl ?_
  refine A_pc (pc' := 38) rfl ?_
  refine A_lushr d_JLong_bitCount_38 ?_
  refine A_nrL (fun x11 ex11 _ _ => ?_)
  refine A_laddw d_JLong_bitCount_39 (fun x12 _ _ _ => ?_)
  refine A_lstore_n 0 (L' := [some (av_L x12), none]) d_JLong_bitCount_40 rfl (Nat.le_of_ble_eq_true rfl) rfl ?_
  refine A_lload_n 0 d_JLong_bitCount_41 rfl rfl ?_
  refine A_lload_n 0 d_JLong_bitCount_42 rfl rfl ?_
  refine A_bipush d_JLong_bitCount_43 rfl ?_
  refine A_pc (pc' := 45) rfl ?_
  refine A_lushr d_JLong_bitCount_45 ?_
  refine A_nrL (fun x13 ex13 _ _ => ?_)
  refine A_laddw d_JLong_bitCount_46 (fun x14 _ _ _ => ?_)
  refine A_lstore_n 0 (L' := [some (av_L x14), none]) d_JLong_bitCount_47 rfl (Nat.le_of_ble_eq_true rfl) rfl ?_
  refine A_lload_n 0 d_JLong_bitCount_48 rfl rfl ?_
  refine A_lload_n 0 d_JLong_bitCount_49 rfl rfl ?_
  refine A_bipush d_JLong_bitCount_50 rfl ?_
  refine A_pc (pc' := 52) rfl ?_
  refine A_lushr d_JLong_bitCount_52 ?_
  refine A_nrL (fun x15 ex15 _ _ => ?_)
  refine A_laddw d_JLong_bitCount_53 (fun x16 _ _ _ => ?_)
  refine A_lstore_n 0 (L' := [some (av_L x16), none]) d_JLong_bitCount_54 rfl (Nat.le_of_ble_eq_true rfl) rfl ?_
  refine A_lload_n 0 d_JLong_bitCount_55 rfl rfl ?_
  refine A_l2iw d_JLong_bitCount_56 (fun x17 _ _ _ => ?_)
  refine A_bipush d_JLong_bitCount_57 rfl ?_
  refine A_pc (pc' := 59) rfl ?_
  refine A_iand d_JLong_bitCount_59 ?_
  refine A_nrI (fun x18 ex18 _ _ => ?_)
  have bx18 := and_r (m := 127) 7 ex18 (by decide) (by decide) (by decide)
  exact A_iret d_JLong_bitCount_60 (by decide) rfl ⟨_, rfl, ⟨by omega, by omega⟩, rfl⟩
theorem s_JInteger_bitCount {G : cx_T} {h : ah_T} {a0 : Int}  : con G 0 0 0 m_JInteger_bitCount [av_I a0] h (fun r h' => ∃ z, r = some (av_I z) ∧ ((-2147483648) ≤ z ∧ z ≤ 2147483647) ∧ h = h') := by
  refine con_of (L := [some (av_I a0)]) (by decide +kernel) (Nat.le_of_ble_eq_true rfl) rfl ?_
  refine A_locI 0 rfl (fun ra => ?_)
  obtain ⟨_, _⟩ := ra
  refine A_iload_n 0 d_JInteger_bitCount_0 rfl rfl ?_
  refine A_iload_n 0 d_JInteger_bitCount_1 rfl rfl ?_
  refine A_iconst d_JInteger_bitCount_2 rfl ?_
  refine A_iushr d_JInteger_bitCount_3 ?_
  refine A_nrI (fun x1 ex1 _ _ => ?_)
  refine A_ldcw (z := 1431655765) d_JInteger_bitCount_4 cst_JInteger_265 rfl ?_
  refine A_pc (pc' := 7) rfl ?_
  refine A_iand d_JInteger_bitCount_7 ?_
  refine A_nrI (fun x2 ex2 _ _ => ?_)
  refine A_isubw d_JInteger_bitCount_8 (fun x3 _ _ _ => ?_)
  refine A_istore_n 0 (L' := [some (av_I x3)]) d_JInteger_bitCount_9 rfl (Nat.le_of_ble_eq_true rfl) rfl ?_
  refine A_iload_n 0 d_JInteger_bitCount_10 rfl rfl ?_
  refine A_ldcw (z := 858993459) d_JInteger_bitCount_11 cst_JInteger_266 rfl ?_
  refine A_iand d_JInteger_bitCount_14 ?_
  refine A_nrI (fun x4 ex4 _ _ => ?_)
  refine A_pc (pc' := 15) rfl ?_
  refine A_iload_n 0 d_JInteger_bitCount_15 rfl rfl ?_
  refine A_iconst d_JInteger_bitCount_16 rfl ?_
  refine A_iushr d_JInteger_bitCount_17 ?_
  refine A_nrI (fun x5 ex5 _ _ => ?_)
  refine A_ldcw (z := 858993459) d_JInteger_bitCount_18 cst_JInteger_266 rfl ?_
  refine A_iand d_JInteger_bitCount_21 ?_
  refine A_nrI (fun x6 ex6 _ _ => ?_)
  refine A_iaddw d_JInteger_bitCount_22 (fun x7 _ _ _ => ?_)
  refine A_pc (pc' := 23) rfl ?_
  refine A_istore_n 0 (L' := [some (av_I x7)]) d_JInteger_bitCount_23 rfl (Nat.le_of_ble_eq_true rfl) rfl ?_
  refine A_iload_n 0 d_JInteger_bitCount_24 rfl rfl ?_
  refine A_iload_n 0 d_JInteger_bitCount_25 rfl rfl ?_
  refine A_iconst d_JInteger_bitCount_26 rfl ?_
  refine A_iushr d_JInteger_bitCount_27 ?_
  refine A_nrI (fun x8 ex8 _ _ => ?_)
  refine A_iaddw d_JInteger_bitCount_28 (fun x9 _ _ _ => ?_)
  refine A_pc (pc' := 29) rfl ?_
  refine A_ldcw (z := 252645135) d_JInteger_bitCount_29 cst_JInteger_267 rfl ?_
  refine A_iand d_JInteger_bitCount_32 ?_
  refine A_nrI (fun x10 ex10 _ _ => ?_)
  refine A_istore_n 0 (L' := [some (av_I x10)]) d_JInteger_bitCount_33 rfl (Nat.le_of_ble_eq_true rfl) rfl ?_
  refine A_iload_n 0 d_JInteger_bitCount_34 rfl rfl ?_
  refine A_iload_n 0 d_JInteger_bitCount_35 rfl rfl ?_
  refine A_bipush d_JInteger_bitCount_36 rfl ?_
  refine A_pc (pc' := 38) rfl ?_
  refine A_iushr d_JInteger_bitCount_38 ?_
  refine A_nrI (fun x11 ex11 _ _ => ?_)
  refine A_iaddw d_JInteger_bitCount_39 (fun x12 _ _ _ => ?_)
  refine A_istore_n 0 (L' := [some (av_I x12)]) d_JInteger_bitCount_40 rfl (Nat.le_of_ble_eq_true rfl) rfl ?_
  refine A_iload_n 0 d_JInteger_bitCount_41 rfl rfl ?_
  refine A_iload_n 0 d_JInteger_bitCount_42 rfl rfl ?_
  refine A_bipush d_JInteger_bitCount_43 rfl ?_
  refine A_pc (pc' := 45) rfl ?_
  refine A_iushr d_JInteger_bitCount_45 ?_
  refine A_nrI (fun x13 ex13 _ _ => ?_)
  refine A_iaddw d_JInteger_bitCount_46 (fun x14 _ _ _ => ?_)
  refine A_istore_n 0 (L' := [some (av_I x14)]) d_JInteger_bitCount_47 rfl (Nat.le_of_ble_eq_true rfl) rfl ?_
  refine A_iload_n 0 d_JInteger_bitCount_48 rfl rfl ?_
  refine A_bipush d_JInteger_bitCount_49 rfl ?_
  refine A_iand d_JInteger_bitCount_51 ?_
  refine A_nrI (fun x15 ex15 _ _ => ?_)
  have bx15 := and_r (m := 63) 6 ex15 (by decide) (by decide) (by decide)
  refine A_pc (pc' := 52) rfl ?_
  exact A_iret d_JInteger_bitCount_52 (by decide) rfl ⟨_, rfl, ⟨by omega, by omega⟩, rfl⟩
theorem s_JLong_compare {G : cx_T} {h : ah_T} {a0 : Int} {a1 : Int}  : con G 0 0 0 m_JLong_compare [av_L a0, av_L a1] h (fun r h' => ∃ z, r = some (av_I z) ∧ ((-1) ≤ z ∧ z ≤ 1) ∧ (((a0 < a1 → z = -1) ∧ (a0 = a1 → z = 0) ∧ (a1 < a0 → z = 1))) ∧ h = h') := by
  refine con_of (L := [some (av_L a0), none, some (av_L a1), none]) (by decide +kernel) (Nat.le_of_ble_eq_true rfl) rfl ?_
  refine A_locL 0 rfl (fun ra => ?_)
  obtain ⟨_, _⟩ := ra
  refine A_locL 2 rfl (fun ra => ?_)
  obtain ⟨_, _⟩ := ra
  refine A_lload_n 0 d_JLong_compare_0 rfl rfl ?_
  refine A_lload_n 2 d_JLong_compare_1 rfl rfl ?_
  refine A_lcmpn d_JLong_compare_2 (fun x1 lx1 ex1 gx1 _ _ => ?_)
  refine A_if_ge (tgt := 10) d_JLong_compare_3 (by decide) (fun c2 => ?_) (fun c2 => ?_)
  · have mc2 : (a0 - a1) ≥ 0 := by omega
    refine A_lload_n 0 d_JLong_compare_10 rfl rfl ?_
    refine A_lload_n 2 d_JLong_compare_11 rfl rfl ?_
    refine A_lcmpn d_JLong_compare_12 (fun x3 lx3 ex3 gx3 _ _ => ?_)
    refine A_if_ne (tgt := 20) d_JLong_compare_13 (by decide) (fun c4 => ?_) (fun c4 => ?_)
    · have mc4 : (a0 - a1) ≠ 0 := by omega
      refine A_iconst d_JLong_compare_20 rfl ?_
      exact A_iret d_JLong_compare_21 (by decide) rfl ⟨_, rfl, ⟨by omega, by omega⟩, ⟨fun _ => by omega, fun _ => by omega, fun _ => by omega⟩, rfl⟩
    · have mc4 : (a0 - a1) = 0 := by omega
      refine A_iconst d_JLong_compare_16 rfl ?_
      refine A_goto (tgt := 21) d_JLong_compare_17 (by decide) ?_
      exact A_iret d_JLong_compare_21 (by decide) rfl ⟨_, rfl, ⟨by omega, by omega⟩, ⟨fun _ => by omega, fun _ => by omega, fun _ => by omega⟩, rfl⟩
  · have mc2 : (a0 - a1) < 0 := by omega
    refine A_iconst d_JLong_compare_6 rfl ?_
    refine A_goto (tgt := 21) d_JLong_compare_7 (by decide) ?_
    exact A_iret d_JLong_compare_21 (by decide) rfl ⟨_, rfl, ⟨by omega, by omega⟩, ⟨fun _ => by omega, fun _ => by omega, fun _ => by omega⟩, rfl⟩
