/-! ===== the class's methods, 22c ===== -/
def m_Tokens_isSmall : mr_T := (⟨"PlainMusic$Tokens", "isSmall", "(I)Z"⟩, prog_10_method_12_code, 1, some .boolean)
theorem d_Tokens_isSmall_0 : decode prog_10_method_12_code 0 = .ok (.iload_n 0, 1) := by decide +kernel
theorem d_Tokens_isSmall_1 : decode prog_10_method_12_code 1 = .ok (.bipush 97, 2) := by decide +kernel
theorem d_Tokens_isSmall_3 : decode prog_10_method_12_code 3 = .ok (.if_icmp .lt 13, 3) := by decide +kernel
theorem d_Tokens_isSmall_16 : decode prog_10_method_12_code 16 = .ok (.iconst 0, 1) := by decide +kernel
theorem d_Tokens_isSmall_17 : decode prog_10_method_12_code 17 = .ok (.ireturn, 1) := by decide +kernel
theorem d_Tokens_isSmall_6 : decode prog_10_method_12_code 6 = .ok (.iload_n 0, 1) := by decide +kernel
theorem d_Tokens_isSmall_7 : decode prog_10_method_12_code 7 = .ok (.bipush 122, 2) := by decide +kernel
theorem d_Tokens_isSmall_9 : decode prog_10_method_12_code 9 = .ok (.if_icmp .gt 7, 3) := by decide +kernel
theorem d_Tokens_isSmall_12 : decode prog_10_method_12_code 12 = .ok (.iconst 1, 1) := by decide +kernel
theorem d_Tokens_isSmall_13 : decode prog_10_method_12_code 13 = .ok (.goto 4, 3) := by decide +kernel
def m_Tokens_isDigit : mr_T := (⟨"PlainMusic$Tokens", "isDigit", "(I)Z"⟩, prog_10_method_13_code, 1, some .boolean)
theorem d_Tokens_isDigit_0 : decode prog_10_method_13_code 0 = .ok (.iload_n 0, 1) := by decide +kernel
theorem d_Tokens_isDigit_1 : decode prog_10_method_13_code 1 = .ok (.bipush 48, 2) := by decide +kernel
theorem d_Tokens_isDigit_3 : decode prog_10_method_13_code 3 = .ok (.if_icmp .lt 13, 3) := by decide +kernel
theorem d_Tokens_isDigit_16 : decode prog_10_method_13_code 16 = .ok (.iconst 0, 1) := by decide +kernel
theorem d_Tokens_isDigit_17 : decode prog_10_method_13_code 17 = .ok (.ireturn, 1) := by decide +kernel
theorem d_Tokens_isDigit_6 : decode prog_10_method_13_code 6 = .ok (.iload_n 0, 1) := by decide +kernel
theorem d_Tokens_isDigit_7 : decode prog_10_method_13_code 7 = .ok (.bipush 57, 2) := by decide +kernel
theorem d_Tokens_isDigit_9 : decode prog_10_method_13_code 9 = .ok (.if_icmp .gt 7, 3) := by decide +kernel
theorem d_Tokens_isDigit_12 : decode prog_10_method_13_code 12 = .ok (.iconst 1, 1) := by decide +kernel
theorem d_Tokens_isDigit_13 : decode prog_10_method_13_code 13 = .ok (.goto 4, 3) := by decide +kernel
def m_Tokens_byteAt : mr_T := (⟨"PlainMusic$Tokens", "byteAt", "(I)I"⟩, prog_10_method_5_code, 2, some .int)
theorem d_Tokens_byteAt_0 : decode prog_10_method_5_code 0 = .ok (.iload_n 1, 1) := by decide +kernel
theorem d_Tokens_byteAt_1 : decode prog_10_method_5_code 1 = .ok (.ifCond .lt 29, 3) := by decide +kernel
theorem d_Tokens_byteAt_30 : decode prog_10_method_5_code 30 = .ok (.iconst (-1), 1) := by decide +kernel
theorem d_Tokens_byteAt_31 : decode prog_10_method_5_code 31 = .ok (.ireturn, 1) := by decide +kernel
theorem d_Tokens_byteAt_4 : decode prog_10_method_5_code 4 = .ok (.iload_n 1, 1) := by decide +kernel
theorem d_Tokens_byteAt_5 : decode prog_10_method_5_code 5 = .ok (.aload_n 0, 1) := by decide +kernel
theorem d_Tokens_byteAt_6 : decode prog_10_method_5_code 6 = .ok (.getfield 34, 3) := by decide +kernel
theorem f_Tokens_34 : fl_OK "PlainMusic$Tokens" 34 8 7 .int false := ⟨_, rfl, by decide, gwi_182, rfl, rfl⟩
theorem sf_3 : sh_L[3]? = some (8 + 4, 13) := by decide +kernel
theorem rgf_3_7 : rg 3 7 = (0, 2000) := by decide +kernel
theorem d_Tokens_byteAt_9 : decode prog_10_method_5_code 9 = .ok (.if_icmp .ge 21, 3) := by decide +kernel
theorem d_Tokens_byteAt_12 : decode prog_10_method_5_code 12 = .ok (.iload_n 1, 1) := by decide +kernel
theorem d_Tokens_byteAt_13 : decode prog_10_method_5_code 13 = .ok (.aload_n 0, 1) := by decide +kernel
theorem d_Tokens_byteAt_14 : decode prog_10_method_5_code 14 = .ok (.getfield 25, 3) := by decide +kernel
theorem d_Tokens_byteAt_17 : decode prog_10_method_5_code 17 = .ok (.arraylength, 1) := by decide +kernel
theorem sf_8 : sh_L[8]? = some (0, 0) := by decide +kernel
theorem d_Tokens_byteAt_18 : decode prog_10_method_5_code 18 = .ok (.if_icmp .ge 12, 3) := by decide +kernel
theorem sf_1 : sh_L[1]? = some (0, 2000) := by decide +kernel
theorem d_Tokens_byteAt_21 : decode prog_10_method_5_code 21 = .ok (.aload_n 0, 1) := by decide +kernel
theorem d_Tokens_byteAt_22 : decode prog_10_method_5_code 22 = .ok (.getfield 25, 3) := by decide +kernel
theorem d_Tokens_byteAt_25 : decode prog_10_method_5_code 25 = .ok (.iload_n 1, 1) := by decide +kernel
theorem d_Tokens_byteAt_26 : decode prog_10_method_5_code 26 = .ok (.iaload, 1) := by decide +kernel
theorem rgf_1 (k : Nat) : rg 1 k = (0, 255) := rfl
theorem d_Tokens_byteAt_27 : decode prog_10_method_5_code 27 = .ok (.goto 4, 3) := by decide +kernel
def m_Tokens_skipBlanks : mr_T := (⟨"PlainMusic$Tokens", "skipBlanks", "()V"⟩, prog_10_method_6_code, 3, none)
theorem d_Tokens_skipBlanks_0 : decode prog_10_method_6_code 0 = .ok (.iconst 0, 1) := by decide +kernel
theorem d_Tokens_skipBlanks_1 : decode prog_10_method_6_code 1 = .ok (.istore_n 1, 1) := by decide +kernel
theorem d_Tokens_skipBlanks_2 : decode prog_10_method_6_code 2 = .ok (.aload_n 0, 1) := by decide +kernel
theorem d_Tokens_skipBlanks_3 : decode prog_10_method_6_code 3 = .ok (.getfield 38, 3) := by decide +kernel
theorem f_Tokens_38 : fl_OK "PlainMusic$Tokens" 38 8 8 .int false := ⟨_, rfl, by decide, gwi_183, rfl, rfl⟩
theorem rgf_3_8 : rg 3 8 = (0, 2000) := by decide +kernel
theorem d_Tokens_skipBlanks_6 : decode prog_10_method_6_code 6 = .ok (.aload_n 0, 1) := by decide +kernel
theorem d_Tokens_skipBlanks_7 : decode prog_10_method_6_code 7 = .ok (.getfield 34, 3) := by decide +kernel
theorem d_Tokens_skipBlanks_10 : decode prog_10_method_6_code 10 = .ok (.if_icmp .ge 70, 3) := by decide +kernel
theorem d_Tokens_skipBlanks_80 : decode prog_10_method_6_code 80 = .ok (.return_, 1) := by decide +kernel
theorem d_Tokens_skipBlanks_13 : decode prog_10_method_6_code 13 = .ok (.aload_n 0, 1) := by decide +kernel
theorem d_Tokens_skipBlanks_14 : decode prog_10_method_6_code 14 = .ok (.aload_n 0, 1) := by decide +kernel
theorem d_Tokens_skipBlanks_15 : decode prog_10_method_6_code 15 = .ok (.getfield 38, 3) := by decide +kernel
theorem d_Tokens_skipBlanks_18 : decode prog_10_method_6_code 18 = .ok (.invokevirtual 70, 3) := by decide +kernel
theorem k_Tokens_byteAt : mt_OK m_Tokens_byteAt 1 1 := ⟨gwi_670, gwi_136, ⟨by decide +kernel, by decide +kernel, by decide +kernel⟩, fun h => absurd h (by decide), fun _ => ⟨gwi_669, gwi_3⟩, fun h => absurd h (by decide)⟩
theorem l_Tokens_70 : ml_OK "PlainMusic$Tokens" 70 ⟨"PlainMusic$Tokens", "byteAt", "(I)I"⟩ := Or.inl gwi_667
theorem d_Tokens_skipBlanks_21 : decode prog_10_method_6_code 21 = .ok (.istore_n 2, 1) := by decide +kernel
theorem d_Tokens_skipBlanks_22 : decode prog_10_method_6_code 22 = .ok (.iload_n 2, 1) := by decide +kernel
theorem d_Tokens_skipBlanks_23 : decode prog_10_method_6_code 23 = .ok (.bipush 10, 2) := by decide +kernel
theorem d_Tokens_skipBlanks_25 : decode prog_10_method_6_code 25 = .ok (.if_icmp .ne 8, 3) := by decide +kernel
theorem d_Tokens_skipBlanks_33 : decode prog_10_method_6_code 33 = .ok (.iload_n 2, 1) := by decide +kernel
theorem d_Tokens_skipBlanks_34 : decode prog_10_method_6_code 34 = .ok (.bipush 37, 2) := by decide +kernel
theorem d_Tokens_skipBlanks_36 : decode prog_10_method_6_code 36 = .ok (.if_icmp .ne 8, 3) := by decide +kernel
theorem d_Tokens_skipBlanks_44 : decode prog_10_method_6_code 44 = .ok (.iload_n 1, 1) := by decide +kernel
theorem d_Tokens_skipBlanks_45 : decode prog_10_method_6_code 45 = .ok (.ifCond .ne 22, 3) := by decide +kernel
theorem d_Tokens_skipBlanks_48 : decode prog_10_method_6_code 48 = .ok (.iload_n 2, 1) := by decide +kernel
theorem d_Tokens_skipBlanks_49 : decode prog_10_method_6_code 49 = .ok (.bipush 9, 2) := by decide +kernel
theorem d_Tokens_skipBlanks_51 : decode prog_10_method_6_code 51 = .ok (.if_icmp .eq 16, 3) := by decide +kernel
theorem d_Tokens_skipBlanks_67 : decode prog_10_method_6_code 67 = .ok (.aload_n 0, 1) := by decide +kernel
theorem d_Tokens_skipBlanks_68 : decode prog_10_method_6_code 68 = .ok (.dup, 1) := by decide +kernel
theorem d_Tokens_skipBlanks_69 : decode prog_10_method_6_code 69 = .ok (.getfield 38, 3) := by decide +kernel
theorem d_Tokens_skipBlanks_72 : decode prog_10_method_6_code 72 = .ok (.iconst 1, 1) := by decide +kernel
theorem d_Tokens_skipBlanks_73 : decode prog_10_method_6_code 73 = .ok (.iadd, 1) := by decide +kernel
theorem d_Tokens_skipBlanks_74 : decode prog_10_method_6_code 74 = .ok (.putfield 38, 3) := by decide +kernel
theorem d_Tokens_skipBlanks_77 : decode prog_10_method_6_code 77 = .ok (.goto (-75), 3) := by decide +kernel
theorem d_Tokens_skipBlanks_54 : decode prog_10_method_6_code 54 = .ok (.iload_n 2, 1) := by decide +kernel
theorem d_Tokens_skipBlanks_55 : decode prog_10_method_6_code 55 = .ok (.bipush 13, 2) := by decide +kernel
theorem d_Tokens_skipBlanks_57 : decode prog_10_method_6_code 57 = .ok (.if_icmp .eq 10, 3) := by decide +kernel
theorem d_Tokens_skipBlanks_60 : decode prog_10_method_6_code 60 = .ok (.iload_n 2, 1) := by decide +kernel
theorem d_Tokens_skipBlanks_61 : decode prog_10_method_6_code 61 = .ok (.bipush 32, 2) := by decide +kernel
theorem d_Tokens_skipBlanks_63 : decode prog_10_method_6_code 63 = .ok (.if_icmp .eq 4, 3) := by decide +kernel
theorem d_Tokens_skipBlanks_66 : decode prog_10_method_6_code 66 = .ok (.return_, 1) := by decide +kernel
theorem d_Tokens_skipBlanks_39 : decode prog_10_method_6_code 39 = .ok (.iconst 1, 1) := by decide +kernel
theorem d_Tokens_skipBlanks_40 : decode prog_10_method_6_code 40 = .ok (.istore_n 1, 1) := by decide +kernel
theorem d_Tokens_skipBlanks_41 : decode prog_10_method_6_code 41 = .ok (.goto 26, 3) := by decide +kernel
theorem d_Tokens_skipBlanks_28 : decode prog_10_method_6_code 28 = .ok (.iconst 0, 1) := by decide +kernel
theorem d_Tokens_skipBlanks_29 : decode prog_10_method_6_code 29 = .ok (.istore_n 1, 1) := by decide +kernel
theorem d_Tokens_skipBlanks_30 : decode prog_10_method_6_code 30 = .ok (.goto 37, 3) := by decide +kernel
def m_Tokens_cutPitch : mr_T := (⟨"PlainMusic$Tokens", "cutPitch", "(I)V"⟩, prog_10_method_7_code, 7, none)
theorem d_Tokens_cutPitch_0 : decode prog_10_method_7_code 0 = .ok (.aload_n 0, 1) := by decide +kernel
theorem d_Tokens_cutPitch_1 : decode prog_10_method_7_code 1 = .ok (.getfield 38, 3) := by decide +kernel
theorem d_Tokens_cutPitch_4 : decode prog_10_method_7_code 4 = .ok (.iconst 1, 1) := by decide +kernel
theorem d_Tokens_cutPitch_5 : decode prog_10_method_7_code 5 = .ok (.iadd, 1) := by decide +kernel
theorem d_Tokens_cutPitch_6 : decode prog_10_method_7_code 6 = .ok (.istore_n 2, 1) := by decide +kernel
theorem d_Tokens_cutPitch_7 : decode prog_10_method_7_code 7 = .ok (.iconst 0, 1) := by decide +kernel
theorem d_Tokens_cutPitch_8 : decode prog_10_method_7_code 8 = .ok (.istore_n 3, 1) := by decide +kernel
theorem d_Tokens_cutPitch_9 : decode prog_10_method_7_code 9 = .ok (.aload_n 0, 1) := by decide +kernel
theorem d_Tokens_cutPitch_10 : decode prog_10_method_7_code 10 = .ok (.iload_n 2, 1) := by decide +kernel
theorem d_Tokens_cutPitch_11 : decode prog_10_method_7_code 11 = .ok (.invokevirtual 70, 3) := by decide +kernel
theorem d_Tokens_cutPitch_14 : decode prog_10_method_7_code 14 = .ok (.istore 4, 2) := by decide +kernel
theorem d_Tokens_cutPitch_16 : decode prog_10_method_7_code 16 = .ok (.iload 4, 2) := by decide +kernel
theorem d_Tokens_cutPitch_18 : decode prog_10_method_7_code 18 = .ok (.bipush 35, 2) := by decide +kernel
theorem d_Tokens_cutPitch_20 : decode prog_10_method_7_code 20 = .ok (.if_icmp .eq 10, 3) := by decide +kernel
theorem d_Tokens_cutPitch_30 : decode prog_10_method_7_code 30 = .ok (.aload_n 0, 1) := by decide +kernel
theorem d_Tokens_cutPitch_31 : decode prog_10_method_7_code 31 = .ok (.iload_n 2, 1) := by decide +kernel
theorem d_Tokens_cutPitch_32 : decode prog_10_method_7_code 32 = .ok (.iconst 1, 1) := by decide +kernel
theorem d_Tokens_cutPitch_33 : decode prog_10_method_7_code 33 = .ok (.iadd, 1) := by decide +kernel
theorem d_Tokens_cutPitch_34 : decode prog_10_method_7_code 34 = .ok (.invokevirtual 70, 3) := by decide +kernel
theorem d_Tokens_cutPitch_37 : decode prog_10_method_7_code 37 = .ok (.iload 4, 2) := by decide +kernel
theorem d_Tokens_cutPitch_39 : decode prog_10_method_7_code 39 = .ok (.if_icmp .ne 7, 3) := by decide +kernel
theorem d_Tokens_cutPitch_46 : decode prog_10_method_7_code 46 = .ok (.iconst 1, 1) := by decide +kernel
theorem d_Tokens_cutPitch_47 : decode prog_10_method_7_code 47 = .ok (.istore_n 3, 1) := by decide +kernel
theorem d_Tokens_cutPitch_48 : decode prog_10_method_7_code 48 = .ok (.iload_n 2, 1) := by decide +kernel
theorem d_Tokens_cutPitch_49 : decode prog_10_method_7_code 49 = .ok (.iload_n 3, 1) := by decide +kernel
theorem d_Tokens_cutPitch_50 : decode prog_10_method_7_code 50 = .ok (.iadd, 1) := by decide +kernel
theorem d_Tokens_cutPitch_51 : decode prog_10_method_7_code 51 = .ok (.istore_n 2, 1) := by decide +kernel
theorem d_Tokens_cutPitch_52 : decode prog_10_method_7_code 52 = .ok (.aload_n 0, 1) := by decide +kernel
theorem d_Tokens_cutPitch_53 : decode prog_10_method_7_code 53 = .ok (.iload_n 2, 1) := by decide +kernel
theorem d_Tokens_cutPitch_54 : decode prog_10_method_7_code 54 = .ok (.invokevirtual 70, 3) := by decide +kernel
theorem d_Tokens_cutPitch_57 : decode prog_10_method_7_code 57 = .ok (.bipush 48, 2) := by decide +kernel
theorem d_Tokens_cutPitch_59 : decode prog_10_method_7_code 59 = .ok (.isub, 1) := by decide +kernel
theorem d_Tokens_cutPitch_60 : decode prog_10_method_7_code 60 = .ok (.istore 5, 2) := by decide +kernel
theorem d_Tokens_cutPitch_62 : decode prog_10_method_7_code 62 = .ok (.iload 5, 2) := by decide +kernel
theorem d_Tokens_cutPitch_64 : decode prog_10_method_7_code 64 = .ok (.ifCond .lt 10, 3) := by decide +kernel
theorem d_Tokens_cutPitch_74 : decode prog_10_method_7_code 74 = .ok (.aload_n 0, 1) := by decide +kernel
theorem d_Tokens_cutPitch_75 : decode prog_10_method_7_code 75 = .ok (.sipush 257, 3) := by decide +kernel
theorem d_Tokens_cutPitch_78 : decode prog_10_method_7_code 78 = .ok (.putfield 54, 3) := by decide +kernel
theorem f_Tokens_54 : fl_OK "PlainMusic$Tokens" 54 8 9 .int false := ⟨_, rfl, by decide, gwi_185, rfl, rfl⟩
theorem rgf_3_9 : rg 3 9 = ((-2147483648), 2147483647) := by decide +kernel
theorem d_Tokens_cutPitch_81 : decode prog_10_method_7_code 81 = .ok (.return_, 1) := by decide +kernel
theorem d_Tokens_cutPitch_67 : decode prog_10_method_7_code 67 = .ok (.iload 5, 2) := by decide +kernel
theorem d_Tokens_cutPitch_69 : decode prog_10_method_7_code 69 = .ok (.bipush 8, 2) := by decide +kernel
theorem d_Tokens_cutPitch_71 : decode prog_10_method_7_code 71 = .ok (.if_icmp .le 11, 3) := by decide +kernel
theorem d_Tokens_cutPitch_82 : decode prog_10_method_7_code 82 = .ok (.iload_n 1, 1) := by decide +kernel
theorem d_Tokens_cutPitch_83 : decode prog_10_method_7_code 83 = .ok (.bipush 67, 2) := by decide +kernel
theorem d_Tokens_cutPitch_85 : decode prog_10_method_7_code 85 = .ok (.isub, 1) := by decide +kernel
theorem d_Tokens_cutPitch_86 : decode prog_10_method_7_code 86 = .ok (.getstatic 98, 3) := by decide +kernel
theorem gs_Tokens_98 : Cond.fieldLink "PlainMusic$Tokens" 98 "PlainMusic" "NATURALS" "[I" ∈ gw ∨ ∃ host, Cond.fieldLinkNest "PlainMusic$Tokens" 98 "PlainMusic" "NATURALS" "[I" host ∈ lw_tbl := Or.inr ⟨"PlainMusic", (List.mem_of_getElem? (i := 675) (by decide +kernel))⟩
theorem d_Tokens_cutPitch_89 : decode prog_10_method_7_code 89 = .ok (.arraylength, 1) := by decide +kernel
theorem d_Tokens_cutPitch_90 : decode prog_10_method_7_code 90 = .ok (.invokestatic 101, 3) := by decide +kernel
theorem l_Tokens_101 : ml_OK "PlainMusic$Tokens" 101 ⟨"java/lang/Math", "floorMod", "(II)I"⟩ := Or.inl gwi_677
theorem d_Tokens_cutPitch_93 : decode prog_10_method_7_code 93 = .ok (.istore 6, 2) := by decide +kernel
theorem d_Tokens_cutPitch_95 : decode prog_10_method_7_code 95 = .ok (.aload_n 0, 1) := by decide +kernel
theorem d_Tokens_cutPitch_96 : decode prog_10_method_7_code 96 = .ok (.bipush 12, 2) := by decide +kernel
theorem d_Tokens_cutPitch_98 : decode prog_10_method_7_code 98 = .ok (.iload 5, 2) := by decide +kernel
theorem d_Tokens_cutPitch_100 : decode prog_10_method_7_code 100 = .ok (.imul, 1) := by decide +kernel
theorem d_Tokens_cutPitch_101 : decode prog_10_method_7_code 101 = .ok (.getstatic 98, 3) := by decide +kernel
theorem d_Tokens_cutPitch_104 : decode prog_10_method_7_code 104 = .ok (.iload 6, 2) := by decide +kernel
theorem d_Tokens_cutPitch_106 : decode prog_10_method_7_code 106 = .ok (.iaload, 1) := by decide +kernel
theorem d_Tokens_cutPitch_107 : decode prog_10_method_7_code 107 = .ok (.iadd, 1) := by decide +kernel
theorem d_Tokens_cutPitch_108 : decode prog_10_method_7_code 108 = .ok (.iload 4, 2) := by decide +kernel
theorem d_Tokens_cutPitch_110 : decode prog_10_method_7_code 110 = .ok (.bipush 35, 2) := by decide +kernel
theorem d_Tokens_cutPitch_112 : decode prog_10_method_7_code 112 = .ok (.if_icmp .ne 7, 3) := by decide +kernel
theorem d_Tokens_cutPitch_115 : decode prog_10_method_7_code 115 = .ok (.iload_n 3, 1) := by decide +kernel
theorem d_Tokens_cutPitch_116 : decode prog_10_method_7_code 116 = .ok (.goto 5, 3) := by decide +kernel
theorem d_Tokens_cutPitch_121 : decode prog_10_method_7_code 121 = .ok (.iadd, 1) := by decide +kernel
theorem d_Tokens_cutPitch_122 : decode prog_10_method_7_code 122 = .ok (.i2l, 1) := by decide +kernel
theorem d_Tokens_cutPitch_123 : decode prog_10_method_7_code 123 = .ok (.putfield 60, 3) := by decide +kernel
theorem f_Tokens_60 : fl_OK "PlainMusic$Tokens" 60 8 11 .long false := ⟨_, rfl, by decide, gwi_188, rfl, rfl⟩
theorem d_Tokens_cutPitch_126 : decode prog_10_method_7_code 126 = .ok (.aload_n 0, 1) := by decide +kernel
theorem d_Tokens_cutPitch_127 : decode prog_10_method_7_code 127 = .ok (.bipush 7, 2) := by decide +kernel
theorem d_Tokens_cutPitch_129 : decode prog_10_method_7_code 129 = .ok (.iload 5, 2) := by decide +kernel
theorem d_Tokens_cutPitch_131 : decode prog_10_method_7_code 131 = .ok (.imul, 1) := by decide +kernel
theorem d_Tokens_cutPitch_132 : decode prog_10_method_7_code 132 = .ok (.iload 6, 2) := by decide +kernel
theorem d_Tokens_cutPitch_134 : decode prog_10_method_7_code 134 = .ok (.iadd, 1) := by decide +kernel
theorem d_Tokens_cutPitch_135 : decode prog_10_method_7_code 135 = .ok (.putfield 64, 3) := by decide +kernel
theorem f_Tokens_64 : fl_OK "PlainMusic$Tokens" 64 8 12 .int false := ⟨_, rfl, by decide, gwi_190, rfl, rfl⟩
theorem rgf_3_12 : rg 3 12 = ((-2147483648), 2147483647) := by decide +kernel
theorem d_Tokens_cutPitch_138 : decode prog_10_method_7_code 138 = .ok (.aload_n 0, 1) := by decide +kernel
theorem d_Tokens_cutPitch_139 : decode prog_10_method_7_code 139 = .ok (.iload_n 2, 1) := by decide +kernel
theorem d_Tokens_cutPitch_140 : decode prog_10_method_7_code 140 = .ok (.iconst 1, 1) := by decide +kernel
theorem d_Tokens_cutPitch_141 : decode prog_10_method_7_code 141 = .ok (.iadd, 1) := by decide +kernel
theorem d_Tokens_cutPitch_142 : decode prog_10_method_7_code 142 = .ok (.putfield 38, 3) := by decide +kernel
theorem d_Tokens_cutPitch_145 : decode prog_10_method_7_code 145 = .ok (.aload_n 0, 1) := by decide +kernel
theorem d_Tokens_cutPitch_146 : decode prog_10_method_7_code 146 = .ok (.sipush 258, 3) := by decide +kernel
theorem d_Tokens_cutPitch_149 : decode prog_10_method_7_code 149 = .ok (.putfield 54, 3) := by decide +kernel
theorem d_Tokens_cutPitch_152 : decode prog_10_method_7_code 152 = .ok (.return_, 1) := by decide +kernel
theorem d_Tokens_cutPitch_42 : decode prog_10_method_7_code 42 = .ok (.iconst 2, 1) := by decide +kernel
theorem d_Tokens_cutPitch_43 : decode prog_10_method_7_code 43 = .ok (.goto 4, 3) := by decide +kernel
theorem d_Tokens_cutPitch_23 : decode prog_10_method_7_code 23 = .ok (.iload 4, 2) := by decide +kernel
theorem d_Tokens_cutPitch_25 : decode prog_10_method_7_code 25 = .ok (.bipush 98, 2) := by decide +kernel
theorem d_Tokens_cutPitch_27 : decode prog_10_method_7_code 27 = .ok (.if_icmp .ne 25, 3) := by decide +kernel
theorem d_Tokens_cutPitch_119 : decode prog_10_method_7_code 119 = .ok (.iload_n 3, 1) := by decide +kernel
theorem d_Tokens_cutPitch_120 : decode prog_10_method_7_code 120 = .ok (.ineg, 1) := by decide +kernel
def m_Tokens_cutNumber : mr_T := (⟨"PlainMusic$Tokens", "cutNumber", "()V"⟩, prog_10_method_11_code, 3, none)
theorem d_Tokens_cutNumber_0 : decode prog_10_method_11_code 0 = .ok (.aload_n 0, 1) := by decide +kernel
theorem d_Tokens_cutNumber_1 : decode prog_10_method_11_code 1 = .ok (.getfield 38, 3) := by decide +kernel
theorem d_Tokens_cutNumber_4 : decode prog_10_method_11_code 4 = .ok (.istore_n 1, 1) := by decide +kernel
theorem d_Tokens_cutNumber_5 : decode prog_10_method_11_code 5 = .ok (.iconst 0, 1) := by decide +kernel
theorem d_Tokens_cutNumber_6 : decode prog_10_method_11_code 6 = .ok (.istore_n 2, 1) := by decide +kernel
theorem d_Tokens_cutNumber_7 : decode prog_10_method_11_code 7 = .ok (.aload_n 0, 1) := by decide +kernel
theorem d_Tokens_cutNumber_8 : decode prog_10_method_11_code 8 = .ok (.getfield 38, 3) := by decide +kernel
theorem d_Tokens_cutNumber_11 : decode prog_10_method_11_code 11 = .ok (.aload_n 0, 1) := by decide +kernel
theorem d_Tokens_cutNumber_12 : decode prog_10_method_11_code 12 = .ok (.getfield 34, 3) := by decide +kernel
theorem d_Tokens_cutNumber_15 : decode prog_10_method_11_code 15 = .ok (.if_icmp .ge 47, 3) := by decide +kernel
theorem d_Tokens_cutNumber_62 : decode prog_10_method_11_code 62 = .ok (.aload_n 0, 1) := by decide +kernel
theorem d_Tokens_cutNumber_63 : decode prog_10_method_11_code 63 = .ok (.iload_n 2, 1) := by decide +kernel
theorem d_Tokens_cutNumber_64 : decode prog_10_method_11_code 64 = .ok (.i2l, 1) := by decide +kernel
theorem d_Tokens_cutNumber_65 : decode prog_10_method_11_code 65 = .ok (.putfield 60, 3) := by decide +kernel
theorem d_Tokens_cutNumber_68 : decode prog_10_method_11_code 68 = .ok (.aload_n 0, 1) := by decide +kernel
theorem d_Tokens_cutNumber_69 : decode prog_10_method_11_code 69 = .ok (.aload_n 0, 1) := by decide +kernel
theorem d_Tokens_cutNumber_70 : decode prog_10_method_11_code 70 = .ok (.getfield 38, 3) := by decide +kernel
theorem d_Tokens_cutNumber_73 : decode prog_10_method_11_code 73 = .ok (.iload_n 1, 1) := by decide +kernel
theorem d_Tokens_cutNumber_74 : decode prog_10_method_11_code 74 = .ok (.isub, 1) := by decide +kernel
theorem d_Tokens_cutNumber_75 : decode prog_10_method_11_code 75 = .ok (.iconst 4, 1) := by decide +kernel
theorem d_Tokens_cutNumber_76 : decode prog_10_method_11_code 76 = .ok (.if_icmp .le 9, 3) := by decide +kernel
theorem d_Tokens_cutNumber_85 : decode prog_10_method_11_code 85 = .ok (.sipush 259, 3) := by decide +kernel
theorem d_Tokens_cutNumber_88 : decode prog_10_method_11_code 88 = .ok (.putfield 54, 3) := by decide +kernel
theorem d_Tokens_cutNumber_91 : decode prog_10_method_11_code 91 = .ok (.return_, 1) := by decide +kernel
theorem d_Tokens_cutNumber_79 : decode prog_10_method_11_code 79 = .ok (.sipush 257, 3) := by decide +kernel
theorem d_Tokens_cutNumber_82 : decode prog_10_method_11_code 82 = .ok (.goto 6, 3) := by decide +kernel
theorem d_Tokens_cutNumber_18 : decode prog_10_method_11_code 18 = .ok (.aload_n 0, 1) := by decide +kernel
theorem d_Tokens_cutNumber_19 : decode prog_10_method_11_code 19 = .ok (.aload_n 0, 1) := by decide +kernel
theorem d_Tokens_cutNumber_20 : decode prog_10_method_11_code 20 = .ok (.getfield 38, 3) := by decide +kernel
theorem d_Tokens_cutNumber_23 : decode prog_10_method_11_code 23 = .ok (.invokevirtual 70, 3) := by decide +kernel
theorem d_Tokens_cutNumber_26 : decode prog_10_method_11_code 26 = .ok (.invokestatic 85, 3) := by decide +kernel
theorem k_Tokens_isDigit : mt_OK m_Tokens_isDigit 1 0 := ⟨gwi_749, gwi_136, ⟨by decide +kernel, by decide +kernel, by decide +kernel⟩, fun _ => gwi_748, fun h => absurd h (by decide), fun h => absurd h (by decide)⟩
theorem l_Tokens_85 : ml_OK "PlainMusic$Tokens" 85 ⟨"PlainMusic$Tokens", "isDigit", "(I)Z"⟩ := Or.inl gwi_747
theorem d_Tokens_cutNumber_29 : decode prog_10_method_11_code 29 = .ok (.ifCond .eq 33, 3) := by decide +kernel
theorem d_Tokens_cutNumber_32 : decode prog_10_method_11_code 32 = .ok (.iload_n 2, 1) := by decide +kernel
theorem d_Tokens_cutNumber_33 : decode prog_10_method_11_code 33 = .ok (.bipush 10, 2) := by decide +kernel
theorem d_Tokens_cutNumber_35 : decode prog_10_method_11_code 35 = .ok (.imul, 1) := by decide +kernel
theorem d_Tokens_cutNumber_36 : decode prog_10_method_11_code 36 = .ok (.aload_n 0, 1) := by decide +kernel
theorem d_Tokens_cutNumber_37 : decode prog_10_method_11_code 37 = .ok (.aload_n 0, 1) := by decide +kernel
theorem d_Tokens_cutNumber_38 : decode prog_10_method_11_code 38 = .ok (.getfield 38, 3) := by decide +kernel
theorem d_Tokens_cutNumber_41 : decode prog_10_method_11_code 41 = .ok (.invokevirtual 70, 3) := by decide +kernel
theorem d_Tokens_cutNumber_44 : decode prog_10_method_11_code 44 = .ok (.iadd, 1) := by decide +kernel
theorem d_Tokens_cutNumber_45 : decode prog_10_method_11_code 45 = .ok (.bipush 48, 2) := by decide +kernel
theorem d_Tokens_cutNumber_47 : decode prog_10_method_11_code 47 = .ok (.isub, 1) := by decide +kernel
theorem d_Tokens_cutNumber_48 : decode prog_10_method_11_code 48 = .ok (.istore_n 2, 1) := by decide +kernel
theorem d_Tokens_cutNumber_49 : decode prog_10_method_11_code 49 = .ok (.aload_n 0, 1) := by decide +kernel
theorem d_Tokens_cutNumber_50 : decode prog_10_method_11_code 50 = .ok (.dup, 1) := by decide +kernel
theorem d_Tokens_cutNumber_51 : decode prog_10_method_11_code 51 = .ok (.getfield 38, 3) := by decide +kernel
theorem d_Tokens_cutNumber_54 : decode prog_10_method_11_code 54 = .ok (.iconst 1, 1) := by decide +kernel
theorem d_Tokens_cutNumber_55 : decode prog_10_method_11_code 55 = .ok (.iadd, 1) := by decide +kernel
theorem d_Tokens_cutNumber_56 : decode prog_10_method_11_code 56 = .ok (.putfield 38, 3) := by decide +kernel
theorem d_Tokens_cutNumber_59 : decode prog_10_method_11_code 59 = .ok (.goto (-52), 3) := by decide +kernel
def m_Tokens_next : mr_T := (⟨"PlainMusic$Tokens", "next", "()V"⟩, prog_10_method_3_code, 1, none)
theorem d_Tokens_next_0 : decode prog_10_method_3_code 0 = .ok (.aload_n 0, 1) := by decide +kernel
theorem d_Tokens_next_1 : decode prog_10_method_3_code 1 = .ok (.getfield 48, 3) := by decide +kernel
theorem f_Tokens_48 : fl_OK "PlainMusic$Tokens" 48 8 5 .int false := ⟨_, rfl, by decide, gwi_180, rfl, rfl⟩
theorem rgf_3_5 : rg 3 5 = ((-1), 2000) := by decide +kernel
theorem d_Tokens_next_4 : decode prog_10_method_3_code 4 = .ok (.iconst 1, 1) := by decide +kernel
theorem d_Tokens_next_5 : decode prog_10_method_3_code 5 = .ok (.iadd, 1) := by decide +kernel
theorem d_Tokens_next_6 : decode prog_10_method_3_code 6 = .ok (.aload_n 0, 1) := by decide +kernel
theorem d_Tokens_next_7 : decode prog_10_method_3_code 7 = .ok (.getfield 41, 3) := by decide +kernel
theorem f_Tokens_41 : fl_OK "PlainMusic$Tokens" 41 8 4 .int false := ⟨_, rfl, by decide, gwi_179, rfl, rfl⟩
theorem rgf_3_4 : rg 3 4 = (0, 2001) := by decide +kernel
theorem d_Tokens_next_10 : decode prog_10_method_3_code 10 = .ok (.if_icmp .ge 79, 3) := by decide +kernel
theorem d_Tokens_next_89 : decode prog_10_method_3_code 89 = .ok (.return_, 1) := by decide +kernel
theorem d_Tokens_next_13 : decode prog_10_method_3_code 13 = .ok (.aload_n 0, 1) := by decide +kernel
theorem d_Tokens_next_14 : decode prog_10_method_3_code 14 = .ok (.getfield 48, 3) := by decide +kernel
theorem d_Tokens_next_17 : decode prog_10_method_3_code 17 = .ok (.iconst 1, 1) := by decide +kernel
theorem d_Tokens_next_18 : decode prog_10_method_3_code 18 = .ok (.iadd, 1) := by decide +kernel
theorem d_Tokens_next_19 : decode prog_10_method_3_code 19 = .ok (.aload_n 0, 1) := by decide +kernel
theorem d_Tokens_next_20 : decode prog_10_method_3_code 20 = .ok (.getfield 9, 3) := by decide +kernel
theorem rff_3_0 : (3, 0, 4) ∈ rf_L := by decide +kernel
theorem d_Tokens_next_23 : decode prog_10_method_3_code 23 = .ok (.arraylength, 1) := by decide +kernel
theorem sf_4 : sh_L[4]? = some (0, 2001) := by decide +kernel
theorem d_Tokens_next_24 : decode prog_10_method_3_code 24 = .ok (.if_icmp .ge 65, 3) := by decide +kernel
theorem d_Tokens_next_27 : decode prog_10_method_3_code 27 = .ok (.aload_n 0, 1) := by decide +kernel
theorem d_Tokens_next_28 : decode prog_10_method_3_code 28 = .ok (.dup, 1) := by decide +kernel
theorem d_Tokens_next_29 : decode prog_10_method_3_code 29 = .ok (.getfield 48, 3) := by decide +kernel
theorem d_Tokens_next_32 : decode prog_10_method_3_code 32 = .ok (.iconst 1, 1) := by decide +kernel
theorem d_Tokens_next_33 : decode prog_10_method_3_code 33 = .ok (.iadd, 1) := by decide +kernel
theorem d_Tokens_next_34 : decode prog_10_method_3_code 34 = .ok (.putfield 48, 3) := by decide +kernel
theorem d_Tokens_next_37 : decode prog_10_method_3_code 37 = .ok (.aload_n 0, 1) := by decide +kernel
theorem d_Tokens_next_38 : decode prog_10_method_3_code 38 = .ok (.aload_n 0, 1) := by decide +kernel
theorem d_Tokens_next_39 : decode prog_10_method_3_code 39 = .ok (.getfield 9, 3) := by decide +kernel
theorem d_Tokens_next_42 : decode prog_10_method_3_code 42 = .ok (.aload_n 0, 1) := by decide +kernel
theorem d_Tokens_next_43 : decode prog_10_method_3_code 43 = .ok (.getfield 48, 3) := by decide +kernel
theorem d_Tokens_next_46 : decode prog_10_method_3_code 46 = .ok (.iaload, 1) := by decide +kernel
theorem rgf_4 (k : Nat) : rg 4 k = ((-2147483648), 2147483647) := rfl
theorem d_Tokens_next_47 : decode prog_10_method_3_code 47 = .ok (.putfield 54, 3) := by decide +kernel
theorem d_Tokens_next_50 : decode prog_10_method_3_code 50 = .ok (.aload_n 0, 1) := by decide +kernel
theorem d_Tokens_next_51 : decode prog_10_method_3_code 51 = .ok (.aload_n 0, 1) := by decide +kernel
theorem d_Tokens_next_52 : decode prog_10_method_3_code 52 = .ok (.getfield 15, 3) := by decide +kernel
theorem rff_3_1 : (3, 1, 5) ∈ rf_L := by decide +kernel
theorem d_Tokens_next_55 : decode prog_10_method_3_code 55 = .ok (.aload_n 0, 1) := by decide +kernel
theorem d_Tokens_next_56 : decode prog_10_method_3_code 56 = .ok (.getfield 48, 3) := by decide +kernel
theorem d_Tokens_next_59 : decode prog_10_method_3_code 59 = .ok (.iaload, 1) := by decide +kernel
theorem sf_5 : sh_L[5]? = some (0, 2001) := by decide +kernel
theorem rgf_5 (k : Nat) : rg 5 k = ((-2147483648), 2147483647) := rfl
theorem d_Tokens_next_60 : decode prog_10_method_3_code 60 = .ok (.putfield 57, 3) := by decide +kernel
theorem f_Tokens_57 : fl_OK "PlainMusic$Tokens" 57 8 10 .int false := ⟨_, rfl, by decide, gwi_186, rfl, rfl⟩
theorem rgf_3_10 : rg 3 10 = ((-2147483648), 2147483647) := by decide +kernel
theorem d_Tokens_next_63 : decode prog_10_method_3_code 63 = .ok (.aload_n 0, 1) := by decide +kernel
theorem d_Tokens_next_64 : decode prog_10_method_3_code 64 = .ok (.aload_n 0, 1) := by decide +kernel
theorem d_Tokens_next_65 : decode prog_10_method_3_code 65 = .ok (.getfield 18, 3) := by decide +kernel
theorem rff_3_2 : (3, 2, 6) ∈ rf_L := by decide +kernel
theorem d_Tokens_next_68 : decode prog_10_method_3_code 68 = .ok (.aload_n 0, 1) := by decide +kernel
theorem d_Tokens_next_69 : decode prog_10_method_3_code 69 = .ok (.getfield 48, 3) := by decide +kernel
theorem d_Tokens_next_72 : decode prog_10_method_3_code 72 = .ok (.laload, 1) := by decide +kernel
theorem sf_6 : sh_L[6]? = some (1, 2001) := by decide +kernel
theorem d_Tokens_next_73 : decode prog_10_method_3_code 73 = .ok (.putfield 60, 3) := by decide +kernel
theorem d_Tokens_next_76 : decode prog_10_method_3_code 76 = .ok (.aload_n 0, 1) := by decide +kernel
theorem d_Tokens_next_77 : decode prog_10_method_3_code 77 = .ok (.aload_n 0, 1) := by decide +kernel
theorem d_Tokens_next_78 : decode prog_10_method_3_code 78 = .ok (.getfield 22, 3) := by decide +kernel
theorem rff_3_3 : (3, 3, 7) ∈ rf_L := by decide +kernel
theorem d_Tokens_next_81 : decode prog_10_method_3_code 81 = .ok (.aload_n 0, 1) := by decide +kernel
theorem d_Tokens_next_82 : decode prog_10_method_3_code 82 = .ok (.getfield 48, 3) := by decide +kernel
theorem d_Tokens_next_85 : decode prog_10_method_3_code 85 = .ok (.iaload, 1) := by decide +kernel
theorem sf_7 : sh_L[7]? = some (0, 2001) := by decide +kernel
theorem rgf_7 (k : Nat) : rg 7 k = ((-2147483648), 2147483647) := rfl
theorem d_Tokens_next_86 : decode prog_10_method_3_code 86 = .ok (.putfield 64, 3) := by decide +kernel
def m_Tokens_lettersOf : mr_T := (⟨"PlainMusic$Tokens", "lettersOf", "(Ljava/lang/String;)J"⟩, prog_10_method_10_code, 4, some .long)
theorem d_Tokens_lettersOf_0 : decode prog_10_method_10_code 0 = .ok (.lconst 0, 1) := by decide +kernel
theorem d_Tokens_lettersOf_1 : decode prog_10_method_10_code 1 = .ok (.lstore_n 1, 1) := by decide +kernel
theorem d_Tokens_lettersOf_2 : decode prog_10_method_10_code 2 = .ok (.iconst 0, 1) := by decide +kernel
theorem d_Tokens_lettersOf_3 : decode prog_10_method_10_code 3 = .ok (.istore_n 3, 1) := by decide +kernel
theorem d_Tokens_lettersOf_4 : decode prog_10_method_10_code 4 = .ok (.iload_n 3, 1) := by decide +kernel
theorem d_Tokens_lettersOf_5 : decode prog_10_method_10_code 5 = .ok (.aload_n 0, 1) := by decide +kernel
theorem d_Tokens_lettersOf_6 : decode prog_10_method_10_code 6 = .ok (.invokevirtual 124, 3) := by decide +kernel
theorem ll_Tokens_124 : Cond.methodLink "PlainMusic$Tokens" 124 ⟨"java/lang/String", "length", "()I"⟩ ∈ gw := gwi_694
theorem d_Tokens_lettersOf_9 : decode prog_10_method_10_code 9 = .ok (.if_icmp .ge 21, 3) := by decide +kernel
theorem d_Tokens_lettersOf_12 : decode prog_10_method_10_code 12 = .ok (.lload_n 1, 1) := by decide +kernel
theorem d_Tokens_lettersOf_13 : decode prog_10_method_10_code 13 = .ok (.bipush 8, 2) := by decide +kernel
theorem d_Tokens_lettersOf_15 : decode prog_10_method_10_code 15 = .ok (.lshl, 1) := by decide +kernel
theorem d_Tokens_lettersOf_16 : decode prog_10_method_10_code 16 = .ok (.aload_n 0, 1) := by decide +kernel
theorem d_Tokens_lettersOf_17 : decode prog_10_method_10_code 17 = .ok (.iload_n 3, 1) := by decide +kernel
theorem d_Tokens_lettersOf_18 : decode prog_10_method_10_code 18 = .ok (.invokevirtual 127, 3) := by decide +kernel
theorem k_JString_charAt : mt_OK m_JString_charAt 1 1 := ⟨gwi_707, gwi_148, ⟨by decide +kernel, by decide +kernel, by decide +kernel⟩, fun h => absurd h (by decide), fun _ => ⟨gwi_705, gwi_706⟩, fun h => absurd h (by decide)⟩
theorem ll_Tokens_127 : Cond.methodLink "PlainMusic$Tokens" 127 ⟨"java/lang/String", "charAt", "(I)C"⟩ ∈ gw := gwi_704
theorem d_Tokens_lettersOf_21 : decode prog_10_method_10_code 21 = .ok (.i2l, 1) := by decide +kernel
theorem d_Tokens_lettersOf_22 : decode prog_10_method_10_code 22 = .ok (.lor, 1) := by decide +kernel
theorem d_Tokens_lettersOf_23 : decode prog_10_method_10_code 23 = .ok (.lstore_n 1, 1) := by decide +kernel
theorem d_Tokens_lettersOf_24 : decode prog_10_method_10_code 24 = .ok (.iinc 3 1, 3) := by decide +kernel
theorem d_Tokens_lettersOf_27 : decode prog_10_method_10_code 27 = .ok (.goto (-23), 3) := by decide +kernel
theorem d_Tokens_lettersOf_30 : decode prog_10_method_10_code 30 = .ok (.lload_n 1, 1) := by decide +kernel
theorem d_Tokens_lettersOf_31 : decode prog_10_method_10_code 31 = .ok (.lreturn, 1) := by decide +kernel
def m_Tokens_kindOfName : mr_T := (⟨"PlainMusic$Tokens", "kindOfName", "(J)I"⟩, prog_10_method_9_code, 2, some .int)
theorem d_Tokens_kindOfName_0 : decode prog_10_method_9_code 0 = .ok (.lload_n 0, 1) := by decide +kernel
theorem d_Tokens_kindOfName_1 : decode prog_10_method_9_code 1 = .ok (.ldc 108, 2) := by decide +kernel
theorem d_Tokens_kindOfName_3 : decode prog_10_method_9_code 3 = .ok (.invokestatic 110, 3) := by decide +kernel
theorem k_Tokens_lettersOf : mt_OK m_Tokens_lettersOf 1 0 := ⟨gwi_693, gwi_136, ⟨by decide +kernel, by decide +kernel, by decide +kernel⟩, fun _ => gwi_692, fun h => absurd h (by decide), fun h => absurd h (by decide)⟩
theorem l_Tokens_110 : ml_OK "PlainMusic$Tokens" 110 ⟨"PlainMusic$Tokens", "lettersOf", "(Ljava/lang/String;)J"⟩ := Or.inl gwi_691
theorem d_Tokens_kindOfName_6 : decode prog_10_method_9_code 6 = .ok (.lcmp, 1) := by decide +kernel
theorem d_Tokens_kindOfName_7 : decode prog_10_method_9_code 7 = .ok (.ifCond .ne 7, 3) := by decide +kernel
theorem d_Tokens_kindOfName_14 : decode prog_10_method_9_code 14 = .ok (.lload_n 0, 1) := by decide +kernel
theorem d_Tokens_kindOfName_15 : decode prog_10_method_9_code 15 = .ok (.ldc 114, 2) := by decide +kernel
theorem d_Tokens_kindOfName_17 : decode prog_10_method_9_code 17 = .ok (.invokestatic 110, 3) := by decide +kernel
theorem d_Tokens_kindOfName_20 : decode prog_10_method_9_code 20 = .ok (.lcmp, 1) := by decide +kernel
theorem d_Tokens_kindOfName_21 : decode prog_10_method_9_code 21 = .ok (.ifCond .ne 7, 3) := by decide +kernel
theorem d_Tokens_kindOfName_28 : decode prog_10_method_9_code 28 = .ok (.lload_n 0, 1) := by decide +kernel
theorem d_Tokens_kindOfName_29 : decode prog_10_method_9_code 29 = .ok (.ldc 116, 2) := by decide +kernel
theorem d_Tokens_kindOfName_31 : decode prog_10_method_9_code 31 = .ok (.invokestatic 110, 3) := by decide +kernel
theorem d_Tokens_kindOfName_34 : decode prog_10_method_9_code 34 = .ok (.lcmp, 1) := by decide +kernel
theorem d_Tokens_kindOfName_35 : decode prog_10_method_9_code 35 = .ok (.ifCond .ne 7, 3) := by decide +kernel
theorem d_Tokens_kindOfName_42 : decode prog_10_method_9_code 42 = .ok (.lload_n 0, 1) := by decide +kernel
theorem d_Tokens_kindOfName_43 : decode prog_10_method_9_code 43 = .ok (.ldc 118, 2) := by decide +kernel
theorem d_Tokens_kindOfName_45 : decode prog_10_method_9_code 45 = .ok (.invokestatic 110, 3) := by decide +kernel
theorem d_Tokens_kindOfName_48 : decode prog_10_method_9_code 48 = .ok (.lcmp, 1) := by decide +kernel
theorem d_Tokens_kindOfName_49 : decode prog_10_method_9_code 49 = .ok (.ifCond .ne 7, 3) := by decide +kernel
theorem d_Tokens_kindOfName_56 : decode prog_10_method_9_code 56 = .ok (.lload_n 0, 1) := by decide +kernel
theorem d_Tokens_kindOfName_57 : decode prog_10_method_9_code 57 = .ok (.ldc 120, 2) := by decide +kernel
theorem d_Tokens_kindOfName_59 : decode prog_10_method_9_code 59 = .ok (.invokestatic 110, 3) := by decide +kernel
theorem d_Tokens_kindOfName_62 : decode prog_10_method_9_code 62 = .ok (.lcmp, 1) := by decide +kernel
theorem d_Tokens_kindOfName_63 : decode prog_10_method_9_code 63 = .ok (.ifCond .ne 7, 3) := by decide +kernel
theorem d_Tokens_kindOfName_70 : decode prog_10_method_9_code 70 = .ok (.lload_n 0, 1) := by decide +kernel
theorem d_Tokens_kindOfName_71 : decode prog_10_method_9_code 71 = .ok (.ldc 122, 2) := by decide +kernel
theorem d_Tokens_kindOfName_73 : decode prog_10_method_9_code 73 = .ok (.invokestatic 110, 3) := by decide +kernel
theorem d_Tokens_kindOfName_76 : decode prog_10_method_9_code 76 = .ok (.lcmp, 1) := by decide +kernel
theorem d_Tokens_kindOfName_77 : decode prog_10_method_9_code 77 = .ok (.ifCond .ne 9, 3) := by decide +kernel
theorem d_Tokens_kindOfName_86 : decode prog_10_method_9_code 86 = .ok (.sipush 260, 3) := by decide +kernel
theorem d_Tokens_kindOfName_89 : decode prog_10_method_9_code 89 = .ok (.ireturn, 1) := by decide +kernel
theorem d_Tokens_kindOfName_80 : decode prog_10_method_9_code 80 = .ok (.sipush 266, 3) := by decide +kernel
theorem d_Tokens_kindOfName_83 : decode prog_10_method_9_code 83 = .ok (.goto 6, 3) := by decide +kernel
theorem d_Tokens_kindOfName_66 : decode prog_10_method_9_code 66 = .ok (.sipush 265, 3) := by decide +kernel
theorem d_Tokens_kindOfName_69 : decode prog_10_method_9_code 69 = .ok (.ireturn, 1) := by decide +kernel
theorem d_Tokens_kindOfName_52 : decode prog_10_method_9_code 52 = .ok (.sipush 264, 3) := by decide +kernel
theorem d_Tokens_kindOfName_55 : decode prog_10_method_9_code 55 = .ok (.ireturn, 1) := by decide +kernel
theorem d_Tokens_kindOfName_38 : decode prog_10_method_9_code 38 = .ok (.sipush 263, 3) := by decide +kernel
theorem d_Tokens_kindOfName_41 : decode prog_10_method_9_code 41 = .ok (.ireturn, 1) := by decide +kernel
theorem d_Tokens_kindOfName_24 : decode prog_10_method_9_code 24 = .ok (.sipush 262, 3) := by decide +kernel
theorem d_Tokens_kindOfName_27 : decode prog_10_method_9_code 27 = .ok (.ireturn, 1) := by decide +kernel
theorem d_Tokens_kindOfName_10 : decode prog_10_method_9_code 10 = .ok (.sipush 261, 3) := by decide +kernel
theorem d_Tokens_kindOfName_13 : decode prog_10_method_9_code 13 = .ok (.ireturn, 1) := by decide +kernel
def m_Tokens_cutName : mr_T := (⟨"PlainMusic$Tokens", "cutName", "()V"⟩, prog_10_method_8_code, 4, none)
theorem d_Tokens_cutName_0 : decode prog_10_method_8_code 0 = .ok (.aload_n 0, 1) := by decide +kernel
theorem d_Tokens_cutName_1 : decode prog_10_method_8_code 1 = .ok (.getfield 38, 3) := by decide +kernel
theorem d_Tokens_cutName_4 : decode prog_10_method_8_code 4 = .ok (.istore_n 1, 1) := by decide +kernel
theorem d_Tokens_cutName_5 : decode prog_10_method_8_code 5 = .ok (.lconst 0, 1) := by decide +kernel
theorem d_Tokens_cutName_6 : decode prog_10_method_8_code 6 = .ok (.lstore_n 2, 1) := by decide +kernel
theorem d_Tokens_cutName_7 : decode prog_10_method_8_code 7 = .ok (.aload_n 0, 1) := by decide +kernel
theorem d_Tokens_cutName_8 : decode prog_10_method_8_code 8 = .ok (.getfield 38, 3) := by decide +kernel
theorem d_Tokens_cutName_11 : decode prog_10_method_8_code 11 = .ok (.aload_n 0, 1) := by decide +kernel
theorem d_Tokens_cutName_12 : decode prog_10_method_8_code 12 = .ok (.getfield 34, 3) := by decide +kernel
theorem d_Tokens_cutName_15 : decode prog_10_method_8_code 15 = .ok (.if_icmp .ge 45, 3) := by decide +kernel
theorem d_Tokens_cutName_60 : decode prog_10_method_8_code 60 = .ok (.aload_n 0, 1) := by decide +kernel
theorem d_Tokens_cutName_61 : decode prog_10_method_8_code 61 = .ok (.lload_n 2, 1) := by decide +kernel
theorem d_Tokens_cutName_62 : decode prog_10_method_8_code 62 = .ok (.putfield 60, 3) := by decide +kernel
theorem d_Tokens_cutName_65 : decode prog_10_method_8_code 65 = .ok (.aload_n 0, 1) := by decide +kernel
theorem d_Tokens_cutName_66 : decode prog_10_method_8_code 66 = .ok (.aload_n 0, 1) := by decide +kernel
theorem d_Tokens_cutName_67 : decode prog_10_method_8_code 67 = .ok (.getfield 38, 3) := by decide +kernel
theorem d_Tokens_cutName_70 : decode prog_10_method_8_code 70 = .ok (.iload_n 1, 1) := by decide +kernel
theorem d_Tokens_cutName_71 : decode prog_10_method_8_code 71 = .ok (.isub, 1) := by decide +kernel
theorem d_Tokens_cutName_72 : decode prog_10_method_8_code 72 = .ok (.bipush 8, 2) := by decide +kernel
theorem d_Tokens_cutName_74 : decode prog_10_method_8_code 74 = .ok (.if_icmp .le 9, 3) := by decide +kernel
theorem d_Tokens_cutName_83 : decode prog_10_method_8_code 83 = .ok (.lload_n 2, 1) := by decide +kernel
theorem d_Tokens_cutName_84 : decode prog_10_method_8_code 84 = .ok (.invokestatic 104, 3) := by decide +kernel
theorem k_Tokens_kindOfName : mt_OK m_Tokens_kindOfName 1 0 := ⟨gwi_689, gwi_136, ⟨by decide +kernel, by decide +kernel, by decide +kernel⟩, fun _ => gwi_688, fun h => absurd h (by decide), fun h => absurd h (by decide)⟩
theorem l_Tokens_104 : ml_OK "PlainMusic$Tokens" 104 ⟨"PlainMusic$Tokens", "kindOfName", "(J)I"⟩ := Or.inl gwi_687
theorem d_Tokens_cutName_87 : decode prog_10_method_8_code 87 = .ok (.putfield 54, 3) := by decide +kernel
theorem d_Tokens_cutName_90 : decode prog_10_method_8_code 90 = .ok (.return_, 1) := by decide +kernel
theorem d_Tokens_cutName_77 : decode prog_10_method_8_code 77 = .ok (.sipush 257, 3) := by decide +kernel
theorem d_Tokens_cutName_80 : decode prog_10_method_8_code 80 = .ok (.goto 7, 3) := by decide +kernel
theorem d_Tokens_cutName_18 : decode prog_10_method_8_code 18 = .ok (.aload_n 0, 1) := by decide +kernel
theorem d_Tokens_cutName_19 : decode prog_10_method_8_code 19 = .ok (.aload_n 0, 1) := by decide +kernel
theorem d_Tokens_cutName_20 : decode prog_10_method_8_code 20 = .ok (.getfield 38, 3) := by decide +kernel
theorem d_Tokens_cutName_23 : decode prog_10_method_8_code 23 = .ok (.invokevirtual 70, 3) := by decide +kernel
theorem d_Tokens_cutName_26 : decode prog_10_method_8_code 26 = .ok (.invokestatic 78, 3) := by decide +kernel
theorem k_Tokens_isSmall : mt_OK m_Tokens_isSmall 1 0 := ⟨gwi_682, gwi_136, ⟨by decide +kernel, by decide +kernel, by decide +kernel⟩, fun _ => gwi_681, fun h => absurd h (by decide), fun h => absurd h (by decide)⟩
theorem l_Tokens_78 : ml_OK "PlainMusic$Tokens" 78 ⟨"PlainMusic$Tokens", "isSmall", "(I)Z"⟩ := Or.inl gwi_680
theorem d_Tokens_cutName_29 : decode prog_10_method_8_code 29 = .ok (.ifCond .eq 31, 3) := by decide +kernel
theorem d_Tokens_cutName_32 : decode prog_10_method_8_code 32 = .ok (.lload_n 2, 1) := by decide +kernel
theorem d_Tokens_cutName_33 : decode prog_10_method_8_code 33 = .ok (.bipush 8, 2) := by decide +kernel
theorem d_Tokens_cutName_35 : decode prog_10_method_8_code 35 = .ok (.lshl, 1) := by decide +kernel
theorem d_Tokens_cutName_36 : decode prog_10_method_8_code 36 = .ok (.aload_n 0, 1) := by decide +kernel
theorem d_Tokens_cutName_37 : decode prog_10_method_8_code 37 = .ok (.aload_n 0, 1) := by decide +kernel
theorem d_Tokens_cutName_38 : decode prog_10_method_8_code 38 = .ok (.getfield 38, 3) := by decide +kernel
theorem d_Tokens_cutName_41 : decode prog_10_method_8_code 41 = .ok (.invokevirtual 70, 3) := by decide +kernel
theorem d_Tokens_cutName_44 : decode prog_10_method_8_code 44 = .ok (.i2l, 1) := by decide +kernel
theorem d_Tokens_cutName_45 : decode prog_10_method_8_code 45 = .ok (.lor, 1) := by decide +kernel
theorem d_Tokens_cutName_46 : decode prog_10_method_8_code 46 = .ok (.lstore_n 2, 1) := by decide +kernel
theorem d_Tokens_cutName_47 : decode prog_10_method_8_code 47 = .ok (.aload_n 0, 1) := by decide +kernel
theorem d_Tokens_cutName_48 : decode prog_10_method_8_code 48 = .ok (.dup, 1) := by decide +kernel
theorem d_Tokens_cutName_49 : decode prog_10_method_8_code 49 = .ok (.getfield 38, 3) := by decide +kernel
theorem d_Tokens_cutName_52 : decode prog_10_method_8_code 52 = .ok (.iconst 1, 1) := by decide +kernel
theorem d_Tokens_cutName_53 : decode prog_10_method_8_code 53 = .ok (.iadd, 1) := by decide +kernel
theorem d_Tokens_cutName_54 : decode prog_10_method_8_code 54 = .ok (.putfield 38, 3) := by decide +kernel
theorem d_Tokens_cutName_57 : decode prog_10_method_8_code 57 = .ok (.goto (-50), 3) := by decide +kernel
theorem s_Tokens_isSmall {G : cx_T} {h : ah_T} {a0 : Int}  : con G 0 0 0 m_Tokens_isSmall [av_I a0] h (fun r h' => ∃ z, r = some (av_I z) ∧ (z = 0 ∨ z = 1) ∧ ((z = 1 → 97 ≤ a0)) ∧ h = h') := by
  refine con_of (L := [some (av_I a0)]) (by decide +kernel) (Nat.le_of_ble_eq_true rfl) rfl ?_
  refine A_locI 0 rfl (fun ra => ?_)
  obtain ⟨_, _⟩ := ra
  refine A_iload_n 0 d_Tokens_isSmall_0 rfl rfl ?_
  refine A_bipush d_Tokens_isSmall_1 rfl ?_
  refine A_icmp_lt (tgt := 16) d_Tokens_isSmall_3 (by decide) (fun c1 => ?_) (fun c1 => ?_)
  · refine A_iconst d_Tokens_isSmall_16 rfl ?_
    exact A_zret d_Tokens_isSmall_17 (by decide) rfl (by omega) ⟨_, rfl, by omega, fun _ => by omega, rfl⟩
  · refine A_iload_n 0 d_Tokens_isSmall_6 rfl rfl ?_
    refine A_bipush d_Tokens_isSmall_7 rfl ?_
    refine A_icmp_gt (tgt := 16) d_Tokens_isSmall_9 (by decide) (fun c2 => ?_) (fun c2 => ?_)
    · refine A_iconst d_Tokens_isSmall_16 rfl ?_
      exact A_zret d_Tokens_isSmall_17 (by decide) rfl (by omega) ⟨_, rfl, by omega, fun _ => by omega, rfl⟩
    · refine A_iconst d_Tokens_isSmall_12 rfl ?_
      refine A_goto (tgt := 17) d_Tokens_isSmall_13 (by decide) ?_
      exact A_zret d_Tokens_isSmall_17 (by decide) rfl (by omega) ⟨_, rfl, by omega, fun _ => by omega, rfl⟩
theorem s_Tokens_isDigit {G : cx_T} {h : ah_T} {a0 : Int}  : con G 0 0 0 m_Tokens_isDigit [av_I a0] h (fun r h' => ∃ z, r = some (av_I z) ∧ (z = 0 ∨ z = 1) ∧ ((z = 1 → 48 ≤ a0)) ∧ h = h') := by
  refine con_of (L := [some (av_I a0)]) (by decide +kernel) (Nat.le_of_ble_eq_true rfl) rfl ?_
  refine A_locI 0 rfl (fun ra => ?_)
  obtain ⟨_, _⟩ := ra
  refine A_iload_n 0 d_Tokens_isDigit_0 rfl rfl ?_
  refine A_bipush d_Tokens_isDigit_1 rfl ?_
  refine A_icmp_lt (tgt := 16) d_Tokens_isDigit_3 (by decide) (fun c1 => ?_) (fun c1 => ?_)
  · refine A_iconst d_Tokens_isDigit_16 rfl ?_
    exact A_zret d_Tokens_isDigit_17 (by decide) rfl (by omega) ⟨_, rfl, by omega, fun _ => by omega, rfl⟩
  · refine A_iload_n 0 d_Tokens_isDigit_6 rfl rfl ?_
    refine A_bipush d_Tokens_isDigit_7 rfl ?_
    refine A_icmp_gt (tgt := 16) d_Tokens_isDigit_9 (by decide) (fun c2 => ?_) (fun c2 => ?_)
    · refine A_iconst d_Tokens_isDigit_16 rfl ?_
      exact A_zret d_Tokens_isDigit_17 (by decide) rfl (by omega) ⟨_, rfl, by omega, fun _ => by omega, rfl⟩
    · refine A_iconst d_Tokens_isDigit_12 rfl ?_
      refine A_goto (tgt := 17) d_Tokens_isDigit_13 (by decide) ?_
      exact A_zret d_Tokens_isDigit_17 (by decide) rfl (by omega) ⟨_, rfl, by omega, fun _ => by omega, rfl⟩
theorem s_Tokens_byteAt {G : cx_T} {s : Nat} {h : ah_T} (hx : xi s h) {a1 : Int}  : con G 0 0 0 m_Tokens_byteAt [av_R (some 3), av_I a1] h (fun r h' => ∃ z, r = some (av_I z) ∧ ((-1) ≤ z ∧ z ≤ 255) ∧ ((0 ≤ z → 0 ≤ a1 ∧ a1 ≤ 1999)) ∧ h = h') := by
  refine con_of (L := [some (av_R (some 3)), some (av_I a1)]) (by decide +kernel) (Nat.le_of_ble_eq_true rfl) rfl ?_
  have hS : isS s := hx.2.1
  have hs0 : s = 17 ∨ s = 80 := hS
  have hs0b : 17 ≤ s ∧ s ≤ 80 := by omega
  refine A_locI 1 rfl (fun ra => ?_)
  obtain ⟨_, _⟩ := ra
  refine A_iload_n 1 d_Tokens_byteAt_0 rfl rfl ?_
  refine A_if_lt (tgt := 30) d_Tokens_byteAt_1 (by decide) (fun c1 => ?_) (fun c1 => ?_)
  · refine A_iconst d_Tokens_byteAt_30 rfl ?_
    exact A_iret d_Tokens_byteAt_31 (by decide) rfl ⟨_, rfl, ⟨by omega, by omega⟩, fun _ => by omega, rfl⟩
  · refine A_iload_n 1 d_Tokens_byteAt_4 rfl rfl ?_
    refine A_aload_n 0 d_Tokens_byteAt_5 rfl rfl ?_
    refine A_getIn (lo := 0) (hi := 2000) T_ok d_Tokens_byteAt_6 f_Tokens_34 (xi_s hx sf_3) (xi_g hx (by decide) rgf_3_7) (fun x2 ex2 _ _ => ?_)
    refine A_icmp_ge (tgt := 30) d_Tokens_byteAt_9 (by decide) (fun c3 => ?_) (fun c3 => ?_)
    · refine A_iconst d_Tokens_byteAt_30 rfl ?_
      exact A_iret d_Tokens_byteAt_31 (by decide) rfl ⟨_, rfl, ⟨by omega, by omega⟩, fun _ => by omega, rfl⟩
    · refine A_iload_n 1 d_Tokens_byteAt_12 rfl rfl ?_
      refine A_aload_n 0 d_Tokens_byteAt_13 rfl rfl ?_
      rcases hx.2.2.2.2.1 with ht5 | ht5
      · refine A_getAv (z := some 8) T_ok d_Tokens_byteAt_14 f_Tokens_25 (xi_s hx sf_3) ht5 ?_
        refine A_alenN d_Tokens_byteAt_17 (xi_s hx sf_8) (by decide) (by decide) ?_
        refine A_icmp_ge (tgt := 30) d_Tokens_byteAt_18 (by decide) (fun c6 => ?_) (fun c => False.elim (by omega))
        refine A_iconst d_Tokens_byteAt_30 rfl ?_
        exact A_iret d_Tokens_byteAt_31 (by decide) rfl ⟨_, rfl, ⟨by omega, by omega⟩, fun _ => by omega, rfl⟩
      · refine A_getAv (z := some 1) T_ok d_Tokens_byteAt_14 f_Tokens_25 (xi_s hx sf_3) ht5 ?_
        refine A_alenN d_Tokens_byteAt_17 (xi_s hx sf_1) (by decide) (by decide) ?_
        refine A_icmp_ge (tgt := 30) d_Tokens_byteAt_18 (by decide) (fun c => False.elim (by omega)) (fun c7 => ?_)
        refine A_aload_n 0 d_Tokens_byteAt_21 rfl rfl ?_
        refine A_getAv (z := some 1) T_ok d_Tokens_byteAt_22 f_Tokens_25 (xi_s hx sf_3) ht5 ?_
        refine A_iload_n 1 d_Tokens_byteAt_25 rfl rfl ?_
        refine A_ialoadn (lo := 0) (hi := 255) d_Tokens_byteAt_26 (xi_s hx sf_1) (by omega) (by omega) (xi_g hx (by decide) (rgf_1 _)) (fun x9 ex9 _ _ => ?_)
        refine A_goto (tgt := 31) d_Tokens_byteAt_27 (by decide) ?_
        exact A_iret d_Tokens_byteAt_31 (by decide) rfl ⟨_, rfl, ⟨by omega, by omega⟩, fun _ => by omega, rfl⟩
theorem s_Tokens_skipBlanks {G : cx_T} {s : Nat} {h : ah_T} (hx : xi s h)   : con G 1 0 0 m_Tokens_skipBlanks [av_R (some 3)] h (fun r h' => r = none ∧ kF FA s h h') := by
  refine con_of (L := [some (av_R (some 3)), none, none]) (by decide +kernel) (Nat.le_of_ble_eq_true rfl) rfl ?_
  have hS : isS s := hx.2.1
  have hs0 : s = 17 ∨ s = 80 := hS
  have hs0b : 17 ≤ s ∧ s ≤ 80 := by omega
  have k0 : kF FA s h h := kF_0 hx
  refine A_iconst d_Tokens_skipBlanks_0 rfl ?_
  refine A_istore_n 1 (L' := [some (av_R (some 3)), some (av_I 0), none]) d_Tokens_skipBlanks_1 rfl (Nat.le_of_ble_eq_true rfl) rfl ?_
  have lp2 : ∀ (n : Nat) (i1 : Int) (h2 : ah_T) , 0 ≤ i1 → i1 ≤ 1 → kF FA s h h2 → (2001 - h2.2.1 3 8).toNat < n → aw G (rm_R 1 0 0) m_Tokens_skipBlanks 0 0 2 [some (av_R (some 3)), some (av_I i1), none] [] h2 (fun r h' => r = none ∧ kF FA s h h') := by
    intro n
    induction n with
    | zero => intro i1 h2 _ _ _ hm; omega
    | succ n ih2 =>
      intro i1 h2 hl0 hl1 k3 hm
      refine A_aload_n 0 d_Tokens_skipBlanks_2 rfl rfl ?_
      refine A_getIn (lo := 0) (hi := 2000) T_ok d_Tokens_skipBlanks_3 f_Tokens_38 (xi_s k3.1 sf_3) (xi_g k3.1 (by decide) rgf_3_8) (fun x4 ex4 _ _ => ?_)
      refine A_aload_n 0 d_Tokens_skipBlanks_6 rfl rfl ?_
      refine A_getIn (lo := 0) (hi := 2000) T_ok d_Tokens_skipBlanks_7 f_Tokens_34 (xi_s k3.1 sf_3) (xi_g k3.1 (by decide) rgf_3_7) (fun x5 ex5 _ _ => ?_)
      refine A_icmp_ge (tgt := 80) d_Tokens_skipBlanks_10 (by decide) (fun c6 => ?_) (fun c6 => ?_)
      · exact A_vret d_Tokens_skipBlanks_80 (by decide) rfl ⟨rfl, k3⟩
      · refine A_aload_n 0 d_Tokens_skipBlanks_13 rfl rfl ?_
        refine A_aload_n 0 d_Tokens_skipBlanks_14 rfl rfl ?_
        refine A_getIv (z := x4) T_ok d_Tokens_skipBlanks_15 f_Tokens_38 (xi_s k3.1 sf_3) ex4.symm ?_
        refine A_callV1 m_Tokens_byteAt T_ok d_Tokens_skipBlanks_18 l_Tokens_70 k_Tokens_byteAt (xi_s k3.1 sf_3) rfl (by decide +kernel) (by decide) (Nat.le_of_ble_eq_true rfl) (s_Tokens_byteAt k3.1 ) (fun r h8 hq => ?_)
        obtain ⟨x10, rfl, ⟨_, _⟩, xx10, rfl⟩ := hq
        refine A_istore_n 2 (L' := [some (av_R (some 3)), some (av_I i1), some (av_I x10)]) d_Tokens_skipBlanks_21 rfl (Nat.le_of_ble_eq_true rfl) rfl ?_
        refine A_iload_n 2 d_Tokens_skipBlanks_22 rfl rfl ?_
        refine A_bipush d_Tokens_skipBlanks_23 rfl ?_
        refine A_icmp_ne (tgt := 33) d_Tokens_skipBlanks_25 (by decide) (fun c11 => ?_) (fun c11 => ?_)
        · refine A_iload_n 2 d_Tokens_skipBlanks_33 rfl rfl ?_
          refine A_bipush d_Tokens_skipBlanks_34 rfl ?_
          refine A_icmp_ne (tgt := 44) d_Tokens_skipBlanks_36 (by decide) (fun c12 => ?_) (fun c12 => ?_)
          · refine A_iload_n 1 d_Tokens_skipBlanks_44 rfl rfl ?_
            refine A_if_ne (tgt := 67) d_Tokens_skipBlanks_45 (by decide) (fun c13 => ?_) (fun c13 => ?_)
            · refine A_aload_n 0 d_Tokens_skipBlanks_67 rfl rfl ?_
              refine A_dupR d_Tokens_skipBlanks_68 ?_
              refine A_getIv (z := x4) T_ok d_Tokens_skipBlanks_69 f_Tokens_38 (xi_s k3.1 sf_3) ex4.symm ?_
              refine A_iconst d_Tokens_skipBlanks_72 rfl ?_
              refine A_iaddv (z := (x4 + 1)) d_Tokens_skipBlanks_73 (w32_to (by omega) (by unfold i32; omega)) ?_
              refine A_pc (pc' := 74) rfl ?_
              refine A_putIk (KR := kF FA s h) T_ok d_Tokens_skipBlanks_74 f_Tokens_38 (xi_s k3.1 sf_3) fin_f (kF_j k3 (by decide) (ns_b rfl) rgf_3_8 (by omega) (by omega)) (fun h15 k16 eh15 => ?_)
              refine A_goto (tgt := 2) d_Tokens_skipBlanks_77 (by decide) ?_
              refine A_free (L' := [some (av_R (some 3)), some (av_I i1), none]) (And.intro rfl (And.intro rfl trivial)) ?_
              exact ih2 i1 h15 (by omega) (by omega) k16 (by omega)
            · refine A_iload_n 2 d_Tokens_skipBlanks_48 rfl rfl ?_
              refine A_bipush d_Tokens_skipBlanks_49 rfl ?_
              refine A_icmp_eq (tgt := 67) d_Tokens_skipBlanks_51 (by decide) (fun c17 => ?_) (fun c17 => ?_)
              · refine A_aload_n 0 d_Tokens_skipBlanks_67 rfl rfl ?_
                refine A_dupR d_Tokens_skipBlanks_68 ?_
                refine A_getIv (z := x4) T_ok d_Tokens_skipBlanks_69 f_Tokens_38 (xi_s k3.1 sf_3) ex4.symm ?_
                refine A_iconst d_Tokens_skipBlanks_72 rfl ?_
                refine A_iaddv (z := (x4 + 1)) d_Tokens_skipBlanks_73 (w32_to (by omega) (by unfold i32; omega)) ?_
                refine A_pc (pc' := 74) rfl ?_
                refine A_putIk (KR := kF FA s h) T_ok d_Tokens_skipBlanks_74 f_Tokens_38 (xi_s k3.1 sf_3) fin_f (kF_j k3 (by decide) (ns_b rfl) rgf_3_8 (by omega) (by omega)) (fun h19 k20 eh19 => ?_)
                refine A_goto (tgt := 2) d_Tokens_skipBlanks_77 (by decide) ?_
                refine A_free (L' := [some (av_R (some 3)), some (av_I i1), none]) (And.intro rfl (And.intro rfl trivial)) ?_
                exact ih2 i1 h19 (by omega) (by omega) k20 (by omega)
              · refine A_iload_n 2 d_Tokens_skipBlanks_54 rfl rfl ?_
                refine A_bipush d_Tokens_skipBlanks_55 rfl ?_
                refine A_icmp_eq (tgt := 67) d_Tokens_skipBlanks_57 (by decide) (fun c21 => ?_) (fun c21 => ?_)
                · refine A_aload_n 0 d_Tokens_skipBlanks_67 rfl rfl ?_
                  refine A_dupR d_Tokens_skipBlanks_68 ?_
                  refine A_getIv (z := x4) T_ok d_Tokens_skipBlanks_69 f_Tokens_38 (xi_s k3.1 sf_3) ex4.symm ?_
                  refine A_iconst d_Tokens_skipBlanks_72 rfl ?_
                  refine A_iaddv (z := (x4 + 1)) d_Tokens_skipBlanks_73 (w32_to (by omega) (by unfold i32; omega)) ?_
                  refine A_pc (pc' := 74) rfl ?_
                  refine A_putIk (KR := kF FA s h) T_ok d_Tokens_skipBlanks_74 f_Tokens_38 (xi_s k3.1 sf_3) fin_f (kF_j k3 (by decide) (ns_b rfl) rgf_3_8 (by omega) (by omega)) (fun h23 k24 eh23 => ?_)
                  refine A_goto (tgt := 2) d_Tokens_skipBlanks_77 (by decide) ?_
                  refine A_free (L' := [some (av_R (some 3)), some (av_I i1), none]) (And.intro rfl (And.intro rfl trivial)) ?_
                  exact ih2 i1 h23 (by omega) (by omega) k24 (by omega)
                · refine A_iload_n 2 d_Tokens_skipBlanks_60 rfl rfl ?_
                  refine A_bipush d_Tokens_skipBlanks_61 rfl ?_
                  refine A_icmp_eq (tgt := 67) d_Tokens_skipBlanks_63 (by decide) (fun c25 => ?_) (fun c25 => ?_)
                  · refine A_aload_n 0 d_Tokens_skipBlanks_67 rfl rfl ?_
                    refine A_dupR d_Tokens_skipBlanks_68 ?_
                    refine A_getIv (z := x4) T_ok d_Tokens_skipBlanks_69 f_Tokens_38 (xi_s k3.1 sf_3) ex4.symm ?_
                    refine A_iconst d_Tokens_skipBlanks_72 rfl ?_
                    refine A_iaddv (z := (x4 + 1)) d_Tokens_skipBlanks_73 (w32_to (by omega) (by unfold i32; omega)) ?_
                    refine A_pc (pc' := 74) rfl ?_
                    refine A_putIk (KR := kF FA s h) T_ok d_Tokens_skipBlanks_74 f_Tokens_38 (xi_s k3.1 sf_3) fin_f (kF_j k3 (by decide) (ns_b rfl) rgf_3_8 (by omega) (by omega)) (fun h27 k28 eh27 => ?_)
                    refine A_goto (tgt := 2) d_Tokens_skipBlanks_77 (by decide) ?_
                    refine A_free (L' := [some (av_R (some 3)), some (av_I i1), none]) (And.intro rfl (And.intro rfl trivial)) ?_
                    exact ih2 i1 h27 (by omega) (by omega) k28 (by omega)
                  · exact A_vret d_Tokens_skipBlanks_66 (by decide) rfl ⟨rfl, k3⟩
          · refine A_iconst d_Tokens_skipBlanks_39 rfl ?_
            refine A_istore_n 1 (L' := [some (av_R (some 3)), some (av_I 1), some (av_I x10)]) d_Tokens_skipBlanks_40 rfl (Nat.le_of_ble_eq_true rfl) rfl ?_
            refine A_goto (tgt := 67) d_Tokens_skipBlanks_41 (by decide) ?_
            refine A_aload_n 0 d_Tokens_skipBlanks_67 rfl rfl ?_
            refine A_dupR d_Tokens_skipBlanks_68 ?_
            refine A_getIv (z := x4) T_ok d_Tokens_skipBlanks_69 f_Tokens_38 (xi_s k3.1 sf_3) ex4.symm ?_
            refine A_iconst d_Tokens_skipBlanks_72 rfl ?_
            refine A_iaddv (z := (x4 + 1)) d_Tokens_skipBlanks_73 (w32_to (by omega) (by unfold i32; omega)) ?_
            refine A_pc (pc' := 74) rfl ?_
            refine A_putIk (KR := kF FA s h) T_ok d_Tokens_skipBlanks_74 f_Tokens_38 (xi_s k3.1 sf_3) fin_f (kF_j k3 (by decide) (ns_b rfl) rgf_3_8 (by omega) (by omega)) (fun h30 k31 eh30 => ?_)
            refine A_goto (tgt := 2) d_Tokens_skipBlanks_77 (by decide) ?_
            refine A_free (L' := [some (av_R (some 3)), some (av_I 1), none]) (And.intro rfl (And.intro rfl trivial)) ?_
            exact ih2 1 h30 (by omega) (by omega) k31 (by omega)
        · refine A_iconst d_Tokens_skipBlanks_28 rfl ?_
          refine A_istore_n 1 (L' := [some (av_R (some 3)), some (av_I 0), some (av_I x10)]) d_Tokens_skipBlanks_29 rfl (Nat.le_of_ble_eq_true rfl) rfl ?_
          refine A_goto (tgt := 67) d_Tokens_skipBlanks_30 (by decide) ?_
          refine A_aload_n 0 d_Tokens_skipBlanks_67 rfl rfl ?_
          refine A_dupR d_Tokens_skipBlanks_68 ?_
          refine A_getIv (z := x4) T_ok d_Tokens_skipBlanks_69 f_Tokens_38 (xi_s k3.1 sf_3) ex4.symm ?_
          refine A_iconst d_Tokens_skipBlanks_72 rfl ?_
          refine A_iaddv (z := (x4 + 1)) d_Tokens_skipBlanks_73 (w32_to (by omega) (by unfold i32; omega)) ?_
          refine A_pc (pc' := 74) rfl ?_
          refine A_putIk (KR := kF FA s h) T_ok d_Tokens_skipBlanks_74 f_Tokens_38 (xi_s k3.1 sf_3) fin_f (kF_j k3 (by decide) (ns_b rfl) rgf_3_8 (by omega) (by omega)) (fun h33 k34 eh33 => ?_)
          refine A_goto (tgt := 2) d_Tokens_skipBlanks_77 (by decide) ?_
          refine A_free (L' := [some (av_R (some 3)), some (av_I 0), none]) (And.intro rfl (And.intro rfl trivial)) ?_
          exact ih2 0 h33 (by omega) (by omega) k34 (by omega)
  exact lp2 _ 0 h (by omega) (by omega) k0 (Nat.lt_succ_self _)
theorem s_Tokens_cutPitch {G : cx_T} {s : Nat} {h : ah_T} (hx : xi s h) {a1 : Int} (la1 : 65 ≤ a1) (ua1 : a1 ≤ 71) : con G 1 0 0 m_Tokens_cutPitch [av_R (some 3), av_I a1] h (fun r h' => r = none ∧ kF FA s h h') := by
  refine con_of (L := [some (av_R (some 3)), some (av_I a1), none, none, none, none, none]) (by decide +kernel) (Nat.le_of_ble_eq_true rfl) rfl ?_
  have hS : isS s := hx.2.1
  have hs0 : s = 17 ∨ s = 80 := hS
  have hs0b : 17 ≤ s ∧ s ≤ 80 := by omega
  have k0 : kF FA s h h := kF_0 hx
  refine A_aload_n 0 d_Tokens_cutPitch_0 rfl rfl ?_
  refine A_getIn (lo := 0) (hi := 2000) T_ok d_Tokens_cutPitch_1 f_Tokens_38 (xi_s k0.1 sf_3) (xi_g k0.1 (by decide) rgf_3_8) (fun x1 ex1 _ _ => ?_)
  refine A_iconst d_Tokens_cutPitch_4 rfl ?_
  refine A_iaddv (z := (x1 + 1)) d_Tokens_cutPitch_5 (w32_to (by omega) (by unfold i32; omega)) ?_
  refine A_istore_n 2 (L' := [some (av_R (some 3)), some (av_I a1), some (av_I (x1 + 1)), none, none, none, none]) d_Tokens_cutPitch_6 rfl (Nat.le_of_ble_eq_true rfl) rfl ?_
  refine A_pc (pc' := 7) rfl ?_
  refine A_iconst d_Tokens_cutPitch_7 rfl ?_
  refine A_istore_n 3 (L' := [some (av_R (some 3)), some (av_I a1), some (av_I (x1 + 1)), some (av_I 0), none, none, none]) d_Tokens_cutPitch_8 rfl (Nat.le_of_ble_eq_true rfl) rfl ?_
  refine A_aload_n 0 d_Tokens_cutPitch_9 rfl rfl ?_
  refine A_iload_n 2 d_Tokens_cutPitch_10 rfl rfl ?_
  refine A_callV1 m_Tokens_byteAt T_ok d_Tokens_cutPitch_11 l_Tokens_70 k_Tokens_byteAt (xi_s k0.1 sf_3) rfl (by decide +kernel) (by decide) (Nat.le_of_ble_eq_true rfl) (s_Tokens_byteAt k0.1 ) (fun r h2 hq => ?_)
  obtain ⟨x4, rfl, ⟨_, _⟩, xx4, rfl⟩ := hq
  refine A_istore (L' := [some (av_R (some 3)), some (av_I a1), some (av_I (x1 + 1)), some (av_I 0), some (av_I x4), none, none]) d_Tokens_cutPitch_14 (Nat.le_of_ble_eq_true rfl) rfl ?_
  refine A_iload d_Tokens_cutPitch_16 rfl ?_
  refine A_bipush d_Tokens_cutPitch_18 rfl ?_
  refine A_icmp_eq (tgt := 30) d_Tokens_cutPitch_20 (by decide) (fun c5 => ?_) (fun c5 => ?_)
  · refine A_aload_n 0 d_Tokens_cutPitch_30 rfl rfl ?_
    refine A_iload_n 2 d_Tokens_cutPitch_31 rfl rfl ?_
    refine A_iconst d_Tokens_cutPitch_32 rfl ?_
    refine A_iaddv (z := (x1 + 2)) d_Tokens_cutPitch_33 (w32_to (by omega) (by unfold i32; omega)) ?_
    refine A_callV1 m_Tokens_byteAt T_ok d_Tokens_cutPitch_34 l_Tokens_70 k_Tokens_byteAt (xi_s k0.1 sf_3) rfl (by decide +kernel) (by decide) (Nat.le_of_ble_eq_true rfl) (s_Tokens_byteAt k0.1 ) (fun r h6 hq => ?_)
    obtain ⟨x8, rfl, ⟨_, _⟩, xx8, rfl⟩ := hq
    refine A_iload d_Tokens_cutPitch_37 rfl ?_
    refine A_icmp_ne (tgt := 46) d_Tokens_cutPitch_39 (by decide) (fun c9 => ?_) (fun c9 => ?_)
    · refine A_iconst d_Tokens_cutPitch_46 rfl ?_
      refine A_istore_n 3 (L' := [some (av_R (some 3)), some (av_I a1), some (av_I (x1 + 1)), some (av_I 1), some (av_I x4), none, none]) d_Tokens_cutPitch_47 rfl (Nat.le_of_ble_eq_true rfl) rfl ?_
      refine A_iload_n 2 d_Tokens_cutPitch_48 rfl rfl ?_
      refine A_iload_n 3 d_Tokens_cutPitch_49 rfl rfl ?_
      refine A_iaddv (z := (x1 + 2)) d_Tokens_cutPitch_50 (w32_to (by omega) (by unfold i32; omega)) ?_
      refine A_pc (pc' := 51) rfl ?_
      refine A_istore_n 2 (L' := [some (av_R (some 3)), some (av_I a1), some (av_I (x1 + 2)), some (av_I 1), some (av_I x4), none, none]) d_Tokens_cutPitch_51 rfl (Nat.le_of_ble_eq_true rfl) rfl ?_
      refine A_aload_n 0 d_Tokens_cutPitch_52 rfl rfl ?_
      refine A_iload_n 2 d_Tokens_cutPitch_53 rfl rfl ?_
      refine A_callV1 m_Tokens_byteAt T_ok d_Tokens_cutPitch_54 l_Tokens_70 k_Tokens_byteAt (xi_s k0.1 sf_3) rfl (by decide +kernel) (by decide) (Nat.le_of_ble_eq_true rfl) (s_Tokens_byteAt k0.1 ) (fun r h10 hq => ?_)
      obtain ⟨x12, rfl, ⟨_, _⟩, xx12, rfl⟩ := hq
      refine A_bipush d_Tokens_cutPitch_57 rfl ?_
      refine A_isubv (z := (x12 - 48)) d_Tokens_cutPitch_59 (w32_to (by omega) (by unfold i32; omega)) ?_
      refine A_istore (L' := [some (av_R (some 3)), some (av_I a1), some (av_I (x1 + 2)), some (av_I 1), some (av_I x4), some (av_I (x12 - 48)), none]) d_Tokens_cutPitch_60 (Nat.le_of_ble_eq_true rfl) rfl ?_
      refine A_iload d_Tokens_cutPitch_62 rfl ?_
      refine A_if_lt (tgt := 74) d_Tokens_cutPitch_64 (by decide) (fun c13 => ?_) (fun c13 => ?_)
      · refine A_aload_n 0 d_Tokens_cutPitch_74 rfl rfl ?_
        refine A_sipush d_Tokens_cutPitch_75 rfl ?_
        refine A_putIk (KR := kF FA s h) T_ok d_Tokens_cutPitch_78 f_Tokens_54 (xi_s k0.1 sf_3) fin_f (kF_j k0 (by decide) (ns_b rfl) rgf_3_9 (by omega) (by omega)) (fun h14 k15 eh14 => ?_)
        exact A_vret d_Tokens_cutPitch_81 (by decide) rfl ⟨rfl, k15⟩
      · refine A_iload d_Tokens_cutPitch_67 rfl ?_
        refine A_bipush d_Tokens_cutPitch_69 rfl ?_
        refine A_icmp_le (tgt := 82) d_Tokens_cutPitch_71 (by decide) (fun c16 => ?_) (fun c16 => ?_)
        · refine A_iload_n 1 d_Tokens_cutPitch_82 rfl rfl ?_
          refine A_bipush d_Tokens_cutPitch_83 rfl ?_
          refine A_isubv (z := (a1 - 67)) d_Tokens_cutPitch_85 (w32_to (by omega) (by unfold i32; omega)) ?_
          refine A_getsA (q := ("NATURALS", 1, [0, 2, 4, 5, 7, 9, 11])) (by decide) gs_Tokens_98 d_Tokens_cutPitch_86 ?_
          refine A_alenT (q := ("NATURALS", 1, [0, 2, 4, 5, 7, 9, 11])) (z := 7) d_Tokens_cutPitch_89 (by decide) (by decide) (by decide) rfl ?_
          refine A_pc (pc' := 90) rfl ?_
          refine A_callS2 m_JMath_floorMod d_Tokens_cutPitch_90 l_Tokens_101 k_JMath_floorMod (by decide +kernel) (by decide) (Nat.le_of_ble_eq_true rfl) (s_JMath_floorMod  (by omega) (by omega)) (fun r h17 hq => ?_)
          obtain ⟨x19, rfl, ⟨_, _⟩, xx19, rfl⟩ := hq
          refine A_istore (L' := [some (av_R (some 3)), some (av_I a1), some (av_I (x1 + 2)), some (av_I 1), some (av_I x4), some (av_I (x12 - 48)), some (av_I x19)]) d_Tokens_cutPitch_93 (Nat.le_of_ble_eq_true rfl) rfl ?_
          refine A_aload_n 0 d_Tokens_cutPitch_95 rfl rfl ?_
          refine A_bipush d_Tokens_cutPitch_96 rfl ?_
          refine A_iload d_Tokens_cutPitch_98 rfl ?_
          refine A_imulv (z := (12 * x12 - 576)) d_Tokens_cutPitch_100 (w32_to (by omega) (by unfold i32; omega)) ?_
          refine A_pc (pc' := 101) rfl ?_
          refine A_getsA (q := ("NATURALS", 1, [0, 2, 4, 5, 7, 9, 11])) (by decide) gs_Tokens_98 d_Tokens_cutPitch_101 ?_
          refine A_iload d_Tokens_cutPitch_104 rfl ?_
          refine A_ialoadT (q := ("NATURALS", 1, [0, 2, 4, 5, 7, 9, 11])) d_Tokens_cutPitch_106 (by decide) (by decide) (by omega) (by simp only [List.length_cons, List.length_nil]; omega) (fun x20 ex20 => ?_)
          have bx20 := tab_r (lo := 0) (hi := 11) ex20 (by decide)
          refine A_iaddv (z := (12 * x12 + x20 - 576)) d_Tokens_cutPitch_107 (w32_to (by omega) (by unfold i32; omega)) ?_
          refine A_iload d_Tokens_cutPitch_108 rfl ?_
          refine A_bipush d_Tokens_cutPitch_110 rfl ?_
          refine A_pc (pc' := 112) rfl ?_
          refine A_icmp_ne (tgt := 119) d_Tokens_cutPitch_112 (by decide) (fun c => False.elim (by omega)) (fun c21 => ?_)
          refine A_iload_n 3 d_Tokens_cutPitch_115 rfl rfl ?_
          refine A_goto (tgt := 121) d_Tokens_cutPitch_116 (by decide) ?_
          refine A_iaddv (z := (12 * x12 + x20 - 575)) d_Tokens_cutPitch_121 (w32_to (by omega) (by unfold i32; omega)) ?_
          refine A_i2l d_Tokens_cutPitch_122 ?_
          refine A_putLk (KR := kF FA s h) T_ok d_Tokens_cutPitch_123 f_Tokens_60 (xi_s k0.1 sf_3) fin_f (kF_l k0 (by decide) (nl_b rfl)) (fun h22 k23 eh22 => ?_)
          refine A_aload_n 0 d_Tokens_cutPitch_126 rfl rfl ?_
          refine A_bipush d_Tokens_cutPitch_127 rfl ?_
          refine A_pc (pc' := 129) rfl ?_
          refine A_iload d_Tokens_cutPitch_129 rfl ?_
          refine A_imulv (z := (7 * x12 - 336)) d_Tokens_cutPitch_131 (w32_to (by omega) (by unfold i32; omega)) ?_
          refine A_iload d_Tokens_cutPitch_132 rfl ?_
          refine A_iaddv (z := (7 * x12 + x19 - 336)) d_Tokens_cutPitch_134 (w32_to (by omega) (by unfold i32; omega)) ?_
          refine A_putIk (KR := kF FA s h) T_ok d_Tokens_cutPitch_135 f_Tokens_64 (xi_s k23.1 sf_3) fin_f (kF_j k23 (by decide) (ns_b rfl) rgf_3_12 (by omega) (by omega)) (fun h24 k25 eh24 => ?_)
          refine A_aload_n 0 d_Tokens_cutPitch_138 rfl rfl ?_
          refine A_pc (pc' := 139) rfl ?_
          refine A_iload_n 2 d_Tokens_cutPitch_139 rfl rfl ?_
          refine A_iconst d_Tokens_cutPitch_140 rfl ?_
          refine A_iaddv (z := (x1 + 3)) d_Tokens_cutPitch_141 (w32_to (by omega) (by unfold i32; omega)) ?_
          refine A_putIk (KR := kF FA s h) T_ok d_Tokens_cutPitch_142 f_Tokens_38 (xi_s k25.1 sf_3) fin_f (kF_j k25 (by decide) (ns_b rfl) rgf_3_8 (by omega) (by omega)) (fun h26 k27 eh26 => ?_)
          refine A_aload_n 0 d_Tokens_cutPitch_145 rfl rfl ?_
          refine A_sipush d_Tokens_cutPitch_146 rfl ?_
          refine A_pc (pc' := 149) rfl ?_
          refine A_putIk (KR := kF FA s h) T_ok d_Tokens_cutPitch_149 f_Tokens_54 (xi_s k27.1 sf_3) fin_f (kF_j k27 (by decide) (ns_b rfl) rgf_3_9 (by omega) (by omega)) (fun h28 k29 eh28 => ?_)
          exact A_vret d_Tokens_cutPitch_152 (by decide) rfl ⟨rfl, k29⟩
        · refine A_aload_n 0 d_Tokens_cutPitch_74 rfl rfl ?_
          refine A_sipush d_Tokens_cutPitch_75 rfl ?_
          refine A_putIk (KR := kF FA s h) T_ok d_Tokens_cutPitch_78 f_Tokens_54 (xi_s k0.1 sf_3) fin_f (kF_j k0 (by decide) (ns_b rfl) rgf_3_9 (by omega) (by omega)) (fun h30 k31 eh30 => ?_)
          exact A_vret d_Tokens_cutPitch_81 (by decide) rfl ⟨rfl, k31⟩
    · refine A_iconst d_Tokens_cutPitch_42 rfl ?_
      refine A_goto (tgt := 47) d_Tokens_cutPitch_43 (by decide) ?_
      refine A_istore_n 3 (L' := [some (av_R (some 3)), some (av_I a1), some (av_I (x1 + 1)), some (av_I 2), some (av_I x4), none, none]) d_Tokens_cutPitch_47 rfl (Nat.le_of_ble_eq_true rfl) rfl ?_
      refine A_iload_n 2 d_Tokens_cutPitch_48 rfl rfl ?_
      refine A_iload_n 3 d_Tokens_cutPitch_49 rfl rfl ?_
      refine A_iaddv (z := (x1 + 3)) d_Tokens_cutPitch_50 (w32_to (by omega) (by unfold i32; omega)) ?_
      refine A_istore_n 2 (L' := [some (av_R (some 3)), some (av_I a1), some (av_I (x1 + 3)), some (av_I 2), some (av_I x4), none, none]) d_Tokens_cutPitch_51 rfl (Nat.le_of_ble_eq_true rfl) rfl ?_
      refine A_pc (pc' := 52) rfl ?_
      refine A_aload_n 0 d_Tokens_cutPitch_52 rfl rfl ?_
      refine A_iload_n 2 d_Tokens_cutPitch_53 rfl rfl ?_
      refine A_callV1 m_Tokens_byteAt T_ok d_Tokens_cutPitch_54 l_Tokens_70 k_Tokens_byteAt (xi_s k0.1 sf_3) rfl (by decide +kernel) (by decide) (Nat.le_of_ble_eq_true rfl) (s_Tokens_byteAt k0.1 ) (fun r h32 hq => ?_)
      obtain ⟨x34, rfl, ⟨_, _⟩, xx34, rfl⟩ := hq
      refine A_bipush d_Tokens_cutPitch_57 rfl ?_
      refine A_isubv (z := (x34 - 48)) d_Tokens_cutPitch_59 (w32_to (by omega) (by unfold i32; omega)) ?_
      refine A_istore (L' := [some (av_R (some 3)), some (av_I a1), some (av_I (x1 + 3)), some (av_I 2), some (av_I x4), some (av_I (x34 - 48)), none]) d_Tokens_cutPitch_60 (Nat.le_of_ble_eq_true rfl) rfl ?_
      refine A_iload d_Tokens_cutPitch_62 rfl ?_
      refine A_if_lt (tgt := 74) d_Tokens_cutPitch_64 (by decide) (fun c35 => ?_) (fun c35 => ?_)
      · refine A_aload_n 0 d_Tokens_cutPitch_74 rfl rfl ?_
        refine A_sipush d_Tokens_cutPitch_75 rfl ?_
        refine A_putIk (KR := kF FA s h) T_ok d_Tokens_cutPitch_78 f_Tokens_54 (xi_s k0.1 sf_3) fin_f (kF_j k0 (by decide) (ns_b rfl) rgf_3_9 (by omega) (by omega)) (fun h36 k37 eh36 => ?_)
        exact A_vret d_Tokens_cutPitch_81 (by decide) rfl ⟨rfl, k37⟩
      · refine A_iload d_Tokens_cutPitch_67 rfl ?_
        refine A_bipush d_Tokens_cutPitch_69 rfl ?_
        refine A_icmp_le (tgt := 82) d_Tokens_cutPitch_71 (by decide) (fun c38 => ?_) (fun c38 => ?_)
        · refine A_iload_n 1 d_Tokens_cutPitch_82 rfl rfl ?_
          refine A_bipush d_Tokens_cutPitch_83 rfl ?_
          refine A_isubv (z := (a1 - 67)) d_Tokens_cutPitch_85 (w32_to (by omega) (by unfold i32; omega)) ?_
          refine A_getsA (q := ("NATURALS", 1, [0, 2, 4, 5, 7, 9, 11])) (by decide) gs_Tokens_98 d_Tokens_cutPitch_86 ?_
          refine A_alenT (q := ("NATURALS", 1, [0, 2, 4, 5, 7, 9, 11])) (z := 7) d_Tokens_cutPitch_89 (by decide) (by decide) (by decide) rfl ?_
          refine A_pc (pc' := 90) rfl ?_
          refine A_callS2 m_JMath_floorMod d_Tokens_cutPitch_90 l_Tokens_101 k_JMath_floorMod (by decide +kernel) (by decide) (Nat.le_of_ble_eq_true rfl) (s_JMath_floorMod  (by omega) (by omega)) (fun r h39 hq => ?_)
          obtain ⟨x41, rfl, ⟨_, _⟩, xx41, rfl⟩ := hq
          refine A_istore (L' := [some (av_R (some 3)), some (av_I a1), some (av_I (x1 + 3)), some (av_I 2), some (av_I x4), some (av_I (x34 - 48)), some (av_I x41)]) d_Tokens_cutPitch_93 (Nat.le_of_ble_eq_true rfl) rfl ?_
          refine A_aload_n 0 d_Tokens_cutPitch_95 rfl rfl ?_
          refine A_bipush d_Tokens_cutPitch_96 rfl ?_
          refine A_iload d_Tokens_cutPitch_98 rfl ?_
          refine A_imulv (z := (12 * x34 - 576)) d_Tokens_cutPitch_100 (w32_to (by omega) (by unfold i32; omega)) ?_
          refine A_pc (pc' := 101) rfl ?_
          refine A_getsA (q := ("NATURALS", 1, [0, 2, 4, 5, 7, 9, 11])) (by decide) gs_Tokens_98 d_Tokens_cutPitch_101 ?_
          refine A_iload d_Tokens_cutPitch_104 rfl ?_
          refine A_ialoadT (q := ("NATURALS", 1, [0, 2, 4, 5, 7, 9, 11])) d_Tokens_cutPitch_106 (by decide) (by decide) (by omega) (by simp only [List.length_cons, List.length_nil]; omega) (fun x42 ex42 => ?_)
          have bx42 := tab_r (lo := 0) (hi := 11) ex42 (by decide)
          refine A_iaddv (z := (12 * x34 + x42 - 576)) d_Tokens_cutPitch_107 (w32_to (by omega) (by unfold i32; omega)) ?_
          refine A_iload d_Tokens_cutPitch_108 rfl ?_
          refine A_bipush d_Tokens_cutPitch_110 rfl ?_
          refine A_pc (pc' := 112) rfl ?_
          refine A_icmp_ne (tgt := 119) d_Tokens_cutPitch_112 (by decide) (fun c => False.elim (by omega)) (fun c43 => ?_)
          refine A_iload_n 3 d_Tokens_cutPitch_115 rfl rfl ?_
          refine A_goto (tgt := 121) d_Tokens_cutPitch_116 (by decide) ?_
          refine A_iaddv (z := (12 * x34 + x42 - 574)) d_Tokens_cutPitch_121 (w32_to (by omega) (by unfold i32; omega)) ?_
          refine A_i2l d_Tokens_cutPitch_122 ?_
          refine A_putLk (KR := kF FA s h) T_ok d_Tokens_cutPitch_123 f_Tokens_60 (xi_s k0.1 sf_3) fin_f (kF_l k0 (by decide) (nl_b rfl)) (fun h44 k45 eh44 => ?_)
          refine A_aload_n 0 d_Tokens_cutPitch_126 rfl rfl ?_
          refine A_bipush d_Tokens_cutPitch_127 rfl ?_
          refine A_pc (pc' := 129) rfl ?_
          refine A_iload d_Tokens_cutPitch_129 rfl ?_
          refine A_imulv (z := (7 * x34 - 336)) d_Tokens_cutPitch_131 (w32_to (by omega) (by unfold i32; omega)) ?_
          refine A_iload d_Tokens_cutPitch_132 rfl ?_
          refine A_iaddv (z := (7 * x34 + x41 - 336)) d_Tokens_cutPitch_134 (w32_to (by omega) (by unfold i32; omega)) ?_
          refine A_putIk (KR := kF FA s h) T_ok d_Tokens_cutPitch_135 f_Tokens_64 (xi_s k45.1 sf_3) fin_f (kF_j k45 (by decide) (ns_b rfl) rgf_3_12 (by omega) (by omega)) (fun h46 k47 eh46 => ?_)
          refine A_aload_n 0 d_Tokens_cutPitch_138 rfl rfl ?_
          refine A_pc (pc' := 139) rfl ?_
          refine A_iload_n 2 d_Tokens_cutPitch_139 rfl rfl ?_
          refine A_iconst d_Tokens_cutPitch_140 rfl ?_
          refine A_iaddv (z := (x1 + 4)) d_Tokens_cutPitch_141 (w32_to (by omega) (by unfold i32; omega)) ?_
          refine A_putIk (KR := kF FA s h) T_ok d_Tokens_cutPitch_142 f_Tokens_38 (xi_s k47.1 sf_3) fin_f (kF_j k47 (by decide) (ns_b rfl) rgf_3_8 (by omega) (by omega)) (fun h48 k49 eh48 => ?_)
          refine A_aload_n 0 d_Tokens_cutPitch_145 rfl rfl ?_
          refine A_sipush d_Tokens_cutPitch_146 rfl ?_
          refine A_pc (pc' := 149) rfl ?_
          refine A_putIk (KR := kF FA s h) T_ok d_Tokens_cutPitch_149 f_Tokens_54 (xi_s k49.1 sf_3) fin_f (kF_j k49 (by decide) (ns_b rfl) rgf_3_9 (by omega) (by omega)) (fun h50 k51 eh50 => ?_)
          exact A_vret d_Tokens_cutPitch_152 (by decide) rfl ⟨rfl, k51⟩
        · refine A_aload_n 0 d_Tokens_cutPitch_74 rfl rfl ?_
          refine A_sipush d_Tokens_cutPitch_75 rfl ?_
          refine A_putIk (KR := kF FA s h) T_ok d_Tokens_cutPitch_78 f_Tokens_54 (xi_s k0.1 sf_3) fin_f (kF_j k0 (by decide) (ns_b rfl) rgf_3_9 (by omega) (by omega)) (fun h52 k53 eh52 => ?_)
          exact A_vret d_Tokens_cutPitch_81 (by decide) rfl ⟨rfl, k53⟩
  · refine A_iload d_Tokens_cutPitch_23 rfl ?_
    refine A_bipush d_Tokens_cutPitch_25 rfl ?_
    refine A_icmp_ne (tgt := 52) d_Tokens_cutPitch_27 (by decide) (fun c54 => ?_) (fun c54 => ?_)
    · refine A_aload_n 0 d_Tokens_cutPitch_52 rfl rfl ?_
      refine A_iload_n 2 d_Tokens_cutPitch_53 rfl rfl ?_
      refine A_callV1 m_Tokens_byteAt T_ok d_Tokens_cutPitch_54 l_Tokens_70 k_Tokens_byteAt (xi_s k0.1 sf_3) rfl (by decide +kernel) (by decide) (Nat.le_of_ble_eq_true rfl) (s_Tokens_byteAt k0.1 ) (fun r h55 hq => ?_)
      obtain ⟨x57, rfl, ⟨_, _⟩, xx57, rfl⟩ := hq
      refine A_bipush d_Tokens_cutPitch_57 rfl ?_
      refine A_isubv (z := (x57 - 48)) d_Tokens_cutPitch_59 (w32_to (by omega) (by unfold i32; omega)) ?_
      refine A_istore (L' := [some (av_R (some 3)), some (av_I a1), some (av_I (x1 + 1)), some (av_I 0), some (av_I x4), some (av_I (x57 - 48)), none]) d_Tokens_cutPitch_60 (Nat.le_of_ble_eq_true rfl) rfl ?_
      refine A_iload d_Tokens_cutPitch_62 rfl ?_
      refine A_if_lt (tgt := 74) d_Tokens_cutPitch_64 (by decide) (fun c58 => ?_) (fun c58 => ?_)
      · refine A_aload_n 0 d_Tokens_cutPitch_74 rfl rfl ?_
        refine A_sipush d_Tokens_cutPitch_75 rfl ?_
        refine A_putIk (KR := kF FA s h) T_ok d_Tokens_cutPitch_78 f_Tokens_54 (xi_s k0.1 sf_3) fin_f (kF_j k0 (by decide) (ns_b rfl) rgf_3_9 (by omega) (by omega)) (fun h59 k60 eh59 => ?_)
        exact A_vret d_Tokens_cutPitch_81 (by decide) rfl ⟨rfl, k60⟩
      · refine A_iload d_Tokens_cutPitch_67 rfl ?_
        refine A_bipush d_Tokens_cutPitch_69 rfl ?_
        refine A_icmp_le (tgt := 82) d_Tokens_cutPitch_71 (by decide) (fun c61 => ?_) (fun c61 => ?_)
        · refine A_iload_n 1 d_Tokens_cutPitch_82 rfl rfl ?_
          refine A_bipush d_Tokens_cutPitch_83 rfl ?_
          refine A_isubv (z := (a1 - 67)) d_Tokens_cutPitch_85 (w32_to (by omega) (by unfold i32; omega)) ?_
          refine A_getsA (q := ("NATURALS", 1, [0, 2, 4, 5, 7, 9, 11])) (by decide) gs_Tokens_98 d_Tokens_cutPitch_86 ?_
          refine A_alenT (q := ("NATURALS", 1, [0, 2, 4, 5, 7, 9, 11])) (z := 7) d_Tokens_cutPitch_89 (by decide) (by decide) (by decide) rfl ?_
          refine A_pc (pc' := 90) rfl ?_
          refine A_callS2 m_JMath_floorMod d_Tokens_cutPitch_90 l_Tokens_101 k_JMath_floorMod (by decide +kernel) (by decide) (Nat.le_of_ble_eq_true rfl) (s_JMath_floorMod  (by omega) (by omega)) (fun r h62 hq => ?_)
          obtain ⟨x64, rfl, ⟨_, _⟩, xx64, rfl⟩ := hq
          refine A_istore (L' := [some (av_R (some 3)), some (av_I a1), some (av_I (x1 + 1)), some (av_I 0), some (av_I x4), some (av_I (x57 - 48)), some (av_I x64)]) d_Tokens_cutPitch_93 (Nat.le_of_ble_eq_true rfl) rfl ?_
          refine A_aload_n 0 d_Tokens_cutPitch_95 rfl rfl ?_
          refine A_bipush d_Tokens_cutPitch_96 rfl ?_
          refine A_iload d_Tokens_cutPitch_98 rfl ?_
          refine A_imulv (z := (12 * x57 - 576)) d_Tokens_cutPitch_100 (w32_to (by omega) (by unfold i32; omega)) ?_
          refine A_pc (pc' := 101) rfl ?_
          refine A_getsA (q := ("NATURALS", 1, [0, 2, 4, 5, 7, 9, 11])) (by decide) gs_Tokens_98 d_Tokens_cutPitch_101 ?_
          refine A_iload d_Tokens_cutPitch_104 rfl ?_
          refine A_ialoadT (q := ("NATURALS", 1, [0, 2, 4, 5, 7, 9, 11])) d_Tokens_cutPitch_106 (by decide) (by decide) (by omega) (by simp only [List.length_cons, List.length_nil]; omega) (fun x65 ex65 => ?_)
          have bx65 := tab_r (lo := 0) (hi := 11) ex65 (by decide)
          refine A_iaddv (z := (12 * x57 + x65 - 576)) d_Tokens_cutPitch_107 (w32_to (by omega) (by unfold i32; omega)) ?_
          refine A_iload d_Tokens_cutPitch_108 rfl ?_
          refine A_bipush d_Tokens_cutPitch_110 rfl ?_
          refine A_pc (pc' := 112) rfl ?_
          refine A_icmp_ne (tgt := 119) d_Tokens_cutPitch_112 (by decide) (fun c66 => ?_) (fun c66 => ?_)
          · refine A_iload_n 3 d_Tokens_cutPitch_119 rfl rfl ?_
            refine A_inegv (z := 0) d_Tokens_cutPitch_120 (w32_to (by omega) (by unfold i32; omega)) ?_
            refine A_iaddv (z := (12 * x57 + x65 - 576)) d_Tokens_cutPitch_121 (w32_to (by omega) (by unfold i32; omega)) ?_
            refine A_i2l d_Tokens_cutPitch_122 ?_
            refine A_putLk (KR := kF FA s h) T_ok d_Tokens_cutPitch_123 f_Tokens_60 (xi_s k0.1 sf_3) fin_f (kF_l k0 (by decide) (nl_b rfl)) (fun h67 k68 eh67 => ?_)
            refine A_pc (pc' := 126) rfl ?_
            refine A_aload_n 0 d_Tokens_cutPitch_126 rfl rfl ?_
            refine A_bipush d_Tokens_cutPitch_127 rfl ?_
            refine A_iload d_Tokens_cutPitch_129 rfl ?_
            refine A_imulv (z := (7 * x57 - 336)) d_Tokens_cutPitch_131 (w32_to (by omega) (by unfold i32; omega)) ?_
            refine A_iload d_Tokens_cutPitch_132 rfl ?_
            refine A_iaddv (z := (7 * x57 + x64 - 336)) d_Tokens_cutPitch_134 (w32_to (by omega) (by unfold i32; omega)) ?_
            refine A_pc (pc' := 135) rfl ?_
            refine A_putIk (KR := kF FA s h) T_ok d_Tokens_cutPitch_135 f_Tokens_64 (xi_s k68.1 sf_3) fin_f (kF_j k68 (by decide) (ns_b rfl) rgf_3_12 (by omega) (by omega)) (fun h69 k70 eh69 => ?_)
            refine A_aload_n 0 d_Tokens_cutPitch_138 rfl rfl ?_
            refine A_iload_n 2 d_Tokens_cutPitch_139 rfl rfl ?_
            refine A_iconst d_Tokens_cutPitch_140 rfl ?_
            refine A_iaddv (z := (x1 + 2)) d_Tokens_cutPitch_141 (w32_to (by omega) (by unfold i32; omega)) ?_
            refine A_putIk (KR := kF FA s h) T_ok d_Tokens_cutPitch_142 f_Tokens_38 (xi_s k70.1 sf_3) fin_f (kF_j k70 (by decide) (ns_b rfl) rgf_3_8 (by omega) (by omega)) (fun h71 k72 eh71 => ?_)
            refine A_pc (pc' := 145) rfl ?_
            refine A_aload_n 0 d_Tokens_cutPitch_145 rfl rfl ?_
            refine A_sipush d_Tokens_cutPitch_146 rfl ?_
            refine A_putIk (KR := kF FA s h) T_ok d_Tokens_cutPitch_149 f_Tokens_54 (xi_s k72.1 sf_3) fin_f (kF_j k72 (by decide) (ns_b rfl) rgf_3_9 (by omega) (by omega)) (fun h73 k74 eh73 => ?_)
            exact A_vret d_Tokens_cutPitch_152 (by decide) rfl ⟨rfl, k74⟩
          · refine A_iload_n 3 d_Tokens_cutPitch_115 rfl rfl ?_
            refine A_goto (tgt := 121) d_Tokens_cutPitch_116 (by decide) ?_
            refine A_iaddv (z := (12 * x57 + x65 - 576)) d_Tokens_cutPitch_121 (w32_to (by omega) (by unfold i32; omega)) ?_
            refine A_i2l d_Tokens_cutPitch_122 ?_
            refine A_putLk (KR := kF FA s h) T_ok d_Tokens_cutPitch_123 f_Tokens_60 (xi_s k0.1 sf_3) fin_f (kF_l k0 (by decide) (nl_b rfl)) (fun h75 k76 eh75 => ?_)
            refine A_aload_n 0 d_Tokens_cutPitch_126 rfl rfl ?_
            refine A_bipush d_Tokens_cutPitch_127 rfl ?_
            refine A_pc (pc' := 129) rfl ?_
            refine A_iload d_Tokens_cutPitch_129 rfl ?_
            refine A_imulv (z := (7 * x57 - 336)) d_Tokens_cutPitch_131 (w32_to (by omega) (by unfold i32; omega)) ?_
            refine A_iload d_Tokens_cutPitch_132 rfl ?_
            refine A_iaddv (z := (7 * x57 + x64 - 336)) d_Tokens_cutPitch_134 (w32_to (by omega) (by unfold i32; omega)) ?_
            refine A_putIk (KR := kF FA s h) T_ok d_Tokens_cutPitch_135 f_Tokens_64 (xi_s k76.1 sf_3) fin_f (kF_j k76 (by decide) (ns_b rfl) rgf_3_12 (by omega) (by omega)) (fun h77 k78 eh77 => ?_)
            refine A_aload_n 0 d_Tokens_cutPitch_138 rfl rfl ?_
            refine A_pc (pc' := 139) rfl ?_
            refine A_iload_n 2 d_Tokens_cutPitch_139 rfl rfl ?_
            refine A_iconst d_Tokens_cutPitch_140 rfl ?_
            refine A_iaddv (z := (x1 + 2)) d_Tokens_cutPitch_141 (w32_to (by omega) (by unfold i32; omega)) ?_
            refine A_putIk (KR := kF FA s h) T_ok d_Tokens_cutPitch_142 f_Tokens_38 (xi_s k78.1 sf_3) fin_f (kF_j k78 (by decide) (ns_b rfl) rgf_3_8 (by omega) (by omega)) (fun h79 k80 eh79 => ?_)
            refine A_aload_n 0 d_Tokens_cutPitch_145 rfl rfl ?_
            refine A_sipush d_Tokens_cutPitch_146 rfl ?_
            refine A_pc (pc' := 149) rfl ?_
            refine A_putIk (KR := kF FA s h) T_ok d_Tokens_cutPitch_149 f_Tokens_54 (xi_s k80.1 sf_3) fin_f (kF_j k80 (by decide) (ns_b rfl) rgf_3_9 (by omega) (by omega)) (fun h81 k82 eh81 => ?_)
            exact A_vret d_Tokens_cutPitch_152 (by decide) rfl ⟨rfl, k82⟩
        · refine A_aload_n 0 d_Tokens_cutPitch_74 rfl rfl ?_
          refine A_sipush d_Tokens_cutPitch_75 rfl ?_
          refine A_putIk (KR := kF FA s h) T_ok d_Tokens_cutPitch_78 f_Tokens_54 (xi_s k0.1 sf_3) fin_f (kF_j k0 (by decide) (ns_b rfl) rgf_3_9 (by omega) (by omega)) (fun h83 k84 eh83 => ?_)
          exact A_vret d_Tokens_cutPitch_81 (by decide) rfl ⟨rfl, k84⟩
    · refine A_aload_n 0 d_Tokens_cutPitch_30 rfl rfl ?_
      refine A_iload_n 2 d_Tokens_cutPitch_31 rfl rfl ?_
      refine A_iconst d_Tokens_cutPitch_32 rfl ?_
      refine A_iaddv (z := (x1 + 2)) d_Tokens_cutPitch_33 (w32_to (by omega) (by unfold i32; omega)) ?_
      refine A_callV1 m_Tokens_byteAt T_ok d_Tokens_cutPitch_34 l_Tokens_70 k_Tokens_byteAt (xi_s k0.1 sf_3) rfl (by decide +kernel) (by decide) (Nat.le_of_ble_eq_true rfl) (s_Tokens_byteAt k0.1 ) (fun r h85 hq => ?_)
      obtain ⟨x87, rfl, ⟨_, _⟩, xx87, rfl⟩ := hq
      refine A_iload d_Tokens_cutPitch_37 rfl ?_
      refine A_icmp_ne (tgt := 46) d_Tokens_cutPitch_39 (by decide) (fun c88 => ?_) (fun c88 => ?_)
      · refine A_iconst d_Tokens_cutPitch_46 rfl ?_
        refine A_istore_n 3 (L' := [some (av_R (some 3)), some (av_I a1), some (av_I (x1 + 1)), some (av_I 1), some (av_I x4), none, none]) d_Tokens_cutPitch_47 rfl (Nat.le_of_ble_eq_true rfl) rfl ?_
        refine A_iload_n 2 d_Tokens_cutPitch_48 rfl rfl ?_
        refine A_iload_n 3 d_Tokens_cutPitch_49 rfl rfl ?_
        refine A_iaddv (z := (x1 + 2)) d_Tokens_cutPitch_50 (w32_to (by omega) (by unfold i32; omega)) ?_
        refine A_pc (pc' := 51) rfl ?_
        refine A_istore_n 2 (L' := [some (av_R (some 3)), some (av_I a1), some (av_I (x1 + 2)), some (av_I 1), some (av_I x4), none, none]) d_Tokens_cutPitch_51 rfl (Nat.le_of_ble_eq_true rfl) rfl ?_
        refine A_aload_n 0 d_Tokens_cutPitch_52 rfl rfl ?_
        refine A_iload_n 2 d_Tokens_cutPitch_53 rfl rfl ?_
        refine A_callV1 m_Tokens_byteAt T_ok d_Tokens_cutPitch_54 l_Tokens_70 k_Tokens_byteAt (xi_s k0.1 sf_3) rfl (by decide +kernel) (by decide) (Nat.le_of_ble_eq_true rfl) (s_Tokens_byteAt k0.1 ) (fun r h89 hq => ?_)
        obtain ⟨x91, rfl, ⟨_, _⟩, xx91, rfl⟩ := hq
        refine A_bipush d_Tokens_cutPitch_57 rfl ?_
        refine A_isubv (z := (x91 - 48)) d_Tokens_cutPitch_59 (w32_to (by omega) (by unfold i32; omega)) ?_
        refine A_istore (L' := [some (av_R (some 3)), some (av_I a1), some (av_I (x1 + 2)), some (av_I 1), some (av_I x4), some (av_I (x91 - 48)), none]) d_Tokens_cutPitch_60 (Nat.le_of_ble_eq_true rfl) rfl ?_
        refine A_iload d_Tokens_cutPitch_62 rfl ?_
        refine A_if_lt (tgt := 74) d_Tokens_cutPitch_64 (by decide) (fun c92 => ?_) (fun c92 => ?_)
        · refine A_aload_n 0 d_Tokens_cutPitch_74 rfl rfl ?_
          refine A_sipush d_Tokens_cutPitch_75 rfl ?_
          refine A_putIk (KR := kF FA s h) T_ok d_Tokens_cutPitch_78 f_Tokens_54 (xi_s k0.1 sf_3) fin_f (kF_j k0 (by decide) (ns_b rfl) rgf_3_9 (by omega) (by omega)) (fun h93 k94 eh93 => ?_)
          exact A_vret d_Tokens_cutPitch_81 (by decide) rfl ⟨rfl, k94⟩
        · refine A_iload d_Tokens_cutPitch_67 rfl ?_
          refine A_bipush d_Tokens_cutPitch_69 rfl ?_
          refine A_icmp_le (tgt := 82) d_Tokens_cutPitch_71 (by decide) (fun c95 => ?_) (fun c95 => ?_)
          · refine A_iload_n 1 d_Tokens_cutPitch_82 rfl rfl ?_
            refine A_bipush d_Tokens_cutPitch_83 rfl ?_
            refine A_isubv (z := (a1 - 67)) d_Tokens_cutPitch_85 (w32_to (by omega) (by unfold i32; omega)) ?_
            refine A_getsA (q := ("NATURALS", 1, [0, 2, 4, 5, 7, 9, 11])) (by decide) gs_Tokens_98 d_Tokens_cutPitch_86 ?_
            refine A_alenT (q := ("NATURALS", 1, [0, 2, 4, 5, 7, 9, 11])) (z := 7) d_Tokens_cutPitch_89 (by decide) (by decide) (by decide) rfl ?_
            refine A_pc (pc' := 90) rfl ?_
            refine A_callS2 m_JMath_floorMod d_Tokens_cutPitch_90 l_Tokens_101 k_JMath_floorMod (by decide +kernel) (by decide) (Nat.le_of_ble_eq_true rfl) (s_JMath_floorMod  (by omega) (by omega)) (fun r h96 hq => ?_)
            obtain ⟨x98, rfl, ⟨_, _⟩, xx98, rfl⟩ := hq
            refine A_istore (L' := [some (av_R (some 3)), some (av_I a1), some (av_I (x1 + 2)), some (av_I 1), some (av_I x4), some (av_I (x91 - 48)), some (av_I x98)]) d_Tokens_cutPitch_93 (Nat.le_of_ble_eq_true rfl) rfl ?_
            refine A_aload_n 0 d_Tokens_cutPitch_95 rfl rfl ?_
            refine A_bipush d_Tokens_cutPitch_96 rfl ?_
            refine A_iload d_Tokens_cutPitch_98 rfl ?_
            refine A_imulv (z := (12 * x91 - 576)) d_Tokens_cutPitch_100 (w32_to (by omega) (by unfold i32; omega)) ?_
            refine A_pc (pc' := 101) rfl ?_
            refine A_getsA (q := ("NATURALS", 1, [0, 2, 4, 5, 7, 9, 11])) (by decide) gs_Tokens_98 d_Tokens_cutPitch_101 ?_
            refine A_iload d_Tokens_cutPitch_104 rfl ?_
            refine A_ialoadT (q := ("NATURALS", 1, [0, 2, 4, 5, 7, 9, 11])) d_Tokens_cutPitch_106 (by decide) (by decide) (by omega) (by simp only [List.length_cons, List.length_nil]; omega) (fun x99 ex99 => ?_)
            have bx99 := tab_r (lo := 0) (hi := 11) ex99 (by decide)
            refine A_iaddv (z := (12 * x91 + x99 - 576)) d_Tokens_cutPitch_107 (w32_to (by omega) (by unfold i32; omega)) ?_
            refine A_iload d_Tokens_cutPitch_108 rfl ?_
            refine A_bipush d_Tokens_cutPitch_110 rfl ?_
            refine A_pc (pc' := 112) rfl ?_
            refine A_icmp_ne (tgt := 119) d_Tokens_cutPitch_112 (by decide) (fun c100 => ?_) (fun c => False.elim (by omega))
            refine A_iload_n 3 d_Tokens_cutPitch_119 rfl rfl ?_
            refine A_inegv (z := (-1)) d_Tokens_cutPitch_120 (w32_to (by omega) (by unfold i32; omega)) ?_
            refine A_iaddv (z := (12 * x91 + x99 - 577)) d_Tokens_cutPitch_121 (w32_to (by omega) (by unfold i32; omega)) ?_
            refine A_i2l d_Tokens_cutPitch_122 ?_
            refine A_putLk (KR := kF FA s h) T_ok d_Tokens_cutPitch_123 f_Tokens_60 (xi_s k0.1 sf_3) fin_f (kF_l k0 (by decide) (nl_b rfl)) (fun h101 k102 eh101 => ?_)
            refine A_pc (pc' := 126) rfl ?_
            refine A_aload_n 0 d_Tokens_cutPitch_126 rfl rfl ?_
            refine A_bipush d_Tokens_cutPitch_127 rfl ?_
            refine A_iload d_Tokens_cutPitch_129 rfl ?_
            refine A_imulv (z := (7 * x91 - 336)) d_Tokens_cutPitch_131 (w32_to (by omega) (by unfold i32; omega)) ?_
            refine A_iload d_Tokens_cutPitch_132 rfl ?_
            refine A_iaddv (z := (7 * x91 + x98 - 336)) d_Tokens_cutPitch_134 (w32_to (by omega) (by unfold i32; omega)) ?_
            refine A_pc (pc' := 135) rfl ?_
            refine A_putIk (KR := kF FA s h) T_ok d_Tokens_cutPitch_135 f_Tokens_64 (xi_s k102.1 sf_3) fin_f (kF_j k102 (by decide) (ns_b rfl) rgf_3_12 (by omega) (by omega)) (fun h103 k104 eh103 => ?_)
            refine A_aload_n 0 d_Tokens_cutPitch_138 rfl rfl ?_
            refine A_iload_n 2 d_Tokens_cutPitch_139 rfl rfl ?_
            refine A_iconst d_Tokens_cutPitch_140 rfl ?_
            refine A_iaddv (z := (x1 + 3)) d_Tokens_cutPitch_141 (w32_to (by omega) (by unfold i32; omega)) ?_
            refine A_putIk (KR := kF FA s h) T_ok d_Tokens_cutPitch_142 f_Tokens_38 (xi_s k104.1 sf_3) fin_f (kF_j k104 (by decide) (ns_b rfl) rgf_3_8 (by omega) (by omega)) (fun h105 k106 eh105 => ?_)
            refine A_pc (pc' := 145) rfl ?_
            refine A_aload_n 0 d_Tokens_cutPitch_145 rfl rfl ?_
            refine A_sipush d_Tokens_cutPitch_146 rfl ?_
            refine A_putIk (KR := kF FA s h) T_ok d_Tokens_cutPitch_149 f_Tokens_54 (xi_s k106.1 sf_3) fin_f (kF_j k106 (by decide) (ns_b rfl) rgf_3_9 (by omega) (by omega)) (fun h107 k108 eh107 => ?_)
            exact A_vret d_Tokens_cutPitch_152 (by decide) rfl ⟨rfl, k108⟩
          · refine A_aload_n 0 d_Tokens_cutPitch_74 rfl rfl ?_
            refine A_sipush d_Tokens_cutPitch_75 rfl ?_
            refine A_putIk (KR := kF FA s h) T_ok d_Tokens_cutPitch_78 f_Tokens_54 (xi_s k0.1 sf_3) fin_f (kF_j k0 (by decide) (ns_b rfl) rgf_3_9 (by omega) (by omega)) (fun h109 k110 eh109 => ?_)
            exact A_vret d_Tokens_cutPitch_81 (by decide) rfl ⟨rfl, k110⟩
      · refine A_iconst d_Tokens_cutPitch_42 rfl ?_
        refine A_goto (tgt := 47) d_Tokens_cutPitch_43 (by decide) ?_
        refine A_istore_n 3 (L' := [some (av_R (some 3)), some (av_I a1), some (av_I (x1 + 1)), some (av_I 2), some (av_I x4), none, none]) d_Tokens_cutPitch_47 rfl (Nat.le_of_ble_eq_true rfl) rfl ?_
        refine A_iload_n 2 d_Tokens_cutPitch_48 rfl rfl ?_
        refine A_iload_n 3 d_Tokens_cutPitch_49 rfl rfl ?_
        refine A_iaddv (z := (x1 + 3)) d_Tokens_cutPitch_50 (w32_to (by omega) (by unfold i32; omega)) ?_
        refine A_istore_n 2 (L' := [some (av_R (some 3)), some (av_I a1), some (av_I (x1 + 3)), some (av_I 2), some (av_I x4), none, none]) d_Tokens_cutPitch_51 rfl (Nat.le_of_ble_eq_true rfl) rfl ?_
        refine A_pc (pc' := 52) rfl ?_
        refine A_aload_n 0 d_Tokens_cutPitch_52 rfl rfl ?_
        refine A_iload_n 2 d_Tokens_cutPitch_53 rfl rfl ?_
        refine A_callV1 m_Tokens_byteAt T_ok d_Tokens_cutPitch_54 l_Tokens_70 k_Tokens_byteAt (xi_s k0.1 sf_3) rfl (by decide +kernel) (by decide) (Nat.le_of_ble_eq_true rfl) (s_Tokens_byteAt k0.1 ) (fun r h111 hq => ?_)
        obtain ⟨x113, rfl, ⟨_, _⟩, xx113, rfl⟩ := hq
        refine A_bipush d_Tokens_cutPitch_57 rfl ?_
        refine A_isubv (z := (x113 - 48)) d_Tokens_cutPitch_59 (w32_to (by omega) (by unfold i32; omega)) ?_
        refine A_istore (L' := [some (av_R (some 3)), some (av_I a1), some (av_I (x1 + 3)), some (av_I 2), some (av_I x4), some (av_I (x113 - 48)), none]) d_Tokens_cutPitch_60 (Nat.le_of_ble_eq_true rfl) rfl ?_
        refine A_iload d_Tokens_cutPitch_62 rfl ?_
        refine A_if_lt (tgt := 74) d_Tokens_cutPitch_64 (by decide) (fun c114 => ?_) (fun c114 => ?_)
        · refine A_aload_n 0 d_Tokens_cutPitch_74 rfl rfl ?_
          refine A_sipush d_Tokens_cutPitch_75 rfl ?_
          refine A_putIk (KR := kF FA s h) T_ok d_Tokens_cutPitch_78 f_Tokens_54 (xi_s k0.1 sf_3) fin_f (kF_j k0 (by decide) (ns_b rfl) rgf_3_9 (by omega) (by omega)) (fun h115 k116 eh115 => ?_)
          exact A_vret d_Tokens_cutPitch_81 (by decide) rfl ⟨rfl, k116⟩
        · refine A_iload d_Tokens_cutPitch_67 rfl ?_
          refine A_bipush d_Tokens_cutPitch_69 rfl ?_
          refine A_icmp_le (tgt := 82) d_Tokens_cutPitch_71 (by decide) (fun c117 => ?_) (fun c117 => ?_)
          · refine A_iload_n 1 d_Tokens_cutPitch_82 rfl rfl ?_
            refine A_bipush d_Tokens_cutPitch_83 rfl ?_
            refine A_isubv (z := (a1 - 67)) d_Tokens_cutPitch_85 (w32_to (by omega) (by unfold i32; omega)) ?_
            refine A_getsA (q := ("NATURALS", 1, [0, 2, 4, 5, 7, 9, 11])) (by decide) gs_Tokens_98 d_Tokens_cutPitch_86 ?_
            refine A_alenT (q := ("NATURALS", 1, [0, 2, 4, 5, 7, 9, 11])) (z := 7) d_Tokens_cutPitch_89 (by decide) (by decide) (by decide) rfl ?_
            refine A_pc (pc' := 90) rfl ?_
            refine A_callS2 m_JMath_floorMod d_Tokens_cutPitch_90 l_Tokens_101 k_JMath_floorMod (by decide +kernel) (by decide) (Nat.le_of_ble_eq_true rfl) (s_JMath_floorMod  (by omega) (by omega)) (fun r h118 hq => ?_)
            obtain ⟨x120, rfl, ⟨_, _⟩, xx120, rfl⟩ := hq
            refine A_istore (L' := [some (av_R (some 3)), some (av_I a1), some (av_I (x1 + 3)), some (av_I 2), some (av_I x4), some (av_I (x113 - 48)), some (av_I x120)]) d_Tokens_cutPitch_93 (Nat.le_of_ble_eq_true rfl) rfl ?_
            refine A_aload_n 0 d_Tokens_cutPitch_95 rfl rfl ?_
            refine A_bipush d_Tokens_cutPitch_96 rfl ?_
            refine A_iload d_Tokens_cutPitch_98 rfl ?_
            refine A_imulv (z := (12 * x113 - 576)) d_Tokens_cutPitch_100 (w32_to (by omega) (by unfold i32; omega)) ?_
            refine A_pc (pc' := 101) rfl ?_
            refine A_getsA (q := ("NATURALS", 1, [0, 2, 4, 5, 7, 9, 11])) (by decide) gs_Tokens_98 d_Tokens_cutPitch_101 ?_
            refine A_iload d_Tokens_cutPitch_104 rfl ?_
            refine A_ialoadT (q := ("NATURALS", 1, [0, 2, 4, 5, 7, 9, 11])) d_Tokens_cutPitch_106 (by decide) (by decide) (by omega) (by simp only [List.length_cons, List.length_nil]; omega) (fun x121 ex121 => ?_)
            have bx121 := tab_r (lo := 0) (hi := 11) ex121 (by decide)
            refine A_iaddv (z := (12 * x113 + x121 - 576)) d_Tokens_cutPitch_107 (w32_to (by omega) (by unfold i32; omega)) ?_
            refine A_iload d_Tokens_cutPitch_108 rfl ?_
            refine A_bipush d_Tokens_cutPitch_110 rfl ?_
            refine A_pc (pc' := 112) rfl ?_
            refine A_icmp_ne (tgt := 119) d_Tokens_cutPitch_112 (by decide) (fun c122 => ?_) (fun c => False.elim (by omega))
            refine A_iload_n 3 d_Tokens_cutPitch_119 rfl rfl ?_
            refine A_inegv (z := (-2)) d_Tokens_cutPitch_120 (w32_to (by omega) (by unfold i32; omega)) ?_
            refine A_iaddv (z := (12 * x113 + x121 - 578)) d_Tokens_cutPitch_121 (w32_to (by omega) (by unfold i32; omega)) ?_
            refine A_i2l d_Tokens_cutPitch_122 ?_
            refine A_putLk (KR := kF FA s h) T_ok d_Tokens_cutPitch_123 f_Tokens_60 (xi_s k0.1 sf_3) fin_f (kF_l k0 (by decide) (nl_b rfl)) (fun h123 k124 eh123 => ?_)
            refine A_pc (pc' := 126) rfl ?_
            refine A_aload_n 0 d_Tokens_cutPitch_126 rfl rfl ?_
            refine A_bipush d_Tokens_cutPitch_127 rfl ?_
            refine A_iload d_Tokens_cutPitch_129 rfl ?_
            refine A_imulv (z := (7 * x113 - 336)) d_Tokens_cutPitch_131 (w32_to (by omega) (by unfold i32; omega)) ?_
            refine A_iload d_Tokens_cutPitch_132 rfl ?_
            refine A_iaddv (z := (7 * x113 + x120 - 336)) d_Tokens_cutPitch_134 (w32_to (by omega) (by unfold i32; omega)) ?_
            refine A_pc (pc' := 135) rfl ?_
            refine A_putIk (KR := kF FA s h) T_ok d_Tokens_cutPitch_135 f_Tokens_64 (xi_s k124.1 sf_3) fin_f (kF_j k124 (by decide) (ns_b rfl) rgf_3_12 (by omega) (by omega)) (fun h125 k126 eh125 => ?_)
            refine A_aload_n 0 d_Tokens_cutPitch_138 rfl rfl ?_
            refine A_iload_n 2 d_Tokens_cutPitch_139 rfl rfl ?_
            refine A_iconst d_Tokens_cutPitch_140 rfl ?_
            refine A_iaddv (z := (x1 + 4)) d_Tokens_cutPitch_141 (w32_to (by omega) (by unfold i32; omega)) ?_
            refine A_putIk (KR := kF FA s h) T_ok d_Tokens_cutPitch_142 f_Tokens_38 (xi_s k126.1 sf_3) fin_f (kF_j k126 (by decide) (ns_b rfl) rgf_3_8 (by omega) (by omega)) (fun h127 k128 eh127 => ?_)
            refine A_pc (pc' := 145) rfl ?_
            refine A_aload_n 0 d_Tokens_cutPitch_145 rfl rfl ?_
            refine A_sipush d_Tokens_cutPitch_146 rfl ?_
            refine A_putIk (KR := kF FA s h) T_ok d_Tokens_cutPitch_149 f_Tokens_54 (xi_s k128.1 sf_3) fin_f (kF_j k128 (by decide) (ns_b rfl) rgf_3_9 (by omega) (by omega)) (fun h129 k130 eh129 => ?_)
            exact A_vret d_Tokens_cutPitch_152 (by decide) rfl ⟨rfl, k130⟩
          · refine A_aload_n 0 d_Tokens_cutPitch_74 rfl rfl ?_
            refine A_sipush d_Tokens_cutPitch_75 rfl ?_
            refine A_putIk (KR := kF FA s h) T_ok d_Tokens_cutPitch_78 f_Tokens_54 (xi_s k0.1 sf_3) fin_f (kF_j k0 (by decide) (ns_b rfl) rgf_3_9 (by omega) (by omega)) (fun h131 k132 eh131 => ?_)
            exact A_vret d_Tokens_cutPitch_81 (by decide) rfl ⟨rfl, k132⟩
theorem s_Tokens_cutNumber {G : cx_T} {s : Nat} {h : ah_T} (hx : xi s h)   : con G 1 0 0 m_Tokens_cutNumber [av_R (some 3)] h (fun r h' => r = none ∧ kF FA s h h') := by
  refine con_of (L := [some (av_R (some 3)), none, none]) (by decide +kernel) (Nat.le_of_ble_eq_true rfl) rfl ?_
  have hS : isS s := hx.2.1
  have hs0 : s = 17 ∨ s = 80 := hS
  have hs0b : 17 ≤ s ∧ s ≤ 80 := by omega
  have k0 : kF FA s h h := kF_0 hx
  refine A_aload_n 0 d_Tokens_cutNumber_0 rfl rfl ?_
  refine A_getIn (lo := 0) (hi := 2000) T_ok d_Tokens_cutNumber_1 f_Tokens_38 (xi_s k0.1 sf_3) (xi_g k0.1 (by decide) rgf_3_8) (fun x1 ex1 _ _ => ?_)
  refine A_istore_n 1 (L' := [some (av_R (some 3)), some (av_I x1), none]) d_Tokens_cutNumber_4 rfl (Nat.le_of_ble_eq_true rfl) rfl ?_
  refine A_iconst d_Tokens_cutNumber_5 rfl ?_
  refine A_istore_n 2 (L' := [some (av_R (some 3)), some (av_I x1), some (av_I 0)]) d_Tokens_cutNumber_6 rfl (Nat.le_of_ble_eq_true rfl) rfl ?_
  have lp7 : ∀ (n : Nat) (i2 : Int) (h3 : ah_T) , (-2147483648) ≤ i2 → i2 ≤ 2147483647 → kF FA s h h3 → (2001 - h3.2.1 3 8).toNat < n → aw G (rm_R 1 0 0) m_Tokens_cutNumber 0 0 7 [some (av_R (some 3)), some (av_I x1), some (av_I i2)] [] h3 (fun r h' => r = none ∧ kF FA s h h') := by
    intro n
    induction n with
    | zero => intro i2 h3 _ _ _ hm; omega
    | succ n ih7 =>
      intro i2 h3 hl0 hl1 k4 hm
      refine A_aload_n 0 d_Tokens_cutNumber_7 rfl rfl ?_
      refine A_getIn (lo := 0) (hi := 2000) T_ok d_Tokens_cutNumber_8 f_Tokens_38 (xi_s k4.1 sf_3) (xi_g k4.1 (by decide) rgf_3_8) (fun x5 ex5 _ _ => ?_)
      refine A_aload_n 0 d_Tokens_cutNumber_11 rfl rfl ?_
      refine A_getIn (lo := 0) (hi := 2000) T_ok d_Tokens_cutNumber_12 f_Tokens_34 (xi_s k4.1 sf_3) (xi_g k4.1 (by decide) rgf_3_7) (fun x6 ex6 _ _ => ?_)
      refine A_icmp_ge (tgt := 62) d_Tokens_cutNumber_15 (by decide) (fun c7 => ?_) (fun c7 => ?_)
      · refine A_aload_n 0 d_Tokens_cutNumber_62 rfl rfl ?_
        refine A_iload_n 2 d_Tokens_cutNumber_63 rfl rfl ?_
        refine A_i2l d_Tokens_cutNumber_64 ?_
        refine A_putLk (KR := kF FA s h) T_ok d_Tokens_cutNumber_65 f_Tokens_60 (xi_s k4.1 sf_3) fin_f (kF_l k4 (by decide) (nl_b rfl)) (fun h8 k9 eh8 => ?_)
        refine A_aload_n 0 d_Tokens_cutNumber_68 rfl rfl ?_
        refine A_pc (pc' := 69) rfl ?_
        refine A_aload_n 0 d_Tokens_cutNumber_69 rfl rfl ?_
        refine A_getIv (z := x5) T_ok d_Tokens_cutNumber_70 f_Tokens_38 (xi_s k9.1 sf_3) ((congrFun (congrFun eh8.1 _) _).trans ex5.symm) ?_
        refine A_iload_n 1 d_Tokens_cutNumber_73 rfl rfl ?_
        refine A_isubv (z := (x5 - x1)) d_Tokens_cutNumber_74 (w32_to (by omega) (by unfold i32; omega)) ?_
        refine A_iconst d_Tokens_cutNumber_75 rfl ?_
        refine A_icmp_le (tgt := 85) d_Tokens_cutNumber_76 (by decide) (fun c11 => ?_) (fun c11 => ?_)
        · refine A_sipush d_Tokens_cutNumber_85 rfl ?_
          refine A_putIk (KR := kF FA s h) T_ok d_Tokens_cutNumber_88 f_Tokens_54 (xi_s k9.1 sf_3) fin_f (kF_j k9 (by decide) (ns_b rfl) rgf_3_9 (by omega) (by omega)) (fun h12 k13 eh12 => ?_)
          exact A_vret d_Tokens_cutNumber_91 (by decide) rfl ⟨rfl, k13⟩
        · refine A_sipush d_Tokens_cutNumber_79 rfl ?_
          refine A_goto (tgt := 88) d_Tokens_cutNumber_82 (by decide) ?_
          refine A_putIk (KR := kF FA s h) T_ok d_Tokens_cutNumber_88 f_Tokens_54 (xi_s k9.1 sf_3) fin_f (kF_j k9 (by decide) (ns_b rfl) rgf_3_9 (by omega) (by omega)) (fun h14 k15 eh14 => ?_)
          exact A_vret d_Tokens_cutNumber_91 (by decide) rfl ⟨rfl, k15⟩
      · refine A_aload_n 0 d_Tokens_cutNumber_18 rfl rfl ?_
        refine A_aload_n 0 d_Tokens_cutNumber_19 rfl rfl ?_
        refine A_getIv (z := x5) T_ok d_Tokens_cutNumber_20 f_Tokens_38 (xi_s k4.1 sf_3) ex5.symm ?_
        refine A_callV1 m_Tokens_byteAt T_ok d_Tokens_cutNumber_23 l_Tokens_70 k_Tokens_byteAt (xi_s k4.1 sf_3) rfl (by decide +kernel) (by decide) (Nat.le_of_ble_eq_true rfl) (s_Tokens_byteAt k4.1 ) (fun r h17 hq => ?_)
        obtain ⟨x19, rfl, ⟨_, _⟩, xx19, rfl⟩ := hq
        refine A_callS1 m_Tokens_isDigit d_Tokens_cutNumber_26 l_Tokens_85 k_Tokens_isDigit (by decide +kernel) (by decide) (Nat.le_of_ble_eq_true rfl) (s_Tokens_isDigit  ) (fun r h20 hq => ?_)
        obtain ⟨x22, rfl, bx22, xx22, rfl⟩ := hq
        refine A_if_eq (tgt := 62) d_Tokens_cutNumber_29 (by decide) (fun c23 => ?_) (fun c23 => ?_)
        · refine A_aload_n 0 d_Tokens_cutNumber_62 rfl rfl ?_
          refine A_iload_n 2 d_Tokens_cutNumber_63 rfl rfl ?_
          refine A_i2l d_Tokens_cutNumber_64 ?_
          refine A_putLk (KR := kF FA s h) T_ok d_Tokens_cutNumber_65 f_Tokens_60 (xi_s k4.1 sf_3) fin_f (kF_l k4 (by decide) (nl_b rfl)) (fun h24 k25 eh24 => ?_)
          refine A_aload_n 0 d_Tokens_cutNumber_68 rfl rfl ?_
          refine A_pc (pc' := 69) rfl ?_
          refine A_aload_n 0 d_Tokens_cutNumber_69 rfl rfl ?_
          refine A_getIv (z := x5) T_ok d_Tokens_cutNumber_70 f_Tokens_38 (xi_s k25.1 sf_3) ((congrFun (congrFun eh24.1 _) _).trans ex5.symm) ?_
          refine A_iload_n 1 d_Tokens_cutNumber_73 rfl rfl ?_
          refine A_isubv (z := (x5 - x1)) d_Tokens_cutNumber_74 (w32_to (by omega) (by unfold i32; omega)) ?_
          refine A_iconst d_Tokens_cutNumber_75 rfl ?_
          refine A_icmp_le (tgt := 85) d_Tokens_cutNumber_76 (by decide) (fun c27 => ?_) (fun c27 => ?_)
          · refine A_sipush d_Tokens_cutNumber_85 rfl ?_
            refine A_putIk (KR := kF FA s h) T_ok d_Tokens_cutNumber_88 f_Tokens_54 (xi_s k25.1 sf_3) fin_f (kF_j k25 (by decide) (ns_b rfl) rgf_3_9 (by omega) (by omega)) (fun h28 k29 eh28 => ?_)
            exact A_vret d_Tokens_cutNumber_91 (by decide) rfl ⟨rfl, k29⟩
          · refine A_sipush d_Tokens_cutNumber_79 rfl ?_
            refine A_goto (tgt := 88) d_Tokens_cutNumber_82 (by decide) ?_
            refine A_putIk (KR := kF FA s h) T_ok d_Tokens_cutNumber_88 f_Tokens_54 (xi_s k25.1 sf_3) fin_f (kF_j k25 (by decide) (ns_b rfl) rgf_3_9 (by omega) (by omega)) (fun h30 k31 eh30 => ?_)
            exact A_vret d_Tokens_cutNumber_91 (by decide) rfl ⟨rfl, k31⟩
        · refine A_iload_n 2 d_Tokens_cutNumber_32 rfl rfl ?_
          refine A_bipush d_Tokens_cutNumber_33 rfl ?_
          refine A_imulw d_Tokens_cutNumber_35 (fun x32 _ _ _ => ?_)
          refine A_aload_n 0 d_Tokens_cutNumber_36 rfl rfl ?_
          refine A_aload_n 0 d_Tokens_cutNumber_37 rfl rfl ?_
          refine A_pc (pc' := 38) rfl ?_
          refine A_getIv (z := x5) T_ok d_Tokens_cutNumber_38 f_Tokens_38 (xi_s k4.1 sf_3) ex5.symm ?_
          refine A_callV1 m_Tokens_byteAt T_ok d_Tokens_cutNumber_41 l_Tokens_70 k_Tokens_byteAt (xi_s k4.1 sf_3) rfl (by decide +kernel) (by decide) (Nat.le_of_ble_eq_true rfl) (s_Tokens_byteAt k4.1 ) (fun r h34 hq => ?_)
          obtain ⟨x36, rfl, ⟨_, _⟩, xx36, rfl⟩ := hq
          refine A_iaddw d_Tokens_cutNumber_44 (fun x37 _ _ _ => ?_)
          refine A_bipush d_Tokens_cutNumber_45 rfl ?_
          refine A_isubw d_Tokens_cutNumber_47 (fun x38 _ _ _ => ?_)
          refine A_istore_n 2 (L' := [some (av_R (some 3)), some (av_I x1), some (av_I x38)]) d_Tokens_cutNumber_48 rfl (Nat.le_of_ble_eq_true rfl) rfl ?_
          refine A_aload_n 0 d_Tokens_cutNumber_49 rfl rfl ?_
          refine A_pc (pc' := 50) rfl ?_
          refine A_dupR d_Tokens_cutNumber_50 ?_
          refine A_getIv (z := x5) T_ok d_Tokens_cutNumber_51 f_Tokens_38 (xi_s k4.1 sf_3) ex5.symm ?_
          refine A_iconst d_Tokens_cutNumber_54 rfl ?_
          refine A_iaddv (z := (x5 + 1)) d_Tokens_cutNumber_55 (w32_to (by omega) (by unfold i32; omega)) ?_
          refine A_putIk (KR := kF FA s h) T_ok d_Tokens_cutNumber_56 f_Tokens_38 (xi_s k4.1 sf_3) fin_f (kF_j k4 (by decide) (ns_b rfl) rgf_3_8 (by omega) (by omega)) (fun h40 k41 eh40 => ?_)
          refine A_goto (tgt := 7) d_Tokens_cutNumber_59 (by decide) ?_
          exact ih7 x38 h40 (by omega) (by omega) k41 (by omega)
  exact lp7 _ 0 h (by omega) (by omega) k0 (Nat.lt_succ_self _)
theorem s_Tokens_next {G : cx_T} {s : Nat} {h : ah_T} (hx : xi s h)   : con G 0 0 0 m_Tokens_next [av_R (some 3)] h (fun r h' => r = none ∧ kF FA s h h') := by
  refine con_of (L := [some (av_R (some 3))]) (by decide +kernel) (Nat.le_of_ble_eq_true rfl) rfl ?_
  have hS : isS s := hx.2.1
  have hs0 : s = 17 ∨ s = 80 := hS
  have hs0b : 17 ≤ s ∧ s ≤ 80 := by omega
  have k0 : kF FA s h h := kF_0 hx
  refine A_aload_n 0 d_Tokens_next_0 rfl rfl ?_
  refine A_getIn (lo := (-1)) (hi := 2000) T_ok d_Tokens_next_1 f_Tokens_48 (xi_s k0.1 sf_3) (xi_g k0.1 (by decide) rgf_3_5) (fun x1 ex1 _ _ => ?_)
  refine A_iconst d_Tokens_next_4 rfl ?_
  refine A_iaddv (z := (x1 + 1)) d_Tokens_next_5 (w32_to (by omega) (by unfold i32; omega)) ?_
  refine A_aload_n 0 d_Tokens_next_6 rfl rfl ?_
  refine A_pc (pc' := 7) rfl ?_
  refine A_getIn (lo := 0) (hi := 2001) T_ok d_Tokens_next_7 f_Tokens_41 (xi_s k0.1 sf_3) (xi_g k0.1 (by decide) rgf_3_4) (fun x2 ex2 _ _ => ?_)
  refine A_icmp_ge (tgt := 89) d_Tokens_next_10 (by decide) (fun c3 => ?_) (fun c3 => ?_)
  · exact A_vret d_Tokens_next_89 (by decide) rfl ⟨rfl, k0⟩
  · refine A_aload_n 0 d_Tokens_next_13 rfl rfl ?_
    refine A_getIv (z := x1) T_ok d_Tokens_next_14 f_Tokens_48 (xi_s k0.1 sf_3) ex1.symm ?_
    refine A_iconst d_Tokens_next_17 rfl ?_
    refine A_iaddv (z := (x1 + 1)) d_Tokens_next_18 (w32_to (by omega) (by unfold i32; omega)) ?_
    refine A_aload_n 0 d_Tokens_next_19 rfl rfl ?_
    refine A_pc (pc' := 20) rfl ?_
    refine A_getAv (z := some 4) T_ok d_Tokens_next_20 f_Tokens_9 (xi_s k0.1 sf_3) (xi_r k0.1 rff_3_0) ?_
    refine A_alenN d_Tokens_next_23 (xi_s k0.1 sf_4) (by decide) (by decide) ?_
    refine A_icmp_ge (tgt := 89) d_Tokens_next_24 (by decide) (fun c => False.elim (by omega)) (fun c6 => ?_)
    refine A_aload_n 0 d_Tokens_next_27 rfl rfl ?_
    refine A_dupR d_Tokens_next_28 ?_
    refine A_getIv (z := x1) T_ok d_Tokens_next_29 f_Tokens_48 (xi_s k0.1 sf_3) ex1.symm ?_
    refine A_iconst d_Tokens_next_32 rfl ?_
    refine A_iaddv (z := (x1 + 1)) d_Tokens_next_33 (w32_to (by omega) (by unfold i32; omega)) ?_
    refine A_pc (pc' := 34) rfl ?_
    refine A_putIk (KR := kF FA s h) T_ok d_Tokens_next_34 f_Tokens_48 (xi_s k0.1 sf_3) fin_f (kF_j k0 (by decide) (ns_b rfl) rgf_3_5 (by omega) (by omega)) (fun h8 k9 eh8 => ?_)
    refine A_aload_n 0 d_Tokens_next_37 rfl rfl ?_
    refine A_aload_n 0 d_Tokens_next_38 rfl rfl ?_
    refine A_getAv (z := some 4) T_ok d_Tokens_next_39 f_Tokens_9 (xi_s k9.1 sf_3) (xi_r k9.1 rff_3_0) ?_
    refine A_aload_n 0 d_Tokens_next_42 rfl rfl ?_
    refine A_getIv (z := (x1 + 1)) T_ok d_Tokens_next_43 f_Tokens_48 (xi_s k9.1 sf_3) eh8.2.1 ?_
    refine A_pc (pc' := 46) rfl ?_
    refine A_ialoadf d_Tokens_next_46 (xi_s k9.1 sf_4) (by omega) (by omega) (fun x12 ex12 _ _ => ?_)
    refine A_putIk (KR := kF FA s h) T_ok d_Tokens_next_47 f_Tokens_54 (xi_s k9.1 sf_3) fin_f (kF_j k9 (by decide) (ns_b rfl) rgf_3_9 (by omega) (by omega)) (fun h13 k14 eh13 => ?_)
    refine A_aload_n 0 d_Tokens_next_50 rfl rfl ?_
    refine A_aload_n 0 d_Tokens_next_51 rfl rfl ?_
    refine A_getAv (z := some 5) T_ok d_Tokens_next_52 f_Tokens_15 (xi_s k14.1 sf_3) (xi_r k14.1 rff_3_1) ?_
    refine A_aload_n 0 d_Tokens_next_55 rfl rfl ?_
    refine A_pc (pc' := 56) rfl ?_
    refine A_getIv (z := (x1 + 1)) T_ok d_Tokens_next_56 f_Tokens_48 (xi_s k14.1 sf_3) ((eh13.1 _ _ (fun _ => by decide)).trans eh8.2.1) ?_
    refine A_ialoadf d_Tokens_next_59 (xi_s k14.1 sf_5) (by omega) (by omega) (fun x17 ex17 _ _ => ?_)
    refine A_putIk (KR := kF FA s h) T_ok d_Tokens_next_60 f_Tokens_57 (xi_s k14.1 sf_3) fin_f (kF_j k14 (by decide) (ns_b rfl) rgf_3_10 (by omega) (by omega)) (fun h18 k19 eh18 => ?_)
    refine A_aload_n 0 d_Tokens_next_63 rfl rfl ?_
    refine A_aload_n 0 d_Tokens_next_64 rfl rfl ?_
    refine A_getAv (z := some 6) T_ok d_Tokens_next_65 f_Tokens_18 (xi_s k19.1 sf_3) (xi_r k19.1 rff_3_2) ?_
    refine A_pc (pc' := 68) rfl ?_
    refine A_aload_n 0 d_Tokens_next_68 rfl rfl ?_
    refine A_getIv (z := (x1 + 1)) T_ok d_Tokens_next_69 f_Tokens_48 (xi_s k19.1 sf_3) ((eh18.1 _ _ (fun _ => by decide)).trans ((eh13.1 _ _ (fun _ => by decide)).trans eh8.2.1)) ?_
    refine A_laloadf d_Tokens_next_72 (xi_s k19.1 sf_6) (by omega) (by omega) (fun x22 ex22 _ _ => ?_)
    refine A_putLk (KR := kF FA s h) T_ok d_Tokens_next_73 f_Tokens_60 (xi_s k19.1 sf_3) fin_f (kF_l k19 (by decide) (nl_b rfl)) (fun h23 k24 eh23 => ?_)
    refine A_aload_n 0 d_Tokens_next_76 rfl rfl ?_
    refine A_aload_n 0 d_Tokens_next_77 rfl rfl ?_
    refine A_pc (pc' := 78) rfl ?_
    refine A_getAv (z := some 7) T_ok d_Tokens_next_78 f_Tokens_22 (xi_s k24.1 sf_3) (xi_r k24.1 rff_3_3) ?_
    refine A_aload_n 0 d_Tokens_next_81 rfl rfl ?_
    refine A_getIv (z := (x1 + 1)) T_ok d_Tokens_next_82 f_Tokens_48 (xi_s k24.1 sf_3) ((congrFun (congrFun eh23.1 _) _).trans ((eh18.1 _ _ (fun _ => by decide)).trans ((eh13.1 _ _ (fun _ => by decide)).trans eh8.2.1))) ?_
    refine A_ialoadf d_Tokens_next_85 (xi_s k24.1 sf_7) (by omega) (by omega) (fun x27 ex27 _ _ => ?_)
    refine A_putIk (KR := kF FA s h) T_ok d_Tokens_next_86 f_Tokens_64 (xi_s k24.1 sf_3) fin_f (kF_j k24 (by decide) (ns_b rfl) rgf_3_12 (by omega) (by omega)) (fun h28 k29 eh28 => ?_)
    exact A_vret d_Tokens_next_89 (by decide) rfl ⟨rfl, k29⟩
theorem s_Tokens_lettersOf_0 {G : cx_T} {h : ah_T}   : con G 5 0 0 m_Tokens_lettersOf [av_S 10] h (fun r h' => ∃ z, r = some (av_L z) ∧ (1953066341 ≤ z ∧ z ≤ 1953066341) ∧ h = h') := by
  refine con_of (L := [some (av_S 10), none, none, none]) (by decide +kernel) (Nat.le_of_ble_eq_true rfl) rfl ?_
  refine A_lconst_0 d_Tokens_lettersOf_0 ?_
  refine A_lstore_n 1 (L' := [some (av_S 10), some (av_L 0), none, none]) d_Tokens_lettersOf_1 rfl (Nat.le_of_ble_eq_true rfl) rfl ?_
  refine A_iconst d_Tokens_lettersOf_2 rfl ?_
  refine A_istore_n 3 (L' := [some (av_S 10), some (av_L 0), none, some (av_I 0)]) d_Tokens_lettersOf_3 rfl (Nat.le_of_ble_eq_true rfl) rfl ?_
  refine A_iload_n 3 d_Tokens_lettersOf_4 rfl rfl ?_
  refine A_pc (pc' := 5) rfl ?_
  refine A_aload_nS 0 d_Tokens_lettersOf_5 rfl rfl ?_
  refine A_pc (pc' := 6) rfl ?_
  refine A_callT0 (i := 0) (N := m_JString_length) (by decide) rfl d_Tokens_lettersOf_6 ll_Tokens_124 k_JString_length (by decide +kernel) (by decide) (Nat.le_of_ble_eq_true rfl) (s_JString_length  (i := 0) (by decide)) (fun r h1 hq => ?_)
  obtain ⟨x3, rfl, ⟨_, _⟩, xx3, rfl⟩ := hq
  obtain rfl : x3 = 4 := xx3.trans (by decide)
  refine A_icmp_ge (tgt := 30) d_Tokens_lettersOf_9 (by decide) (fun c => absurd c (by decide)) (fun _ => ?_)
  refine A_lload_n 1 d_Tokens_lettersOf_12 rfl rfl ?_
  refine A_bipush d_Tokens_lettersOf_13 rfl ?_
  refine A_lshl d_Tokens_lettersOf_15 ?_
  refine A_cL (z := 0) (by decide +kernel) ?_
  refine A_aload_nS 0 d_Tokens_lettersOf_16 rfl rfl ?_
  refine A_iload_n 3 d_Tokens_lettersOf_17 rfl rfl ?_
  refine A_pc (pc' := 18) rfl ?_
  refine A_pc (pc' := 18) rfl ?_
  refine A_callT1 (i := 0) (N := m_JString_charAt) (by decide) rfl d_Tokens_lettersOf_18 ll_Tokens_127 k_JString_charAt (by decide +kernel) (by decide) (Nat.le_of_ble_eq_true rfl) (s_JString_charAt  (i := 0) (by decide) (by omega) (by omega) (by first | omega | decide)) (fun r h6 hq => ?_)
  obtain ⟨x8, rfl, ⟨_, _⟩, xx8, rfl⟩ := hq
  obtain rfl : x8 = 116 := xx8.trans (by decide)
  refine A_i2l d_Tokens_lettersOf_21 ?_
  refine A_lor d_Tokens_lettersOf_22 ?_
  refine A_cL (z := 116) (by decide +kernel) ?_
  refine A_lstore_n 1 (L' := [some (av_S 10), some (av_L 116), none, some (av_I 0)]) d_Tokens_lettersOf_23 rfl (Nat.le_of_ble_eq_true rfl) rfl ?_
  refine A_iincv (z := 1) (L' := [some (av_S 10), some (av_L 116), none, some (av_I 1)]) d_Tokens_lettersOf_24 rfl (w32_to (by omega) (by unfold i32; omega)) rfl ?_
  refine A_goto (tgt := 4) d_Tokens_lettersOf_27 (by decide) ?_
  refine A_iload_n 3 d_Tokens_lettersOf_4 rfl rfl ?_
  refine A_aload_nS 0 d_Tokens_lettersOf_5 rfl rfl ?_
  refine A_pc (pc' := 6) rfl ?_
  refine A_callT0 (i := 0) (N := m_JString_length) (by decide) rfl d_Tokens_lettersOf_6 ll_Tokens_124 k_JString_length (by decide +kernel) (by decide) (Nat.le_of_ble_eq_true rfl) (s_JString_length  (i := 0) (by decide)) (fun r h10 hq => ?_)
  obtain ⟨x12, rfl, ⟨_, _⟩, xx12, rfl⟩ := hq
  obtain rfl : x12 = 4 := xx12.trans (by decide)
  refine A_icmp_ge (tgt := 30) d_Tokens_lettersOf_9 (by decide) (fun c => absurd c (by decide)) (fun _ => ?_)
  refine A_lload_n 1 d_Tokens_lettersOf_12 rfl rfl ?_
  refine A_bipush d_Tokens_lettersOf_13 rfl ?_
  refine A_lshl d_Tokens_lettersOf_15 ?_
  refine A_cL (z := 29696) (by decide +kernel) ?_
  refine A_aload_nS 0 d_Tokens_lettersOf_16 rfl rfl ?_
  refine A_iload_n 3 d_Tokens_lettersOf_17 rfl rfl ?_
  refine A_pc (pc' := 18) rfl ?_
  refine A_pc (pc' := 18) rfl ?_
  refine A_callT1 (i := 0) (N := m_JString_charAt) (by decide) rfl d_Tokens_lettersOf_18 ll_Tokens_127 k_JString_charAt (by decide +kernel) (by decide) (Nat.le_of_ble_eq_true rfl) (s_JString_charAt  (i := 0) (by decide) (by omega) (by omega) (by first | omega | decide)) (fun r h15 hq => ?_)
  obtain ⟨x17, rfl, ⟨_, _⟩, xx17, rfl⟩ := hq
  obtain rfl : x17 = 105 := xx17.trans (by decide)
  refine A_i2l d_Tokens_lettersOf_21 ?_
  refine A_lor d_Tokens_lettersOf_22 ?_
  refine A_cL (z := 29801) (by decide +kernel) ?_
  refine A_lstore_n 1 (L' := [some (av_S 10), some (av_L 29801), none, some (av_I 1)]) d_Tokens_lettersOf_23 rfl (Nat.le_of_ble_eq_true rfl) rfl ?_
  refine A_iincv (z := 2) (L' := [some (av_S 10), some (av_L 29801), none, some (av_I 2)]) d_Tokens_lettersOf_24 rfl (w32_to (by omega) (by unfold i32; omega)) rfl ?_
  refine A_goto (tgt := 4) d_Tokens_lettersOf_27 (by decide) ?_
  refine A_iload_n 3 d_Tokens_lettersOf_4 rfl rfl ?_
  refine A_aload_nS 0 d_Tokens_lettersOf_5 rfl rfl ?_
  refine A_pc (pc' := 6) rfl ?_
  refine A_callT0 (i := 0) (N := m_JString_length) (by decide) rfl d_Tokens_lettersOf_6 ll_Tokens_124 k_JString_length (by decide +kernel) (by decide) (Nat.le_of_ble_eq_true rfl) (s_JString_length  (i := 0) (by decide)) (fun r h19 hq => ?_)
  obtain ⟨x21, rfl, ⟨_, _⟩, xx21, rfl⟩ := hq
  obtain rfl : x21 = 4 := xx21.trans (by decide)
  refine A_icmp_ge (tgt := 30) d_Tokens_lettersOf_9 (by decide) (fun c => absurd c (by decide)) (fun _ => ?_)
  refine A_lload_n 1 d_Tokens_lettersOf_12 rfl rfl ?_
  refine A_bipush d_Tokens_lettersOf_13 rfl ?_
  refine A_lshl d_Tokens_lettersOf_15 ?_
  refine A_cL (z := 7629056) (by decide +kernel) ?_
  refine A_aload_nS 0 d_Tokens_lettersOf_16 rfl rfl ?_
  refine A_iload_n 3 d_Tokens_lettersOf_17 rfl rfl ?_
  refine A_pc (pc' := 18) rfl ?_
  refine A_pc (pc' := 18) rfl ?_
  refine A_callT1 (i := 0) (N := m_JString_charAt) (by decide) rfl d_Tokens_lettersOf_18 ll_Tokens_127 k_JString_charAt (by decide +kernel) (by decide) (Nat.le_of_ble_eq_true rfl) (s_JString_charAt  (i := 0) (by decide) (by omega) (by omega) (by first | omega | decide)) (fun r h24 hq => ?_)
  obtain ⟨x26, rfl, ⟨_, _⟩, xx26, rfl⟩ := hq
  obtain rfl : x26 = 109 := xx26.trans (by decide)
  refine A_i2l d_Tokens_lettersOf_21 ?_
  refine A_lor d_Tokens_lettersOf_22 ?_
  refine A_cL (z := 7629165) (by decide +kernel) ?_
  refine A_lstore_n 1 (L' := [some (av_S 10), some (av_L 7629165), none, some (av_I 2)]) d_Tokens_lettersOf_23 rfl (Nat.le_of_ble_eq_true rfl) rfl ?_
  refine A_iincv (z := 3) (L' := [some (av_S 10), some (av_L 7629165), none, some (av_I 3)]) d_Tokens_lettersOf_24 rfl (w32_to (by omega) (by unfold i32; omega)) rfl ?_
  refine A_goto (tgt := 4) d_Tokens_lettersOf_27 (by decide) ?_
  refine A_iload_n 3 d_Tokens_lettersOf_4 rfl rfl ?_
  refine A_aload_nS 0 d_Tokens_lettersOf_5 rfl rfl ?_
  refine A_pc (pc' := 6) rfl ?_
  refine A_callT0 (i := 0) (N := m_JString_length) (by decide) rfl d_Tokens_lettersOf_6 ll_Tokens_124 k_JString_length (by decide +kernel) (by decide) (Nat.le_of_ble_eq_true rfl) (s_JString_length  (i := 0) (by decide)) (fun r h28 hq => ?_)
  obtain ⟨x30, rfl, ⟨_, _⟩, xx30, rfl⟩ := hq
  obtain rfl : x30 = 4 := xx30.trans (by decide)
  refine A_icmp_ge (tgt := 30) d_Tokens_lettersOf_9 (by decide) (fun c => absurd c (by decide)) (fun _ => ?_)
  refine A_lload_n 1 d_Tokens_lettersOf_12 rfl rfl ?_
  refine A_bipush d_Tokens_lettersOf_13 rfl ?_
  refine A_lshl d_Tokens_lettersOf_15 ?_
  refine A_cL (z := 1953066240) (by decide +kernel) ?_
  refine A_aload_nS 0 d_Tokens_lettersOf_16 rfl rfl ?_
  refine A_iload_n 3 d_Tokens_lettersOf_17 rfl rfl ?_
  refine A_pc (pc' := 18) rfl ?_
  refine A_pc (pc' := 18) rfl ?_
  refine A_callT1 (i := 0) (N := m_JString_charAt) (by decide) rfl d_Tokens_lettersOf_18 ll_Tokens_127 k_JString_charAt (by decide +kernel) (by decide) (Nat.le_of_ble_eq_true rfl) (s_JString_charAt  (i := 0) (by decide) (by omega) (by omega) (by first | omega | decide)) (fun r h33 hq => ?_)
  obtain ⟨x35, rfl, ⟨_, _⟩, xx35, rfl⟩ := hq
  obtain rfl : x35 = 101 := xx35.trans (by decide)
  refine A_i2l d_Tokens_lettersOf_21 ?_
  refine A_lor d_Tokens_lettersOf_22 ?_
  refine A_cL (z := 1953066341) (by decide +kernel) ?_
  refine A_lstore_n 1 (L' := [some (av_S 10), some (av_L 1953066341), none, some (av_I 3)]) d_Tokens_lettersOf_23 rfl (Nat.le_of_ble_eq_true rfl) rfl ?_
  refine A_iincv (z := 4) (L' := [some (av_S 10), some (av_L 1953066341), none, some (av_I 4)]) d_Tokens_lettersOf_24 rfl (w32_to (by omega) (by unfold i32; omega)) rfl ?_
  refine A_goto (tgt := 4) d_Tokens_lettersOf_27 (by decide) ?_
  refine A_iload_n 3 d_Tokens_lettersOf_4 rfl rfl ?_
  refine A_aload_nS 0 d_Tokens_lettersOf_5 rfl rfl ?_
  refine A_pc (pc' := 6) rfl ?_
  refine A_callT0 (i := 0) (N := m_JString_length) (by decide) rfl d_Tokens_lettersOf_6 ll_Tokens_124 k_JString_length (by decide +kernel) (by decide) (Nat.le_of_ble_eq_true rfl) (s_JString_length  (i := 0) (by decide)) (fun r h37 hq => ?_)
  obtain ⟨x39, rfl, ⟨_, _⟩, xx39, rfl⟩ := hq
  obtain rfl : x39 = 4 := xx39.trans (by decide)
  refine A_icmp_ge (tgt := 30) d_Tokens_lettersOf_9 (by decide) (fun _ => ?_) (fun c => absurd c (by decide))
  refine A_lload_n 1 d_Tokens_lettersOf_30 rfl rfl ?_
  exact A_lret d_Tokens_lettersOf_31 (by decide) rfl ⟨_, rfl, ⟨by omega, by omega⟩, rfl⟩
theorem s_Tokens_lettersOf_1 {G : cx_T} {h : ah_T}   : con G 5 0 0 m_Tokens_lettersOf [av_S 11] h (fun r h' => ∃ z, r = some (av_L z) ∧ (508675318629 ≤ z ∧ z ≤ 508675318629) ∧ h = h') := by
  refine con_of (L := [some (av_S 11), none, none, none]) (by decide +kernel) (Nat.le_of_ble_eq_true rfl) rfl ?_
  refine A_lconst_0 d_Tokens_lettersOf_0 ?_
  refine A_lstore_n 1 (L' := [some (av_S 11), some (av_L 0), none, none]) d_Tokens_lettersOf_1 rfl (Nat.le_of_ble_eq_true rfl) rfl ?_
  refine A_iconst d_Tokens_lettersOf_2 rfl ?_
  refine A_istore_n 3 (L' := [some (av_S 11), some (av_L 0), none, some (av_I 0)]) d_Tokens_lettersOf_3 rfl (Nat.le_of_ble_eq_true rfl) rfl ?_
  refine A_iload_n 3 d_Tokens_lettersOf_4 rfl rfl ?_
  refine A_pc (pc' := 5) rfl ?_
  refine A_aload_nS 0 d_Tokens_lettersOf_5 rfl rfl ?_
  refine A_pc (pc' := 6) rfl ?_
  refine A_callT0 (i := 1) (N := m_JString_length) (by decide) rfl d_Tokens_lettersOf_6 ll_Tokens_124 k_JString_length (by decide +kernel) (by decide) (Nat.le_of_ble_eq_true rfl) (s_JString_length  (i := 1) (by decide)) (fun r h1 hq => ?_)
  obtain ⟨x3, rfl, ⟨_, _⟩, xx3, rfl⟩ := hq
  obtain rfl : x3 = 5 := xx3.trans (by decide)
  refine A_icmp_ge (tgt := 30) d_Tokens_lettersOf_9 (by decide) (fun c => absurd c (by decide)) (fun _ => ?_)
  refine A_lload_n 1 d_Tokens_lettersOf_12 rfl rfl ?_
  refine A_bipush d_Tokens_lettersOf_13 rfl ?_
  refine A_lshl d_Tokens_lettersOf_15 ?_
  refine A_cL (z := 0) (by decide +kernel) ?_
  refine A_aload_nS 0 d_Tokens_lettersOf_16 rfl rfl ?_
  refine A_iload_n 3 d_Tokens_lettersOf_17 rfl rfl ?_
  refine A_pc (pc' := 18) rfl ?_
  refine A_pc (pc' := 18) rfl ?_
  refine A_callT1 (i := 1) (N := m_JString_charAt) (by decide) rfl d_Tokens_lettersOf_18 ll_Tokens_127 k_JString_charAt (by decide +kernel) (by decide) (Nat.le_of_ble_eq_true rfl) (s_JString_charAt  (i := 1) (by decide) (by omega) (by omega) (by first | omega | decide)) (fun r h6 hq => ?_)
  obtain ⟨x8, rfl, ⟨_, _⟩, xx8, rfl⟩ := hq
  obtain rfl : x8 = 118 := xx8.trans (by decide)
  refine A_i2l d_Tokens_lettersOf_21 ?_
  refine A_lor d_Tokens_lettersOf_22 ?_
  refine A_cL (z := 118) (by decide +kernel) ?_
  refine A_lstore_n 1 (L' := [some (av_S 11), some (av_L 118), none, some (av_I 0)]) d_Tokens_lettersOf_23 rfl (Nat.le_of_ble_eq_true rfl) rfl ?_
  refine A_iincv (z := 1) (L' := [some (av_S 11), some (av_L 118), none, some (av_I 1)]) d_Tokens_lettersOf_24 rfl (w32_to (by omega) (by unfold i32; omega)) rfl ?_
  refine A_goto (tgt := 4) d_Tokens_lettersOf_27 (by decide) ?_
  refine A_iload_n 3 d_Tokens_lettersOf_4 rfl rfl ?_
  refine A_aload_nS 0 d_Tokens_lettersOf_5 rfl rfl ?_
  refine A_pc (pc' := 6) rfl ?_
  refine A_callT0 (i := 1) (N := m_JString_length) (by decide) rfl d_Tokens_lettersOf_6 ll_Tokens_124 k_JString_length (by decide +kernel) (by decide) (Nat.le_of_ble_eq_true rfl) (s_JString_length  (i := 1) (by decide)) (fun r h10 hq => ?_)
  obtain ⟨x12, rfl, ⟨_, _⟩, xx12, rfl⟩ := hq
  obtain rfl : x12 = 5 := xx12.trans (by decide)
  refine A_icmp_ge (tgt := 30) d_Tokens_lettersOf_9 (by decide) (fun c => absurd c (by decide)) (fun _ => ?_)
  refine A_lload_n 1 d_Tokens_lettersOf_12 rfl rfl ?_
  refine A_bipush d_Tokens_lettersOf_13 rfl ?_
  refine A_lshl d_Tokens_lettersOf_15 ?_
  refine A_cL (z := 30208) (by decide +kernel) ?_
  refine A_aload_nS 0 d_Tokens_lettersOf_16 rfl rfl ?_
  refine A_iload_n 3 d_Tokens_lettersOf_17 rfl rfl ?_
  refine A_pc (pc' := 18) rfl ?_
  refine A_pc (pc' := 18) rfl ?_
  refine A_callT1 (i := 1) (N := m_JString_charAt) (by decide) rfl d_Tokens_lettersOf_18 ll_Tokens_127 k_JString_charAt (by decide +kernel) (by decide) (Nat.le_of_ble_eq_true rfl) (s_JString_charAt  (i := 1) (by decide) (by omega) (by omega) (by first | omega | decide)) (fun r h15 hq => ?_)
  obtain ⟨x17, rfl, ⟨_, _⟩, xx17, rfl⟩ := hq
  obtain rfl : x17 = 111 := xx17.trans (by decide)
  refine A_i2l d_Tokens_lettersOf_21 ?_
  refine A_lor d_Tokens_lettersOf_22 ?_
  refine A_cL (z := 30319) (by decide +kernel) ?_
  refine A_lstore_n 1 (L' := [some (av_S 11), some (av_L 30319), none, some (av_I 1)]) d_Tokens_lettersOf_23 rfl (Nat.le_of_ble_eq_true rfl) rfl ?_
  refine A_iincv (z := 2) (L' := [some (av_S 11), some (av_L 30319), none, some (av_I 2)]) d_Tokens_lettersOf_24 rfl (w32_to (by omega) (by unfold i32; omega)) rfl ?_
  refine A_goto (tgt := 4) d_Tokens_lettersOf_27 (by decide) ?_
  refine A_iload_n 3 d_Tokens_lettersOf_4 rfl rfl ?_
  refine A_aload_nS 0 d_Tokens_lettersOf_5 rfl rfl ?_
  refine A_pc (pc' := 6) rfl ?_
  refine A_callT0 (i := 1) (N := m_JString_length) (by decide) rfl d_Tokens_lettersOf_6 ll_Tokens_124 k_JString_length (by decide +kernel) (by decide) (Nat.le_of_ble_eq_true rfl) (s_JString_length  (i := 1) (by decide)) (fun r h19 hq => ?_)
  obtain ⟨x21, rfl, ⟨_, _⟩, xx21, rfl⟩ := hq
  obtain rfl : x21 = 5 := xx21.trans (by decide)
  refine A_icmp_ge (tgt := 30) d_Tokens_lettersOf_9 (by decide) (fun c => absurd c (by decide)) (fun _ => ?_)
  refine A_lload_n 1 d_Tokens_lettersOf_12 rfl rfl ?_
  refine A_bipush d_Tokens_lettersOf_13 rfl ?_
  refine A_lshl d_Tokens_lettersOf_15 ?_
  refine A_cL (z := 7761664) (by decide +kernel) ?_
  refine A_aload_nS 0 d_Tokens_lettersOf_16 rfl rfl ?_
  refine A_iload_n 3 d_Tokens_lettersOf_17 rfl rfl ?_
  refine A_pc (pc' := 18) rfl ?_
  refine A_pc (pc' := 18) rfl ?_
  refine A_callT1 (i := 1) (N := m_JString_charAt) (by decide) rfl d_Tokens_lettersOf_18 ll_Tokens_127 k_JString_charAt (by decide +kernel) (by decide) (Nat.le_of_ble_eq_true rfl) (s_JString_charAt  (i := 1) (by decide) (by omega) (by omega) (by first | omega | decide)) (fun r h24 hq => ?_)
  obtain ⟨x26, rfl, ⟨_, _⟩, xx26, rfl⟩ := hq
  obtain rfl : x26 = 105 := xx26.trans (by decide)
  refine A_i2l d_Tokens_lettersOf_21 ?_
  refine A_lor d_Tokens_lettersOf_22 ?_
  refine A_cL (z := 7761769) (by decide +kernel) ?_
  refine A_lstore_n 1 (L' := [some (av_S 11), some (av_L 7761769), none, some (av_I 2)]) d_Tokens_lettersOf_23 rfl (Nat.le_of_ble_eq_true rfl) rfl ?_
  refine A_iincv (z := 3) (L' := [some (av_S 11), some (av_L 7761769), none, some (av_I 3)]) d_Tokens_lettersOf_24 rfl (w32_to (by omega) (by unfold i32; omega)) rfl ?_
  refine A_goto (tgt := 4) d_Tokens_lettersOf_27 (by decide) ?_
  refine A_iload_n 3 d_Tokens_lettersOf_4 rfl rfl ?_
  refine A_aload_nS 0 d_Tokens_lettersOf_5 rfl rfl ?_
  refine A_pc (pc' := 6) rfl ?_
  refine A_callT0 (i := 1) (N := m_JString_length) (by decide) rfl d_Tokens_lettersOf_6 ll_Tokens_124 k_JString_length (by decide +kernel) (by decide) (Nat.le_of_ble_eq_true rfl) (s_JString_length  (i := 1) (by decide)) (fun r h28 hq => ?_)
  obtain ⟨x30, rfl, ⟨_, _⟩, xx30, rfl⟩ := hq
  obtain rfl : x30 = 5 := xx30.trans (by decide)
  refine A_icmp_ge (tgt := 30) d_Tokens_lettersOf_9 (by decide) (fun c => absurd c (by decide)) (fun _ => ?_)
  refine A_lload_n 1 d_Tokens_lettersOf_12 rfl rfl ?_
  refine A_bipush d_Tokens_lettersOf_13 rfl ?_
  refine A_lshl d_Tokens_lettersOf_15 ?_
  refine A_cL (z := 1987012864) (by decide +kernel) ?_
  refine A_aload_nS 0 d_Tokens_lettersOf_16 rfl rfl ?_
  refine A_iload_n 3 d_Tokens_lettersOf_17 rfl rfl ?_
  refine A_pc (pc' := 18) rfl ?_
  refine A_pc (pc' := 18) rfl ?_
  refine A_callT1 (i := 1) (N := m_JString_charAt) (by decide) rfl d_Tokens_lettersOf_18 ll_Tokens_127 k_JString_charAt (by decide +kernel) (by decide) (Nat.le_of_ble_eq_true rfl) (s_JString_charAt  (i := 1) (by decide) (by omega) (by omega) (by first | omega | decide)) (fun r h33 hq => ?_)
  obtain ⟨x35, rfl, ⟨_, _⟩, xx35, rfl⟩ := hq
  obtain rfl : x35 = 99 := xx35.trans (by decide)
  refine A_i2l d_Tokens_lettersOf_21 ?_
  refine A_lor d_Tokens_lettersOf_22 ?_
  refine A_cL (z := 1987012963) (by decide +kernel) ?_
  refine A_lstore_n 1 (L' := [some (av_S 11), some (av_L 1987012963), none, some (av_I 3)]) d_Tokens_lettersOf_23 rfl (Nat.le_of_ble_eq_true rfl) rfl ?_
  refine A_iincv (z := 4) (L' := [some (av_S 11), some (av_L 1987012963), none, some (av_I 4)]) d_Tokens_lettersOf_24 rfl (w32_to (by omega) (by unfold i32; omega)) rfl ?_
  refine A_goto (tgt := 4) d_Tokens_lettersOf_27 (by decide) ?_
  refine A_iload_n 3 d_Tokens_lettersOf_4 rfl rfl ?_
  refine A_aload_nS 0 d_Tokens_lettersOf_5 rfl rfl ?_
  refine A_pc (pc' := 6) rfl ?_
  refine A_callT0 (i := 1) (N := m_JString_length) (by decide) rfl d_Tokens_lettersOf_6 ll_Tokens_124 k_JString_length (by decide +kernel) (by decide) (Nat.le_of_ble_eq_true rfl) (s_JString_length  (i := 1) (by decide)) (fun r h37 hq => ?_)
  obtain ⟨x39, rfl, ⟨_, _⟩, xx39, rfl⟩ := hq
  obtain rfl : x39 = 5 := xx39.trans (by decide)
  refine A_icmp_ge (tgt := 30) d_Tokens_lettersOf_9 (by decide) (fun c => absurd c (by decide)) (fun _ => ?_)
  refine A_lload_n 1 d_Tokens_lettersOf_12 rfl rfl ?_
  refine A_bipush d_Tokens_lettersOf_13 rfl ?_
  refine A_lshl d_Tokens_lettersOf_15 ?_
  refine A_cL (z := 508675318528) (by decide +kernel) ?_
  refine A_aload_nS 0 d_Tokens_lettersOf_16 rfl rfl ?_
  refine A_iload_n 3 d_Tokens_lettersOf_17 rfl rfl ?_
  refine A_pc (pc' := 18) rfl ?_
  refine A_pc (pc' := 18) rfl ?_
  refine A_callT1 (i := 1) (N := m_JString_charAt) (by decide) rfl d_Tokens_lettersOf_18 ll_Tokens_127 k_JString_charAt (by decide +kernel) (by decide) (Nat.le_of_ble_eq_true rfl) (s_JString_charAt  (i := 1) (by decide) (by omega) (by omega) (by first | omega | decide)) (fun r h42 hq => ?_)
  obtain ⟨x44, rfl, ⟨_, _⟩, xx44, rfl⟩ := hq
  obtain rfl : x44 = 101 := xx44.trans (by decide)
  refine A_i2l d_Tokens_lettersOf_21 ?_
  refine A_lor d_Tokens_lettersOf_22 ?_
  refine A_cL (z := 508675318629) (by decide +kernel) ?_
  refine A_lstore_n 1 (L' := [some (av_S 11), some (av_L 508675318629), none, some (av_I 4)]) d_Tokens_lettersOf_23 rfl (Nat.le_of_ble_eq_true rfl) rfl ?_
  refine A_iincv (z := 5) (L' := [some (av_S 11), some (av_L 508675318629), none, some (av_I 5)]) d_Tokens_lettersOf_24 rfl (w32_to (by omega) (by unfold i32; omega)) rfl ?_
  refine A_goto (tgt := 4) d_Tokens_lettersOf_27 (by decide) ?_
  refine A_iload_n 3 d_Tokens_lettersOf_4 rfl rfl ?_
  refine A_aload_nS 0 d_Tokens_lettersOf_5 rfl rfl ?_
  refine A_pc (pc' := 6) rfl ?_
  refine A_callT0 (i := 1) (N := m_JString_length) (by decide) rfl d_Tokens_lettersOf_6 ll_Tokens_124 k_JString_length (by decide +kernel) (by decide) (Nat.le_of_ble_eq_true rfl) (s_JString_length  (i := 1) (by decide)) (fun r h46 hq => ?_)
  obtain ⟨x48, rfl, ⟨_, _⟩, xx48, rfl⟩ := hq
  obtain rfl : x48 = 5 := xx48.trans (by decide)
  refine A_icmp_ge (tgt := 30) d_Tokens_lettersOf_9 (by decide) (fun _ => ?_) (fun c => absurd c (by decide))
  refine A_lload_n 1 d_Tokens_lettersOf_30 rfl rfl ?_
  exact A_lret d_Tokens_lettersOf_31 (by decide) rfl ⟨_, rfl, ⟨by omega, by omega⟩, rfl⟩
theorem s_Tokens_lettersOf_2 {G : cx_T} {h : ah_T}   : con G 5 0 0 m_Tokens_lettersOf [av_S 12] h (fun r h' => ∃ z, r = some (av_L z) ∧ (1818848869 ≤ z ∧ z ≤ 1818848869) ∧ h = h') := by
  refine con_of (L := [some (av_S 12), none, none, none]) (by decide +kernel) (Nat.le_of_ble_eq_true rfl) rfl ?_
  refine A_lconst_0 d_Tokens_lettersOf_0 ?_
  refine A_lstore_n 1 (L' := [some (av_S 12), some (av_L 0), none, none]) d_Tokens_lettersOf_1 rfl (Nat.le_of_ble_eq_true rfl) rfl ?_
  refine A_iconst d_Tokens_lettersOf_2 rfl ?_
  refine A_istore_n 3 (L' := [some (av_S 12), some (av_L 0), none, some (av_I 0)]) d_Tokens_lettersOf_3 rfl (Nat.le_of_ble_eq_true rfl) rfl ?_
  refine A_iload_n 3 d_Tokens_lettersOf_4 rfl rfl ?_
  refine A_pc (pc' := 5) rfl ?_
  refine A_aload_nS 0 d_Tokens_lettersOf_5 rfl rfl ?_
  refine A_pc (pc' := 6) rfl ?_
  refine A_callT0 (i := 2) (N := m_JString_length) (by decide) rfl d_Tokens_lettersOf_6 ll_Tokens_124 k_JString_length (by decide +kernel) (by decide) (Nat.le_of_ble_eq_true rfl) (s_JString_length  (i := 2) (by decide)) (fun r h1 hq => ?_)
  obtain ⟨x3, rfl, ⟨_, _⟩, xx3, rfl⟩ := hq
  obtain rfl : x3 = 4 := xx3.trans (by decide)
  refine A_icmp_ge (tgt := 30) d_Tokens_lettersOf_9 (by decide) (fun c => absurd c (by decide)) (fun _ => ?_)
  refine A_lload_n 1 d_Tokens_lettersOf_12 rfl rfl ?_
  refine A_bipush d_Tokens_lettersOf_13 rfl ?_
  refine A_lshl d_Tokens_lettersOf_15 ?_
  refine A_cL (z := 0) (by decide +kernel) ?_
  refine A_aload_nS 0 d_Tokens_lettersOf_16 rfl rfl ?_
  refine A_iload_n 3 d_Tokens_lettersOf_17 rfl rfl ?_
  refine A_pc (pc' := 18) rfl ?_
  refine A_pc (pc' := 18) rfl ?_
  refine A_callT1 (i := 2) (N := m_JString_charAt) (by decide) rfl d_Tokens_lettersOf_18 ll_Tokens_127 k_JString_charAt (by decide +kernel) (by decide) (Nat.le_of_ble_eq_true rfl) (s_JString_charAt  (i := 2) (by decide) (by omega) (by omega) (by first | omega | decide)) (fun r h6 hq => ?_)
  obtain ⟨x8, rfl, ⟨_, _⟩, xx8, rfl⟩ := hq
  obtain rfl : x8 = 108 := xx8.trans (by decide)
  refine A_i2l d_Tokens_lettersOf_21 ?_
  refine A_lor d_Tokens_lettersOf_22 ?_
  refine A_cL (z := 108) (by decide +kernel) ?_
  refine A_lstore_n 1 (L' := [some (av_S 12), some (av_L 108), none, some (av_I 0)]) d_Tokens_lettersOf_23 rfl (Nat.le_of_ble_eq_true rfl) rfl ?_
  refine A_iincv (z := 1) (L' := [some (av_S 12), some (av_L 108), none, some (av_I 1)]) d_Tokens_lettersOf_24 rfl (w32_to (by omega) (by unfold i32; omega)) rfl ?_
  refine A_goto (tgt := 4) d_Tokens_lettersOf_27 (by decide) ?_
  refine A_iload_n 3 d_Tokens_lettersOf_4 rfl rfl ?_
  refine A_aload_nS 0 d_Tokens_lettersOf_5 rfl rfl ?_
  refine A_pc (pc' := 6) rfl ?_
  refine A_callT0 (i := 2) (N := m_JString_length) (by decide) rfl d_Tokens_lettersOf_6 ll_Tokens_124 k_JString_length (by decide +kernel) (by decide) (Nat.le_of_ble_eq_true rfl) (s_JString_length  (i := 2) (by decide)) (fun r h10 hq => ?_)
  obtain ⟨x12, rfl, ⟨_, _⟩, xx12, rfl⟩ := hq
  obtain rfl : x12 = 4 := xx12.trans (by decide)
  refine A_icmp_ge (tgt := 30) d_Tokens_lettersOf_9 (by decide) (fun c => absurd c (by decide)) (fun _ => ?_)
  refine A_lload_n 1 d_Tokens_lettersOf_12 rfl rfl ?_
  refine A_bipush d_Tokens_lettersOf_13 rfl ?_
  refine A_lshl d_Tokens_lettersOf_15 ?_
  refine A_cL (z := 27648) (by decide +kernel) ?_
  refine A_aload_nS 0 d_Tokens_lettersOf_16 rfl rfl ?_
  refine A_iload_n 3 d_Tokens_lettersOf_17 rfl rfl ?_
  refine A_pc (pc' := 18) rfl ?_
  refine A_pc (pc' := 18) rfl ?_
  refine A_callT1 (i := 2) (N := m_JString_charAt) (by decide) rfl d_Tokens_lettersOf_18 ll_Tokens_127 k_JString_charAt (by decide +kernel) (by decide) (Nat.le_of_ble_eq_true rfl) (s_JString_charAt  (i := 2) (by decide) (by omega) (by omega) (by first | omega | decide)) (fun r h15 hq => ?_)
  obtain ⟨x17, rfl, ⟨_, _⟩, xx17, rfl⟩ := hq
  obtain rfl : x17 = 105 := xx17.trans (by decide)
  refine A_i2l d_Tokens_lettersOf_21 ?_
  refine A_lor d_Tokens_lettersOf_22 ?_
  refine A_cL (z := 27753) (by decide +kernel) ?_
  refine A_lstore_n 1 (L' := [some (av_S 12), some (av_L 27753), none, some (av_I 1)]) d_Tokens_lettersOf_23 rfl (Nat.le_of_ble_eq_true rfl) rfl ?_
  refine A_iincv (z := 2) (L' := [some (av_S 12), some (av_L 27753), none, some (av_I 2)]) d_Tokens_lettersOf_24 rfl (w32_to (by omega) (by unfold i32; omega)) rfl ?_
  refine A_goto (tgt := 4) d_Tokens_lettersOf_27 (by decide) ?_
  refine A_iload_n 3 d_Tokens_lettersOf_4 rfl rfl ?_
  refine A_aload_nS 0 d_Tokens_lettersOf_5 rfl rfl ?_
  refine A_pc (pc' := 6) rfl ?_
  refine A_callT0 (i := 2) (N := m_JString_length) (by decide) rfl d_Tokens_lettersOf_6 ll_Tokens_124 k_JString_length (by decide +kernel) (by decide) (Nat.le_of_ble_eq_true rfl) (s_JString_length  (i := 2) (by decide)) (fun r h19 hq => ?_)
  obtain ⟨x21, rfl, ⟨_, _⟩, xx21, rfl⟩ := hq
  obtain rfl : x21 = 4 := xx21.trans (by decide)
  refine A_icmp_ge (tgt := 30) d_Tokens_lettersOf_9 (by decide) (fun c => absurd c (by decide)) (fun _ => ?_)
  refine A_lload_n 1 d_Tokens_lettersOf_12 rfl rfl ?_
  refine A_bipush d_Tokens_lettersOf_13 rfl ?_
  refine A_lshl d_Tokens_lettersOf_15 ?_
  refine A_cL (z := 7104768) (by decide +kernel) ?_
  refine A_aload_nS 0 d_Tokens_lettersOf_16 rfl rfl ?_
  refine A_iload_n 3 d_Tokens_lettersOf_17 rfl rfl ?_
  refine A_pc (pc' := 18) rfl ?_
  refine A_pc (pc' := 18) rfl ?_
  refine A_callT1 (i := 2) (N := m_JString_charAt) (by decide) rfl d_Tokens_lettersOf_18 ll_Tokens_127 k_JString_charAt (by decide +kernel) (by decide) (Nat.le_of_ble_eq_true rfl) (s_JString_charAt  (i := 2) (by decide) (by omega) (by omega) (by first | omega | decide)) (fun r h24 hq => ?_)
  obtain ⟨x26, rfl, ⟨_, _⟩, xx26, rfl⟩ := hq
  obtain rfl : x26 = 110 := xx26.trans (by decide)
  refine A_i2l d_Tokens_lettersOf_21 ?_
  refine A_lor d_Tokens_lettersOf_22 ?_
  refine A_cL (z := 7104878) (by decide +kernel) ?_
  refine A_lstore_n 1 (L' := [some (av_S 12), some (av_L 7104878), none, some (av_I 2)]) d_Tokens_lettersOf_23 rfl (Nat.le_of_ble_eq_true rfl) rfl ?_
  refine A_iincv (z := 3) (L' := [some (av_S 12), some (av_L 7104878), none, some (av_I 3)]) d_Tokens_lettersOf_24 rfl (w32_to (by omega) (by unfold i32; omega)) rfl ?_
  refine A_goto (tgt := 4) d_Tokens_lettersOf_27 (by decide) ?_
  refine A_iload_n 3 d_Tokens_lettersOf_4 rfl rfl ?_
  refine A_aload_nS 0 d_Tokens_lettersOf_5 rfl rfl ?_
  refine A_pc (pc' := 6) rfl ?_
  refine A_callT0 (i := 2) (N := m_JString_length) (by decide) rfl d_Tokens_lettersOf_6 ll_Tokens_124 k_JString_length (by decide +kernel) (by decide) (Nat.le_of_ble_eq_true rfl) (s_JString_length  (i := 2) (by decide)) (fun r h28 hq => ?_)
  obtain ⟨x30, rfl, ⟨_, _⟩, xx30, rfl⟩ := hq
  obtain rfl : x30 = 4 := xx30.trans (by decide)
  refine A_icmp_ge (tgt := 30) d_Tokens_lettersOf_9 (by decide) (fun c => absurd c (by decide)) (fun _ => ?_)
  refine A_lload_n 1 d_Tokens_lettersOf_12 rfl rfl ?_
  refine A_bipush d_Tokens_lettersOf_13 rfl ?_
  refine A_lshl d_Tokens_lettersOf_15 ?_
  refine A_cL (z := 1818848768) (by decide +kernel) ?_
  refine A_aload_nS 0 d_Tokens_lettersOf_16 rfl rfl ?_
  refine A_iload_n 3 d_Tokens_lettersOf_17 rfl rfl ?_
  refine A_pc (pc' := 18) rfl ?_
  refine A_pc (pc' := 18) rfl ?_
  refine A_callT1 (i := 2) (N := m_JString_charAt) (by decide) rfl d_Tokens_lettersOf_18 ll_Tokens_127 k_JString_charAt (by decide +kernel) (by decide) (Nat.le_of_ble_eq_true rfl) (s_JString_charAt  (i := 2) (by decide) (by omega) (by omega) (by first | omega | decide)) (fun r h33 hq => ?_)
  obtain ⟨x35, rfl, ⟨_, _⟩, xx35, rfl⟩ := hq
  obtain rfl : x35 = 101 := xx35.trans (by decide)
  refine A_i2l d_Tokens_lettersOf_21 ?_
  refine A_lor d_Tokens_lettersOf_22 ?_
  refine A_cL (z := 1818848869) (by decide +kernel) ?_
  refine A_lstore_n 1 (L' := [some (av_S 12), some (av_L 1818848869), none, some (av_I 3)]) d_Tokens_lettersOf_23 rfl (Nat.le_of_ble_eq_true rfl) rfl ?_
  refine A_iincv (z := 4) (L' := [some (av_S 12), some (av_L 1818848869), none, some (av_I 4)]) d_Tokens_lettersOf_24 rfl (w32_to (by omega) (by unfold i32; omega)) rfl ?_
  refine A_goto (tgt := 4) d_Tokens_lettersOf_27 (by decide) ?_
  refine A_iload_n 3 d_Tokens_lettersOf_4 rfl rfl ?_
  refine A_aload_nS 0 d_Tokens_lettersOf_5 rfl rfl ?_
  refine A_pc (pc' := 6) rfl ?_
  refine A_callT0 (i := 2) (N := m_JString_length) (by decide) rfl d_Tokens_lettersOf_6 ll_Tokens_124 k_JString_length (by decide +kernel) (by decide) (Nat.le_of_ble_eq_true rfl) (s_JString_length  (i := 2) (by decide)) (fun r h37 hq => ?_)
  obtain ⟨x39, rfl, ⟨_, _⟩, xx39, rfl⟩ := hq
  obtain rfl : x39 = 4 := xx39.trans (by decide)
  refine A_icmp_ge (tgt := 30) d_Tokens_lettersOf_9 (by decide) (fun _ => ?_) (fun c => absurd c (by decide))
  refine A_lload_n 1 d_Tokens_lettersOf_30 rfl rfl ?_
  exact A_lret d_Tokens_lettersOf_31 (by decide) rfl ⟨_, rfl, ⟨by omega, by omega⟩, rfl⟩
theorem s_Tokens_lettersOf_3 {G : cx_T} {h : ah_T}   : con G 5 0 0 m_Tokens_lettersOf [av_S 13] h (fun r h' => ∃ z, r = some (av_L z) ∧ (1920298085 ≤ z ∧ z ≤ 1920298085) ∧ h = h') := by
  refine con_of (L := [some (av_S 13), none, none, none]) (by decide +kernel) (Nat.le_of_ble_eq_true rfl) rfl ?_
  refine A_lconst_0 d_Tokens_lettersOf_0 ?_
  refine A_lstore_n 1 (L' := [some (av_S 13), some (av_L 0), none, none]) d_Tokens_lettersOf_1 rfl (Nat.le_of_ble_eq_true rfl) rfl ?_
  refine A_iconst d_Tokens_lettersOf_2 rfl ?_
  refine A_istore_n 3 (L' := [some (av_S 13), some (av_L 0), none, some (av_I 0)]) d_Tokens_lettersOf_3 rfl (Nat.le_of_ble_eq_true rfl) rfl ?_
  refine A_iload_n 3 d_Tokens_lettersOf_4 rfl rfl ?_
  refine A_pc (pc' := 5) rfl ?_
  refine A_aload_nS 0 d_Tokens_lettersOf_5 rfl rfl ?_
  refine A_pc (pc' := 6) rfl ?_
  refine A_callT0 (i := 3) (N := m_JString_length) (by decide) rfl d_Tokens_lettersOf_6 ll_Tokens_124 k_JString_length (by decide +kernel) (by decide) (Nat.le_of_ble_eq_true rfl) (s_JString_length  (i := 3) (by decide)) (fun r h1 hq => ?_)
  obtain ⟨x3, rfl, ⟨_, _⟩, xx3, rfl⟩ := hq
  obtain rfl : x3 = 4 := xx3.trans (by decide)
  refine A_icmp_ge (tgt := 30) d_Tokens_lettersOf_9 (by decide) (fun c => absurd c (by decide)) (fun _ => ?_)
  refine A_lload_n 1 d_Tokens_lettersOf_12 rfl rfl ?_
  refine A_bipush d_Tokens_lettersOf_13 rfl ?_
  refine A_lshl d_Tokens_lettersOf_15 ?_
  refine A_cL (z := 0) (by decide +kernel) ?_
  refine A_aload_nS 0 d_Tokens_lettersOf_16 rfl rfl ?_
  refine A_iload_n 3 d_Tokens_lettersOf_17 rfl rfl ?_
  refine A_pc (pc' := 18) rfl ?_
  refine A_pc (pc' := 18) rfl ?_
  refine A_callT1 (i := 3) (N := m_JString_charAt) (by decide) rfl d_Tokens_lettersOf_18 ll_Tokens_127 k_JString_charAt (by decide +kernel) (by decide) (Nat.le_of_ble_eq_true rfl) (s_JString_charAt  (i := 3) (by decide) (by omega) (by omega) (by first | omega | decide)) (fun r h6 hq => ?_)
  obtain ⟨x8, rfl, ⟨_, _⟩, xx8, rfl⟩ := hq
  obtain rfl : x8 = 114 := xx8.trans (by decide)
  refine A_i2l d_Tokens_lettersOf_21 ?_
  refine A_lor d_Tokens_lettersOf_22 ?_
  refine A_cL (z := 114) (by decide +kernel) ?_
  refine A_lstore_n 1 (L' := [some (av_S 13), some (av_L 114), none, some (av_I 0)]) d_Tokens_lettersOf_23 rfl (Nat.le_of_ble_eq_true rfl) rfl ?_
  refine A_iincv (z := 1) (L' := [some (av_S 13), some (av_L 114), none, some (av_I 1)]) d_Tokens_lettersOf_24 rfl (w32_to (by omega) (by unfold i32; omega)) rfl ?_
  refine A_goto (tgt := 4) d_Tokens_lettersOf_27 (by decide) ?_
  refine A_iload_n 3 d_Tokens_lettersOf_4 rfl rfl ?_
  refine A_aload_nS 0 d_Tokens_lettersOf_5 rfl rfl ?_
  refine A_pc (pc' := 6) rfl ?_
  refine A_callT0 (i := 3) (N := m_JString_length) (by decide) rfl d_Tokens_lettersOf_6 ll_Tokens_124 k_JString_length (by decide +kernel) (by decide) (Nat.le_of_ble_eq_true rfl) (s_JString_length  (i := 3) (by decide)) (fun r h10 hq => ?_)
  obtain ⟨x12, rfl, ⟨_, _⟩, xx12, rfl⟩ := hq
  obtain rfl : x12 = 4 := xx12.trans (by decide)
  refine A_icmp_ge (tgt := 30) d_Tokens_lettersOf_9 (by decide) (fun c => absurd c (by decide)) (fun _ => ?_)
  refine A_lload_n 1 d_Tokens_lettersOf_12 rfl rfl ?_
  refine A_bipush d_Tokens_lettersOf_13 rfl ?_
  refine A_lshl d_Tokens_lettersOf_15 ?_
  refine A_cL (z := 29184) (by decide +kernel) ?_
  refine A_aload_nS 0 d_Tokens_lettersOf_16 rfl rfl ?_
  refine A_iload_n 3 d_Tokens_lettersOf_17 rfl rfl ?_
  refine A_pc (pc' := 18) rfl ?_
  refine A_pc (pc' := 18) rfl ?_
  refine A_callT1 (i := 3) (N := m_JString_charAt) (by decide) rfl d_Tokens_lettersOf_18 ll_Tokens_127 k_JString_charAt (by decide +kernel) (by decide) (Nat.le_of_ble_eq_true rfl) (s_JString_charAt  (i := 3) (by decide) (by omega) (by omega) (by first | omega | decide)) (fun r h15 hq => ?_)
  obtain ⟨x17, rfl, ⟨_, _⟩, xx17, rfl⟩ := hq
  obtain rfl : x17 = 117 := xx17.trans (by decide)
  refine A_i2l d_Tokens_lettersOf_21 ?_
  refine A_lor d_Tokens_lettersOf_22 ?_
  refine A_cL (z := 29301) (by decide +kernel) ?_
  refine A_lstore_n 1 (L' := [some (av_S 13), some (av_L 29301), none, some (av_I 1)]) d_Tokens_lettersOf_23 rfl (Nat.le_of_ble_eq_true rfl) rfl ?_
  refine A_iincv (z := 2) (L' := [some (av_S 13), some (av_L 29301), none, some (av_I 2)]) d_Tokens_lettersOf_24 rfl (w32_to (by omega) (by unfold i32; omega)) rfl ?_
  refine A_goto (tgt := 4) d_Tokens_lettersOf_27 (by decide) ?_
  refine A_iload_n 3 d_Tokens_lettersOf_4 rfl rfl ?_
  refine A_aload_nS 0 d_Tokens_lettersOf_5 rfl rfl ?_
  refine A_pc (pc' := 6) rfl ?_
  refine A_callT0 (i := 3) (N := m_JString_length) (by decide) rfl d_Tokens_lettersOf_6 ll_Tokens_124 k_JString_length (by decide +kernel) (by decide) (Nat.le_of_ble_eq_true rfl) (s_JString_length  (i := 3) (by decide)) (fun r h19 hq => ?_)
  obtain ⟨x21, rfl, ⟨_, _⟩, xx21, rfl⟩ := hq
  obtain rfl : x21 = 4 := xx21.trans (by decide)
  refine A_icmp_ge (tgt := 30) d_Tokens_lettersOf_9 (by decide) (fun c => absurd c (by decide)) (fun _ => ?_)
  refine A_lload_n 1 d_Tokens_lettersOf_12 rfl rfl ?_
  refine A_bipush d_Tokens_lettersOf_13 rfl ?_
  refine A_lshl d_Tokens_lettersOf_15 ?_
  refine A_cL (z := 7501056) (by decide +kernel) ?_
  refine A_aload_nS 0 d_Tokens_lettersOf_16 rfl rfl ?_
  refine A_iload_n 3 d_Tokens_lettersOf_17 rfl rfl ?_
  refine A_pc (pc' := 18) rfl ?_
  refine A_pc (pc' := 18) rfl ?_
  refine A_callT1 (i := 3) (N := m_JString_charAt) (by decide) rfl d_Tokens_lettersOf_18 ll_Tokens_127 k_JString_charAt (by decide +kernel) (by decide) (Nat.le_of_ble_eq_true rfl) (s_JString_charAt  (i := 3) (by decide) (by omega) (by omega) (by first | omega | decide)) (fun r h24 hq => ?_)
  obtain ⟨x26, rfl, ⟨_, _⟩, xx26, rfl⟩ := hq
  obtain rfl : x26 = 108 := xx26.trans (by decide)
  refine A_i2l d_Tokens_lettersOf_21 ?_
  refine A_lor d_Tokens_lettersOf_22 ?_
  refine A_cL (z := 7501164) (by decide +kernel) ?_
  refine A_lstore_n 1 (L' := [some (av_S 13), some (av_L 7501164), none, some (av_I 2)]) d_Tokens_lettersOf_23 rfl (Nat.le_of_ble_eq_true rfl) rfl ?_
  refine A_iincv (z := 3) (L' := [some (av_S 13), some (av_L 7501164), none, some (av_I 3)]) d_Tokens_lettersOf_24 rfl (w32_to (by omega) (by unfold i32; omega)) rfl ?_
  refine A_goto (tgt := 4) d_Tokens_lettersOf_27 (by decide) ?_
  refine A_iload_n 3 d_Tokens_lettersOf_4 rfl rfl ?_
  refine A_aload_nS 0 d_Tokens_lettersOf_5 rfl rfl ?_
  refine A_pc (pc' := 6) rfl ?_
  refine A_callT0 (i := 3) (N := m_JString_length) (by decide) rfl d_Tokens_lettersOf_6 ll_Tokens_124 k_JString_length (by decide +kernel) (by decide) (Nat.le_of_ble_eq_true rfl) (s_JString_length  (i := 3) (by decide)) (fun r h28 hq => ?_)
  obtain ⟨x30, rfl, ⟨_, _⟩, xx30, rfl⟩ := hq
  obtain rfl : x30 = 4 := xx30.trans (by decide)
  refine A_icmp_ge (tgt := 30) d_Tokens_lettersOf_9 (by decide) (fun c => absurd c (by decide)) (fun _ => ?_)
  refine A_lload_n 1 d_Tokens_lettersOf_12 rfl rfl ?_
  refine A_bipush d_Tokens_lettersOf_13 rfl ?_
  refine A_lshl d_Tokens_lettersOf_15 ?_
  refine A_cL (z := 1920297984) (by decide +kernel) ?_
  refine A_aload_nS 0 d_Tokens_lettersOf_16 rfl rfl ?_
  refine A_iload_n 3 d_Tokens_lettersOf_17 rfl rfl ?_
  refine A_pc (pc' := 18) rfl ?_
  refine A_pc (pc' := 18) rfl ?_
  refine A_callT1 (i := 3) (N := m_JString_charAt) (by decide) rfl d_Tokens_lettersOf_18 ll_Tokens_127 k_JString_charAt (by decide +kernel) (by decide) (Nat.le_of_ble_eq_true rfl) (s_JString_charAt  (i := 3) (by decide) (by omega) (by omega) (by first | omega | decide)) (fun r h33 hq => ?_)
  obtain ⟨x35, rfl, ⟨_, _⟩, xx35, rfl⟩ := hq
  obtain rfl : x35 = 101 := xx35.trans (by decide)
  refine A_i2l d_Tokens_lettersOf_21 ?_
  refine A_lor d_Tokens_lettersOf_22 ?_
  refine A_cL (z := 1920298085) (by decide +kernel) ?_
  refine A_lstore_n 1 (L' := [some (av_S 13), some (av_L 1920298085), none, some (av_I 3)]) d_Tokens_lettersOf_23 rfl (Nat.le_of_ble_eq_true rfl) rfl ?_
  refine A_iincv (z := 4) (L' := [some (av_S 13), some (av_L 1920298085), none, some (av_I 4)]) d_Tokens_lettersOf_24 rfl (w32_to (by omega) (by unfold i32; omega)) rfl ?_
  refine A_goto (tgt := 4) d_Tokens_lettersOf_27 (by decide) ?_
  refine A_iload_n 3 d_Tokens_lettersOf_4 rfl rfl ?_
  refine A_aload_nS 0 d_Tokens_lettersOf_5 rfl rfl ?_
  refine A_pc (pc' := 6) rfl ?_
  refine A_callT0 (i := 3) (N := m_JString_length) (by decide) rfl d_Tokens_lettersOf_6 ll_Tokens_124 k_JString_length (by decide +kernel) (by decide) (Nat.le_of_ble_eq_true rfl) (s_JString_length  (i := 3) (by decide)) (fun r h37 hq => ?_)
  obtain ⟨x39, rfl, ⟨_, _⟩, xx39, rfl⟩ := hq
  obtain rfl : x39 = 4 := xx39.trans (by decide)
  refine A_icmp_ge (tgt := 30) d_Tokens_lettersOf_9 (by decide) (fun _ => ?_) (fun c => absurd c (by decide))
  refine A_lload_n 1 d_Tokens_lettersOf_30 rfl rfl ?_
  exact A_lret d_Tokens_lettersOf_31 (by decide) rfl ⟨_, rfl, ⟨by omega, by omega⟩, rfl⟩
theorem s_Tokens_lettersOf_4 {G : cx_T} {h : ah_T}   : con G 5 0 0 m_Tokens_lettersOf [av_S 14] h (fun r h' => ∃ z, r = some (av_L z) ∧ (7499639 ≤ z ∧ z ≤ 7499639) ∧ h = h') := by
  refine con_of (L := [some (av_S 14), none, none, none]) (by decide +kernel) (Nat.le_of_ble_eq_true rfl) rfl ?_
  refine A_lconst_0 d_Tokens_lettersOf_0 ?_
  refine A_lstore_n 1 (L' := [some (av_S 14), some (av_L 0), none, none]) d_Tokens_lettersOf_1 rfl (Nat.le_of_ble_eq_true rfl) rfl ?_
  refine A_iconst d_Tokens_lettersOf_2 rfl ?_
  refine A_istore_n 3 (L' := [some (av_S 14), some (av_L 0), none, some (av_I 0)]) d_Tokens_lettersOf_3 rfl (Nat.le_of_ble_eq_true rfl) rfl ?_
  refine A_iload_n 3 d_Tokens_lettersOf_4 rfl rfl ?_
  refine A_pc (pc' := 5) rfl ?_
  refine A_aload_nS 0 d_Tokens_lettersOf_5 rfl rfl ?_
  refine A_pc (pc' := 6) rfl ?_
  refine A_callT0 (i := 4) (N := m_JString_length) (by decide) rfl d_Tokens_lettersOf_6 ll_Tokens_124 k_JString_length (by decide +kernel) (by decide) (Nat.le_of_ble_eq_true rfl) (s_JString_length  (i := 4) (by decide)) (fun r h1 hq => ?_)
  obtain ⟨x3, rfl, ⟨_, _⟩, xx3, rfl⟩ := hq
  obtain rfl : x3 = 3 := xx3.trans (by decide)
  refine A_icmp_ge (tgt := 30) d_Tokens_lettersOf_9 (by decide) (fun c => absurd c (by decide)) (fun _ => ?_)
  refine A_lload_n 1 d_Tokens_lettersOf_12 rfl rfl ?_
  refine A_bipush d_Tokens_lettersOf_13 rfl ?_
  refine A_lshl d_Tokens_lettersOf_15 ?_
  refine A_cL (z := 0) (by decide +kernel) ?_
  refine A_aload_nS 0 d_Tokens_lettersOf_16 rfl rfl ?_
  refine A_iload_n 3 d_Tokens_lettersOf_17 rfl rfl ?_
  refine A_pc (pc' := 18) rfl ?_
  refine A_pc (pc' := 18) rfl ?_
  refine A_callT1 (i := 4) (N := m_JString_charAt) (by decide) rfl d_Tokens_lettersOf_18 ll_Tokens_127 k_JString_charAt (by decide +kernel) (by decide) (Nat.le_of_ble_eq_true rfl) (s_JString_charAt  (i := 4) (by decide) (by omega) (by omega) (by first | omega | decide)) (fun r h6 hq => ?_)
  obtain ⟨x8, rfl, ⟨_, _⟩, xx8, rfl⟩ := hq
  obtain rfl : x8 = 114 := xx8.trans (by decide)
  refine A_i2l d_Tokens_lettersOf_21 ?_
  refine A_lor d_Tokens_lettersOf_22 ?_
  refine A_cL (z := 114) (by decide +kernel) ?_
  refine A_lstore_n 1 (L' := [some (av_S 14), some (av_L 114), none, some (av_I 0)]) d_Tokens_lettersOf_23 rfl (Nat.le_of_ble_eq_true rfl) rfl ?_
  refine A_iincv (z := 1) (L' := [some (av_S 14), some (av_L 114), none, some (av_I 1)]) d_Tokens_lettersOf_24 rfl (w32_to (by omega) (by unfold i32; omega)) rfl ?_
  refine A_goto (tgt := 4) d_Tokens_lettersOf_27 (by decide) ?_
  refine A_iload_n 3 d_Tokens_lettersOf_4 rfl rfl ?_
  refine A_aload_nS 0 d_Tokens_lettersOf_5 rfl rfl ?_
  refine A_pc (pc' := 6) rfl ?_
  refine A_callT0 (i := 4) (N := m_JString_length) (by decide) rfl d_Tokens_lettersOf_6 ll_Tokens_124 k_JString_length (by decide +kernel) (by decide) (Nat.le_of_ble_eq_true rfl) (s_JString_length  (i := 4) (by decide)) (fun r h10 hq => ?_)
  obtain ⟨x12, rfl, ⟨_, _⟩, xx12, rfl⟩ := hq
  obtain rfl : x12 = 3 := xx12.trans (by decide)
  refine A_icmp_ge (tgt := 30) d_Tokens_lettersOf_9 (by decide) (fun c => absurd c (by decide)) (fun _ => ?_)
  refine A_lload_n 1 d_Tokens_lettersOf_12 rfl rfl ?_
  refine A_bipush d_Tokens_lettersOf_13 rfl ?_
  refine A_lshl d_Tokens_lettersOf_15 ?_
  refine A_cL (z := 29184) (by decide +kernel) ?_
  refine A_aload_nS 0 d_Tokens_lettersOf_16 rfl rfl ?_
  refine A_iload_n 3 d_Tokens_lettersOf_17 rfl rfl ?_
  refine A_pc (pc' := 18) rfl ?_
  refine A_pc (pc' := 18) rfl ?_
  refine A_callT1 (i := 4) (N := m_JString_charAt) (by decide) rfl d_Tokens_lettersOf_18 ll_Tokens_127 k_JString_charAt (by decide +kernel) (by decide) (Nat.le_of_ble_eq_true rfl) (s_JString_charAt  (i := 4) (by decide) (by omega) (by omega) (by first | omega | decide)) (fun r h15 hq => ?_)
  obtain ⟨x17, rfl, ⟨_, _⟩, xx17, rfl⟩ := hq
  obtain rfl : x17 = 111 := xx17.trans (by decide)
  refine A_i2l d_Tokens_lettersOf_21 ?_
  refine A_lor d_Tokens_lettersOf_22 ?_
  refine A_cL (z := 29295) (by decide +kernel) ?_
  refine A_lstore_n 1 (L' := [some (av_S 14), some (av_L 29295), none, some (av_I 1)]) d_Tokens_lettersOf_23 rfl (Nat.le_of_ble_eq_true rfl) rfl ?_
  refine A_iincv (z := 2) (L' := [some (av_S 14), some (av_L 29295), none, some (av_I 2)]) d_Tokens_lettersOf_24 rfl (w32_to (by omega) (by unfold i32; omega)) rfl ?_
  refine A_goto (tgt := 4) d_Tokens_lettersOf_27 (by decide) ?_
  refine A_iload_n 3 d_Tokens_lettersOf_4 rfl rfl ?_
  refine A_aload_nS 0 d_Tokens_lettersOf_5 rfl rfl ?_
  refine A_pc (pc' := 6) rfl ?_
  refine A_callT0 (i := 4) (N := m_JString_length) (by decide) rfl d_Tokens_lettersOf_6 ll_Tokens_124 k_JString_length (by decide +kernel) (by decide) (Nat.le_of_ble_eq_true rfl) (s_JString_length  (i := 4) (by decide)) (fun r h19 hq => ?_)
  obtain ⟨x21, rfl, ⟨_, _⟩, xx21, rfl⟩ := hq
  obtain rfl : x21 = 3 := xx21.trans (by decide)
  refine A_icmp_ge (tgt := 30) d_Tokens_lettersOf_9 (by decide) (fun c => absurd c (by decide)) (fun _ => ?_)
  refine A_lload_n 1 d_Tokens_lettersOf_12 rfl rfl ?_
  refine A_bipush d_Tokens_lettersOf_13 rfl ?_
  refine A_lshl d_Tokens_lettersOf_15 ?_
  refine A_cL (z := 7499520) (by decide +kernel) ?_
  refine A_aload_nS 0 d_Tokens_lettersOf_16 rfl rfl ?_
  refine A_iload_n 3 d_Tokens_lettersOf_17 rfl rfl ?_
  refine A_pc (pc' := 18) rfl ?_
  refine A_pc (pc' := 18) rfl ?_
  refine A_callT1 (i := 4) (N := m_JString_charAt) (by decide) rfl d_Tokens_lettersOf_18 ll_Tokens_127 k_JString_charAt (by decide +kernel) (by decide) (Nat.le_of_ble_eq_true rfl) (s_JString_charAt  (i := 4) (by decide) (by omega) (by omega) (by first | omega | decide)) (fun r h24 hq => ?_)
  obtain ⟨x26, rfl, ⟨_, _⟩, xx26, rfl⟩ := hq
  obtain rfl : x26 = 119 := xx26.trans (by decide)
  refine A_i2l d_Tokens_lettersOf_21 ?_
  refine A_lor d_Tokens_lettersOf_22 ?_
  refine A_cL (z := 7499639) (by decide +kernel) ?_
  refine A_lstore_n 1 (L' := [some (av_S 14), some (av_L 7499639), none, some (av_I 2)]) d_Tokens_lettersOf_23 rfl (Nat.le_of_ble_eq_true rfl) rfl ?_
  refine A_iincv (z := 3) (L' := [some (av_S 14), some (av_L 7499639), none, some (av_I 3)]) d_Tokens_lettersOf_24 rfl (w32_to (by omega) (by unfold i32; omega)) rfl ?_
  refine A_goto (tgt := 4) d_Tokens_lettersOf_27 (by decide) ?_
  refine A_iload_n 3 d_Tokens_lettersOf_4 rfl rfl ?_
  refine A_aload_nS 0 d_Tokens_lettersOf_5 rfl rfl ?_
  refine A_pc (pc' := 6) rfl ?_
  refine A_callT0 (i := 4) (N := m_JString_length) (by decide) rfl d_Tokens_lettersOf_6 ll_Tokens_124 k_JString_length (by decide +kernel) (by decide) (Nat.le_of_ble_eq_true rfl) (s_JString_length  (i := 4) (by decide)) (fun r h28 hq => ?_)
  obtain ⟨x30, rfl, ⟨_, _⟩, xx30, rfl⟩ := hq
  obtain rfl : x30 = 3 := xx30.trans (by decide)
  refine A_icmp_ge (tgt := 30) d_Tokens_lettersOf_9 (by decide) (fun _ => ?_) (fun c => absurd c (by decide))
  refine A_lload_n 1 d_Tokens_lettersOf_30 rfl rfl ?_
  exact A_lret d_Tokens_lettersOf_31 (by decide) rfl ⟨_, rfl, ⟨by omega, by omega⟩, rfl⟩
theorem s_Tokens_lettersOf_5 {G : cx_T} {h : ah_T}   : con G 5 0 0 m_Tokens_lettersOf [av_S 15] h (fun r h' => ∃ z, r = some (av_L z) ∧ (114 ≤ z ∧ z ≤ 114) ∧ h = h') := by
  refine con_of (L := [some (av_S 15), none, none, none]) (by decide +kernel) (Nat.le_of_ble_eq_true rfl) rfl ?_
  refine A_lconst_0 d_Tokens_lettersOf_0 ?_
  refine A_lstore_n 1 (L' := [some (av_S 15), some (av_L 0), none, none]) d_Tokens_lettersOf_1 rfl (Nat.le_of_ble_eq_true rfl) rfl ?_
  refine A_iconst d_Tokens_lettersOf_2 rfl ?_
  refine A_istore_n 3 (L' := [some (av_S 15), some (av_L 0), none, some (av_I 0)]) d_Tokens_lettersOf_3 rfl (Nat.le_of_ble_eq_true rfl) rfl ?_
  refine A_iload_n 3 d_Tokens_lettersOf_4 rfl rfl ?_
  refine A_pc (pc' := 5) rfl ?_
  refine A_aload_nS 0 d_Tokens_lettersOf_5 rfl rfl ?_
  refine A_pc (pc' := 6) rfl ?_
  refine A_callT0 (i := 5) (N := m_JString_length) (by decide) rfl d_Tokens_lettersOf_6 ll_Tokens_124 k_JString_length (by decide +kernel) (by decide) (Nat.le_of_ble_eq_true rfl) (s_JString_length  (i := 5) (by decide)) (fun r h1 hq => ?_)
  obtain ⟨x3, rfl, ⟨_, _⟩, xx3, rfl⟩ := hq
  obtain rfl : x3 = 1 := xx3.trans (by decide)
  refine A_icmp_ge (tgt := 30) d_Tokens_lettersOf_9 (by decide) (fun c => absurd c (by decide)) (fun _ => ?_)
  refine A_lload_n 1 d_Tokens_lettersOf_12 rfl rfl ?_
  refine A_bipush d_Tokens_lettersOf_13 rfl ?_
  refine A_lshl d_Tokens_lettersOf_15 ?_
  refine A_cL (z := 0) (by decide +kernel) ?_
  refine A_aload_nS 0 d_Tokens_lettersOf_16 rfl rfl ?_
  refine A_iload_n 3 d_Tokens_lettersOf_17 rfl rfl ?_
  refine A_pc (pc' := 18) rfl ?_
  refine A_pc (pc' := 18) rfl ?_
  refine A_callT1 (i := 5) (N := m_JString_charAt) (by decide) rfl d_Tokens_lettersOf_18 ll_Tokens_127 k_JString_charAt (by decide +kernel) (by decide) (Nat.le_of_ble_eq_true rfl) (s_JString_charAt  (i := 5) (by decide) (by omega) (by omega) (by first | omega | decide)) (fun r h6 hq => ?_)
  obtain ⟨x8, rfl, ⟨_, _⟩, xx8, rfl⟩ := hq
  obtain rfl : x8 = 114 := xx8.trans (by decide)
  refine A_i2l d_Tokens_lettersOf_21 ?_
  refine A_lor d_Tokens_lettersOf_22 ?_
  refine A_cL (z := 114) (by decide +kernel) ?_
  refine A_lstore_n 1 (L' := [some (av_S 15), some (av_L 114), none, some (av_I 0)]) d_Tokens_lettersOf_23 rfl (Nat.le_of_ble_eq_true rfl) rfl ?_
  refine A_iincv (z := 1) (L' := [some (av_S 15), some (av_L 114), none, some (av_I 1)]) d_Tokens_lettersOf_24 rfl (w32_to (by omega) (by unfold i32; omega)) rfl ?_
  refine A_goto (tgt := 4) d_Tokens_lettersOf_27 (by decide) ?_
  refine A_iload_n 3 d_Tokens_lettersOf_4 rfl rfl ?_
  refine A_aload_nS 0 d_Tokens_lettersOf_5 rfl rfl ?_
  refine A_pc (pc' := 6) rfl ?_
  refine A_callT0 (i := 5) (N := m_JString_length) (by decide) rfl d_Tokens_lettersOf_6 ll_Tokens_124 k_JString_length (by decide +kernel) (by decide) (Nat.le_of_ble_eq_true rfl) (s_JString_length  (i := 5) (by decide)) (fun r h10 hq => ?_)
  obtain ⟨x12, rfl, ⟨_, _⟩, xx12, rfl⟩ := hq
  obtain rfl : x12 = 1 := xx12.trans (by decide)
  refine A_icmp_ge (tgt := 30) d_Tokens_lettersOf_9 (by decide) (fun _ => ?_) (fun c => absurd c (by decide))
  refine A_lload_n 1 d_Tokens_lettersOf_30 rfl rfl ?_
  exact A_lret d_Tokens_lettersOf_31 (by decide) rfl ⟨_, rfl, ⟨by omega, by omega⟩, rfl⟩
theorem s_Tokens_kindOfName {G : cx_T} {h : ah_T} {a0 : Int}  : con G 6 0 0 m_Tokens_kindOfName [av_L a0] h (fun r h' => ∃ z, r = some (av_I z) ∧ (260 ≤ z ∧ z ≤ 266) ∧ h = h') := by
  refine con_of (L := [some (av_L a0), none]) (by decide +kernel) (Nat.le_of_ble_eq_true rfl) rfl ?_
  refine A_locL 0 rfl (fun ra => ?_)
  obtain ⟨_, _⟩ := ra
  refine A_lload_n 0 d_Tokens_kindOfName_0 rfl rfl ?_
  refine A_ldcS (i := 0) rfl rfl d_Tokens_kindOfName_1 ?_
  refine A_callS1 m_Tokens_lettersOf d_Tokens_kindOfName_3 l_Tokens_110 k_Tokens_lettersOf (by decide +kernel) (by decide) (Nat.le_of_ble_eq_true rfl) (s_Tokens_lettersOf_0  ) (fun r h1 hq => ?_)
  obtain ⟨x3, rfl, ⟨_, _⟩, rfl⟩ := hq
  obtain rfl : x3 = 1953066341 := by omega
  refine A_lcmpn d_Tokens_kindOfName_6 (fun x4 lx4 ex4 gx4 _ _ => ?_)
  refine A_if_ne (tgt := 14) d_Tokens_kindOfName_7 (by decide) (fun c5 => ?_) (fun c5 => ?_)
  · have mc5 : (a0 - 1953066341) ≠ 0 := by omega
    refine A_lload_n 0 d_Tokens_kindOfName_14 rfl rfl ?_
    refine A_ldcS (i := 1) rfl rfl d_Tokens_kindOfName_15 ?_
    refine A_callS1 m_Tokens_lettersOf d_Tokens_kindOfName_17 l_Tokens_110 k_Tokens_lettersOf (by decide +kernel) (by decide) (Nat.le_of_ble_eq_true rfl) (s_Tokens_lettersOf_1  ) (fun r h6 hq => ?_)
    obtain ⟨x8, rfl, ⟨_, _⟩, rfl⟩ := hq
    obtain rfl : x8 = 508675318629 := by omega
    refine A_lcmpn d_Tokens_kindOfName_20 (fun x9 lx9 ex9 gx9 _ _ => ?_)
    refine A_if_ne (tgt := 28) d_Tokens_kindOfName_21 (by decide) (fun c10 => ?_) (fun c10 => ?_)
    · have mc10 : (a0 - 508675318629) ≠ 0 := by omega
      refine A_lload_n 0 d_Tokens_kindOfName_28 rfl rfl ?_
      refine A_ldcS (i := 2) rfl rfl d_Tokens_kindOfName_29 ?_
      refine A_callS1 m_Tokens_lettersOf d_Tokens_kindOfName_31 l_Tokens_110 k_Tokens_lettersOf (by decide +kernel) (by decide) (Nat.le_of_ble_eq_true rfl) (s_Tokens_lettersOf_2  ) (fun r h11 hq => ?_)
      obtain ⟨x13, rfl, ⟨_, _⟩, rfl⟩ := hq
      obtain rfl : x13 = 1818848869 := by omega
      refine A_lcmpn d_Tokens_kindOfName_34 (fun x14 lx14 ex14 gx14 _ _ => ?_)
      refine A_if_ne (tgt := 42) d_Tokens_kindOfName_35 (by decide) (fun c15 => ?_) (fun c15 => ?_)
      · have mc15 : (a0 - 1818848869) ≠ 0 := by omega
        refine A_lload_n 0 d_Tokens_kindOfName_42 rfl rfl ?_
        refine A_ldcS (i := 3) rfl rfl d_Tokens_kindOfName_43 ?_
        refine A_callS1 m_Tokens_lettersOf d_Tokens_kindOfName_45 l_Tokens_110 k_Tokens_lettersOf (by decide +kernel) (by decide) (Nat.le_of_ble_eq_true rfl) (s_Tokens_lettersOf_3  ) (fun r h16 hq => ?_)
        obtain ⟨x18, rfl, ⟨_, _⟩, rfl⟩ := hq
        obtain rfl : x18 = 1920298085 := by omega
        refine A_lcmpn d_Tokens_kindOfName_48 (fun x19 lx19 ex19 gx19 _ _ => ?_)
        refine A_if_ne (tgt := 56) d_Tokens_kindOfName_49 (by decide) (fun c20 => ?_) (fun c20 => ?_)
        · have mc20 : (a0 - 1920298085) ≠ 0 := by omega
          refine A_lload_n 0 d_Tokens_kindOfName_56 rfl rfl ?_
          refine A_ldcS (i := 4) rfl rfl d_Tokens_kindOfName_57 ?_
          refine A_callS1 m_Tokens_lettersOf d_Tokens_kindOfName_59 l_Tokens_110 k_Tokens_lettersOf (by decide +kernel) (by decide) (Nat.le_of_ble_eq_true rfl) (s_Tokens_lettersOf_4  ) (fun r h21 hq => ?_)
          obtain ⟨x23, rfl, ⟨_, _⟩, rfl⟩ := hq
          obtain rfl : x23 = 7499639 := by omega
          refine A_lcmpn d_Tokens_kindOfName_62 (fun x24 lx24 ex24 gx24 _ _ => ?_)
          refine A_if_ne (tgt := 70) d_Tokens_kindOfName_63 (by decide) (fun c25 => ?_) (fun c25 => ?_)
          · have mc25 : (a0 - 7499639) ≠ 0 := by omega
            refine A_lload_n 0 d_Tokens_kindOfName_70 rfl rfl ?_
            refine A_ldcS (i := 5) rfl rfl d_Tokens_kindOfName_71 ?_
            refine A_callS1 m_Tokens_lettersOf d_Tokens_kindOfName_73 l_Tokens_110 k_Tokens_lettersOf (by decide +kernel) (by decide) (Nat.le_of_ble_eq_true rfl) (s_Tokens_lettersOf_5  ) (fun r h26 hq => ?_)
            obtain ⟨x28, rfl, ⟨_, _⟩, rfl⟩ := hq
            obtain rfl : x28 = 114 := by omega
            refine A_lcmpn d_Tokens_kindOfName_76 (fun x29 lx29 ex29 gx29 _ _ => ?_)
            refine A_if_ne (tgt := 86) d_Tokens_kindOfName_77 (by decide) (fun c30 => ?_) (fun c30 => ?_)
            · have mc30 : (a0 - 114) ≠ 0 := by omega
              refine A_sipush d_Tokens_kindOfName_86 rfl ?_
              exact A_iret d_Tokens_kindOfName_89 (by decide) rfl ⟨_, rfl, ⟨by omega, by omega⟩, rfl⟩
            · have mc30 : (a0 - 114) = 0 := by omega
              refine A_sipush d_Tokens_kindOfName_80 rfl ?_
              refine A_goto (tgt := 89) d_Tokens_kindOfName_83 (by decide) ?_
              exact A_iret d_Tokens_kindOfName_89 (by decide) rfl ⟨_, rfl, ⟨by omega, by omega⟩, rfl⟩
          · have mc25 : (a0 - 7499639) = 0 := by omega
            refine A_sipush d_Tokens_kindOfName_66 rfl ?_
            exact A_iret d_Tokens_kindOfName_69 (by decide) rfl ⟨_, rfl, ⟨by omega, by omega⟩, rfl⟩
        · have mc20 : (a0 - 1920298085) = 0 := by omega
          refine A_sipush d_Tokens_kindOfName_52 rfl ?_
          exact A_iret d_Tokens_kindOfName_55 (by decide) rfl ⟨_, rfl, ⟨by omega, by omega⟩, rfl⟩
      · have mc15 : (a0 - 1818848869) = 0 := by omega
        refine A_sipush d_Tokens_kindOfName_38 rfl ?_
        exact A_iret d_Tokens_kindOfName_41 (by decide) rfl ⟨_, rfl, ⟨by omega, by omega⟩, rfl⟩
    · have mc10 : (a0 - 508675318629) = 0 := by omega
      refine A_sipush d_Tokens_kindOfName_24 rfl ?_
      exact A_iret d_Tokens_kindOfName_27 (by decide) rfl ⟨_, rfl, ⟨by omega, by omega⟩, rfl⟩
  · have mc5 : (a0 - 1953066341) = 0 := by omega
    refine A_sipush d_Tokens_kindOfName_10 rfl ?_
    exact A_iret d_Tokens_kindOfName_13 (by decide) rfl ⟨_, rfl, ⟨by omega, by omega⟩, rfl⟩
theorem s_Tokens_cutName {G : cx_T} {s : Nat} {h : ah_T} (hx : xi s h)   : con G 7 0 0 m_Tokens_cutName [av_R (some 3)] h (fun r h' => r = none ∧ kF FA s h h') := by
  refine con_of (L := [some (av_R (some 3)), none, none, none]) (by decide +kernel) (Nat.le_of_ble_eq_true rfl) rfl ?_
  have hS : isS s := hx.2.1
  have hs0 : s = 17 ∨ s = 80 := hS
  have hs0b : 17 ≤ s ∧ s ≤ 80 := by omega
  have k0 : kF FA s h h := kF_0 hx
  refine A_aload_n 0 d_Tokens_cutName_0 rfl rfl ?_
  refine A_getIn (lo := 0) (hi := 2000) T_ok d_Tokens_cutName_1 f_Tokens_38 (xi_s k0.1 sf_3) (xi_g k0.1 (by decide) rgf_3_8) (fun x1 ex1 _ _ => ?_)
  refine A_istore_n 1 (L' := [some (av_R (some 3)), some (av_I x1), none, none]) d_Tokens_cutName_4 rfl (Nat.le_of_ble_eq_true rfl) rfl ?_
  refine A_lconst_0 d_Tokens_cutName_5 ?_
  refine A_lstore_n 2 (L' := [some (av_R (some 3)), some (av_I x1), some (av_L 0), none]) d_Tokens_cutName_6 rfl (Nat.le_of_ble_eq_true rfl) rfl ?_
  have lp7 : ∀ (n : Nat) (i2 : Int) (h3 : ah_T) , (-9223372036854775808) ≤ i2 → i2 ≤ 9223372036854775807 → kF FA s h h3 → (2001 - h3.2.1 3 8).toNat < n → aw G (rm_R 7 0 0) m_Tokens_cutName 0 0 7 [some (av_R (some 3)), some (av_I x1), some (av_L i2), none] [] h3 (fun r h' => r = none ∧ kF FA s h h') := by
    intro n
    induction n with
    | zero => intro i2 h3 _ _ _ hm; omega
    | succ n ih7 =>
      intro i2 h3 hl0 hl1 k4 hm
      refine A_aload_n 0 d_Tokens_cutName_7 rfl rfl ?_
      refine A_getIn (lo := 0) (hi := 2000) T_ok d_Tokens_cutName_8 f_Tokens_38 (xi_s k4.1 sf_3) (xi_g k4.1 (by decide) rgf_3_8) (fun x5 ex5 _ _ => ?_)
      refine A_aload_n 0 d_Tokens_cutName_11 rfl rfl ?_
      refine A_getIn (lo := 0) (hi := 2000) T_ok d_Tokens_cutName_12 f_Tokens_34 (xi_s k4.1 sf_3) (xi_g k4.1 (by decide) rgf_3_7) (fun x6 ex6 _ _ => ?_)
      refine A_icmp_ge (tgt := 60) d_Tokens_cutName_15 (by decide) (fun c7 => ?_) (fun c7 => ?_)
      · refine A_aload_n 0 d_Tokens_cutName_60 rfl rfl ?_
        refine A_lload_n 2 d_Tokens_cutName_61 rfl rfl ?_
        refine A_putLk (KR := kF FA s h) T_ok d_Tokens_cutName_62 f_Tokens_60 (xi_s k4.1 sf_3) fin_f (kF_l k4 (by decide) (nl_b rfl)) (fun h8 k9 eh8 => ?_)
        refine A_aload_n 0 d_Tokens_cutName_65 rfl rfl ?_
        refine A_aload_n 0 d_Tokens_cutName_66 rfl rfl ?_
        refine A_pc (pc' := 67) rfl ?_
        refine A_getIv (z := x5) T_ok d_Tokens_cutName_67 f_Tokens_38 (xi_s k9.1 sf_3) ((congrFun (congrFun eh8.1 _) _).trans ex5.symm) ?_
        refine A_iload_n 1 d_Tokens_cutName_70 rfl rfl ?_
        refine A_isubv (z := (x5 - x1)) d_Tokens_cutName_71 (w32_to (by omega) (by unfold i32; omega)) ?_
        refine A_bipush d_Tokens_cutName_72 rfl ?_
        refine A_icmp_le (tgt := 83) d_Tokens_cutName_74 (by decide) (fun c11 => ?_) (fun c11 => ?_)
        · refine A_lload_n 2 d_Tokens_cutName_83 rfl rfl ?_
          refine A_callS1 m_Tokens_kindOfName d_Tokens_cutName_84 l_Tokens_104 k_Tokens_kindOfName (by decide +kernel) (by decide) (Nat.le_of_ble_eq_true rfl) (s_Tokens_kindOfName  ) (fun r h12 hq => ?_)
          obtain ⟨x14, rfl, ⟨_, _⟩, rfl⟩ := hq
          refine A_putIk (KR := kF FA s h) T_ok d_Tokens_cutName_87 f_Tokens_54 (xi_s k9.1 sf_3) fin_f (kF_j k9 (by decide) (ns_b rfl) rgf_3_9 (by omega) (by omega)) (fun h15 k16 eh15 => ?_)
          exact A_vret d_Tokens_cutName_90 (by decide) rfl ⟨rfl, k16⟩
        · refine A_sipush d_Tokens_cutName_77 rfl ?_
          refine A_goto (tgt := 87) d_Tokens_cutName_80 (by decide) ?_
          refine A_putIk (KR := kF FA s h) T_ok d_Tokens_cutName_87 f_Tokens_54 (xi_s k9.1 sf_3) fin_f (kF_j k9 (by decide) (ns_b rfl) rgf_3_9 (by omega) (by omega)) (fun h17 k18 eh17 => ?_)
          exact A_vret d_Tokens_cutName_90 (by decide) rfl ⟨rfl, k18⟩
      · refine A_aload_n 0 d_Tokens_cutName_18 rfl rfl ?_
        refine A_aload_n 0 d_Tokens_cutName_19 rfl rfl ?_
        refine A_getIv (z := x5) T_ok d_Tokens_cutName_20 f_Tokens_38 (xi_s k4.1 sf_3) ex5.symm ?_
        refine A_callV1 m_Tokens_byteAt T_ok d_Tokens_cutName_23 l_Tokens_70 k_Tokens_byteAt (xi_s k4.1 sf_3) rfl (by decide +kernel) (by decide) (Nat.le_of_ble_eq_true rfl) (s_Tokens_byteAt k4.1 ) (fun r h20 hq => ?_)
        obtain ⟨x22, rfl, ⟨_, _⟩, xx22, rfl⟩ := hq
        refine A_callS1 m_Tokens_isSmall d_Tokens_cutName_26 l_Tokens_78 k_Tokens_isSmall (by decide +kernel) (by decide) (Nat.le_of_ble_eq_true rfl) (s_Tokens_isSmall  ) (fun r h23 hq => ?_)
        obtain ⟨x25, rfl, bx25, xx25, rfl⟩ := hq
        refine A_if_eq (tgt := 60) d_Tokens_cutName_29 (by decide) (fun c26 => ?_) (fun c26 => ?_)
        · refine A_aload_n 0 d_Tokens_cutName_60 rfl rfl ?_
          refine A_lload_n 2 d_Tokens_cutName_61 rfl rfl ?_
          refine A_putLk (KR := kF FA s h) T_ok d_Tokens_cutName_62 f_Tokens_60 (xi_s k4.1 sf_3) fin_f (kF_l k4 (by decide) (nl_b rfl)) (fun h27 k28 eh27 => ?_)
          refine A_aload_n 0 d_Tokens_cutName_65 rfl rfl ?_
          refine A_aload_n 0 d_Tokens_cutName_66 rfl rfl ?_
          refine A_pc (pc' := 67) rfl ?_
          refine A_getIv (z := x5) T_ok d_Tokens_cutName_67 f_Tokens_38 (xi_s k28.1 sf_3) ((congrFun (congrFun eh27.1 _) _).trans ex5.symm) ?_
          refine A_iload_n 1 d_Tokens_cutName_70 rfl rfl ?_
          refine A_isubv (z := (x5 - x1)) d_Tokens_cutName_71 (w32_to (by omega) (by unfold i32; omega)) ?_
          refine A_bipush d_Tokens_cutName_72 rfl ?_
          refine A_icmp_le (tgt := 83) d_Tokens_cutName_74 (by decide) (fun c30 => ?_) (fun c30 => ?_)
          · refine A_lload_n 2 d_Tokens_cutName_83 rfl rfl ?_
            refine A_callS1 m_Tokens_kindOfName d_Tokens_cutName_84 l_Tokens_104 k_Tokens_kindOfName (by decide +kernel) (by decide) (Nat.le_of_ble_eq_true rfl) (s_Tokens_kindOfName  ) (fun r h31 hq => ?_)
            obtain ⟨x33, rfl, ⟨_, _⟩, rfl⟩ := hq
            refine A_putIk (KR := kF FA s h) T_ok d_Tokens_cutName_87 f_Tokens_54 (xi_s k28.1 sf_3) fin_f (kF_j k28 (by decide) (ns_b rfl) rgf_3_9 (by omega) (by omega)) (fun h34 k35 eh34 => ?_)
            exact A_vret d_Tokens_cutName_90 (by decide) rfl ⟨rfl, k35⟩
          · refine A_sipush d_Tokens_cutName_77 rfl ?_
            refine A_goto (tgt := 87) d_Tokens_cutName_80 (by decide) ?_
            refine A_putIk (KR := kF FA s h) T_ok d_Tokens_cutName_87 f_Tokens_54 (xi_s k28.1 sf_3) fin_f (kF_j k28 (by decide) (ns_b rfl) rgf_3_9 (by omega) (by omega)) (fun h36 k37 eh36 => ?_)
            exact A_vret d_Tokens_cutName_90 (by decide) rfl ⟨rfl, k37⟩
        · refine A_lload_n 2 d_Tokens_cutName_32 rfl rfl ?_
          refine A_bipush d_Tokens_cutName_33 rfl ?_
          refine A_lshl d_Tokens_cutName_35 ?_
          refine A_nrL (fun x38 ex38 _ _ => ?_)
          refine A_aload_n 0 d_Tokens_cutName_36 rfl rfl ?_
          refine A_aload_n 0 d_Tokens_cutName_37 rfl rfl ?_
          refine A_pc (pc' := 38) rfl ?_
          refine A_getIv (z := x5) T_ok d_Tokens_cutName_38 f_Tokens_38 (xi_s k4.1 sf_3) ex5.symm ?_
          refine A_callV1 m_Tokens_byteAt T_ok d_Tokens_cutName_41 l_Tokens_70 k_Tokens_byteAt (xi_s k4.1 sf_3) rfl (by decide +kernel) (by decide) (Nat.le_of_ble_eq_true rfl) (s_Tokens_byteAt k4.1 ) (fun r h40 hq => ?_)
          obtain ⟨x42, rfl, ⟨_, _⟩, xx42, rfl⟩ := hq
          refine A_i2l d_Tokens_cutName_44 ?_
          refine A_lor d_Tokens_cutName_45 ?_
          refine A_nrL (fun x43 ex43 _ _ => ?_)
          refine A_lstore_n 2 (L' := [some (av_R (some 3)), some (av_I x1), some (av_L x43), none]) d_Tokens_cutName_46 rfl (Nat.le_of_ble_eq_true rfl) rfl ?_
          refine A_aload_n 0 d_Tokens_cutName_47 rfl rfl ?_
          refine A_dupR d_Tokens_cutName_48 ?_
          refine A_pc (pc' := 49) rfl ?_
          refine A_getIv (z := x5) T_ok d_Tokens_cutName_49 f_Tokens_38 (xi_s k4.1 sf_3) ex5.symm ?_
          refine A_iconst d_Tokens_cutName_52 rfl ?_
          refine A_iaddv (z := (x5 + 1)) d_Tokens_cutName_53 (w32_to (by omega) (by unfold i32; omega)) ?_
          refine A_putIk (KR := kF FA s h) T_ok d_Tokens_cutName_54 f_Tokens_38 (xi_s k4.1 sf_3) fin_f (kF_j k4 (by decide) (ns_b rfl) rgf_3_8 (by omega) (by omega)) (fun h45 k46 eh45 => ?_)
          refine A_goto (tgt := 7) d_Tokens_cutName_57 (by decide) ?_
          exact ih7 x43 h45 (by omega) (by omega) k46 (by omega)
  exact lp7 _ 0 h (by omega) (by omega) k0 (Nat.lt_succ_self _)

/-! ===== the class's methods, 22d ===== -/
def m_Tokens_cutOne : mr_T := (⟨"PlainMusic$Tokens", "cutOne", "()Z"⟩, prog_10_method_4_code, 3, some .boolean)
theorem d_Tokens_cutOne_0 : decode prog_10_method_4_code 0 = .ok (.aload_n 0, 1) := by decide +kernel
theorem d_Tokens_cutOne_1 : decode prog_10_method_4_code 1 = .ok (.invokevirtual 67, 3) := by decide +kernel
theorem k_Tokens_skipBlanks : mt_OK m_Tokens_skipBlanks 0 1 := ⟨gwi_666, gwi_136, ⟨by decide +kernel, by decide +kernel, by decide +kernel⟩, fun h => absurd h (by decide), fun _ => ⟨gwi_665, gwi_2⟩, fun h => absurd h (by decide)⟩
theorem l_Tokens_67 : ml_OK "PlainMusic$Tokens" 67 ⟨"PlainMusic$Tokens", "skipBlanks", "()V"⟩ := Or.inl gwi_663
theorem d_Tokens_cutOne_4 : decode prog_10_method_4_code 4 = .ok (.aload_n 0, 1) := by decide +kernel
theorem d_Tokens_cutOne_5 : decode prog_10_method_4_code 5 = .ok (.getfield 38, 3) := by decide +kernel
theorem d_Tokens_cutOne_8 : decode prog_10_method_4_code 8 = .ok (.istore_n 1, 1) := by decide +kernel
theorem d_Tokens_cutOne_9 : decode prog_10_method_4_code 9 = .ok (.aload_n 0, 1) := by decide +kernel
theorem d_Tokens_cutOne_10 : decode prog_10_method_4_code 10 = .ok (.aload_n 0, 1) := by decide +kernel
theorem d_Tokens_cutOne_11 : decode prog_10_method_4_code 11 = .ok (.getfield 38, 3) := by decide +kernel
theorem d_Tokens_cutOne_14 : decode prog_10_method_4_code 14 = .ok (.invokevirtual 70, 3) := by decide +kernel
theorem d_Tokens_cutOne_17 : decode prog_10_method_4_code 17 = .ok (.istore_n 2, 1) := by decide +kernel
theorem d_Tokens_cutOne_111 : decode prog_10_method_4_code 111 = .ok (.aload_n 0, 1) := by decide +kernel
theorem d_Tokens_cutOne_112 : decode prog_10_method_4_code 112 = .ok (.getfield 41, 3) := by decide +kernel
theorem d_Tokens_cutOne_115 : decode prog_10_method_4_code 115 = .ok (.aload_n 0, 1) := by decide +kernel
theorem d_Tokens_cutOne_116 : decode prog_10_method_4_code 116 = .ok (.getfield 9, 3) := by decide +kernel
theorem d_Tokens_cutOne_119 : decode prog_10_method_4_code 119 = .ok (.arraylength, 1) := by decide +kernel
theorem d_Tokens_cutOne_120 : decode prog_10_method_4_code 120 = .ok (.if_icmp .ge 62, 3) := by decide +kernel
theorem d_Tokens_cutOne_182 : decode prog_10_method_4_code 182 = .ok (.aload_n 0, 1) := by decide +kernel
theorem d_Tokens_cutOne_183 : decode prog_10_method_4_code 183 = .ok (.getfield 54, 3) := by decide +kernel
theorem d_Tokens_cutOne_186 : decode prog_10_method_4_code 186 = .ok (.sipush 256, 3) := by decide +kernel
theorem d_Tokens_cutOne_189 : decode prog_10_method_4_code 189 = .ok (.if_icmp .eq 17, 3) := by decide +kernel
theorem d_Tokens_cutOne_206 : decode prog_10_method_4_code 206 = .ok (.iconst 0, 1) := by decide +kernel
theorem d_Tokens_cutOne_207 : decode prog_10_method_4_code 207 = .ok (.ireturn, 1) := by decide +kernel
theorem d_Tokens_cutOne_192 : decode prog_10_method_4_code 192 = .ok (.aload_n 0, 1) := by decide +kernel
theorem d_Tokens_cutOne_193 : decode prog_10_method_4_code 193 = .ok (.getfield 54, 3) := by decide +kernel
theorem d_Tokens_cutOne_196 : decode prog_10_method_4_code 196 = .ok (.sipush 257, 3) := by decide +kernel
theorem d_Tokens_cutOne_199 : decode prog_10_method_4_code 199 = .ok (.if_icmp .eq 7, 3) := by decide +kernel
theorem d_Tokens_cutOne_202 : decode prog_10_method_4_code 202 = .ok (.iconst 1, 1) := by decide +kernel
theorem d_Tokens_cutOne_203 : decode prog_10_method_4_code 203 = .ok (.goto 4, 3) := by decide +kernel
theorem d_Tokens_cutOne_123 : decode prog_10_method_4_code 123 = .ok (.aload_n 0, 1) := by decide +kernel
theorem d_Tokens_cutOne_124 : decode prog_10_method_4_code 124 = .ok (.getfield 9, 3) := by decide +kernel
theorem d_Tokens_cutOne_127 : decode prog_10_method_4_code 127 = .ok (.aload_n 0, 1) := by decide +kernel
theorem d_Tokens_cutOne_128 : decode prog_10_method_4_code 128 = .ok (.getfield 41, 3) := by decide +kernel
theorem d_Tokens_cutOne_131 : decode prog_10_method_4_code 131 = .ok (.aload_n 0, 1) := by decide +kernel
theorem d_Tokens_cutOne_132 : decode prog_10_method_4_code 132 = .ok (.getfield 54, 3) := by decide +kernel
theorem d_Tokens_cutOne_135 : decode prog_10_method_4_code 135 = .ok (.iastore, 1) := by decide +kernel
theorem d_Tokens_cutOne_136 : decode prog_10_method_4_code 136 = .ok (.aload_n 0, 1) := by decide +kernel
theorem d_Tokens_cutOne_137 : decode prog_10_method_4_code 137 = .ok (.getfield 15, 3) := by decide +kernel
theorem d_Tokens_cutOne_140 : decode prog_10_method_4_code 140 = .ok (.aload_n 0, 1) := by decide +kernel
theorem d_Tokens_cutOne_141 : decode prog_10_method_4_code 141 = .ok (.getfield 41, 3) := by decide +kernel
theorem d_Tokens_cutOne_144 : decode prog_10_method_4_code 144 = .ok (.iload_n 1, 1) := by decide +kernel
theorem d_Tokens_cutOne_145 : decode prog_10_method_4_code 145 = .ok (.iastore, 1) := by decide +kernel
theorem d_Tokens_cutOne_146 : decode prog_10_method_4_code 146 = .ok (.aload_n 0, 1) := by decide +kernel
theorem d_Tokens_cutOne_147 : decode prog_10_method_4_code 147 = .ok (.getfield 18, 3) := by decide +kernel
theorem d_Tokens_cutOne_150 : decode prog_10_method_4_code 150 = .ok (.aload_n 0, 1) := by decide +kernel
theorem d_Tokens_cutOne_151 : decode prog_10_method_4_code 151 = .ok (.getfield 41, 3) := by decide +kernel
theorem d_Tokens_cutOne_154 : decode prog_10_method_4_code 154 = .ok (.aload_n 0, 1) := by decide +kernel
theorem d_Tokens_cutOne_155 : decode prog_10_method_4_code 155 = .ok (.getfield 60, 3) := by decide +kernel
theorem d_Tokens_cutOne_158 : decode prog_10_method_4_code 158 = .ok (.lastore, 1) := by decide +kernel
theorem d_Tokens_cutOne_159 : decode prog_10_method_4_code 159 = .ok (.aload_n 0, 1) := by decide +kernel
theorem d_Tokens_cutOne_160 : decode prog_10_method_4_code 160 = .ok (.getfield 22, 3) := by decide +kernel
theorem d_Tokens_cutOne_163 : decode prog_10_method_4_code 163 = .ok (.aload_n 0, 1) := by decide +kernel
theorem d_Tokens_cutOne_164 : decode prog_10_method_4_code 164 = .ok (.getfield 41, 3) := by decide +kernel
theorem d_Tokens_cutOne_167 : decode prog_10_method_4_code 167 = .ok (.aload_n 0, 1) := by decide +kernel
theorem d_Tokens_cutOne_168 : decode prog_10_method_4_code 168 = .ok (.getfield 64, 3) := by decide +kernel
theorem d_Tokens_cutOne_171 : decode prog_10_method_4_code 171 = .ok (.iastore, 1) := by decide +kernel
theorem d_Tokens_cutOne_172 : decode prog_10_method_4_code 172 = .ok (.aload_n 0, 1) := by decide +kernel
theorem d_Tokens_cutOne_173 : decode prog_10_method_4_code 173 = .ok (.dup, 1) := by decide +kernel
theorem d_Tokens_cutOne_174 : decode prog_10_method_4_code 174 = .ok (.getfield 41, 3) := by decide +kernel
theorem d_Tokens_cutOne_177 : decode prog_10_method_4_code 177 = .ok (.iconst 1, 1) := by decide +kernel
theorem d_Tokens_cutOne_178 : decode prog_10_method_4_code 178 = .ok (.iadd, 1) := by decide +kernel
theorem d_Tokens_cutOne_179 : decode prog_10_method_4_code 179 = .ok (.putfield 41, 3) := by decide +kernel
theorem d_Tokens_cutOne_18 : decode prog_10_method_4_code 18 = .ok (.iload_n 2, 1) := by decide +kernel
theorem d_Tokens_cutOne_19 : decode prog_10_method_4_code 19 = .ok (.ifCond .ge 13, 3) := by decide +kernel
theorem d_Tokens_cutOne_32 : decode prog_10_method_4_code 32 = .ok (.iload_n 2, 1) := by decide +kernel
theorem d_Tokens_cutOne_33 : decode prog_10_method_4_code 33 = .ok (.bipush 65, 2) := by decide +kernel
theorem d_Tokens_cutOne_35 : decode prog_10_method_4_code 35 = .ok (.if_icmp .lt 17, 3) := by decide +kernel
theorem d_Tokens_cutOne_52 : decode prog_10_method_4_code 52 = .ok (.iload_n 2, 1) := by decide +kernel
theorem d_Tokens_cutOne_53 : decode prog_10_method_4_code 53 = .ok (.invokestatic 78, 3) := by decide +kernel
theorem d_Tokens_cutOne_56 : decode prog_10_method_4_code 56 = .ok (.ifCond .eq 10, 3) := by decide +kernel
theorem d_Tokens_cutOne_66 : decode prog_10_method_4_code 66 = .ok (.iload_n 2, 1) := by decide +kernel
theorem d_Tokens_cutOne_67 : decode prog_10_method_4_code 67 = .ok (.invokestatic 85, 3) := by decide +kernel
theorem d_Tokens_cutOne_70 : decode prog_10_method_4_code 70 = .ok (.ifCond .eq 10, 3) := by decide +kernel
theorem d_Tokens_cutOne_80 : decode prog_10_method_4_code 80 = .ok (.aload_n 0, 1) := by decide +kernel
theorem d_Tokens_cutOne_81 : decode prog_10_method_4_code 81 = .ok (.ldc 91, 2) := by decide +kernel
theorem d_Tokens_cutOne_83 : decode prog_10_method_4_code 83 = .ok (.iload_n 2, 1) := by decide +kernel
theorem d_Tokens_cutOne_84 : decode prog_10_method_4_code 84 = .ok (.i2c, 1) := by decide +kernel
theorem d_Tokens_cutOne_85 : decode prog_10_method_4_code 85 = .ok (.invokevirtual 93, 3) := by decide +kernel
theorem k_JString_indexOf_II : mt_OK m_JString_indexOf_II 1 1 := ⟨gwi_758, gwi_148, ⟨by decide +kernel, by decide +kernel, by decide +kernel⟩, fun h => absurd h (by decide), fun _ => ⟨gwi_756, gwi_757⟩, fun h => absurd h (by decide)⟩
theorem ll_Tokens_93 : Cond.methodLink "PlainMusic$Tokens" 93 ⟨"java/lang/String", "indexOf", "(I)I"⟩ ∈ gw := gwi_755
theorem d_Tokens_cutOne_88 : decode prog_10_method_4_code 88 = .ok (.ifCond .lt 7, 3) := by decide +kernel
theorem d_Tokens_cutOne_95 : decode prog_10_method_4_code 95 = .ok (.sipush 257, 3) := by decide +kernel
theorem d_Tokens_cutOne_98 : decode prog_10_method_4_code 98 = .ok (.putfield 54, 3) := by decide +kernel
theorem d_Tokens_cutOne_101 : decode prog_10_method_4_code 101 = .ok (.aload_n 0, 1) := by decide +kernel
theorem d_Tokens_cutOne_102 : decode prog_10_method_4_code 102 = .ok (.dup, 1) := by decide +kernel
theorem d_Tokens_cutOne_103 : decode prog_10_method_4_code 103 = .ok (.getfield 38, 3) := by decide +kernel
theorem d_Tokens_cutOne_106 : decode prog_10_method_4_code 106 = .ok (.iconst 1, 1) := by decide +kernel
theorem d_Tokens_cutOne_107 : decode prog_10_method_4_code 107 = .ok (.iadd, 1) := by decide +kernel
theorem d_Tokens_cutOne_108 : decode prog_10_method_4_code 108 = .ok (.putfield 38, 3) := by decide +kernel
theorem d_Tokens_cutOne_91 : decode prog_10_method_4_code 91 = .ok (.iload_n 2, 1) := by decide +kernel
theorem d_Tokens_cutOne_92 : decode prog_10_method_4_code 92 = .ok (.goto 6, 3) := by decide +kernel
theorem d_Tokens_cutOne_73 : decode prog_10_method_4_code 73 = .ok (.aload_n 0, 1) := by decide +kernel
theorem d_Tokens_cutOne_74 : decode prog_10_method_4_code 74 = .ok (.invokevirtual 88, 3) := by decide +kernel
theorem k_Tokens_cutNumber : mt_OK m_Tokens_cutNumber 0 1 := ⟨gwi_753, gwi_136, ⟨by decide +kernel, by decide +kernel, by decide +kernel⟩, fun h => absurd h (by decide), fun _ => ⟨gwi_752, gwi_6⟩, fun h => absurd h (by decide)⟩
theorem l_Tokens_88 : ml_OK "PlainMusic$Tokens" 88 ⟨"PlainMusic$Tokens", "cutNumber", "()V"⟩ := Or.inl gwi_750
theorem d_Tokens_cutOne_77 : decode prog_10_method_4_code 77 = .ok (.goto 34, 3) := by decide +kernel
theorem d_Tokens_cutOne_59 : decode prog_10_method_4_code 59 = .ok (.aload_n 0, 1) := by decide +kernel
theorem d_Tokens_cutOne_60 : decode prog_10_method_4_code 60 = .ok (.invokevirtual 82, 3) := by decide +kernel
theorem k_Tokens_cutName : mt_OK m_Tokens_cutName 0 1 := ⟨gwi_686, gwi_136, ⟨by decide +kernel, by decide +kernel, by decide +kernel⟩, fun h => absurd h (by decide), fun _ => ⟨gwi_685, gwi_5⟩, fun h => absurd h (by decide)⟩
theorem l_Tokens_82 : ml_OK "PlainMusic$Tokens" 82 ⟨"PlainMusic$Tokens", "cutName", "()V"⟩ := Or.inl gwi_683
theorem d_Tokens_cutOne_63 : decode prog_10_method_4_code 63 = .ok (.goto 48, 3) := by decide +kernel
theorem d_Tokens_cutOne_38 : decode prog_10_method_4_code 38 = .ok (.iload_n 2, 1) := by decide +kernel
theorem d_Tokens_cutOne_39 : decode prog_10_method_4_code 39 = .ok (.bipush 71, 2) := by decide +kernel
theorem d_Tokens_cutOne_41 : decode prog_10_method_4_code 41 = .ok (.if_icmp .gt 11, 3) := by decide +kernel
theorem d_Tokens_cutOne_44 : decode prog_10_method_4_code 44 = .ok (.aload_n 0, 1) := by decide +kernel
theorem d_Tokens_cutOne_45 : decode prog_10_method_4_code 45 = .ok (.iload_n 2, 1) := by decide +kernel
theorem d_Tokens_cutOne_46 : decode prog_10_method_4_code 46 = .ok (.invokevirtual 74, 3) := by decide +kernel
theorem k_Tokens_cutPitch : mt_OK m_Tokens_cutPitch 1 1 := ⟨gwi_674, gwi_136, ⟨by decide +kernel, by decide +kernel, by decide +kernel⟩, fun h => absurd h (by decide), fun _ => ⟨gwi_673, gwi_4⟩, fun h => absurd h (by decide)⟩
theorem l_Tokens_74 : ml_OK "PlainMusic$Tokens" 74 ⟨"PlainMusic$Tokens", "cutPitch", "(I)V"⟩ := Or.inl gwi_671
theorem d_Tokens_cutOne_49 : decode prog_10_method_4_code 49 = .ok (.goto 62, 3) := by decide +kernel
theorem d_Tokens_cutOne_22 : decode prog_10_method_4_code 22 = .ok (.aload_n 0, 1) := by decide +kernel
theorem d_Tokens_cutOne_23 : decode prog_10_method_4_code 23 = .ok (.sipush 256, 3) := by decide +kernel
theorem d_Tokens_cutOne_26 : decode prog_10_method_4_code 26 = .ok (.putfield 54, 3) := by decide +kernel
theorem d_Tokens_cutOne_29 : decode prog_10_method_4_code 29 = .ok (.goto 82, 3) := by decide +kernel
def m_Tokens_cutAll : mr_T := (⟨"PlainMusic$Tokens", "cutAll", "([II)V"⟩, prog_10_method_2_code, 5, none)
theorem d_Tokens_cutAll_0 : decode prog_10_method_2_code 0 = .ok (.aload_n 0, 1) := by decide +kernel
theorem d_Tokens_cutAll_1 : decode prog_10_method_2_code 1 = .ok (.aload_n 1, 1) := by decide +kernel
theorem d_Tokens_cutAll_2 : decode prog_10_method_2_code 2 = .ok (.putfield 25, 3) := by decide +kernel
theorem d_Tokens_cutAll_5 : decode prog_10_method_2_code 5 = .ok (.aload_n 0, 1) := by decide +kernel
theorem d_Tokens_cutAll_6 : decode prog_10_method_2_code 6 = .ok (.iload_n 2, 1) := by decide +kernel
theorem d_Tokens_cutAll_7 : decode prog_10_method_2_code 7 = .ok (.aload_n 1, 1) := by decide +kernel
theorem d_Tokens_cutAll_8 : decode prog_10_method_2_code 8 = .ok (.arraylength, 1) := by decide +kernel
theorem d_Tokens_cutAll_9 : decode prog_10_method_2_code 9 = .ok (.sipush 2000, 3) := by decide +kernel
theorem d_Tokens_cutAll_12 : decode prog_10_method_2_code 12 = .ok (.invokestatic 28, 3) := by decide +kernel
theorem lm_Tokens_28 : Cond.methodLink "PlainMusic$Tokens" 28 Lib.Math.min.name ∈ gw := gwi_656
theorem d_Tokens_cutAll_15 : decode prog_10_method_2_code 15 = .ok (.invokestatic 28, 3) := by decide +kernel
theorem d_Tokens_cutAll_18 : decode prog_10_method_2_code 18 = .ok (.putfield 34, 3) := by decide +kernel
theorem d_Tokens_cutAll_21 : decode prog_10_method_2_code 21 = .ok (.aload_n 0, 1) := by decide +kernel
theorem d_Tokens_cutAll_22 : decode prog_10_method_2_code 22 = .ok (.iconst 0, 1) := by decide +kernel
theorem d_Tokens_cutAll_23 : decode prog_10_method_2_code 23 = .ok (.putfield 38, 3) := by decide +kernel
theorem d_Tokens_cutAll_26 : decode prog_10_method_2_code 26 = .ok (.aload_n 0, 1) := by decide +kernel
theorem d_Tokens_cutAll_27 : decode prog_10_method_2_code 27 = .ok (.iconst 0, 1) := by decide +kernel
theorem d_Tokens_cutAll_28 : decode prog_10_method_2_code 28 = .ok (.putfield 41, 3) := by decide +kernel
theorem d_Tokens_cutAll_31 : decode prog_10_method_2_code 31 = .ok (.iconst 1, 1) := by decide +kernel
theorem d_Tokens_cutAll_32 : decode prog_10_method_2_code 32 = .ok (.istore_n 3, 1) := by decide +kernel
theorem d_Tokens_cutAll_33 : decode prog_10_method_2_code 33 = .ok (.iconst 0, 1) := by decide +kernel
theorem d_Tokens_cutAll_34 : decode prog_10_method_2_code 34 = .ok (.istore 4, 2) := by decide +kernel
theorem d_Tokens_cutAll_36 : decode prog_10_method_2_code 36 = .ok (.iload 4, 2) := by decide +kernel
theorem d_Tokens_cutAll_38 : decode prog_10_method_2_code 38 = .ok (.sipush 2000, 3) := by decide +kernel
theorem d_Tokens_cutAll_41 : decode prog_10_method_2_code 41 = .ok (.if_icmp .gt 18, 3) := by decide +kernel
theorem d_Tokens_cutAll_44 : decode prog_10_method_2_code 44 = .ok (.iload_n 3, 1) := by decide +kernel
theorem d_Tokens_cutAll_45 : decode prog_10_method_2_code 45 = .ok (.ifCond .eq 14, 3) := by decide +kernel
theorem d_Tokens_cutAll_48 : decode prog_10_method_2_code 48 = .ok (.aload_n 0, 1) := by decide +kernel
theorem d_Tokens_cutAll_49 : decode prog_10_method_2_code 49 = .ok (.invokevirtual 44, 3) := by decide +kernel
theorem k_Tokens_cutOne : mt_OK m_Tokens_cutOne 0 1 := ⟨gwi_662, gwi_136, ⟨by decide +kernel, by decide +kernel, by decide +kernel⟩, fun h => absurd h (by decide), fun _ => ⟨gwi_661, gwi_1⟩, fun h => absurd h (by decide)⟩
theorem l_Tokens_44 : ml_OK "PlainMusic$Tokens" 44 ⟨"PlainMusic$Tokens", "cutOne", "()Z"⟩ := Or.inl gwi_659
theorem d_Tokens_cutAll_52 : decode prog_10_method_2_code 52 = .ok (.istore_n 3, 1) := by decide +kernel
theorem d_Tokens_cutAll_53 : decode prog_10_method_2_code 53 = .ok (.iinc 4 1, 3) := by decide +kernel
theorem d_Tokens_cutAll_56 : decode prog_10_method_2_code 56 = .ok (.goto (-20), 3) := by decide +kernel
theorem d_Tokens_cutAll_59 : decode prog_10_method_2_code 59 = .ok (.aload_n 0, 1) := by decide +kernel
theorem d_Tokens_cutAll_60 : decode prog_10_method_2_code 60 = .ok (.iconst (-1), 1) := by decide +kernel
theorem d_Tokens_cutAll_61 : decode prog_10_method_2_code 61 = .ok (.putfield 48, 3) := by decide +kernel
theorem d_Tokens_cutAll_64 : decode prog_10_method_2_code 64 = .ok (.aload_n 0, 1) := by decide +kernel
theorem d_Tokens_cutAll_65 : decode prog_10_method_2_code 65 = .ok (.invokevirtual 51, 3) := by decide +kernel
theorem k_Tokens_next : mt_OK m_Tokens_next 0 1 := ⟨gwi_815, gwi_136, ⟨by decide +kernel, by decide +kernel, by decide +kernel⟩, fun h => absurd h (by decide), fun _ => ⟨gwi_813, gwi_814⟩, fun h => absurd h (by decide)⟩
theorem l_Tokens_51 : ml_OK "PlainMusic$Tokens" 51 ⟨"PlainMusic$Tokens", "next", "()V"⟩ := Or.inl gwi_812
theorem d_Tokens_cutAll_68 : decode prog_10_method_2_code 68 = .ok (.return_, 1) := by decide +kernel
theorem s_Tokens_cutOne {G : cx_T} {s : Nat} {h : ah_T} (hx : xi s h)   : con G 8 0 0 m_Tokens_cutOne [av_R (some 3)] h (fun r h' => ∃ z, r = some (av_I z) ∧ (z = 0 ∨ z = 1) ∧ kF FA s h h') := by
  refine con_of (L := [some (av_R (some 3)), none, none]) (by decide +kernel) (Nat.le_of_ble_eq_true rfl) rfl ?_
  have hS : isS s := hx.2.1
  have hs0 : s = 17 ∨ s = 80 := hS
  have hs0b : 17 ≤ s ∧ s ≤ 80 := by omega
  have k0 : kF FA s h h := kF_0 hx
  refine A_aload_n 0 d_Tokens_cutOne_0 rfl rfl ?_
  refine A_callV0 m_Tokens_skipBlanks T_ok d_Tokens_cutOne_1 l_Tokens_67 k_Tokens_skipBlanks (xi_s k0.1 sf_3) rfl (by decide +kernel) (by decide) (Nat.le_of_ble_eq_true rfl) (s_Tokens_skipBlanks k0.1 ) (fun r h1 hq => ?_)
  obtain ⟨rfl, k2⟩ := hq
  have k3 := kF_t k0 k2 (fun _ q => q)
  refine A_aload_n 0 d_Tokens_cutOne_4 rfl rfl ?_
  refine A_getIn (lo := 0) (hi := 2000) T_ok d_Tokens_cutOne_5 f_Tokens_38 (xi_s k3.1 sf_3) (xi_g k3.1 (by decide) rgf_3_8) (fun x4 ex4 _ _ => ?_)
  refine A_istore_n 1 (L' := [some (av_R (some 3)), some (av_I x4), none]) d_Tokens_cutOne_8 rfl (Nat.le_of_ble_eq_true rfl) rfl ?_
  refine A_aload_n 0 d_Tokens_cutOne_9 rfl rfl ?_
  refine A_aload_n 0 d_Tokens_cutOne_10 rfl rfl ?_
  refine A_pc (pc' := 11) rfl ?_
  refine A_getIv (z := x4) T_ok d_Tokens_cutOne_11 f_Tokens_38 (xi_s k3.1 sf_3) ex4.symm ?_
  refine A_callV1 m_Tokens_byteAt T_ok d_Tokens_cutOne_14 l_Tokens_70 k_Tokens_byteAt (xi_s k3.1 sf_3) rfl (by decide +kernel) (by decide) (Nat.le_of_ble_eq_true rfl) (s_Tokens_byteAt k3.1 ) (fun r h6 hq => ?_)
  obtain ⟨x8, rfl, ⟨_, _⟩, xx8, rfl⟩ := hq
  refine A_istore_n 2 (L' := [some (av_R (some 3)), some (av_I x4), some (av_I x8)]) d_Tokens_cutOne_17 rfl (Nat.le_of_ble_eq_true rfl) rfl ?_
  have jp111 : ∀ (j9 : Int) (h10 : ah_T) , 0 ≤ j9 → j9 ≤ 2000 → kF FA s h h10 → aw G (rm_R 8 0 0) m_Tokens_cutOne 0 0 111 [some (av_R (some 3)), some (av_I j9), none] [] h10 (fun r h' => ∃ z, r = some (av_I z) ∧ (z = 0 ∨ z = 1) ∧ kF FA s h h') := by
    intro j9 h10 _ _ k11
    refine A_aload_n 0 d_Tokens_cutOne_111 rfl rfl ?_
    refine A_getIn (lo := 0) (hi := 2001) T_ok d_Tokens_cutOne_112 f_Tokens_41 (xi_s k11.1 sf_3) (xi_g k11.1 (by decide) rgf_3_4) (fun x12 ex12 _ _ => ?_)
    refine A_aload_n 0 d_Tokens_cutOne_115 rfl rfl ?_
    refine A_getAv (z := some 4) T_ok d_Tokens_cutOne_116 f_Tokens_9 (xi_s k11.1 sf_3) (xi_r k11.1 rff_3_0) ?_
    refine A_alenN d_Tokens_cutOne_119 (xi_s k11.1 sf_4) (by decide) (by decide) ?_
    refine A_pc (pc' := 120) rfl ?_
    refine A_icmp_ge (tgt := 182) d_Tokens_cutOne_120 (by decide) (fun c14 => ?_) (fun c14 => ?_)
    · refine A_aload_n 0 d_Tokens_cutOne_182 rfl rfl ?_
      refine A_getIf T_ok d_Tokens_cutOne_183 f_Tokens_54 (xi_s k11.1 sf_3) (fun x15 ex15 _ _ => ?_)
      refine A_sipush d_Tokens_cutOne_186 rfl ?_
      refine A_icmp_eq (tgt := 206) d_Tokens_cutOne_189 (by decide) (fun c16 => ?_) (fun c16 => ?_)
      · refine A_iconst d_Tokens_cutOne_206 rfl ?_
        exact A_zret d_Tokens_cutOne_207 (by decide) rfl (by omega) ⟨_, rfl, by omega, k11⟩
      · refine A_aload_n 0 d_Tokens_cutOne_192 rfl rfl ?_
        refine A_getIv (z := x15) T_ok d_Tokens_cutOne_193 f_Tokens_54 (xi_s k11.1 sf_3) ex15.symm ?_
        refine A_sipush d_Tokens_cutOne_196 rfl ?_
        refine A_icmp_eq (tgt := 206) d_Tokens_cutOne_199 (by decide) (fun c18 => ?_) (fun c18 => ?_)
        · refine A_iconst d_Tokens_cutOne_206 rfl ?_
          exact A_zret d_Tokens_cutOne_207 (by decide) rfl (by omega) ⟨_, rfl, by omega, k11⟩
        · refine A_iconst d_Tokens_cutOne_202 rfl ?_
          refine A_goto (tgt := 207) d_Tokens_cutOne_203 (by decide) ?_
          exact A_zret d_Tokens_cutOne_207 (by decide) rfl (by omega) ⟨_, rfl, by omega, k11⟩
    · refine A_aload_n 0 d_Tokens_cutOne_123 rfl rfl ?_
      refine A_getAv (z := some 4) T_ok d_Tokens_cutOne_124 f_Tokens_9 (xi_s k11.1 sf_3) (xi_r k11.1 rff_3_0) ?_
      refine A_aload_n 0 d_Tokens_cutOne_127 rfl rfl ?_
      refine A_getIv (z := x12) T_ok d_Tokens_cutOne_128 f_Tokens_41 (xi_s k11.1 sf_3) ex12.symm ?_
      refine A_aload_n 0 d_Tokens_cutOne_131 rfl rfl ?_
      refine A_pc (pc' := 132) rfl ?_
      refine A_getIf T_ok d_Tokens_cutOne_132 f_Tokens_54 (xi_s k11.1 sf_3) (fun x21 ex21 _ _ => ?_)
      refine A_iastorek (KR := kF FA s h) d_Tokens_cutOne_135 (xi_s k11.1 sf_4) (by omega) (by omega) (kF_j k11 (by decide) (ns_b rfl) (rgf_4 _) (by omega) (by omega)) (fun h22 k23 eh22 => ?_)
      refine A_aload_n 0 d_Tokens_cutOne_136 rfl rfl ?_
      refine A_getAv (z := some 5) T_ok d_Tokens_cutOne_137 f_Tokens_15 (xi_s k23.1 sf_3) (xi_r k23.1 rff_3_1) ?_
      refine A_aload_n 0 d_Tokens_cutOne_140 rfl rfl ?_
      refine A_getIv (z := x12) T_ok d_Tokens_cutOne_141 f_Tokens_41 (xi_s k23.1 sf_3) ((eh22.1 _ _ (fun q => absurd q (by decide))).trans ex12.symm) ?_
      refine A_pc (pc' := 144) rfl ?_
      refine A_iload_n 1 d_Tokens_cutOne_144 rfl rfl ?_
      refine A_iastorek (KR := kF FA s h) d_Tokens_cutOne_145 (xi_s k23.1 sf_5) (by omega) (by omega) (kF_j k23 (by decide) (ns_b rfl) (rgf_5 _) (by omega) (by omega)) (fun h26 k27 eh26 => ?_)
      refine A_aload_n 0 d_Tokens_cutOne_146 rfl rfl ?_
      refine A_getAv (z := some 6) T_ok d_Tokens_cutOne_147 f_Tokens_18 (xi_s k27.1 sf_3) (xi_r k27.1 rff_3_2) ?_
      refine A_aload_n 0 d_Tokens_cutOne_150 rfl rfl ?_
      refine A_getIv (z := x12) T_ok d_Tokens_cutOne_151 f_Tokens_41 (xi_s k27.1 sf_3) ((eh26.1 _ _ (fun q => absurd q (by decide))).trans ((eh22.1 _ _ (fun q => absurd q (by decide))).trans ex12.symm)) ?_
      refine A_pc (pc' := 154) rfl ?_
      refine A_aload_n 0 d_Tokens_cutOne_154 rfl rfl ?_
      refine A_getLf T_ok d_Tokens_cutOne_155 f_Tokens_60 (xi_s k27.1 sf_3) (fun x30 ex30 _ _ => ?_)
      refine A_lastorek (KR := kF FA s h) d_Tokens_cutOne_158 (xi_s k27.1 sf_6) (by omega) (by omega) (kF_l k27 (by decide) (nl_b rfl)) (fun h31 k32 eh31 => ?_)
      refine A_aload_n 0 d_Tokens_cutOne_159 rfl rfl ?_
      refine A_getAv (z := some 7) T_ok d_Tokens_cutOne_160 f_Tokens_22 (xi_s k32.1 sf_3) (xi_r k32.1 rff_3_3) ?_
      refine A_aload_n 0 d_Tokens_cutOne_163 rfl rfl ?_
      refine A_pc (pc' := 164) rfl ?_
      refine A_getIv (z := x12) T_ok d_Tokens_cutOne_164 f_Tokens_41 (xi_s k32.1 sf_3) ((congrFun (congrFun eh31.1 _) _).trans ((eh26.1 _ _ (fun q => absurd q (by decide))).trans ((eh22.1 _ _ (fun q => absurd q (by decide))).trans ex12.symm))) ?_
      refine A_aload_n 0 d_Tokens_cutOne_167 rfl rfl ?_
      refine A_getIf T_ok d_Tokens_cutOne_168 f_Tokens_64 (xi_s k32.1 sf_3) (fun x35 ex35 _ _ => ?_)
      refine A_iastorek (KR := kF FA s h) d_Tokens_cutOne_171 (xi_s k32.1 sf_7) (by omega) (by omega) (kF_j k32 (by decide) (ns_b rfl) (rgf_7 _) (by omega) (by omega)) (fun h36 k37 eh36 => ?_)
      refine A_aload_n 0 d_Tokens_cutOne_172 rfl rfl ?_
      refine A_dupR d_Tokens_cutOne_173 ?_
      refine A_pc (pc' := 174) rfl ?_
      refine A_getIv (z := x12) T_ok d_Tokens_cutOne_174 f_Tokens_41 (xi_s k37.1 sf_3) ((eh36.1 _ _ (fun q => absurd q (by decide))).trans ((congrFun (congrFun eh31.1 _) _).trans ((eh26.1 _ _ (fun q => absurd q (by decide))).trans ((eh22.1 _ _ (fun q => absurd q (by decide))).trans ex12.symm)))) ?_
      refine A_iconst d_Tokens_cutOne_177 rfl ?_
      refine A_iaddv (z := (x12 + 1)) d_Tokens_cutOne_178 (w32_to (by omega) (by unfold i32; omega)) ?_
      refine A_putIk (KR := kF FA s h) T_ok d_Tokens_cutOne_179 f_Tokens_41 (xi_s k37.1 sf_3) fin_f (kF_j k37 (by decide) (ns_b rfl) rgf_3_4 (by omega) (by omega)) (fun h39 k40 eh39 => ?_)
      refine A_aload_n 0 d_Tokens_cutOne_182 rfl rfl ?_
      refine A_getIv (z := x21) T_ok d_Tokens_cutOne_183 f_Tokens_54 (xi_s k40.1 sf_3) ((eh39.1 _ _ (fun _ => by decide)).trans ((eh36.1 _ _ (fun q => absurd q (by decide))).trans ((congrFun (congrFun eh31.1 _) _).trans ((eh26.1 _ _ (fun q => absurd q (by decide))).trans ((eh22.1 _ _ (fun q => absurd q (by decide))).trans ex21.symm))))) ?_
      refine A_pc (pc' := 186) rfl ?_
      refine A_sipush d_Tokens_cutOne_186 rfl ?_
      refine A_icmp_eq (tgt := 206) d_Tokens_cutOne_189 (by decide) (fun c42 => ?_) (fun c42 => ?_)
      · refine A_iconst d_Tokens_cutOne_206 rfl ?_
        exact A_zret d_Tokens_cutOne_207 (by decide) rfl (by omega) ⟨_, rfl, by omega, k40⟩
      · refine A_aload_n 0 d_Tokens_cutOne_192 rfl rfl ?_
        refine A_getIv (z := x21) T_ok d_Tokens_cutOne_193 f_Tokens_54 (xi_s k40.1 sf_3) ((eh39.1 _ _ (fun _ => by decide)).trans ((eh36.1 _ _ (fun q => absurd q (by decide))).trans ((congrFun (congrFun eh31.1 _) _).trans ((eh26.1 _ _ (fun q => absurd q (by decide))).trans ((eh22.1 _ _ (fun q => absurd q (by decide))).trans ex21.symm))))) ?_
        refine A_sipush d_Tokens_cutOne_196 rfl ?_
        refine A_icmp_eq (tgt := 206) d_Tokens_cutOne_199 (by decide) (fun c44 => ?_) (fun c44 => ?_)
        · refine A_iconst d_Tokens_cutOne_206 rfl ?_
          exact A_zret d_Tokens_cutOne_207 (by decide) rfl (by omega) ⟨_, rfl, by omega, k40⟩
        · refine A_iconst d_Tokens_cutOne_202 rfl ?_
          refine A_goto (tgt := 207) d_Tokens_cutOne_203 (by decide) ?_
          exact A_zret d_Tokens_cutOne_207 (by decide) rfl (by omega) ⟨_, rfl, by omega, k40⟩
  refine A_iload_n 2 d_Tokens_cutOne_18 rfl rfl ?_
  refine A_if_ge (tgt := 32) d_Tokens_cutOne_19 (by decide) (fun c45 => ?_) (fun c45 => ?_)
  · refine A_iload_n 2 d_Tokens_cutOne_32 rfl rfl ?_
    refine A_bipush d_Tokens_cutOne_33 rfl ?_
    refine A_icmp_lt (tgt := 52) d_Tokens_cutOne_35 (by decide) (fun c46 => ?_) (fun c46 => ?_)
    · refine A_iload_n 2 d_Tokens_cutOne_52 rfl rfl ?_
      refine A_callS1 m_Tokens_isSmall d_Tokens_cutOne_53 l_Tokens_78 k_Tokens_isSmall (by decide +kernel) (by decide) (Nat.le_of_ble_eq_true rfl) (s_Tokens_isSmall  ) (fun r h47 hq => ?_)
      obtain ⟨x49, rfl, bx49, xx49, rfl⟩ := hq
      refine A_if_eq (tgt := 66) d_Tokens_cutOne_56 (by decide) (fun c50 => ?_) (fun c50 => ?_)
      · refine A_iload_n 2 d_Tokens_cutOne_66 rfl rfl ?_
        refine A_callS1 m_Tokens_isDigit d_Tokens_cutOne_67 l_Tokens_85 k_Tokens_isDigit (by decide +kernel) (by decide) (Nat.le_of_ble_eq_true rfl) (s_Tokens_isDigit  ) (fun r h51 hq => ?_)
        obtain ⟨x53, rfl, bx53, xx53, rfl⟩ := hq
        refine A_if_eq (tgt := 80) d_Tokens_cutOne_70 (by decide) (fun c54 => ?_) (fun c54 => ?_)
        · refine A_aload_n 0 d_Tokens_cutOne_80 rfl rfl ?_
          refine A_ldcS (i := 6) rfl rfl d_Tokens_cutOne_81 ?_
          refine A_iload_n 2 d_Tokens_cutOne_83 rfl rfl ?_
          refine A_i2c d_Tokens_cutOne_84 ?_
          refine A_cI (z := x8) (i2c_r (by omega) (by omega)) ?_
          refine A_pc (pc' := 85) rfl ?_
          refine A_callT1 (i := 6) (N := m_JString_indexOf_II) (by decide) rfl d_Tokens_cutOne_85 ll_Tokens_93 k_JString_indexOf_II (by decide +kernel) (by decide) (Nat.le_of_ble_eq_true rfl) (s_JString_indexOf_II  (by omega) (by omega)) (fun r h55 hq => ?_)
          obtain ⟨x57, rfl, ⟨_, _⟩, rfl⟩ := hq
          refine A_if_lt (tgt := 95) d_Tokens_cutOne_88 (by decide) (fun c58 => ?_) (fun c58 => ?_)
          · refine A_sipush d_Tokens_cutOne_95 rfl ?_
            refine A_putIk (KR := kF FA s h) T_ok d_Tokens_cutOne_98 f_Tokens_54 (xi_s k3.1 sf_3) fin_f (kF_j k3 (by decide) (ns_b rfl) rgf_3_9 (by omega) (by omega)) (fun h59 k60 eh59 => ?_)
            refine A_aload_n 0 d_Tokens_cutOne_101 rfl rfl ?_
            refine A_dupR d_Tokens_cutOne_102 ?_
            refine A_getIv (z := x4) T_ok d_Tokens_cutOne_103 f_Tokens_38 (xi_s k60.1 sf_3) ((eh59.1 _ _ (fun _ => by decide)).trans ex4.symm) ?_
            refine A_pc (pc' := 106) rfl ?_
            refine A_iconst d_Tokens_cutOne_106 rfl ?_
            refine A_iaddv (z := (x4 + 1)) d_Tokens_cutOne_107 (w32_to (by omega) (by unfold i32; omega)) ?_
            refine A_putIk (KR := kF FA s h) T_ok d_Tokens_cutOne_108 f_Tokens_38 (xi_s k60.1 sf_3) fin_f (kF_j k60 (by decide) (ns_b rfl) rgf_3_8 (by omega) (by omega)) (fun h62 k63 eh62 => ?_)
            refine A_pc (pc' := 111) rfl ?_
            refine A_free (L' := [some (av_R (some 3)), some (av_I x4), none]) (And.intro rfl (And.intro rfl trivial)) ?_
            exact jp111 x4 h62 (by omega) (by omega) k63
          · refine A_iload_n 2 d_Tokens_cutOne_91 rfl rfl ?_
            refine A_goto (tgt := 98) d_Tokens_cutOne_92 (by decide) ?_
            refine A_putIk (KR := kF FA s h) T_ok d_Tokens_cutOne_98 f_Tokens_54 (xi_s k3.1 sf_3) fin_f (kF_j k3 (by decide) (ns_b rfl) rgf_3_9 (by omega) (by omega)) (fun h64 k65 eh64 => ?_)
            refine A_aload_n 0 d_Tokens_cutOne_101 rfl rfl ?_
            refine A_dupR d_Tokens_cutOne_102 ?_
            refine A_getIv (z := x4) T_ok d_Tokens_cutOne_103 f_Tokens_38 (xi_s k65.1 sf_3) ((eh64.1 _ _ (fun _ => by decide)).trans ex4.symm) ?_
            refine A_iconst d_Tokens_cutOne_106 rfl ?_
            refine A_pc (pc' := 107) rfl ?_
            refine A_iaddv (z := (x4 + 1)) d_Tokens_cutOne_107 (w32_to (by omega) (by unfold i32; omega)) ?_
            refine A_putIk (KR := kF FA s h) T_ok d_Tokens_cutOne_108 f_Tokens_38 (xi_s k65.1 sf_3) fin_f (kF_j k65 (by decide) (ns_b rfl) rgf_3_8 (by omega) (by omega)) (fun h67 k68 eh67 => ?_)
            refine A_pc (pc' := 111) rfl ?_
            refine A_free (L' := [some (av_R (some 3)), some (av_I x4), none]) (And.intro rfl (And.intro rfl trivial)) ?_
            exact jp111 x4 h67 (by omega) (by omega) k68
        · refine A_aload_n 0 d_Tokens_cutOne_73 rfl rfl ?_
          refine A_callV0 m_Tokens_cutNumber T_ok d_Tokens_cutOne_74 l_Tokens_88 k_Tokens_cutNumber (xi_s k3.1 sf_3) rfl (by decide +kernel) (by decide) (Nat.le_of_ble_eq_true rfl) (s_Tokens_cutNumber k3.1 ) (fun r h69 hq => ?_)
          obtain ⟨rfl, k70⟩ := hq
          have k71 := kF_t k3 k70 (fun _ q => q)
          refine A_goto (tgt := 111) d_Tokens_cutOne_77 (by decide) ?_
          refine A_pc (pc' := 111) rfl ?_
          refine A_free (L' := [some (av_R (some 3)), some (av_I x4), none]) (And.intro rfl (And.intro rfl trivial)) ?_
          exact jp111 x4 h69 (by omega) (by omega) k71
      · refine A_aload_n 0 d_Tokens_cutOne_59 rfl rfl ?_
        refine A_callV0 m_Tokens_cutName T_ok d_Tokens_cutOne_60 l_Tokens_82 k_Tokens_cutName (xi_s k3.1 sf_3) rfl (by decide +kernel) (by decide) (Nat.le_of_ble_eq_true rfl) (s_Tokens_cutName k3.1 ) (fun r h72 hq => ?_)
        obtain ⟨rfl, k73⟩ := hq
        have k74 := kF_t k3 k73 (fun _ q => q)
        refine A_goto (tgt := 111) d_Tokens_cutOne_63 (by decide) ?_
        refine A_pc (pc' := 111) rfl ?_
        refine A_free (L' := [some (av_R (some 3)), some (av_I x4), none]) (And.intro rfl (And.intro rfl trivial)) ?_
        exact jp111 x4 h72 (by omega) (by omega) k74
    · refine A_iload_n 2 d_Tokens_cutOne_38 rfl rfl ?_
      refine A_bipush d_Tokens_cutOne_39 rfl ?_
      refine A_icmp_gt (tgt := 52) d_Tokens_cutOne_41 (by decide) (fun c75 => ?_) (fun c75 => ?_)
      · refine A_iload_n 2 d_Tokens_cutOne_52 rfl rfl ?_
        refine A_callS1 m_Tokens_isSmall d_Tokens_cutOne_53 l_Tokens_78 k_Tokens_isSmall (by decide +kernel) (by decide) (Nat.le_of_ble_eq_true rfl) (s_Tokens_isSmall  ) (fun r h76 hq => ?_)
        obtain ⟨x78, rfl, bx78, xx78, rfl⟩ := hq
        refine A_if_eq (tgt := 66) d_Tokens_cutOne_56 (by decide) (fun c79 => ?_) (fun c79 => ?_)
        · refine A_iload_n 2 d_Tokens_cutOne_66 rfl rfl ?_
          refine A_callS1 m_Tokens_isDigit d_Tokens_cutOne_67 l_Tokens_85 k_Tokens_isDigit (by decide +kernel) (by decide) (Nat.le_of_ble_eq_true rfl) (s_Tokens_isDigit  ) (fun r h80 hq => ?_)
          obtain ⟨x82, rfl, bx82, xx82, rfl⟩ := hq
          refine A_if_eq (tgt := 80) d_Tokens_cutOne_70 (by decide) (fun c83 => ?_) (fun c83 => ?_)
          · refine A_aload_n 0 d_Tokens_cutOne_80 rfl rfl ?_
            refine A_ldcS (i := 6) rfl rfl d_Tokens_cutOne_81 ?_
            refine A_iload_n 2 d_Tokens_cutOne_83 rfl rfl ?_
            refine A_i2c d_Tokens_cutOne_84 ?_
            refine A_cI (z := x8) (i2c_r (by omega) (by omega)) ?_
            refine A_pc (pc' := 85) rfl ?_
            refine A_callT1 (i := 6) (N := m_JString_indexOf_II) (by decide) rfl d_Tokens_cutOne_85 ll_Tokens_93 k_JString_indexOf_II (by decide +kernel) (by decide) (Nat.le_of_ble_eq_true rfl) (s_JString_indexOf_II  (by omega) (by omega)) (fun r h84 hq => ?_)
            obtain ⟨x86, rfl, ⟨_, _⟩, rfl⟩ := hq
            refine A_if_lt (tgt := 95) d_Tokens_cutOne_88 (by decide) (fun c87 => ?_) (fun c87 => ?_)
            · refine A_sipush d_Tokens_cutOne_95 rfl ?_
              refine A_putIk (KR := kF FA s h) T_ok d_Tokens_cutOne_98 f_Tokens_54 (xi_s k3.1 sf_3) fin_f (kF_j k3 (by decide) (ns_b rfl) rgf_3_9 (by omega) (by omega)) (fun h88 k89 eh88 => ?_)
              refine A_aload_n 0 d_Tokens_cutOne_101 rfl rfl ?_
              refine A_dupR d_Tokens_cutOne_102 ?_
              refine A_getIv (z := x4) T_ok d_Tokens_cutOne_103 f_Tokens_38 (xi_s k89.1 sf_3) ((eh88.1 _ _ (fun _ => by decide)).trans ex4.symm) ?_
              refine A_pc (pc' := 106) rfl ?_
              refine A_iconst d_Tokens_cutOne_106 rfl ?_
              refine A_iaddv (z := (x4 + 1)) d_Tokens_cutOne_107 (w32_to (by omega) (by unfold i32; omega)) ?_
              refine A_putIk (KR := kF FA s h) T_ok d_Tokens_cutOne_108 f_Tokens_38 (xi_s k89.1 sf_3) fin_f (kF_j k89 (by decide) (ns_b rfl) rgf_3_8 (by omega) (by omega)) (fun h91 k92 eh91 => ?_)
              refine A_pc (pc' := 111) rfl ?_
              refine A_free (L' := [some (av_R (some 3)), some (av_I x4), none]) (And.intro rfl (And.intro rfl trivial)) ?_
              exact jp111 x4 h91 (by omega) (by omega) k92
            · refine A_iload_n 2 d_Tokens_cutOne_91 rfl rfl ?_
              refine A_goto (tgt := 98) d_Tokens_cutOne_92 (by decide) ?_
              refine A_putIk (KR := kF FA s h) T_ok d_Tokens_cutOne_98 f_Tokens_54 (xi_s k3.1 sf_3) fin_f (kF_j k3 (by decide) (ns_b rfl) rgf_3_9 (by omega) (by omega)) (fun h93 k94 eh93 => ?_)
              refine A_aload_n 0 d_Tokens_cutOne_101 rfl rfl ?_
              refine A_dupR d_Tokens_cutOne_102 ?_
              refine A_getIv (z := x4) T_ok d_Tokens_cutOne_103 f_Tokens_38 (xi_s k94.1 sf_3) ((eh93.1 _ _ (fun _ => by decide)).trans ex4.symm) ?_
              refine A_iconst d_Tokens_cutOne_106 rfl ?_
              refine A_pc (pc' := 107) rfl ?_
              refine A_iaddv (z := (x4 + 1)) d_Tokens_cutOne_107 (w32_to (by omega) (by unfold i32; omega)) ?_
              refine A_putIk (KR := kF FA s h) T_ok d_Tokens_cutOne_108 f_Tokens_38 (xi_s k94.1 sf_3) fin_f (kF_j k94 (by decide) (ns_b rfl) rgf_3_8 (by omega) (by omega)) (fun h96 k97 eh96 => ?_)
              refine A_pc (pc' := 111) rfl ?_
              refine A_free (L' := [some (av_R (some 3)), some (av_I x4), none]) (And.intro rfl (And.intro rfl trivial)) ?_
              exact jp111 x4 h96 (by omega) (by omega) k97
          · refine A_aload_n 0 d_Tokens_cutOne_73 rfl rfl ?_
            refine A_callV0 m_Tokens_cutNumber T_ok d_Tokens_cutOne_74 l_Tokens_88 k_Tokens_cutNumber (xi_s k3.1 sf_3) rfl (by decide +kernel) (by decide) (Nat.le_of_ble_eq_true rfl) (s_Tokens_cutNumber k3.1 ) (fun r h98 hq => ?_)
            obtain ⟨rfl, k99⟩ := hq
            have k100 := kF_t k3 k99 (fun _ q => q)
            refine A_goto (tgt := 111) d_Tokens_cutOne_77 (by decide) ?_
            refine A_pc (pc' := 111) rfl ?_
            refine A_free (L' := [some (av_R (some 3)), some (av_I x4), none]) (And.intro rfl (And.intro rfl trivial)) ?_
            exact jp111 x4 h98 (by omega) (by omega) k100
        · refine A_aload_n 0 d_Tokens_cutOne_59 rfl rfl ?_
          refine A_callV0 m_Tokens_cutName T_ok d_Tokens_cutOne_60 l_Tokens_82 k_Tokens_cutName (xi_s k3.1 sf_3) rfl (by decide +kernel) (by decide) (Nat.le_of_ble_eq_true rfl) (s_Tokens_cutName k3.1 ) (fun r h101 hq => ?_)
          obtain ⟨rfl, k102⟩ := hq
          have k103 := kF_t k3 k102 (fun _ q => q)
          refine A_goto (tgt := 111) d_Tokens_cutOne_63 (by decide) ?_
          refine A_pc (pc' := 111) rfl ?_
          refine A_free (L' := [some (av_R (some 3)), some (av_I x4), none]) (And.intro rfl (And.intro rfl trivial)) ?_
          exact jp111 x4 h101 (by omega) (by omega) k103
      · refine A_aload_n 0 d_Tokens_cutOne_44 rfl rfl ?_
        refine A_iload_n 2 d_Tokens_cutOne_45 rfl rfl ?_
        refine A_callV1 m_Tokens_cutPitch T_ok d_Tokens_cutOne_46 l_Tokens_74 k_Tokens_cutPitch (xi_s k3.1 sf_3) rfl (by decide +kernel) (by decide) (Nat.le_of_ble_eq_true rfl) (s_Tokens_cutPitch k3.1 (by omega) (by omega)) (fun r h104 hq => ?_)
        obtain ⟨rfl, k105⟩ := hq
        have k106 := kF_t k3 k105 (fun _ q => q)
        refine A_goto (tgt := 111) d_Tokens_cutOne_49 (by decide) ?_
        refine A_pc (pc' := 111) rfl ?_
        refine A_free (L' := [some (av_R (some 3)), some (av_I x4), none]) (And.intro rfl (And.intro rfl trivial)) ?_
        exact jp111 x4 h104 (by omega) (by omega) k106
  · refine A_aload_n 0 d_Tokens_cutOne_22 rfl rfl ?_
    refine A_sipush d_Tokens_cutOne_23 rfl ?_
    refine A_putIk (KR := kF FA s h) T_ok d_Tokens_cutOne_26 f_Tokens_54 (xi_s k3.1 sf_3) fin_f (kF_j k3 (by decide) (ns_b rfl) rgf_3_9 (by omega) (by omega)) (fun h107 k108 eh107 => ?_)
    refine A_goto (tgt := 111) d_Tokens_cutOne_29 (by decide) ?_
    refine A_pc (pc' := 111) rfl ?_
    refine A_free (L' := [some (av_R (some 3)), some (av_I x4), none]) (And.intro rfl (And.intro rfl trivial)) ?_
    exact jp111 x4 h107 (by omega) (by omega) k108
theorem s_Tokens_cutAll {G : cx_T} {s : Nat} {h : ah_T} (hx : xi s h) {a2 : Int} (la2 : 0 ≤ a2) (ua2 : a2 ≤ 2000) : con G 9 0 0 m_Tokens_cutAll [av_R (some 3), av_R (some 1), av_I a2] h (fun r h' => r = none ∧ kF FA s h h') := by
  refine con_of (L := [some (av_R (some 3)), some (av_R (some 1)), some (av_I a2), none, none]) (by decide +kernel) (Nat.le_of_ble_eq_true rfl) rfl ?_
  have hS : isS s := hx.2.1
  have hs0 : s = 17 ∨ s = 80 := hS
  have hs0b : 17 ≤ s ∧ s ≤ 80 := by omega
  have k0 : kF FA s h h := kF_0 hx
  refine A_aload_n 0 d_Tokens_cutAll_0 rfl rfl ?_
  refine A_aload_n 1 d_Tokens_cutAll_1 rfl rfl ?_
  refine A_putRk (KR := kF FA s h) T_ok d_Tokens_cutAll_2 f_Tokens_25 ty_a (xi_s k0.1 sf_3) fin_f (kF_r36 k0 (by decide)) (fun h1 k2 eh1 => ?_)
  refine A_aload_n 0 d_Tokens_cutAll_5 rfl rfl ?_
  refine A_iload_n 2 d_Tokens_cutAll_6 rfl rfl ?_
  refine A_pc (pc' := 7) rfl ?_
  refine A_aload_n 1 d_Tokens_cutAll_7 rfl rfl ?_
  refine A_alenN d_Tokens_cutAll_8 (xi_s k2.1 sf_1) (by decide) (by decide) ?_
  refine A_sipush d_Tokens_cutAll_9 rfl ?_
  refine A_mmin d_Tokens_cutAll_12 lm_Tokens_28 ma_min (by decide) (by decide) (Nat.le_of_ble_eq_true rfl) rfl ?_
  refine A_nrI (fun x3 ex3 _ _ => ?_)
  have bx3 := mmin_r ex3
  refine A_mmin d_Tokens_cutAll_15 lm_Tokens_28 ma_min (by decide) (by decide) (Nat.le_of_ble_eq_true rfl) rfl ?_
  refine A_nrI (fun x4 ex4 _ _ => ?_)
  have bx4 := mmin_r ex4
  refine A_putIk (KR := kF FA s h) T_ok d_Tokens_cutAll_18 f_Tokens_34 (xi_s k2.1 sf_3) fin_f (kF_j k2 (by decide) (ns_b rfl) rgf_3_7 (by omega) (by omega)) (fun h5 k6 eh5 => ?_)
  refine A_pc (pc' := 21) rfl ?_
  refine A_aload_n 0 d_Tokens_cutAll_21 rfl rfl ?_
  refine A_iconst d_Tokens_cutAll_22 rfl ?_
  refine A_putIk (KR := kF FA s h) T_ok d_Tokens_cutAll_23 f_Tokens_38 (xi_s k6.1 sf_3) fin_f (kF_j k6 (by decide) (ns_b rfl) rgf_3_8 (by omega) (by omega)) (fun h7 k8 eh7 => ?_)
  refine A_aload_n 0 d_Tokens_cutAll_26 rfl rfl ?_
  refine A_iconst d_Tokens_cutAll_27 rfl ?_
  refine A_putIk (KR := kF FA s h) T_ok d_Tokens_cutAll_28 f_Tokens_41 (xi_s k8.1 sf_3) fin_f (kF_j k8 (by decide) (ns_b rfl) rgf_3_4 (by omega) (by omega)) (fun h9 k10 eh9 => ?_)
  refine A_pc (pc' := 31) rfl ?_
  refine A_iconst d_Tokens_cutAll_31 rfl ?_
  refine A_istore_n 3 (L' := [some (av_R (some 3)), some (av_R (some 1)), some (av_I a2), some (av_I 1), none]) d_Tokens_cutAll_32 rfl (Nat.le_of_ble_eq_true rfl) rfl ?_
  refine A_iconst d_Tokens_cutAll_33 rfl ?_
  refine A_istore (L' := [some (av_R (some 3)), some (av_R (some 1)), some (av_I a2), some (av_I 1), some (av_I 0)]) d_Tokens_cutAll_34 (Nat.le_of_ble_eq_true rfl) rfl ?_
  have lp36 : ∀ (n : Nat) (i11 i12 : Int) (h13 : ah_T) , 0 ≤ i11 → i11 ≤ 1 → 0 ≤ i12 → i12 ≤ 2001 → kF FA s h h13 → (2002 - i12).toNat < n → aw G (rm_R 9 0 0) m_Tokens_cutAll 0 0 36 [some (av_R (some 3)), some (av_R (some 1)), some (av_I a2), some (av_I i11), some (av_I i12)] [] h13 (fun r h' => r = none ∧ kF FA s h h') := by
    intro n
    induction n with
    | zero => intro i11 i12 h13 _ _ _ _ _ hm; omega
    | succ n ih36 =>
      intro i11 i12 h13 hl0 hl1 hl2 hl3 k14 hm
      refine A_iload d_Tokens_cutAll_36 rfl ?_
      refine A_sipush d_Tokens_cutAll_38 rfl ?_
      refine A_icmp_gt (tgt := 59) d_Tokens_cutAll_41 (by decide) (fun c15 => ?_) (fun c15 => ?_)
      · refine A_aload_n 0 d_Tokens_cutAll_59 rfl rfl ?_
        refine A_iconst d_Tokens_cutAll_60 rfl ?_
        refine A_putIk (KR := kF FA s h) T_ok d_Tokens_cutAll_61 f_Tokens_48 (xi_s k14.1 sf_3) fin_f (kF_j k14 (by decide) (ns_b rfl) rgf_3_5 (by omega) (by omega)) (fun h16 k17 eh16 => ?_)
        refine A_aload_n 0 d_Tokens_cutAll_64 rfl rfl ?_
        refine A_callV0 m_Tokens_next T_ok d_Tokens_cutAll_65 l_Tokens_51 k_Tokens_next (xi_s k17.1 sf_3) rfl (by decide +kernel) (by decide) (Nat.le_of_ble_eq_true rfl) (s_Tokens_next k17.1 ) (fun r h18 hq => ?_)
        obtain ⟨rfl, k19⟩ := hq
        have k20 := kF_t k17 k19 (fun _ q => q)
        exact A_vret d_Tokens_cutAll_68 (by decide) rfl ⟨rfl, k20⟩
      · refine A_iload_n 3 d_Tokens_cutAll_44 rfl rfl ?_
        refine A_if_eq (tgt := 59) d_Tokens_cutAll_45 (by decide) (fun c21 => ?_) (fun c21 => ?_)
        · refine A_aload_n 0 d_Tokens_cutAll_59 rfl rfl ?_
          refine A_iconst d_Tokens_cutAll_60 rfl ?_
          refine A_putIk (KR := kF FA s h) T_ok d_Tokens_cutAll_61 f_Tokens_48 (xi_s k14.1 sf_3) fin_f (kF_j k14 (by decide) (ns_b rfl) rgf_3_5 (by omega) (by omega)) (fun h22 k23 eh22 => ?_)
          refine A_aload_n 0 d_Tokens_cutAll_64 rfl rfl ?_
          refine A_callV0 m_Tokens_next T_ok d_Tokens_cutAll_65 l_Tokens_51 k_Tokens_next (xi_s k23.1 sf_3) rfl (by decide +kernel) (by decide) (Nat.le_of_ble_eq_true rfl) (s_Tokens_next k23.1 ) (fun r h24 hq => ?_)
          obtain ⟨rfl, k25⟩ := hq
          have k26 := kF_t k23 k25 (fun _ q => q)
          exact A_vret d_Tokens_cutAll_68 (by decide) rfl ⟨rfl, k26⟩
        · refine A_aload_n 0 d_Tokens_cutAll_48 rfl rfl ?_
          refine A_callV0 m_Tokens_cutOne T_ok d_Tokens_cutAll_49 l_Tokens_44 k_Tokens_cutOne (xi_s k14.1 sf_3) rfl (by decide +kernel) (by decide) (Nat.le_of_ble_eq_true rfl) (s_Tokens_cutOne k14.1 ) (fun r h27 hq => ?_)
          obtain ⟨x29, rfl, bx29, k28⟩ := hq
          have k30 := kF_t k14 k28 (fun _ q => q)
          refine A_istore_n 3 (L' := [some (av_R (some 3)), some (av_R (some 1)), some (av_I a2), some (av_I x29), some (av_I i12)]) d_Tokens_cutAll_52 rfl (Nat.le_of_ble_eq_true rfl) rfl ?_
          refine A_iincv (z := (i12 + 1)) (L' := [some (av_R (some 3)), some (av_R (some 1)), some (av_I a2), some (av_I x29), some (av_I (i12 + 1))]) d_Tokens_cutAll_53 rfl (w32_to (by omega) (by unfold i32; omega)) rfl ?_
          refine A_goto (tgt := 36) d_Tokens_cutAll_56 (by decide) ?_
          exact ih36 x29 (i12 + 1) h27 (by omega) (by omega) (by omega) (by omega) k30 (by omega)
  exact lp36 _ 1 0 h9 (by omega) (by omega) (by omega) (by omega) k10 (Nat.lt_succ_self _)
