/-! ===== the class's methods, 22j ===== -/
def m_Seconds_forget : mr_T := (⟨"PlainMusic$Seconds", "forget", "()V"⟩, prog_9_method_2_code, 1, none)
theorem d_Seconds_forget_0 : decode prog_9_method_2_code 0 = .ok (.aload_n 0, 1) := by decide +kernel
theorem d_Seconds_forget_1 : decode prog_9_method_2_code 1 = .ok (.iconst 0, 1) := by decide +kernel
theorem d_Seconds_forget_2 : decode prog_9_method_2_code 2 = .ok (.putfield 22, 3) := by decide +kernel
theorem f_Seconds_22 : fl_OK "PlainMusic$Seconds" 22 7 1 .int false := ⟨_, rfl, by decide, gwi_513, rfl, rfl⟩
theorem sf_158 : sh_L[158]? = some (7 + 4, 8) := by decide +kernel
theorem rgf_158_1 : rg 158 1 = ((-2147483648), 2147483647) := by decide +kernel
theorem d_Seconds_forget_5 : decode prog_9_method_2_code 5 = .ok (.return_, 1) := by decide +kernel
def m_Seconds_asks : mr_T := (⟨"PlainMusic$Seconds", "asks", "(I)Z"⟩, prog_9_method_6_code, 2, some .boolean)
theorem d_Seconds_asks_0 : decode prog_9_method_6_code 0 = .ok (.aload_n 0, 1) := by decide +kernel
theorem d_Seconds_asks_1 : decode prog_9_method_6_code 1 = .ok (.getfield 38, 3) := by decide +kernel
theorem f_Seconds_38 : fl_OK "PlainMusic$Seconds" 38 7 5 .int false := ⟨_, rfl, by decide, gwi_517, rfl, rfl⟩
theorem rgf_158_5 : rg 158 5 = ((-2147483648), 2147483647) := by decide +kernel
theorem d_Seconds_asks_4 : decode prog_9_method_6_code 4 = .ok (.iload_n 1, 1) := by decide +kernel
theorem d_Seconds_asks_5 : decode prog_9_method_6_code 5 = .ok (.iand, 1) := by decide +kernel
theorem d_Seconds_asks_6 : decode prog_9_method_6_code 6 = .ok (.ifCond .eq 7, 3) := by decide +kernel
theorem d_Seconds_asks_13 : decode prog_9_method_6_code 13 = .ok (.iconst 0, 1) := by decide +kernel
theorem d_Seconds_asks_14 : decode prog_9_method_6_code 14 = .ok (.ireturn, 1) := by decide +kernel
theorem d_Seconds_asks_9 : decode prog_9_method_6_code 9 = .ok (.iconst 1, 1) := by decide +kernel
theorem d_Seconds_asks_10 : decode prog_9_method_6_code 10 = .ok (.goto 4, 3) := by decide +kernel
def m_Seconds_isAmong : mr_T := (⟨"PlainMusic$Seconds", "isAmong", "(II)Z"⟩, prog_9_method_7_code, 2, some .boolean)
theorem d_Seconds_isAmong_0 : decode prog_9_method_7_code 0 = .ok (.iload_n 0, 1) := by decide +kernel
theorem d_Seconds_isAmong_1 : decode prog_9_method_7_code 1 = .ok (.iload_n 1, 1) := by decide +kernel
theorem d_Seconds_isAmong_2 : decode prog_9_method_7_code 2 = .ok (.bipush 12, 2) := by decide +kernel
theorem d_Seconds_isAmong_4 : decode prog_9_method_7_code 4 = .ok (.invokestatic 71, 3) := by decide +kernel
theorem l_Seconds_71 : ml_OK "PlainMusic$Seconds" 71 ⟨"java/lang/Math", "floorMod", "(II)I"⟩ := Or.inl gwi_1304
theorem d_Seconds_isAmong_7 : decode prog_9_method_7_code 7 = .ok (.ishr, 1) := by decide +kernel
theorem d_Seconds_isAmong_8 : decode prog_9_method_7_code 8 = .ok (.iconst 1, 1) := by decide +kernel
theorem d_Seconds_isAmong_9 : decode prog_9_method_7_code 9 = .ok (.iand, 1) := by decide +kernel
theorem d_Seconds_isAmong_10 : decode prog_9_method_7_code 10 = .ok (.ifCond .eq 7, 3) := by decide +kernel
theorem d_Seconds_isAmong_17 : decode prog_9_method_7_code 17 = .ok (.iconst 0, 1) := by decide +kernel
theorem d_Seconds_isAmong_18 : decode prog_9_method_7_code 18 = .ok (.ireturn, 1) := by decide +kernel
theorem d_Seconds_isAmong_13 : decode prog_9_method_7_code 13 = .ok (.iconst 1, 1) := by decide +kernel
theorem d_Seconds_isAmong_14 : decode prog_9_method_7_code 14 = .ok (.goto 4, 3) := by decide +kernel
def m_Seconds_fitsAlone : mr_T := (⟨"PlainMusic$Seconds", "fitsAlone", "(I)Z"⟩, prog_9_method_8_code, 4, some .boolean)
theorem d_Seconds_fitsAlone_0 : decode prog_9_method_8_code 0 = .ok (.aload_n 0, 1) := by decide +kernel
theorem d_Seconds_fitsAlone_1 : decode prog_9_method_8_code 1 = .ok (.getfield 19, 3) := by decide +kernel
theorem rff_158_7 : (158, 7, 161) ∈ rf_L := by decide +kernel
theorem d_Seconds_fitsAlone_4 : decode prog_9_method_8_code 4 = .ok (.iload_n 1, 1) := by decide +kernel
theorem d_Seconds_fitsAlone_5 : decode prog_9_method_8_code 5 = .ok (.iaload, 1) := by decide +kernel
theorem sf_161 : sh_L[161]? = some (0, 8) := by decide +kernel
theorem rgf_161 (k : Nat) : rg 161 k = ((-2147483648), 2147483647) := rfl
theorem d_Seconds_fitsAlone_6 : decode prog_9_method_8_code 6 = .ok (.istore_n 2, 1) := by decide +kernel
theorem d_Seconds_fitsAlone_7 : decode prog_9_method_8_code 7 = .ok (.iload_n 2, 1) := by decide +kernel
theorem d_Seconds_fitsAlone_8 : decode prog_9_method_8_code 8 = .ok (.aload_n 0, 1) := by decide +kernel
theorem d_Seconds_fitsAlone_9 : decode prog_9_method_8_code 9 = .ok (.getfield 15, 3) := by decide +kernel
theorem rff_158_6 : (158, 6, 160) ∈ rf_L := by decide +kernel
theorem d_Seconds_fitsAlone_12 : decode prog_9_method_8_code 12 = .ok (.iload_n 1, 1) := by decide +kernel
theorem d_Seconds_fitsAlone_13 : decode prog_9_method_8_code 13 = .ok (.iaload, 1) := by decide +kernel
theorem sf_160 : sh_L[160]? = some (0, 8) := by decide +kernel
theorem rgf_160 (k : Nat) : rg 160 k = ((-2147483648), 2147483647) := rfl
theorem d_Seconds_fitsAlone_14 : decode prog_9_method_8_code 14 = .ok (.isub, 1) := by decide +kernel
theorem d_Seconds_fitsAlone_15 : decode prog_9_method_8_code 15 = .ok (.istore_n 3, 1) := by decide +kernel
theorem d_Seconds_fitsAlone_16 : decode prog_9_method_8_code 16 = .ok (.aload_n 0, 1) := by decide +kernel
theorem d_Seconds_fitsAlone_17 : decode prog_9_method_8_code 17 = .ok (.iconst 1, 1) := by decide +kernel
theorem d_Seconds_fitsAlone_18 : decode prog_9_method_8_code 18 = .ok (.invokevirtual 74, 3) := by decide +kernel
theorem k_Seconds_asks : mt_OK m_Seconds_asks 1 1 := ⟨gwi_1300, gwi_143, ⟨by decide +kernel, by decide +kernel, by decide +kernel⟩, fun h => absurd h (by decide), fun _ => ⟨gwi_1299, gwi_42⟩, fun h => absurd h (by decide)⟩
theorem l_Seconds_74 : ml_OK "PlainMusic$Seconds" 74 ⟨"PlainMusic$Seconds", "asks", "(I)Z"⟩ := Or.inl gwi_1297
theorem d_Seconds_fitsAlone_21 : decode prog_9_method_8_code 21 = .ok (.ifCond .eq 15, 3) := by decide +kernel
theorem d_Seconds_fitsAlone_24 : decode prog_9_method_8_code 24 = .ok (.sipush 921, 3) := by decide +kernel
theorem d_Seconds_fitsAlone_27 : decode prog_9_method_8_code 27 = .ok (.iload_n 3, 1) := by decide +kernel
theorem d_Seconds_fitsAlone_28 : decode prog_9_method_8_code 28 = .ok (.invokestatic 77, 3) := by decide +kernel
theorem k_Seconds_isAmong : mt_OK m_Seconds_isAmong 2 0 := ⟨gwi_1303, gwi_143, ⟨by decide +kernel, by decide +kernel, by decide +kernel⟩, fun _ => gwi_1302, fun h => absurd h (by decide), fun h => absurd h (by decide)⟩
theorem l_Seconds_77 : ml_OK "PlainMusic$Seconds" 77 ⟨"PlainMusic$Seconds", "isAmong", "(II)Z"⟩ := Or.inl gwi_1301
theorem d_Seconds_fitsAlone_31 : decode prog_9_method_8_code 31 = .ok (.ifCond .ne 5, 3) := by decide +kernel
theorem d_Seconds_fitsAlone_34 : decode prog_9_method_8_code 34 = .ok (.iconst 0, 1) := by decide +kernel
theorem d_Seconds_fitsAlone_35 : decode prog_9_method_8_code 35 = .ok (.ireturn, 1) := by decide +kernel
theorem d_Seconds_fitsAlone_36 : decode prog_9_method_8_code 36 = .ok (.aload_n 0, 1) := by decide +kernel
theorem d_Seconds_fitsAlone_37 : decode prog_9_method_8_code 37 = .ok (.iconst 2, 1) := by decide +kernel
theorem d_Seconds_fitsAlone_38 : decode prog_9_method_8_code 38 = .ok (.invokevirtual 74, 3) := by decide +kernel
theorem d_Seconds_fitsAlone_41 : decode prog_9_method_8_code 41 = .ok (.ifCond .eq 19, 3) := by decide +kernel
theorem d_Seconds_fitsAlone_44 : decode prog_9_method_8_code 44 = .ok (.iload_n 1, 1) := by decide +kernel
theorem d_Seconds_fitsAlone_45 : decode prog_9_method_8_code 45 = .ok (.ifCond .ne 15, 3) := by decide +kernel
theorem d_Seconds_fitsAlone_48 : decode prog_9_method_8_code 48 = .ok (.sipush 129, 3) := by decide +kernel
theorem d_Seconds_fitsAlone_51 : decode prog_9_method_8_code 51 = .ok (.iload_n 3, 1) := by decide +kernel
theorem d_Seconds_fitsAlone_52 : decode prog_9_method_8_code 52 = .ok (.invokestatic 77, 3) := by decide +kernel
theorem d_Seconds_fitsAlone_55 : decode prog_9_method_8_code 55 = .ok (.ifCond .ne 5, 3) := by decide +kernel
theorem d_Seconds_fitsAlone_58 : decode prog_9_method_8_code 58 = .ok (.iconst 0, 1) := by decide +kernel
theorem d_Seconds_fitsAlone_59 : decode prog_9_method_8_code 59 = .ok (.ireturn, 1) := by decide +kernel
theorem d_Seconds_fitsAlone_60 : decode prog_9_method_8_code 60 = .ok (.aload_n 0, 1) := by decide +kernel
theorem d_Seconds_fitsAlone_61 : decode prog_9_method_8_code 61 = .ok (.iconst 2, 1) := by decide +kernel
theorem d_Seconds_fitsAlone_62 : decode prog_9_method_8_code 62 = .ok (.invokevirtual 74, 3) := by decide +kernel
theorem d_Seconds_fitsAlone_65 : decode prog_9_method_8_code 65 = .ok (.ifCond .eq 24, 3) := by decide +kernel
theorem d_Seconds_fitsAlone_68 : decode prog_9_method_8_code 68 = .ok (.iload_n 1, 1) := by decide +kernel
theorem d_Seconds_fitsAlone_69 : decode prog_9_method_8_code 69 = .ok (.aload_n 0, 1) := by decide +kernel
theorem d_Seconds_fitsAlone_70 : decode prog_9_method_8_code 70 = .ok (.getfield 47, 3) := by decide +kernel
theorem f_Seconds_47 : fl_OK "PlainMusic$Seconds" 47 7 4 .int false := ⟨_, rfl, by decide, gwi_516, rfl, rfl⟩
theorem rgf_158_4 : rg 158 4 = (0, 8) := by decide +kernel
theorem d_Seconds_fitsAlone_73 : decode prog_9_method_8_code 73 = .ok (.iconst 1, 1) := by decide +kernel
theorem d_Seconds_fitsAlone_74 : decode prog_9_method_8_code 74 = .ok (.isub, 1) := by decide +kernel
theorem d_Seconds_fitsAlone_75 : decode prog_9_method_8_code 75 = .ok (.if_icmp .ne 14, 3) := by decide +kernel
theorem d_Seconds_fitsAlone_78 : decode prog_9_method_8_code 78 = .ok (.iload_n 3, 1) := by decide +kernel
theorem d_Seconds_fitsAlone_79 : decode prog_9_method_8_code 79 = .ok (.bipush 12, 2) := by decide +kernel
theorem d_Seconds_fitsAlone_81 : decode prog_9_method_8_code 81 = .ok (.invokestatic 71, 3) := by decide +kernel
theorem d_Seconds_fitsAlone_84 : decode prog_9_method_8_code 84 = .ok (.ifCond .eq 5, 3) := by decide +kernel
theorem d_Seconds_fitsAlone_87 : decode prog_9_method_8_code 87 = .ok (.iconst 0, 1) := by decide +kernel
theorem d_Seconds_fitsAlone_88 : decode prog_9_method_8_code 88 = .ok (.ireturn, 1) := by decide +kernel
theorem d_Seconds_fitsAlone_89 : decode prog_9_method_8_code 89 = .ok (.aload_n 0, 1) := by decide +kernel
theorem d_Seconds_fitsAlone_90 : decode prog_9_method_8_code 90 = .ok (.sipush 128, 3) := by decide +kernel
theorem d_Seconds_fitsAlone_93 : decode prog_9_method_8_code 93 = .ok (.invokevirtual 74, 3) := by decide +kernel
theorem d_Seconds_fitsAlone_96 : decode prog_9_method_8_code 96 = .ok (.ifCond .eq 15, 3) := by decide +kernel
theorem d_Seconds_fitsAlone_99 : decode prog_9_method_8_code 99 = .ok (.sipush 2741, 3) := by decide +kernel
theorem d_Seconds_fitsAlone_102 : decode prog_9_method_8_code 102 = .ok (.iload_n 2, 1) := by decide +kernel
theorem d_Seconds_fitsAlone_103 : decode prog_9_method_8_code 103 = .ok (.invokestatic 77, 3) := by decide +kernel
theorem d_Seconds_fitsAlone_106 : decode prog_9_method_8_code 106 = .ok (.ifCond .ne 5, 3) := by decide +kernel
theorem d_Seconds_fitsAlone_109 : decode prog_9_method_8_code 109 = .ok (.iconst 0, 1) := by decide +kernel
theorem d_Seconds_fitsAlone_110 : decode prog_9_method_8_code 110 = .ok (.ireturn, 1) := by decide +kernel
theorem d_Seconds_fitsAlone_111 : decode prog_9_method_8_code 111 = .ok (.aload_n 0, 1) := by decide +kernel
theorem d_Seconds_fitsAlone_112 : decode prog_9_method_8_code 112 = .ok (.sipush 256, 3) := by decide +kernel
theorem d_Seconds_fitsAlone_115 : decode prog_9_method_8_code 115 = .ok (.invokevirtual 74, 3) := by decide +kernel
theorem d_Seconds_fitsAlone_118 : decode prog_9_method_8_code 118 = .ok (.ifCond .eq 7, 3) := by decide +kernel
theorem d_Seconds_fitsAlone_121 : decode prog_9_method_8_code 121 = .ok (.iload_n 3, 1) := by decide +kernel
theorem d_Seconds_fitsAlone_122 : decode prog_9_method_8_code 122 = .ok (.ifCond .lt 7, 3) := by decide +kernel
theorem d_Seconds_fitsAlone_129 : decode prog_9_method_8_code 129 = .ok (.iconst 0, 1) := by decide +kernel
theorem d_Seconds_fitsAlone_130 : decode prog_9_method_8_code 130 = .ok (.ireturn, 1) := by decide +kernel
theorem d_Seconds_fitsAlone_125 : decode prog_9_method_8_code 125 = .ok (.iconst 1, 1) := by decide +kernel
theorem d_Seconds_fitsAlone_126 : decode prog_9_method_8_code 126 = .ok (.goto 4, 3) := by decide +kernel
def m_Seconds_fitsBehind : mr_T := (⟨"PlainMusic$Seconds", "fitsBehind", "(I)Z"⟩, prog_9_method_9_code, 7, some .boolean)
theorem d_Seconds_fitsBehind_0 : decode prog_9_method_9_code 0 = .ok (.aload_n 0, 1) := by decide +kernel
theorem d_Seconds_fitsBehind_1 : decode prog_9_method_9_code 1 = .ok (.getfield 19, 3) := by decide +kernel
theorem d_Seconds_fitsBehind_4 : decode prog_9_method_9_code 4 = .ok (.iload_n 1, 1) := by decide +kernel
theorem d_Seconds_fitsBehind_5 : decode prog_9_method_9_code 5 = .ok (.iaload, 1) := by decide +kernel
theorem d_Seconds_fitsBehind_6 : decode prog_9_method_9_code 6 = .ok (.aload_n 0, 1) := by decide +kernel
theorem d_Seconds_fitsBehind_7 : decode prog_9_method_9_code 7 = .ok (.getfield 15, 3) := by decide +kernel
theorem d_Seconds_fitsBehind_10 : decode prog_9_method_9_code 10 = .ok (.iload_n 1, 1) := by decide +kernel
theorem d_Seconds_fitsBehind_11 : decode prog_9_method_9_code 11 = .ok (.iaload, 1) := by decide +kernel
theorem d_Seconds_fitsBehind_12 : decode prog_9_method_9_code 12 = .ok (.isub, 1) := by decide +kernel
theorem d_Seconds_fitsBehind_13 : decode prog_9_method_9_code 13 = .ok (.istore_n 2, 1) := by decide +kernel
theorem d_Seconds_fitsBehind_14 : decode prog_9_method_9_code 14 = .ok (.aload_n 0, 1) := by decide +kernel
theorem d_Seconds_fitsBehind_15 : decode prog_9_method_9_code 15 = .ok (.getfield 19, 3) := by decide +kernel
theorem d_Seconds_fitsBehind_18 : decode prog_9_method_9_code 18 = .ok (.iload_n 1, 1) := by decide +kernel
theorem d_Seconds_fitsBehind_19 : decode prog_9_method_9_code 19 = .ok (.iconst 1, 1) := by decide +kernel
theorem d_Seconds_fitsBehind_20 : decode prog_9_method_9_code 20 = .ok (.isub, 1) := by decide +kernel
theorem d_Seconds_fitsBehind_21 : decode prog_9_method_9_code 21 = .ok (.iaload, 1) := by decide +kernel
theorem d_Seconds_fitsBehind_22 : decode prog_9_method_9_code 22 = .ok (.aload_n 0, 1) := by decide +kernel
theorem d_Seconds_fitsBehind_23 : decode prog_9_method_9_code 23 = .ok (.getfield 15, 3) := by decide +kernel
theorem d_Seconds_fitsBehind_26 : decode prog_9_method_9_code 26 = .ok (.iload_n 1, 1) := by decide +kernel
theorem d_Seconds_fitsBehind_27 : decode prog_9_method_9_code 27 = .ok (.iconst 1, 1) := by decide +kernel
theorem d_Seconds_fitsBehind_28 : decode prog_9_method_9_code 28 = .ok (.isub, 1) := by decide +kernel
theorem d_Seconds_fitsBehind_29 : decode prog_9_method_9_code 29 = .ok (.iaload, 1) := by decide +kernel
theorem d_Seconds_fitsBehind_30 : decode prog_9_method_9_code 30 = .ok (.isub, 1) := by decide +kernel
theorem d_Seconds_fitsBehind_31 : decode prog_9_method_9_code 31 = .ok (.istore_n 3, 1) := by decide +kernel
theorem d_Seconds_fitsBehind_32 : decode prog_9_method_9_code 32 = .ok (.aload_n 0, 1) := by decide +kernel
theorem d_Seconds_fitsBehind_33 : decode prog_9_method_9_code 33 = .ok (.getfield 19, 3) := by decide +kernel
theorem d_Seconds_fitsBehind_36 : decode prog_9_method_9_code 36 = .ok (.iload_n 1, 1) := by decide +kernel
theorem d_Seconds_fitsBehind_37 : decode prog_9_method_9_code 37 = .ok (.iaload, 1) := by decide +kernel
theorem d_Seconds_fitsBehind_38 : decode prog_9_method_9_code 38 = .ok (.aload_n 0, 1) := by decide +kernel
theorem d_Seconds_fitsBehind_39 : decode prog_9_method_9_code 39 = .ok (.getfield 19, 3) := by decide +kernel
theorem d_Seconds_fitsBehind_42 : decode prog_9_method_9_code 42 = .ok (.iload_n 1, 1) := by decide +kernel
theorem d_Seconds_fitsBehind_43 : decode prog_9_method_9_code 43 = .ok (.iconst 1, 1) := by decide +kernel
theorem d_Seconds_fitsBehind_44 : decode prog_9_method_9_code 44 = .ok (.isub, 1) := by decide +kernel
theorem d_Seconds_fitsBehind_45 : decode prog_9_method_9_code 45 = .ok (.iaload, 1) := by decide +kernel
theorem d_Seconds_fitsBehind_46 : decode prog_9_method_9_code 46 = .ok (.isub, 1) := by decide +kernel
theorem d_Seconds_fitsBehind_47 : decode prog_9_method_9_code 47 = .ok (.istore 4, 2) := by decide +kernel
theorem d_Seconds_fitsBehind_49 : decode prog_9_method_9_code 49 = .ok (.aload_n 0, 1) := by decide +kernel
theorem d_Seconds_fitsBehind_50 : decode prog_9_method_9_code 50 = .ok (.getfield 15, 3) := by decide +kernel
theorem d_Seconds_fitsBehind_53 : decode prog_9_method_9_code 53 = .ok (.iload_n 1, 1) := by decide +kernel
theorem d_Seconds_fitsBehind_54 : decode prog_9_method_9_code 54 = .ok (.iaload, 1) := by decide +kernel
theorem d_Seconds_fitsBehind_55 : decode prog_9_method_9_code 55 = .ok (.aload_n 0, 1) := by decide +kernel
theorem d_Seconds_fitsBehind_56 : decode prog_9_method_9_code 56 = .ok (.getfield 15, 3) := by decide +kernel
theorem d_Seconds_fitsBehind_59 : decode prog_9_method_9_code 59 = .ok (.iload_n 1, 1) := by decide +kernel
theorem d_Seconds_fitsBehind_60 : decode prog_9_method_9_code 60 = .ok (.iconst 1, 1) := by decide +kernel
theorem d_Seconds_fitsBehind_61 : decode prog_9_method_9_code 61 = .ok (.isub, 1) := by decide +kernel
theorem d_Seconds_fitsBehind_62 : decode prog_9_method_9_code 62 = .ok (.iaload, 1) := by decide +kernel
theorem d_Seconds_fitsBehind_63 : decode prog_9_method_9_code 63 = .ok (.isub, 1) := by decide +kernel
theorem d_Seconds_fitsBehind_64 : decode prog_9_method_9_code 64 = .ok (.istore 5, 2) := by decide +kernel
theorem d_Seconds_fitsBehind_66 : decode prog_9_method_9_code 66 = .ok (.sipush 129, 3) := by decide +kernel
theorem d_Seconds_fitsBehind_69 : decode prog_9_method_9_code 69 = .ok (.iload_n 2, 1) := by decide +kernel
theorem d_Seconds_fitsBehind_70 : decode prog_9_method_9_code 70 = .ok (.invokestatic 77, 3) := by decide +kernel
theorem d_Seconds_fitsBehind_73 : decode prog_9_method_9_code 73 = .ok (.istore 6, 2) := by decide +kernel
theorem d_Seconds_fitsBehind_75 : decode prog_9_method_9_code 75 = .ok (.aload_n 0, 1) := by decide +kernel
theorem d_Seconds_fitsBehind_76 : decode prog_9_method_9_code 76 = .ok (.iconst 4, 1) := by decide +kernel
theorem d_Seconds_fitsBehind_77 : decode prog_9_method_9_code 77 = .ok (.invokevirtual 74, 3) := by decide +kernel
theorem d_Seconds_fitsBehind_80 : decode prog_9_method_9_code 80 = .ok (.ifCond .eq 26, 3) := by decide +kernel
theorem d_Seconds_fitsBehind_83 : decode prog_9_method_9_code 83 = .ok (.iload 6, 2) := by decide +kernel
theorem d_Seconds_fitsBehind_85 : decode prog_9_method_9_code 85 = .ok (.ifCond .eq 21, 3) := by decide +kernel
theorem d_Seconds_fitsBehind_88 : decode prog_9_method_9_code 88 = .ok (.iload 4, 2) := by decide +kernel
theorem d_Seconds_fitsBehind_90 : decode prog_9_method_9_code 90 = .ok (.ifCond .eq 16, 3) := by decide +kernel
theorem d_Seconds_fitsBehind_93 : decode prog_9_method_9_code 93 = .ok (.iload_n 2, 1) := by decide +kernel
theorem d_Seconds_fitsBehind_94 : decode prog_9_method_9_code 94 = .ok (.iload_n 3, 1) := by decide +kernel
theorem d_Seconds_fitsBehind_95 : decode prog_9_method_9_code 95 = .ok (.isub, 1) := by decide +kernel
theorem d_Seconds_fitsBehind_96 : decode prog_9_method_9_code 96 = .ok (.bipush 12, 2) := by decide +kernel
theorem d_Seconds_fitsBehind_98 : decode prog_9_method_9_code 98 = .ok (.invokestatic 71, 3) := by decide +kernel
theorem d_Seconds_fitsBehind_101 : decode prog_9_method_9_code 101 = .ok (.ifCond .ne 5, 3) := by decide +kernel
theorem d_Seconds_fitsBehind_104 : decode prog_9_method_9_code 104 = .ok (.iconst 0, 1) := by decide +kernel
theorem d_Seconds_fitsBehind_105 : decode prog_9_method_9_code 105 = .ok (.ireturn, 1) := by decide +kernel
theorem d_Seconds_fitsBehind_106 : decode prog_9_method_9_code 106 = .ok (.aload_n 0, 1) := by decide +kernel
theorem d_Seconds_fitsBehind_107 : decode prog_9_method_9_code 107 = .ok (.bipush 8, 2) := by decide +kernel
theorem d_Seconds_fitsBehind_109 : decode prog_9_method_9_code 109 = .ok (.invokevirtual 74, 3) := by decide +kernel
theorem d_Seconds_fitsBehind_112 : decode prog_9_method_9_code 112 = .ok (.ifCond .eq 30, 3) := by decide +kernel
theorem d_Seconds_fitsBehind_115 : decode prog_9_method_9_code 115 = .ok (.iload 6, 2) := by decide +kernel
theorem d_Seconds_fitsBehind_117 : decode prog_9_method_9_code 117 = .ok (.ifCond .eq 25, 3) := by decide +kernel
theorem d_Seconds_fitsBehind_120 : decode prog_9_method_9_code 120 = .ok (.iload 4, 2) := by decide +kernel
theorem d_Seconds_fitsBehind_122 : decode prog_9_method_9_code 122 = .ok (.ifCond .le 8, 3) := by decide +kernel
theorem d_Seconds_fitsBehind_130 : decode prog_9_method_9_code 130 = .ok (.iload 4, 2) := by decide +kernel
theorem d_Seconds_fitsBehind_132 : decode prog_9_method_9_code 132 = .ok (.ifCond .ge 10, 3) := by decide +kernel
theorem d_Seconds_fitsBehind_135 : decode prog_9_method_9_code 135 = .ok (.iload 5, 2) := by decide +kernel
theorem d_Seconds_fitsBehind_137 : decode prog_9_method_9_code 137 = .ok (.ifCond .ge 5, 3) := by decide +kernel
theorem d_Seconds_fitsBehind_140 : decode prog_9_method_9_code 140 = .ok (.iconst 0, 1) := by decide +kernel
theorem d_Seconds_fitsBehind_141 : decode prog_9_method_9_code 141 = .ok (.ireturn, 1) := by decide +kernel
theorem d_Seconds_fitsBehind_125 : decode prog_9_method_9_code 125 = .ok (.iload 5, 2) := by decide +kernel
theorem d_Seconds_fitsBehind_127 : decode prog_9_method_9_code 127 = .ok (.ifCond .gt 13, 3) := by decide +kernel
theorem d_Seconds_fitsBehind_142 : decode prog_9_method_9_code 142 = .ok (.aload_n 0, 1) := by decide +kernel
theorem d_Seconds_fitsBehind_143 : decode prog_9_method_9_code 143 = .ok (.bipush 16, 2) := by decide +kernel
theorem d_Seconds_fitsBehind_145 : decode prog_9_method_9_code 145 = .ok (.invokevirtual 74, 3) := by decide +kernel
theorem d_Seconds_fitsBehind_148 : decode prog_9_method_9_code 148 = .ok (.ifCond .eq 25, 3) := by decide +kernel
theorem d_Seconds_fitsBehind_151 : decode prog_9_method_9_code 151 = .ok (.iload 4, 2) := by decide +kernel
theorem d_Seconds_fitsBehind_153 : decode prog_9_method_9_code 153 = .ok (.invokestatic 81, 3) := by decide +kernel
theorem lm_Seconds_81 : Cond.methodLink "PlainMusic$Seconds" 81 Lib.Math.abs.name ∈ gw := gwi_1309
theorem d_Seconds_fitsBehind_156 : decode prog_9_method_9_code 156 = .ok (.bipush 7, 2) := by decide +kernel
theorem d_Seconds_fitsBehind_158 : decode prog_9_method_9_code 158 = .ok (.if_icmp .le 15, 3) := by decide +kernel
theorem d_Seconds_fitsBehind_161 : decode prog_9_method_9_code 161 = .ok (.iload 4, 2) := by decide +kernel
theorem d_Seconds_fitsBehind_163 : decode prog_9_method_9_code 163 = .ok (.invokestatic 81, 3) := by decide +kernel
theorem d_Seconds_fitsBehind_166 : decode prog_9_method_9_code 166 = .ok (.bipush 12, 2) := by decide +kernel
theorem d_Seconds_fitsBehind_168 : decode prog_9_method_9_code 168 = .ok (.if_icmp .eq 5, 3) := by decide +kernel
theorem d_Seconds_fitsBehind_171 : decode prog_9_method_9_code 171 = .ok (.iconst 0, 1) := by decide +kernel
theorem d_Seconds_fitsBehind_172 : decode prog_9_method_9_code 172 = .ok (.ireturn, 1) := by decide +kernel
theorem d_Seconds_fitsBehind_173 : decode prog_9_method_9_code 173 = .ok (.aload_n 0, 1) := by decide +kernel
theorem d_Seconds_fitsBehind_174 : decode prog_9_method_9_code 174 = .ok (.bipush 32, 2) := by decide +kernel
theorem d_Seconds_fitsBehind_176 : decode prog_9_method_9_code 176 = .ok (.invokevirtual 74, 3) := by decide +kernel
theorem d_Seconds_fitsBehind_179 : decode prog_9_method_9_code 179 = .ok (.ifCond .eq 8, 3) := by decide +kernel
theorem d_Seconds_fitsBehind_182 : decode prog_9_method_9_code 182 = .ok (.iload 4, 2) := by decide +kernel
theorem d_Seconds_fitsBehind_184 : decode prog_9_method_9_code 184 = .ok (.ifCond .eq 7, 3) := by decide +kernel
theorem d_Seconds_fitsBehind_191 : decode prog_9_method_9_code 191 = .ok (.iconst 0, 1) := by decide +kernel
theorem d_Seconds_fitsBehind_192 : decode prog_9_method_9_code 192 = .ok (.ireturn, 1) := by decide +kernel
theorem d_Seconds_fitsBehind_187 : decode prog_9_method_9_code 187 = .ok (.iconst 1, 1) := by decide +kernel
theorem d_Seconds_fitsBehind_188 : decode prog_9_method_9_code 188 = .ok (.goto 4, 3) := by decide +kernel
def m_Seconds_fitsLeap : mr_T := (⟨"PlainMusic$Seconds", "fitsLeap", "(I)Z"⟩, prog_9_method_10_code, 4, some .boolean)
theorem d_Seconds_fitsLeap_0 : decode prog_9_method_10_code 0 = .ok (.aload_n 0, 1) := by decide +kernel
theorem d_Seconds_fitsLeap_1 : decode prog_9_method_10_code 1 = .ok (.getfield 19, 3) := by decide +kernel
theorem d_Seconds_fitsLeap_4 : decode prog_9_method_10_code 4 = .ok (.iload_n 1, 1) := by decide +kernel
theorem d_Seconds_fitsLeap_5 : decode prog_9_method_10_code 5 = .ok (.iconst 1, 1) := by decide +kernel
theorem d_Seconds_fitsLeap_6 : decode prog_9_method_10_code 6 = .ok (.isub, 1) := by decide +kernel
theorem d_Seconds_fitsLeap_7 : decode prog_9_method_10_code 7 = .ok (.iaload, 1) := by decide +kernel
theorem d_Seconds_fitsLeap_8 : decode prog_9_method_10_code 8 = .ok (.aload_n 0, 1) := by decide +kernel
theorem d_Seconds_fitsLeap_9 : decode prog_9_method_10_code 9 = .ok (.getfield 19, 3) := by decide +kernel
theorem d_Seconds_fitsLeap_12 : decode prog_9_method_10_code 12 = .ok (.iload_n 1, 1) := by decide +kernel
theorem d_Seconds_fitsLeap_13 : decode prog_9_method_10_code 13 = .ok (.iconst 2, 1) := by decide +kernel
theorem d_Seconds_fitsLeap_14 : decode prog_9_method_10_code 14 = .ok (.isub, 1) := by decide +kernel
theorem d_Seconds_fitsLeap_15 : decode prog_9_method_10_code 15 = .ok (.iaload, 1) := by decide +kernel
theorem d_Seconds_fitsLeap_16 : decode prog_9_method_10_code 16 = .ok (.isub, 1) := by decide +kernel
theorem d_Seconds_fitsLeap_17 : decode prog_9_method_10_code 17 = .ok (.istore_n 2, 1) := by decide +kernel
theorem d_Seconds_fitsLeap_18 : decode prog_9_method_10_code 18 = .ok (.aload_n 0, 1) := by decide +kernel
theorem d_Seconds_fitsLeap_19 : decode prog_9_method_10_code 19 = .ok (.getfield 19, 3) := by decide +kernel
theorem d_Seconds_fitsLeap_22 : decode prog_9_method_10_code 22 = .ok (.iload_n 1, 1) := by decide +kernel
theorem d_Seconds_fitsLeap_23 : decode prog_9_method_10_code 23 = .ok (.iaload, 1) := by decide +kernel
theorem d_Seconds_fitsLeap_24 : decode prog_9_method_10_code 24 = .ok (.aload_n 0, 1) := by decide +kernel
theorem d_Seconds_fitsLeap_25 : decode prog_9_method_10_code 25 = .ok (.getfield 19, 3) := by decide +kernel
theorem d_Seconds_fitsLeap_28 : decode prog_9_method_10_code 28 = .ok (.iload_n 1, 1) := by decide +kernel
theorem d_Seconds_fitsLeap_29 : decode prog_9_method_10_code 29 = .ok (.iconst 1, 1) := by decide +kernel
theorem d_Seconds_fitsLeap_30 : decode prog_9_method_10_code 30 = .ok (.isub, 1) := by decide +kernel
theorem d_Seconds_fitsLeap_31 : decode prog_9_method_10_code 31 = .ok (.iaload, 1) := by decide +kernel
theorem d_Seconds_fitsLeap_32 : decode prog_9_method_10_code 32 = .ok (.isub, 1) := by decide +kernel
theorem d_Seconds_fitsLeap_33 : decode prog_9_method_10_code 33 = .ok (.istore_n 3, 1) := by decide +kernel
theorem d_Seconds_fitsLeap_34 : decode prog_9_method_10_code 34 = .ok (.aload_n 0, 1) := by decide +kernel
theorem d_Seconds_fitsLeap_35 : decode prog_9_method_10_code 35 = .ok (.bipush 64, 2) := by decide +kernel
theorem d_Seconds_fitsLeap_37 : decode prog_9_method_10_code 37 = .ok (.invokevirtual 74, 3) := by decide +kernel
theorem d_Seconds_fitsLeap_40 : decode prog_9_method_10_code 40 = .ok (.ifCond .eq 11, 3) := by decide +kernel
theorem d_Seconds_fitsLeap_51 : decode prog_9_method_10_code 51 = .ok (.iconst 1, 1) := by decide +kernel
theorem d_Seconds_fitsLeap_52 : decode prog_9_method_10_code 52 = .ok (.ireturn, 1) := by decide +kernel
theorem d_Seconds_fitsLeap_43 : decode prog_9_method_10_code 43 = .ok (.iload_n 2, 1) := by decide +kernel
theorem d_Seconds_fitsLeap_44 : decode prog_9_method_10_code 44 = .ok (.invokestatic 81, 3) := by decide +kernel
theorem d_Seconds_fitsLeap_47 : decode prog_9_method_10_code 47 = .ok (.iconst 4, 1) := by decide +kernel
theorem d_Seconds_fitsLeap_48 : decode prog_9_method_10_code 48 = .ok (.if_icmp .gt 5, 3) := by decide +kernel
theorem d_Seconds_fitsLeap_53 : decode prog_9_method_10_code 53 = .ok (.iload_n 2, 1) := by decide +kernel
theorem d_Seconds_fitsLeap_54 : decode prog_9_method_10_code 54 = .ok (.ifCond .le 22, 3) := by decide +kernel
theorem d_Seconds_fitsLeap_76 : decode prog_9_method_10_code 76 = .ok (.iload_n 3, 1) := by decide +kernel
theorem d_Seconds_fitsLeap_77 : decode prog_9_method_10_code 77 = .ok (.iconst 1, 1) := by decide +kernel
theorem d_Seconds_fitsLeap_78 : decode prog_9_method_10_code 78 = .ok (.if_icmp .eq 8, 3) := by decide +kernel
theorem d_Seconds_fitsLeap_86 : decode prog_9_method_10_code 86 = .ok (.iconst 1, 1) := by decide +kernel
theorem d_Seconds_fitsLeap_87 : decode prog_9_method_10_code 87 = .ok (.goto 4, 3) := by decide +kernel
theorem d_Seconds_fitsLeap_91 : decode prog_9_method_10_code 91 = .ok (.ireturn, 1) := by decide +kernel
theorem d_Seconds_fitsLeap_81 : decode prog_9_method_10_code 81 = .ok (.iload_n 3, 1) := by decide +kernel
theorem d_Seconds_fitsLeap_82 : decode prog_9_method_10_code 82 = .ok (.iconst 2, 1) := by decide +kernel
theorem d_Seconds_fitsLeap_83 : decode prog_9_method_10_code 83 = .ok (.if_icmp .ne 7, 3) := by decide +kernel
theorem d_Seconds_fitsLeap_90 : decode prog_9_method_10_code 90 = .ok (.iconst 0, 1) := by decide +kernel
theorem d_Seconds_fitsLeap_57 : decode prog_9_method_10_code 57 = .ok (.iload_n 3, 1) := by decide +kernel
theorem d_Seconds_fitsLeap_58 : decode prog_9_method_10_code 58 = .ok (.iconst (-1), 1) := by decide +kernel
theorem d_Seconds_fitsLeap_59 : decode prog_9_method_10_code 59 = .ok (.if_icmp .eq 9, 3) := by decide +kernel
theorem d_Seconds_fitsLeap_68 : decode prog_9_method_10_code 68 = .ok (.iconst 1, 1) := by decide +kernel
theorem d_Seconds_fitsLeap_69 : decode prog_9_method_10_code 69 = .ok (.goto 22, 3) := by decide +kernel
theorem d_Seconds_fitsLeap_62 : decode prog_9_method_10_code 62 = .ok (.iload_n 3, 1) := by decide +kernel
theorem d_Seconds_fitsLeap_63 : decode prog_9_method_10_code 63 = .ok (.bipush (-2), 2) := by decide +kernel
theorem d_Seconds_fitsLeap_65 : decode prog_9_method_10_code 65 = .ok (.if_icmp .ne 7, 3) := by decide +kernel
theorem d_Seconds_fitsLeap_72 : decode prog_9_method_10_code 72 = .ok (.iconst 0, 1) := by decide +kernel
theorem d_Seconds_fitsLeap_73 : decode prog_9_method_10_code 73 = .ok (.goto 18, 3) := by decide +kernel
def m_Seconds_keep : mr_T := (⟨"PlainMusic$Seconds", "keep", "(I)V"⟩, prog_9_method_5_code, 3, none)
theorem d_Seconds_keep_0 : decode prog_9_method_5_code 0 = .ok (.iload_n 1, 1) := by decide +kernel
theorem d_Seconds_keep_1 : decode prog_9_method_5_code 1 = .ok (.bipush 6, 2) := by decide +kernel
theorem d_Seconds_keep_3 : decode prog_9_method_5_code 3 = .ok (.ishr, 1) := by decide +kernel
theorem d_Seconds_keep_4 : decode prog_9_method_5_code 4 = .ok (.istore_n 2, 1) := by decide +kernel
theorem d_Seconds_keep_5 : decode prog_9_method_5_code 5 = .ok (.iload_n 2, 1) := by decide +kernel
theorem d_Seconds_keep_6 : decode prog_9_method_5_code 6 = .ok (.ifCond .lt 37, 3) := by decide +kernel
theorem d_Seconds_keep_43 : decode prog_9_method_5_code 43 = .ok (.return_, 1) := by decide +kernel
theorem d_Seconds_keep_9 : decode prog_9_method_5_code 9 = .ok (.iload_n 2, 1) := by decide +kernel
theorem d_Seconds_keep_10 : decode prog_9_method_5_code 10 = .ok (.aload_n 0, 1) := by decide +kernel
theorem d_Seconds_keep_11 : decode prog_9_method_5_code 11 = .ok (.getfield 11, 3) := by decide +kernel
theorem rff_158_0 : (158, 0, 159) ∈ rf_L := by decide +kernel
theorem d_Seconds_keep_14 : decode prog_9_method_5_code 14 = .ok (.arraylength, 1) := by decide +kernel
theorem sf_159 : sh_L[159]? = some (1, 1563) := by decide +kernel
theorem d_Seconds_keep_15 : decode prog_9_method_5_code 15 = .ok (.if_icmp .ge 28, 3) := by decide +kernel
theorem d_Seconds_keep_18 : decode prog_9_method_5_code 18 = .ok (.aload_n 0, 1) := by decide +kernel
theorem d_Seconds_keep_19 : decode prog_9_method_5_code 19 = .ok (.getfield 11, 3) := by decide +kernel
theorem d_Seconds_keep_22 : decode prog_9_method_5_code 22 = .ok (.iload_n 2, 1) := by decide +kernel
theorem d_Seconds_keep_23 : decode prog_9_method_5_code 23 = .ok (.dup2, 1) := by decide +kernel
theorem d_Seconds_keep_24 : decode prog_9_method_5_code 24 = .ok (.laload, 1) := by decide +kernel
theorem d_Seconds_keep_25 : decode prog_9_method_5_code 25 = .ok (.lconst 1, 1) := by decide +kernel
theorem d_Seconds_keep_26 : decode prog_9_method_5_code 26 = .ok (.iload_n 1, 1) := by decide +kernel
theorem d_Seconds_keep_27 : decode prog_9_method_5_code 27 = .ok (.bipush 63, 2) := by decide +kernel
theorem d_Seconds_keep_29 : decode prog_9_method_5_code 29 = .ok (.iand, 1) := by decide +kernel
theorem d_Seconds_keep_30 : decode prog_9_method_5_code 30 = .ok (.lshl, 1) := by decide +kernel
theorem d_Seconds_keep_31 : decode prog_9_method_5_code 31 = .ok (.lor, 1) := by decide +kernel
theorem d_Seconds_keep_32 : decode prog_9_method_5_code 32 = .ok (.lastore, 1) := by decide +kernel
theorem d_Seconds_keep_33 : decode prog_9_method_5_code 33 = .ok (.aload_n 0, 1) := by decide +kernel
theorem d_Seconds_keep_34 : decode prog_9_method_5_code 34 = .ok (.dup, 1) := by decide +kernel
theorem d_Seconds_keep_35 : decode prog_9_method_5_code 35 = .ok (.getfield 22, 3) := by decide +kernel
theorem d_Seconds_keep_38 : decode prog_9_method_5_code 38 = .ok (.iconst 1, 1) := by decide +kernel
theorem d_Seconds_keep_39 : decode prog_9_method_5_code 39 = .ok (.iadd, 1) := by decide +kernel
theorem d_Seconds_keep_40 : decode prog_9_method_5_code 40 = .ok (.putfield 22, 3) := by decide +kernel
def m_Seconds_extend : mr_T := (⟨"PlainMusic$Seconds", "extend", "(II)V"⟩, prog_9_method_4_code, 4, none)
theorem d_Seconds_extend_0 : decode prog_9_method_4_code 0 = .ok (.iload_n 1, 1) := by decide +kernel
theorem d_Seconds_extend_1 : decode prog_9_method_4_code 1 = .ok (.aload_n 0, 1) := by decide +kernel
theorem d_Seconds_extend_2 : decode prog_9_method_4_code 2 = .ok (.getfield 47, 3) := by decide +kernel
theorem d_Seconds_extend_5 : decode prog_9_method_4_code 5 = .ok (.if_icmp .ge 12, 3) := by decide +kernel
theorem d_Seconds_extend_17 : decode prog_9_method_4_code 17 = .ok (.aload_n 0, 1) := by decide +kernel
theorem d_Seconds_extend_18 : decode prog_9_method_4_code 18 = .ok (.iload_n 2, 1) := by decide +kernel
theorem d_Seconds_extend_19 : decode prog_9_method_4_code 19 = .ok (.invokevirtual 57, 3) := by decide +kernel
theorem k_Seconds_keep : mt_OK m_Seconds_keep 1 1 := ⟨gwi_1292, gwi_143, ⟨by decide +kernel, by decide +kernel, by decide +kernel⟩, fun h => absurd h (by decide), fun _ => ⟨gwi_1291, gwi_40⟩, fun h => absurd h (by decide)⟩
theorem l_Seconds_57 : ml_OK "PlainMusic$Seconds" 57 ⟨"PlainMusic$Seconds", "keep", "(I)V"⟩ := Or.inl gwi_1289
theorem d_Seconds_extend_22 : decode prog_9_method_4_code 22 = .ok (.return_, 1) := by decide +kernel
theorem d_Seconds_extend_8 : decode prog_9_method_4_code 8 = .ok (.iload_n 1, 1) := by decide +kernel
theorem d_Seconds_extend_9 : decode prog_9_method_4_code 9 = .ok (.aload_n 0, 1) := by decide +kernel
theorem d_Seconds_extend_10 : decode prog_9_method_4_code 10 = .ok (.getfield 19, 3) := by decide +kernel
theorem d_Seconds_extend_13 : decode prog_9_method_4_code 13 = .ok (.arraylength, 1) := by decide +kernel
theorem d_Seconds_extend_14 : decode prog_9_method_4_code 14 = .ok (.if_icmp .lt 9, 3) := by decide +kernel
theorem d_Seconds_extend_23 : decode prog_9_method_4_code 23 = .ok (.iconst 0, 1) := by decide +kernel
theorem d_Seconds_extend_24 : decode prog_9_method_4_code 24 = .ok (.istore_n 3, 1) := by decide +kernel
theorem d_Seconds_extend_25 : decode prog_9_method_4_code 25 = .ok (.iload_n 3, 1) := by decide +kernel
theorem d_Seconds_extend_26 : decode prog_9_method_4_code 26 = .ok (.aload_n 0, 1) := by decide +kernel
theorem d_Seconds_extend_27 : decode prog_9_method_4_code 27 = .ok (.getfield 35, 3) := by decide +kernel
theorem f_Seconds_35 : fl_OK "PlainMusic$Seconds" 35 7 3 .int false := ⟨_, rfl, by decide, gwi_515, rfl, rfl⟩
theorem rgf_158_3 : rg 158 3 = (0, 121) := by decide +kernel
theorem d_Seconds_extend_30 : decode prog_9_method_4_code 30 = .ok (.if_icmp .ge 69, 3) := by decide +kernel
theorem d_Seconds_extend_99 : decode prog_9_method_4_code 99 = .ok (.return_, 1) := by decide +kernel
theorem d_Seconds_extend_33 : decode prog_9_method_4_code 33 = .ok (.aload_n 0, 1) := by decide +kernel
theorem d_Seconds_extend_34 : decode prog_9_method_4_code 34 = .ok (.getfield 19, 3) := by decide +kernel
theorem d_Seconds_extend_37 : decode prog_9_method_4_code 37 = .ok (.iload_n 1, 1) := by decide +kernel
theorem d_Seconds_extend_38 : decode prog_9_method_4_code 38 = .ok (.aload_n 0, 1) := by decide +kernel
theorem d_Seconds_extend_39 : decode prog_9_method_4_code 39 = .ok (.getfield 32, 3) := by decide +kernel
theorem f_Seconds_32 : fl_OK "PlainMusic$Seconds" 32 7 2 .int false := ⟨_, rfl, by decide, gwi_514, rfl, rfl⟩
theorem rgf_158_2 : rg 158 2 = ((-2147483648), 2147483647) := by decide +kernel
theorem d_Seconds_extend_42 : decode prog_9_method_4_code 42 = .ok (.iload_n 3, 1) := by decide +kernel
theorem d_Seconds_extend_43 : decode prog_9_method_4_code 43 = .ok (.iadd, 1) := by decide +kernel
theorem d_Seconds_extend_44 : decode prog_9_method_4_code 44 = .ok (.iastore, 1) := by decide +kernel
theorem d_Seconds_extend_45 : decode prog_9_method_4_code 45 = .ok (.aload_n 0, 1) := by decide +kernel
theorem d_Seconds_extend_46 : decode prog_9_method_4_code 46 = .ok (.iload_n 1, 1) := by decide +kernel
theorem d_Seconds_extend_47 : decode prog_9_method_4_code 47 = .ok (.invokevirtual 61, 3) := by decide +kernel
theorem k_Seconds_fitsAlone : mt_OK m_Seconds_fitsAlone 1 1 := ⟨gwi_1296, gwi_143, ⟨by decide +kernel, by decide +kernel, by decide +kernel⟩, fun h => absurd h (by decide), fun _ => ⟨gwi_1295, gwi_41⟩, fun h => absurd h (by decide)⟩
theorem l_Seconds_61 : ml_OK "PlainMusic$Seconds" 61 ⟨"PlainMusic$Seconds", "fitsAlone", "(I)Z"⟩ := Or.inl gwi_1293
theorem d_Seconds_extend_50 : decode prog_9_method_4_code 50 = .ok (.ifCond .eq 43, 3) := by decide +kernel
theorem d_Seconds_extend_93 : decode prog_9_method_4_code 93 = .ok (.iinc 3 1, 3) := by decide +kernel
theorem d_Seconds_extend_96 : decode prog_9_method_4_code 96 = .ok (.goto (-71), 3) := by decide +kernel
theorem d_Seconds_extend_53 : decode prog_9_method_4_code 53 = .ok (.iload_n 1, 1) := by decide +kernel
theorem d_Seconds_extend_54 : decode prog_9_method_4_code 54 = .ok (.ifCond .eq 11, 3) := by decide +kernel
theorem d_Seconds_extend_57 : decode prog_9_method_4_code 57 = .ok (.aload_n 0, 1) := by decide +kernel
theorem d_Seconds_extend_58 : decode prog_9_method_4_code 58 = .ok (.iload_n 1, 1) := by decide +kernel
theorem d_Seconds_extend_59 : decode prog_9_method_4_code 59 = .ok (.invokevirtual 65, 3) := by decide +kernel
theorem k_Seconds_fitsBehind : mt_OK m_Seconds_fitsBehind 1 1 := ⟨gwi_1308, gwi_143, ⟨by decide +kernel, by decide +kernel, by decide +kernel⟩, fun h => absurd h (by decide), fun _ => ⟨gwi_1307, gwi_43⟩, fun h => absurd h (by decide)⟩
theorem l_Seconds_65 : ml_OK "PlainMusic$Seconds" 65 ⟨"PlainMusic$Seconds", "fitsBehind", "(I)Z"⟩ := Or.inl gwi_1305
theorem d_Seconds_extend_62 : decode prog_9_method_4_code 62 = .ok (.ifCond .eq 31, 3) := by decide +kernel
theorem d_Seconds_extend_65 : decode prog_9_method_4_code 65 = .ok (.iload_n 1, 1) := by decide +kernel
theorem d_Seconds_extend_66 : decode prog_9_method_4_code 66 = .ok (.iconst 2, 1) := by decide +kernel
theorem d_Seconds_extend_67 : decode prog_9_method_4_code 67 = .ok (.if_icmp .lt 11, 3) := by decide +kernel
theorem d_Seconds_extend_70 : decode prog_9_method_4_code 70 = .ok (.aload_n 0, 1) := by decide +kernel
theorem d_Seconds_extend_71 : decode prog_9_method_4_code 71 = .ok (.iload_n 1, 1) := by decide +kernel
theorem d_Seconds_extend_72 : decode prog_9_method_4_code 72 = .ok (.invokevirtual 68, 3) := by decide +kernel
theorem k_Seconds_fitsLeap : mt_OK m_Seconds_fitsLeap 1 1 := ⟨gwi_1313, gwi_143, ⟨by decide +kernel, by decide +kernel, by decide +kernel⟩, fun h => absurd h (by decide), fun _ => ⟨gwi_1312, gwi_44⟩, fun h => absurd h (by decide)⟩
theorem l_Seconds_68 : ml_OK "PlainMusic$Seconds" 68 ⟨"PlainMusic$Seconds", "fitsLeap", "(I)Z"⟩ := Or.inl gwi_1310
theorem d_Seconds_extend_75 : decode prog_9_method_4_code 75 = .ok (.ifCond .eq 18, 3) := by decide +kernel
theorem d_Seconds_extend_78 : decode prog_9_method_4_code 78 = .ok (.aload_n 0, 1) := by decide +kernel
theorem d_Seconds_extend_79 : decode prog_9_method_4_code 79 = .ok (.iload_n 1, 1) := by decide +kernel
theorem d_Seconds_extend_80 : decode prog_9_method_4_code 80 = .ok (.iconst 1, 1) := by decide +kernel
theorem d_Seconds_extend_81 : decode prog_9_method_4_code 81 = .ok (.iadd, 1) := by decide +kernel
theorem d_Seconds_extend_82 : decode prog_9_method_4_code 82 = .ok (.iload_n 2, 1) := by decide +kernel
theorem d_Seconds_extend_83 : decode prog_9_method_4_code 83 = .ok (.aload_n 0, 1) := by decide +kernel
theorem d_Seconds_extend_84 : decode prog_9_method_4_code 84 = .ok (.getfield 35, 3) := by decide +kernel
theorem d_Seconds_extend_87 : decode prog_9_method_4_code 87 = .ok (.imul, 1) := by decide +kernel
theorem d_Seconds_extend_88 : decode prog_9_method_4_code 88 = .ok (.iload_n 3, 1) := by decide +kernel
theorem d_Seconds_extend_89 : decode prog_9_method_4_code 89 = .ok (.iadd, 1) := by decide +kernel
theorem d_Seconds_extend_90 : decode prog_9_method_4_code 90 = .ok (.invokevirtual 53, 3) := by decide +kernel
theorem k_Seconds_extend : mt_OK m_Seconds_extend 2 1 := ⟨gwi_1288, gwi_143, ⟨by decide +kernel, by decide +kernel, by decide +kernel⟩, fun h => absurd h (by decide), fun _ => ⟨gwi_1287, gwi_39⟩, fun h => absurd h (by decide)⟩
theorem l_Seconds_53 : ml_OK "PlainMusic$Seconds" 53 ⟨"PlainMusic$Seconds", "extend", "(II)V"⟩ := Or.inl gwi_1285
def m_Seconds_find : mr_T := (⟨"PlainMusic$Seconds", "find", "(LPlainMusic$Score;III)I"⟩, prog_9_method_3_code, 8, some .int)
theorem d_Seconds_find_0 : decode prog_9_method_3_code 0 = .ok (.iload_n 3, 1) := by decide +kernel
theorem d_Seconds_find_1 : decode prog_9_method_3_code 1 = .ok (.iload_n 2, 1) := by decide +kernel
theorem d_Seconds_find_2 : decode prog_9_method_3_code 2 = .ok (.isub, 1) := by decide +kernel
theorem d_Seconds_find_3 : decode prog_9_method_3_code 3 = .ok (.iconst 1, 1) := by decide +kernel
theorem d_Seconds_find_4 : decode prog_9_method_3_code 4 = .ok (.iadd, 1) := by decide +kernel
theorem d_Seconds_find_5 : decode prog_9_method_3_code 5 = .ok (.istore 5, 2) := by decide +kernel
theorem d_Seconds_find_7 : decode prog_9_method_3_code 7 = .ok (.iconst 1, 1) := by decide +kernel
theorem d_Seconds_find_8 : decode prog_9_method_3_code 8 = .ok (.istore 6, 2) := by decide +kernel
theorem d_Seconds_find_10 : decode prog_9_method_3_code 10 = .ok (.iconst 0, 1) := by decide +kernel
theorem d_Seconds_find_11 : decode prog_9_method_3_code 11 = .ok (.istore 7, 2) := by decide +kernel
theorem d_Seconds_find_13 : decode prog_9_method_3_code 13 = .ok (.iload 7, 2) := by decide +kernel
theorem d_Seconds_find_15 : decode prog_9_method_3_code 15 = .ok (.aload_n 1, 1) := by decide +kernel
theorem d_Seconds_find_16 : decode prog_9_method_3_code 16 = .ok (.getfield 26, 3) := by decide +kernel
theorem f_Seconds_26 : fl_OK "PlainMusic$Seconds" 26 6 6 .int false := ⟨_, rfl, by decide, gwi_366, rfl, rfl⟩
theorem d_Seconds_find_19 : decode prog_9_method_3_code 19 = .ok (.if_icmp .ge 26, 3) := by decide +kernel
theorem d_Seconds_find_45 : decode prog_9_method_3_code 45 = .ok (.aload_n 0, 1) := by decide +kernel
theorem d_Seconds_find_46 : decode prog_9_method_3_code 46 = .ok (.iload_n 2, 1) := by decide +kernel
theorem d_Seconds_find_47 : decode prog_9_method_3_code 47 = .ok (.putfield 32, 3) := by decide +kernel
theorem d_Seconds_find_50 : decode prog_9_method_3_code 50 = .ok (.aload_n 0, 1) := by decide +kernel
theorem d_Seconds_find_51 : decode prog_9_method_3_code 51 = .ok (.iload 5, 2) := by decide +kernel
theorem d_Seconds_find_53 : decode prog_9_method_3_code 53 = .ok (.putfield 35, 3) := by decide +kernel
theorem d_Seconds_find_56 : decode prog_9_method_3_code 56 = .ok (.aload_n 0, 1) := by decide +kernel
theorem d_Seconds_find_57 : decode prog_9_method_3_code 57 = .ok (.iload 4, 2) := by decide +kernel
theorem d_Seconds_find_59 : decode prog_9_method_3_code 59 = .ok (.putfield 38, 3) := by decide +kernel
theorem d_Seconds_find_62 : decode prog_9_method_3_code 62 = .ok (.aload_n 0, 1) := by decide +kernel
theorem d_Seconds_find_63 : decode prog_9_method_3_code 63 = .ok (.aload_n 1, 1) := by decide +kernel
theorem d_Seconds_find_64 : decode prog_9_method_3_code 64 = .ok (.getfield 26, 3) := by decide +kernel
theorem d_Seconds_find_67 : decode prog_9_method_3_code 67 = .ok (.bipush 8, 2) := by decide +kernel
theorem d_Seconds_find_69 : decode prog_9_method_3_code 69 = .ok (.invokestatic 41, 3) := by decide +kernel
theorem lm_Seconds_41 : Cond.methodLink "PlainMusic$Seconds" 41 Lib.Math.min.name ∈ gw := gwi_1284
theorem d_Seconds_find_72 : decode prog_9_method_3_code 72 = .ok (.putfield 47, 3) := by decide +kernel
theorem d_Seconds_find_75 : decode prog_9_method_3_code 75 = .ok (.iconst 0, 1) := by decide +kernel
theorem d_Seconds_find_76 : decode prog_9_method_3_code 76 = .ok (.istore 7, 2) := by decide +kernel
theorem d_Seconds_find_78 : decode prog_9_method_3_code 78 = .ok (.iload 7, 2) := by decide +kernel
theorem d_Seconds_find_80 : decode prog_9_method_3_code 80 = .ok (.aload_n 0, 1) := by decide +kernel
theorem d_Seconds_find_81 : decode prog_9_method_3_code 81 = .ok (.getfield 47, 3) := by decide +kernel
theorem d_Seconds_find_84 : decode prog_9_method_3_code 84 = .ok (.if_icmp .ge 23, 3) := by decide +kernel
theorem d_Seconds_find_107 : decode prog_9_method_3_code 107 = .ok (.iconst 0, 1) := by decide +kernel
theorem d_Seconds_find_108 : decode prog_9_method_3_code 108 = .ok (.istore 7, 2) := by decide +kernel
theorem d_Seconds_find_110 : decode prog_9_method_3_code 110 = .ok (.iload 7, 2) := by decide +kernel
theorem d_Seconds_find_112 : decode prog_9_method_3_code 112 = .ok (.aload_n 0, 1) := by decide +kernel
theorem d_Seconds_find_113 : decode prog_9_method_3_code 113 = .ok (.getfield 11, 3) := by decide +kernel
theorem d_Seconds_find_116 : decode prog_9_method_3_code 116 = .ok (.arraylength, 1) := by decide +kernel
theorem d_Seconds_find_117 : decode prog_9_method_3_code 117 = .ok (.if_icmp .ge 17, 3) := by decide +kernel
theorem d_Seconds_find_120 : decode prog_9_method_3_code 120 = .ok (.aload_n 0, 1) := by decide +kernel
theorem d_Seconds_find_121 : decode prog_9_method_3_code 121 = .ok (.getfield 11, 3) := by decide +kernel
theorem d_Seconds_find_124 : decode prog_9_method_3_code 124 = .ok (.iload 7, 2) := by decide +kernel
theorem d_Seconds_find_126 : decode prog_9_method_3_code 126 = .ok (.lconst 0, 1) := by decide +kernel
theorem d_Seconds_find_127 : decode prog_9_method_3_code 127 = .ok (.lastore, 1) := by decide +kernel
theorem d_Seconds_find_128 : decode prog_9_method_3_code 128 = .ok (.iinc 7 1, 3) := by decide +kernel
theorem d_Seconds_find_131 : decode prog_9_method_3_code 131 = .ok (.goto (-21), 3) := by decide +kernel
theorem d_Seconds_find_134 : decode prog_9_method_3_code 134 = .ok (.aload_n 0, 1) := by decide +kernel
theorem d_Seconds_find_135 : decode prog_9_method_3_code 135 = .ok (.iconst 0, 1) := by decide +kernel
theorem d_Seconds_find_136 : decode prog_9_method_3_code 136 = .ok (.putfield 22, 3) := by decide +kernel
theorem d_Seconds_find_139 : decode prog_9_method_3_code 139 = .ok (.aload_n 0, 1) := by decide +kernel
theorem d_Seconds_find_140 : decode prog_9_method_3_code 140 = .ok (.iconst 0, 1) := by decide +kernel
theorem d_Seconds_find_141 : decode prog_9_method_3_code 141 = .ok (.iconst 0, 1) := by decide +kernel
theorem d_Seconds_find_142 : decode prog_9_method_3_code 142 = .ok (.invokevirtual 53, 3) := by decide +kernel
theorem d_Seconds_find_145 : decode prog_9_method_3_code 145 = .ok (.aload_n 0, 1) := by decide +kernel
theorem d_Seconds_find_146 : decode prog_9_method_3_code 146 = .ok (.getfield 22, 3) := by decide +kernel
theorem d_Seconds_find_149 : decode prog_9_method_3_code 149 = .ok (.ireturn, 1) := by decide +kernel
theorem d_Seconds_find_87 : decode prog_9_method_3_code 87 = .ok (.aload_n 0, 1) := by decide +kernel
theorem d_Seconds_find_88 : decode prog_9_method_3_code 88 = .ok (.getfield 15, 3) := by decide +kernel
theorem d_Seconds_find_91 : decode prog_9_method_3_code 91 = .ok (.iload 7, 2) := by decide +kernel
theorem d_Seconds_find_93 : decode prog_9_method_3_code 93 = .ok (.aload_n 1, 1) := by decide +kernel
theorem d_Seconds_find_94 : decode prog_9_method_3_code 94 = .ok (.getfield 50, 3) := by decide +kernel
theorem f_Seconds_50 : fl_OK "PlainMusic$Seconds" 50 6 5 (.array .int) true := ⟨_, rfl, by decide, gwi_364, rfl, rfl⟩
theorem d_Seconds_find_97 : decode prog_9_method_3_code 97 = .ok (.iload 7, 2) := by decide +kernel
theorem d_Seconds_find_99 : decode prog_9_method_3_code 99 = .ok (.iaload, 1) := by decide +kernel
theorem d_Seconds_find_100 : decode prog_9_method_3_code 100 = .ok (.iastore, 1) := by decide +kernel
theorem d_Seconds_find_101 : decode prog_9_method_3_code 101 = .ok (.iinc 7 1, 3) := by decide +kernel
theorem d_Seconds_find_104 : decode prog_9_method_3_code 104 = .ok (.goto (-26), 3) := by decide +kernel
theorem d_Seconds_find_22 : decode prog_9_method_3_code 22 = .ok (.iload 6, 2) := by decide +kernel
theorem d_Seconds_find_24 : decode prog_9_method_3_code 24 = .ok (.iload 5, 2) := by decide +kernel
theorem d_Seconds_find_26 : decode prog_9_method_3_code 26 = .ok (.imul, 1) := by decide +kernel
theorem d_Seconds_find_27 : decode prog_9_method_3_code 27 = .ok (.istore 6, 2) := by decide +kernel
theorem d_Seconds_find_29 : decode prog_9_method_3_code 29 = .ok (.iload 6, 2) := by decide +kernel
theorem d_Seconds_find_31 : decode prog_9_method_3_code 31 = .ok (.ldc 31, 2) := by decide +kernel
theorem cst_Seconds_31 : Cond.constant "PlainMusic$Seconds" 31 (Int32.ofInt 100000) ∈ gw := gwi_1283
theorem d_Seconds_find_33 : decode prog_9_method_3_code 33 = .ok (.if_icmp .le 6, 3) := by decide +kernel
theorem d_Seconds_find_39 : decode prog_9_method_3_code 39 = .ok (.iinc 7 1, 3) := by decide +kernel
theorem d_Seconds_find_42 : decode prog_9_method_3_code 42 = .ok (.goto (-29), 3) := by decide +kernel
theorem d_Seconds_find_36 : decode prog_9_method_3_code 36 = .ok (.bipush (-4), 2) := by decide +kernel
theorem d_Seconds_find_38 : decode prog_9_method_3_code 38 = .ok (.ireturn, 1) := by decide +kernel
def m_Seconds_rowAt : mr_T := (⟨"PlainMusic$Seconds", "rowAt", "(I)I"⟩, prog_9_method_12_code, 5, some .int)
theorem d_Seconds_rowAt_0 : decode prog_9_method_12_code 0 = .ok (.iconst 0, 1) := by decide +kernel
theorem d_Seconds_rowAt_1 : decode prog_9_method_12_code 1 = .ok (.istore_n 2, 1) := by decide +kernel
theorem d_Seconds_rowAt_2 : decode prog_9_method_12_code 2 = .ok (.iconst 0, 1) := by decide +kernel
theorem d_Seconds_rowAt_3 : decode prog_9_method_12_code 3 = .ok (.istore_n 3, 1) := by decide +kernel
theorem d_Seconds_rowAt_4 : decode prog_9_method_12_code 4 = .ok (.iload_n 3, 1) := by decide +kernel
theorem d_Seconds_rowAt_5 : decode prog_9_method_12_code 5 = .ok (.aload_n 0, 1) := by decide +kernel
theorem d_Seconds_rowAt_6 : decode prog_9_method_12_code 6 = .ok (.getfield 11, 3) := by decide +kernel
theorem d_Seconds_rowAt_9 : decode prog_9_method_12_code 9 = .ok (.arraylength, 1) := by decide +kernel
theorem d_Seconds_rowAt_10 : decode prog_9_method_12_code 10 = .ok (.if_icmp .ge 36, 3) := by decide +kernel
theorem d_Seconds_rowAt_13 : decode prog_9_method_12_code 13 = .ok (.iload_n 2, 1) := by decide +kernel
theorem d_Seconds_rowAt_14 : decode prog_9_method_12_code 14 = .ok (.aload_n 0, 1) := by decide +kernel
theorem d_Seconds_rowAt_15 : decode prog_9_method_12_code 15 = .ok (.getfield 11, 3) := by decide +kernel
theorem d_Seconds_rowAt_18 : decode prog_9_method_12_code 18 = .ok (.iload_n 3, 1) := by decide +kernel
theorem d_Seconds_rowAt_19 : decode prog_9_method_12_code 19 = .ok (.laload, 1) := by decide +kernel
theorem d_Seconds_rowAt_20 : decode prog_9_method_12_code 20 = .ok (.invokestatic 88, 3) := by decide +kernel
theorem k_JLong_bitCount : mt_OK m_JLong_bitCount 1 0 := ⟨gwi_1328, gwi_154, ⟨by decide +kernel, by decide +kernel, by decide +kernel⟩, fun _ => gwi_1327, fun h => absurd h (by decide), fun h => absurd h (by decide)⟩
theorem l_Seconds_88 : ml_OK "PlainMusic$Seconds" 88 ⟨"java/lang/Long", "bitCount", "(J)I"⟩ := Or.inl gwi_1326
theorem d_Seconds_rowAt_23 : decode prog_9_method_12_code 23 = .ok (.iadd, 1) := by decide +kernel
theorem d_Seconds_rowAt_24 : decode prog_9_method_12_code 24 = .ok (.iload_n 1, 1) := by decide +kernel
theorem d_Seconds_rowAt_25 : decode prog_9_method_12_code 25 = .ok (.if_icmp .gt 21, 3) := by decide +kernel
theorem d_Seconds_rowAt_46 : decode prog_9_method_12_code 46 = .ok (.iconst 0, 1) := by decide +kernel
theorem d_Seconds_rowAt_47 : decode prog_9_method_12_code 47 = .ok (.istore 4, 2) := by decide +kernel
theorem d_Seconds_rowAt_49 : decode prog_9_method_12_code 49 = .ok (.iload 4, 2) := by decide +kernel
theorem d_Seconds_rowAt_51 : decode prog_9_method_12_code 51 = .ok (.bipush 64, 2) := by decide +kernel
theorem d_Seconds_rowAt_53 : decode prog_9_method_12_code 53 = .ok (.if_icmp .ge 50, 3) := by decide +kernel
theorem d_Seconds_rowAt_56 : decode prog_9_method_12_code 56 = .ok (.iload_n 3, 1) := by decide +kernel
theorem d_Seconds_rowAt_57 : decode prog_9_method_12_code 57 = .ok (.aload_n 0, 1) := by decide +kernel
theorem d_Seconds_rowAt_58 : decode prog_9_method_12_code 58 = .ok (.getfield 11, 3) := by decide +kernel
theorem d_Seconds_rowAt_61 : decode prog_9_method_12_code 61 = .ok (.arraylength, 1) := by decide +kernel
theorem d_Seconds_rowAt_62 : decode prog_9_method_12_code 62 = .ok (.if_icmp .ge 41, 3) := by decide +kernel
theorem d_Seconds_rowAt_65 : decode prog_9_method_12_code 65 = .ok (.aload_n 0, 1) := by decide +kernel
theorem d_Seconds_rowAt_66 : decode prog_9_method_12_code 66 = .ok (.getfield 11, 3) := by decide +kernel
theorem d_Seconds_rowAt_69 : decode prog_9_method_12_code 69 = .ok (.iload_n 3, 1) := by decide +kernel
theorem d_Seconds_rowAt_70 : decode prog_9_method_12_code 70 = .ok (.laload, 1) := by decide +kernel
theorem d_Seconds_rowAt_71 : decode prog_9_method_12_code 71 = .ok (.iload 4, 2) := by decide +kernel
theorem d_Seconds_rowAt_73 : decode prog_9_method_12_code 73 = .ok (.lushr, 1) := by decide +kernel
theorem d_Seconds_rowAt_74 : decode prog_9_method_12_code 74 = .ok (.lconst 1, 1) := by decide +kernel
theorem d_Seconds_rowAt_75 : decode prog_9_method_12_code 75 = .ok (.land, 1) := by decide +kernel
theorem d_Seconds_rowAt_76 : decode prog_9_method_12_code 76 = .ok (.lconst 0, 1) := by decide +kernel
theorem d_Seconds_rowAt_77 : decode prog_9_method_12_code 77 = .ok (.lcmp, 1) := by decide +kernel
theorem d_Seconds_rowAt_78 : decode prog_9_method_12_code 78 = .ok (.ifCond .eq 19, 3) := by decide +kernel
theorem d_Seconds_rowAt_97 : decode prog_9_method_12_code 97 = .ok (.iinc 4 1, 3) := by decide +kernel
theorem d_Seconds_rowAt_100 : decode prog_9_method_12_code 100 = .ok (.goto (-51), 3) := by decide +kernel
theorem d_Seconds_rowAt_81 : decode prog_9_method_12_code 81 = .ok (.iload_n 2, 1) := by decide +kernel
theorem d_Seconds_rowAt_82 : decode prog_9_method_12_code 82 = .ok (.iload_n 1, 1) := by decide +kernel
theorem d_Seconds_rowAt_83 : decode prog_9_method_12_code 83 = .ok (.if_icmp .ne 11, 3) := by decide +kernel
theorem d_Seconds_rowAt_94 : decode prog_9_method_12_code 94 = .ok (.iinc 2 1, 3) := by decide +kernel
theorem d_Seconds_rowAt_86 : decode prog_9_method_12_code 86 = .ok (.iload_n 3, 1) := by decide +kernel
theorem d_Seconds_rowAt_87 : decode prog_9_method_12_code 87 = .ok (.bipush 64, 2) := by decide +kernel
theorem d_Seconds_rowAt_89 : decode prog_9_method_12_code 89 = .ok (.imul, 1) := by decide +kernel
theorem d_Seconds_rowAt_90 : decode prog_9_method_12_code 90 = .ok (.iload 4, 2) := by decide +kernel
theorem d_Seconds_rowAt_92 : decode prog_9_method_12_code 92 = .ok (.iadd, 1) := by decide +kernel
theorem d_Seconds_rowAt_93 : decode prog_9_method_12_code 93 = .ok (.ireturn, 1) := by decide +kernel
theorem d_Seconds_rowAt_103 : decode prog_9_method_12_code 103 = .ok (.iconst 0, 1) := by decide +kernel
theorem d_Seconds_rowAt_104 : decode prog_9_method_12_code 104 = .ok (.ireturn, 1) := by decide +kernel
theorem d_Seconds_rowAt_28 : decode prog_9_method_12_code 28 = .ok (.iload_n 2, 1) := by decide +kernel
theorem d_Seconds_rowAt_29 : decode prog_9_method_12_code 29 = .ok (.aload_n 0, 1) := by decide +kernel
theorem d_Seconds_rowAt_30 : decode prog_9_method_12_code 30 = .ok (.getfield 11, 3) := by decide +kernel
theorem d_Seconds_rowAt_33 : decode prog_9_method_12_code 33 = .ok (.iload_n 3, 1) := by decide +kernel
theorem d_Seconds_rowAt_34 : decode prog_9_method_12_code 34 = .ok (.laload, 1) := by decide +kernel
theorem d_Seconds_rowAt_35 : decode prog_9_method_12_code 35 = .ok (.invokestatic 88, 3) := by decide +kernel
theorem d_Seconds_rowAt_38 : decode prog_9_method_12_code 38 = .ok (.iadd, 1) := by decide +kernel
theorem d_Seconds_rowAt_39 : decode prog_9_method_12_code 39 = .ok (.istore_n 2, 1) := by decide +kernel
theorem d_Seconds_rowAt_40 : decode prog_9_method_12_code 40 = .ok (.iinc 3 1, 3) := by decide +kernel
theorem d_Seconds_rowAt_43 : decode prog_9_method_12_code 43 = .ok (.goto (-39), 3) := by decide +kernel
def m_Seconds_keyIn : mr_T := (⟨"PlainMusic$Seconds", "keyIn", "(II)I"⟩, prog_9_method_11_code, 5, some .int)
theorem d_Seconds_keyIn_0 : decode prog_9_method_11_code 0 = .ok (.iload_n 1, 1) := by decide +kernel
theorem d_Seconds_keyIn_1 : decode prog_9_method_11_code 1 = .ok (.ifCond .lt 31, 3) := by decide +kernel
theorem d_Seconds_keyIn_32 : decode prog_9_method_11_code 32 = .ok (.iconst (-1), 1) := by decide +kernel
theorem d_Seconds_keyIn_33 : decode prog_9_method_11_code 33 = .ok (.ireturn, 1) := by decide +kernel
theorem d_Seconds_keyIn_4 : decode prog_9_method_11_code 4 = .ok (.iload_n 1, 1) := by decide +kernel
theorem d_Seconds_keyIn_5 : decode prog_9_method_11_code 5 = .ok (.aload_n 0, 1) := by decide +kernel
theorem d_Seconds_keyIn_6 : decode prog_9_method_11_code 6 = .ok (.getfield 22, 3) := by decide +kernel
theorem d_Seconds_keyIn_9 : decode prog_9_method_11_code 9 = .ok (.if_icmp .ge 23, 3) := by decide +kernel
theorem d_Seconds_keyIn_12 : decode prog_9_method_11_code 12 = .ok (.iload_n 2, 1) := by decide +kernel
theorem d_Seconds_keyIn_13 : decode prog_9_method_11_code 13 = .ok (.ifCond .lt 19, 3) := by decide +kernel
theorem d_Seconds_keyIn_16 : decode prog_9_method_11_code 16 = .ok (.iload_n 2, 1) := by decide +kernel
theorem d_Seconds_keyIn_17 : decode prog_9_method_11_code 17 = .ok (.aload_n 0, 1) := by decide +kernel
theorem d_Seconds_keyIn_18 : decode prog_9_method_11_code 18 = .ok (.getfield 47, 3) := by decide +kernel
theorem d_Seconds_keyIn_21 : decode prog_9_method_11_code 21 = .ok (.if_icmp .ge 11, 3) := by decide +kernel
theorem d_Seconds_keyIn_24 : decode prog_9_method_11_code 24 = .ok (.aload_n 0, 1) := by decide +kernel
theorem d_Seconds_keyIn_25 : decode prog_9_method_11_code 25 = .ok (.getfield 35, 3) := by decide +kernel
theorem d_Seconds_keyIn_28 : decode prog_9_method_11_code 28 = .ok (.iconst 1, 1) := by decide +kernel
theorem d_Seconds_keyIn_29 : decode prog_9_method_11_code 29 = .ok (.if_icmp .ge 5, 3) := by decide +kernel
theorem d_Seconds_keyIn_34 : decode prog_9_method_11_code 34 = .ok (.aload_n 0, 1) := by decide +kernel
theorem d_Seconds_keyIn_35 : decode prog_9_method_11_code 35 = .ok (.iload_n 1, 1) := by decide +kernel
theorem d_Seconds_keyIn_36 : decode prog_9_method_11_code 36 = .ok (.invokevirtual 85, 3) := by decide +kernel
theorem k_Seconds_rowAt : mt_OK m_Seconds_rowAt 1 1 := ⟨gwi_1325, gwi_143, ⟨by decide +kernel, by decide +kernel, by decide +kernel⟩, fun h => absurd h (by decide), fun _ => ⟨gwi_1324, gwi_45⟩, fun h => absurd h (by decide)⟩
theorem l_Seconds_85 : ml_OK "PlainMusic$Seconds" 85 ⟨"PlainMusic$Seconds", "rowAt", "(I)I"⟩ := Or.inl gwi_1322
theorem d_Seconds_keyIn_39 : decode prog_9_method_11_code 39 = .ok (.istore_n 3, 1) := by decide +kernel
theorem d_Seconds_keyIn_40 : decode prog_9_method_11_code 40 = .ok (.aload_n 0, 1) := by decide +kernel
theorem d_Seconds_keyIn_41 : decode prog_9_method_11_code 41 = .ok (.getfield 47, 3) := by decide +kernel
theorem d_Seconds_keyIn_44 : decode prog_9_method_11_code 44 = .ok (.iconst 1, 1) := by decide +kernel
theorem d_Seconds_keyIn_45 : decode prog_9_method_11_code 45 = .ok (.isub, 1) := by decide +kernel
theorem d_Seconds_keyIn_46 : decode prog_9_method_11_code 46 = .ok (.istore 4, 2) := by decide +kernel
theorem d_Seconds_keyIn_48 : decode prog_9_method_11_code 48 = .ok (.iload 4, 2) := by decide +kernel
theorem d_Seconds_keyIn_50 : decode prog_9_method_11_code 50 = .ok (.iload_n 2, 1) := by decide +kernel
theorem d_Seconds_keyIn_51 : decode prog_9_method_11_code 51 = .ok (.if_icmp .le 16, 3) := by decide +kernel
theorem d_Seconds_keyIn_67 : decode prog_9_method_11_code 67 = .ok (.aload_n 0, 1) := by decide +kernel
theorem d_Seconds_keyIn_68 : decode prog_9_method_11_code 68 = .ok (.getfield 32, 3) := by decide +kernel
theorem d_Seconds_keyIn_71 : decode prog_9_method_11_code 71 = .ok (.iload_n 3, 1) := by decide +kernel
theorem d_Seconds_keyIn_72 : decode prog_9_method_11_code 72 = .ok (.aload_n 0, 1) := by decide +kernel
theorem d_Seconds_keyIn_73 : decode prog_9_method_11_code 73 = .ok (.getfield 35, 3) := by decide +kernel
theorem d_Seconds_keyIn_76 : decode prog_9_method_11_code 76 = .ok (.irem, 1) := by decide +kernel
theorem d_Seconds_keyIn_77 : decode prog_9_method_11_code 77 = .ok (.iadd, 1) := by decide +kernel
theorem d_Seconds_keyIn_78 : decode prog_9_method_11_code 78 = .ok (.ireturn, 1) := by decide +kernel
theorem d_Seconds_keyIn_54 : decode prog_9_method_11_code 54 = .ok (.iload_n 3, 1) := by decide +kernel
theorem d_Seconds_keyIn_55 : decode prog_9_method_11_code 55 = .ok (.aload_n 0, 1) := by decide +kernel
theorem d_Seconds_keyIn_56 : decode prog_9_method_11_code 56 = .ok (.getfield 35, 3) := by decide +kernel
theorem d_Seconds_keyIn_59 : decode prog_9_method_11_code 59 = .ok (.idiv, 1) := by decide +kernel
theorem d_Seconds_keyIn_60 : decode prog_9_method_11_code 60 = .ok (.istore_n 3, 1) := by decide +kernel
theorem d_Seconds_keyIn_61 : decode prog_9_method_11_code 61 = .ok (.iinc 4 (-1), 3) := by decide +kernel
theorem d_Seconds_keyIn_64 : decode prog_9_method_11_code 64 = .ok (.goto (-16), 3) := by decide +kernel
theorem s_Seconds_forget {G : cx_T} {s : Nat} {h : ah_T} (hx : xi s h)   : con G 0 0 0 m_Seconds_forget [av_R (some 158)] h (fun r h' => r = none ∧ kF FC s h h') := by
  refine con_of (L := [some (av_R (some 158))]) (by decide +kernel) (Nat.le_of_ble_eq_true rfl) rfl ?_
  have hS : isS s := hx.2.1
  have hs0 : s = 17 ∨ s = 80 := hS
  have hs0b : 17 ≤ s ∧ s ≤ 80 := by omega
  have k0 : kF FC s h h := kF_0 hx
  refine A_aload_n 0 d_Seconds_forget_0 rfl rfl ?_
  refine A_iconst d_Seconds_forget_1 rfl ?_
  refine A_putIk (KR := kF FC s h) T_ok d_Seconds_forget_2 f_Seconds_22 (xi_s k0.1 sf_158) fin_f (kF_j k0 (by decide) (ns_b rfl) rgf_158_1 (by omega) (by omega)) (fun h1 k2 eh1 => ?_)
  exact A_vret d_Seconds_forget_5 (by decide) rfl ⟨rfl, k2⟩
theorem s_Seconds_asks {G : cx_T} {s : Nat} {h : ah_T} (hx : xi s h) {a1 : Int}  : con G 0 0 0 m_Seconds_asks [av_R (some 158), av_I a1] h (fun r h' => ∃ z, r = some (av_I z) ∧ (z = 0 ∨ z = 1) ∧ h = h') := by
  refine con_of (L := [some (av_R (some 158)), some (av_I a1)]) (by decide +kernel) (Nat.le_of_ble_eq_true rfl) rfl ?_
  have hS : isS s := hx.2.1
  have hs0 : s = 17 ∨ s = 80 := hS
  have hs0b : 17 ≤ s ∧ s ≤ 80 := by omega
  refine A_locI 1 rfl (fun ra => ?_)
  obtain ⟨_, _⟩ := ra
  refine A_aload_n 0 d_Seconds_asks_0 rfl rfl ?_
  refine A_getIf T_ok d_Seconds_asks_1 f_Seconds_38 (xi_s hx sf_158) (fun x1 ex1 _ _ => ?_)
  refine A_iload_n 1 d_Seconds_asks_4 rfl rfl ?_
  refine A_iand d_Seconds_asks_5 ?_
  refine A_nrI (fun x2 ex2 _ _ => ?_)
  refine A_if_eq (tgt := 13) d_Seconds_asks_6 (by decide) (fun c3 => ?_) (fun c3 => ?_)
  · refine A_iconst d_Seconds_asks_13 rfl ?_
    exact A_zret d_Seconds_asks_14 (by decide) rfl (by omega) ⟨_, rfl, by omega, rfl⟩
  · refine A_iconst d_Seconds_asks_9 rfl ?_
    refine A_goto (tgt := 14) d_Seconds_asks_10 (by decide) ?_
    exact A_zret d_Seconds_asks_14 (by decide) rfl (by omega) ⟨_, rfl, by omega, rfl⟩
theorem s_Seconds_isAmong {G : cx_T} {h : ah_T} {a0 : Int} {a1 : Int}  : con G 1 0 0 m_Seconds_isAmong [av_I a0, av_I a1] h (fun r h' => ∃ z, r = some (av_I z) ∧ (z = 0 ∨ z = 1) ∧ h = h') := by
  refine con_of (L := [some (av_I a0), some (av_I a1)]) (by decide +kernel) (Nat.le_of_ble_eq_true rfl) rfl ?_
  refine A_locI 0 rfl (fun ra => ?_)
  obtain ⟨_, _⟩ := ra
  refine A_locI 1 rfl (fun ra => ?_)
  obtain ⟨_, _⟩ := ra
  refine A_iload_n 0 d_Seconds_isAmong_0 rfl rfl ?_
  refine A_iload_n 1 d_Seconds_isAmong_1 rfl rfl ?_
  refine A_bipush d_Seconds_isAmong_2 rfl ?_
  refine A_callS2 m_JMath_floorMod d_Seconds_isAmong_4 l_Seconds_71 k_JMath_floorMod (by decide +kernel) (by decide) (Nat.le_of_ble_eq_true rfl) (s_JMath_floorMod  (by omega) (by omega)) (fun r h1 hq => ?_)
  obtain ⟨x3, rfl, ⟨_, _⟩, xx3, rfl⟩ := hq
  refine A_ishr d_Seconds_isAmong_7 ?_
  refine A_nrI (fun x4 ex4 _ _ => ?_)
  refine A_iconst d_Seconds_isAmong_8 rfl ?_
  refine A_iand d_Seconds_isAmong_9 ?_
  refine A_nrI (fun x5 ex5 _ _ => ?_)
  have bx5 := and_r (m := 1) 1 ex5 (by decide) (by decide) (by decide)
  refine A_if_eq (tgt := 17) d_Seconds_isAmong_10 (by decide) (fun c6 => ?_) (fun c6 => ?_)
  · refine A_iconst d_Seconds_isAmong_17 rfl ?_
    exact A_zret d_Seconds_isAmong_18 (by decide) rfl (by omega) ⟨_, rfl, by omega, rfl⟩
  · refine A_iconst d_Seconds_isAmong_13 rfl ?_
    refine A_goto (tgt := 18) d_Seconds_isAmong_14 (by decide) ?_
    exact A_zret d_Seconds_isAmong_18 (by decide) rfl (by omega) ⟨_, rfl, by omega, rfl⟩
theorem s_Seconds_fitsAlone {G : cx_T} {s : Nat} {h : ah_T} (hx : xi s h) {a1 : Int} (la1 : 0 ≤ a1) (ua1 : a1 ≤ 7) : con G 2 0 0 m_Seconds_fitsAlone [av_R (some 158), av_I a1] h (fun r h' => ∃ z, r = some (av_I z) ∧ (z = 0 ∨ z = 1) ∧ h = h') := by
  refine con_of (L := [some (av_R (some 158)), some (av_I a1), none, none]) (by decide +kernel) (Nat.le_of_ble_eq_true rfl) rfl ?_
  have hS : isS s := hx.2.1
  have hs0 : s = 17 ∨ s = 80 := hS
  have hs0b : 17 ≤ s ∧ s ≤ 80 := by omega
  refine A_aload_n 0 d_Seconds_fitsAlone_0 rfl rfl ?_
  refine A_getAv (z := some 161) T_ok d_Seconds_fitsAlone_1 f_Seconds_19 (xi_s hx sf_158) (xi_r hx rff_158_7) ?_
  refine A_iload_n 1 d_Seconds_fitsAlone_4 rfl rfl ?_
  refine A_ialoadf d_Seconds_fitsAlone_5 (xi_s hx sf_161) (by omega) (by omega) (fun x2 ex2 _ _ => ?_)
  refine A_istore_n 2 (L' := [some (av_R (some 158)), some (av_I a1), some (av_I x2), none]) d_Seconds_fitsAlone_6 rfl (Nat.le_of_ble_eq_true rfl) rfl ?_
  refine A_pc (pc' := 7) rfl ?_
  refine A_iload_n 2 d_Seconds_fitsAlone_7 rfl rfl ?_
  refine A_aload_n 0 d_Seconds_fitsAlone_8 rfl rfl ?_
  refine A_getAv (z := some 160) T_ok d_Seconds_fitsAlone_9 f_Seconds_15 (xi_s hx sf_158) (xi_r hx rff_158_6) ?_
  refine A_iload_n 1 d_Seconds_fitsAlone_12 rfl rfl ?_
  refine A_ialoadf d_Seconds_fitsAlone_13 (xi_s hx sf_160) (by omega) (by omega) (fun x4 ex4 _ _ => ?_)
  refine A_isubw d_Seconds_fitsAlone_14 (fun x5 _ _ _ => ?_)
  refine A_pc (pc' := 15) rfl ?_
  refine A_istore_n 3 (L' := [some (av_R (some 158)), some (av_I a1), some (av_I x2), some (av_I x5)]) d_Seconds_fitsAlone_15 rfl (Nat.le_of_ble_eq_true rfl) rfl ?_
  refine A_aload_n 0 d_Seconds_fitsAlone_16 rfl rfl ?_
  refine A_iconst d_Seconds_fitsAlone_17 rfl ?_
  refine A_callV1 m_Seconds_asks T_ok d_Seconds_fitsAlone_18 l_Seconds_74 k_Seconds_asks (xi_s hx sf_158) rfl (by decide +kernel) (by decide) (Nat.le_of_ble_eq_true rfl) (s_Seconds_asks hx ) (fun r h6 hq => ?_)
  obtain ⟨x8, rfl, bx8, rfl⟩ := hq
  have jp36 : aw G (rm_R 2 0 0) m_Seconds_fitsAlone 0 0 36 [some (av_R (some 158)), some (av_I a1), some (av_I x2), some (av_I x5)] [] h (fun r h' => ∃ z, r = some (av_I z) ∧ (z = 0 ∨ z = 1) ∧ h = h') := by
    refine A_aload_n 0 d_Seconds_fitsAlone_36 rfl rfl ?_
    refine A_iconst d_Seconds_fitsAlone_37 rfl ?_
    refine A_callV1 m_Seconds_asks T_ok d_Seconds_fitsAlone_38 l_Seconds_74 k_Seconds_asks (xi_s hx sf_158) rfl (by decide +kernel) (by decide) (Nat.le_of_ble_eq_true rfl) (s_Seconds_asks hx ) (fun r h9 hq => ?_)
    obtain ⟨x11, rfl, bx11, rfl⟩ := hq
    have jp60 : aw G (rm_R 2 0 0) m_Seconds_fitsAlone 0 0 60 [some (av_R (some 158)), some (av_I a1), some (av_I x2), some (av_I x5)] [] h (fun r h' => ∃ z, r = some (av_I z) ∧ (z = 0 ∨ z = 1) ∧ h = h') := by
      refine A_aload_n 0 d_Seconds_fitsAlone_60 rfl rfl ?_
      refine A_iconst d_Seconds_fitsAlone_61 rfl ?_
      refine A_callV1 m_Seconds_asks T_ok d_Seconds_fitsAlone_62 l_Seconds_74 k_Seconds_asks (xi_s hx sf_158) rfl (by decide +kernel) (by decide) (Nat.le_of_ble_eq_true rfl) (s_Seconds_asks hx ) (fun r h12 hq => ?_)
      obtain ⟨x14, rfl, bx14, rfl⟩ := hq
      have jp89 : aw G (rm_R 2 0 0) m_Seconds_fitsAlone 0 0 89 [some (av_R (some 158)), some (av_I a1), some (av_I x2), some (av_I x5)] [] h (fun r h' => ∃ z, r = some (av_I z) ∧ (z = 0 ∨ z = 1) ∧ h = h') := by
        refine A_aload_n 0 d_Seconds_fitsAlone_89 rfl rfl ?_
        refine A_sipush d_Seconds_fitsAlone_90 rfl ?_
        refine A_callV1 m_Seconds_asks T_ok d_Seconds_fitsAlone_93 l_Seconds_74 k_Seconds_asks (xi_s hx sf_158) rfl (by decide +kernel) (by decide) (Nat.le_of_ble_eq_true rfl) (s_Seconds_asks hx ) (fun r h15 hq => ?_)
        obtain ⟨x17, rfl, bx17, rfl⟩ := hq
        have jp111 : aw G (rm_R 2 0 0) m_Seconds_fitsAlone 0 0 111 [some (av_R (some 158)), some (av_I a1), some (av_I x2), some (av_I x5)] [] h (fun r h' => ∃ z, r = some (av_I z) ∧ (z = 0 ∨ z = 1) ∧ h = h') := by
          refine A_aload_n 0 d_Seconds_fitsAlone_111 rfl rfl ?_
          refine A_sipush d_Seconds_fitsAlone_112 rfl ?_
          refine A_callV1 m_Seconds_asks T_ok d_Seconds_fitsAlone_115 l_Seconds_74 k_Seconds_asks (xi_s hx sf_158) rfl (by decide +kernel) (by decide) (Nat.le_of_ble_eq_true rfl) (s_Seconds_asks hx ) (fun r h18 hq => ?_)
          obtain ⟨x20, rfl, bx20, rfl⟩ := hq
          have jp125 : aw G (rm_R 2 0 0) m_Seconds_fitsAlone 0 0 125 [some (av_R (some 158)), some (av_I a1), some (av_I x2), some (av_I x5)] [] h (fun r h' => ∃ z, r = some (av_I z) ∧ (z = 0 ∨ z = 1) ∧ h = h') := by
            refine A_iconst d_Seconds_fitsAlone_125 rfl ?_
            refine A_goto (tgt := 130) d_Seconds_fitsAlone_126 (by decide) ?_
            exact A_zret d_Seconds_fitsAlone_130 (by decide) rfl (by omega) ⟨_, rfl, by omega, rfl⟩
          have jp130 : ∀ (j21 : Int) , 0 ≤ j21 → j21 ≤ 1 → aw G (rm_R 2 0 0) m_Seconds_fitsAlone 0 0 130 [some (av_R (some 158)), some (av_I a1), some (av_I x2), some (av_I x5)] [av_I j21] h (fun r h' => ∃ z, r = some (av_I z) ∧ (z = 0 ∨ z = 1) ∧ h = h') := by
            intro j21  _ _ 
            exact A_zret d_Seconds_fitsAlone_130 (by decide) rfl (by omega) ⟨_, rfl, by omega, rfl⟩
          refine A_if_eq (tgt := 125) d_Seconds_fitsAlone_118 (by decide) (fun c22 => ?_) (fun c22 => ?_)
          · refine A_pc (pc' := 125) rfl ?_
            exact jp125 
          · refine A_iload_n 3 d_Seconds_fitsAlone_121 rfl rfl ?_
            refine A_if_lt (tgt := 129) d_Seconds_fitsAlone_122 (by decide) (fun c23 => ?_) (fun c23 => ?_)
            · refine A_iconst d_Seconds_fitsAlone_129 rfl ?_
              refine A_pc (pc' := 130) rfl ?_
              exact jp130 0 (by omega) (by omega)
            · refine A_pc (pc' := 125) rfl ?_
              exact jp125 
        refine A_if_eq (tgt := 111) d_Seconds_fitsAlone_96 (by decide) (fun c24 => ?_) (fun c24 => ?_)
        · refine A_pc (pc' := 111) rfl ?_
          exact jp111 
        · refine A_sipush d_Seconds_fitsAlone_99 rfl ?_
          refine A_iload_n 2 d_Seconds_fitsAlone_102 rfl rfl ?_
          refine A_callS2 m_Seconds_isAmong d_Seconds_fitsAlone_103 l_Seconds_77 k_Seconds_isAmong (by decide +kernel) (by decide) (Nat.le_of_ble_eq_true rfl) (s_Seconds_isAmong  ) (fun r h25 hq => ?_)
          obtain ⟨x27, rfl, bx27, rfl⟩ := hq
          refine A_if_ne (tgt := 111) d_Seconds_fitsAlone_106 (by decide) (fun c28 => ?_) (fun c28 => ?_)
          · refine A_pc (pc' := 111) rfl ?_
            exact jp111 
          · refine A_iconst d_Seconds_fitsAlone_109 rfl ?_
            exact A_zret d_Seconds_fitsAlone_110 (by decide) rfl (by omega) ⟨_, rfl, by omega, rfl⟩
      refine A_if_eq (tgt := 89) d_Seconds_fitsAlone_65 (by decide) (fun c29 => ?_) (fun c29 => ?_)
      · refine A_pc (pc' := 89) rfl ?_
        exact jp89 
      · refine A_iload_n 1 d_Seconds_fitsAlone_68 rfl rfl ?_
        refine A_aload_n 0 d_Seconds_fitsAlone_69 rfl rfl ?_
        refine A_getIn (lo := 0) (hi := 8) T_ok d_Seconds_fitsAlone_70 f_Seconds_47 (xi_s hx sf_158) (xi_g hx (by decide) rgf_158_4) (fun x30 ex30 _ _ => ?_)
        refine A_iconst d_Seconds_fitsAlone_73 rfl ?_
        refine A_isubv (z := (x30 - 1)) d_Seconds_fitsAlone_74 (w32_to (by omega) (by unfold i32; omega)) ?_
        refine A_pc (pc' := 75) rfl ?_
        refine A_icmp_ne (tgt := 89) d_Seconds_fitsAlone_75 (by decide) (fun c31 => ?_) (fun c31 => ?_)
        · refine A_pc (pc' := 89) rfl ?_
          exact jp89 
        · refine A_iload_n 3 d_Seconds_fitsAlone_78 rfl rfl ?_
          refine A_bipush d_Seconds_fitsAlone_79 rfl ?_
          refine A_callS2 m_JMath_floorMod d_Seconds_fitsAlone_81 l_Seconds_71 k_JMath_floorMod (by decide +kernel) (by decide) (Nat.le_of_ble_eq_true rfl) (s_JMath_floorMod  (by omega) (by omega)) (fun r h32 hq => ?_)
          obtain ⟨x34, rfl, ⟨_, _⟩, xx34, rfl⟩ := hq
          refine A_if_eq (tgt := 89) d_Seconds_fitsAlone_84 (by decide) (fun c35 => ?_) (fun c35 => ?_)
          · refine A_pc (pc' := 89) rfl ?_
            exact jp89 
          · refine A_iconst d_Seconds_fitsAlone_87 rfl ?_
            exact A_zret d_Seconds_fitsAlone_88 (by decide) rfl (by omega) ⟨_, rfl, by omega, rfl⟩
    refine A_if_eq (tgt := 60) d_Seconds_fitsAlone_41 (by decide) (fun c36 => ?_) (fun c36 => ?_)
    · refine A_pc (pc' := 60) rfl ?_
      exact jp60 
    · refine A_iload_n 1 d_Seconds_fitsAlone_44 rfl rfl ?_
      refine A_if_ne (tgt := 60) d_Seconds_fitsAlone_45 (by decide) (fun c37 => ?_) (fun c37 => ?_)
      · refine A_pc (pc' := 60) rfl ?_
        exact jp60 
      · refine A_sipush d_Seconds_fitsAlone_48 rfl ?_
        refine A_iload_n 3 d_Seconds_fitsAlone_51 rfl rfl ?_
        refine A_callS2 m_Seconds_isAmong d_Seconds_fitsAlone_52 l_Seconds_77 k_Seconds_isAmong (by decide +kernel) (by decide) (Nat.le_of_ble_eq_true rfl) (s_Seconds_isAmong  ) (fun r h38 hq => ?_)
        obtain ⟨x40, rfl, bx40, rfl⟩ := hq
        refine A_if_ne (tgt := 60) d_Seconds_fitsAlone_55 (by decide) (fun c41 => ?_) (fun c41 => ?_)
        · refine A_pc (pc' := 60) rfl ?_
          exact jp60 
        · refine A_iconst d_Seconds_fitsAlone_58 rfl ?_
          exact A_zret d_Seconds_fitsAlone_59 (by decide) rfl (by omega) ⟨_, rfl, by omega, rfl⟩
  refine A_if_eq (tgt := 36) d_Seconds_fitsAlone_21 (by decide) (fun c42 => ?_) (fun c42 => ?_)
  · refine A_pc (pc' := 36) rfl ?_
    exact jp36 
  · refine A_sipush d_Seconds_fitsAlone_24 rfl ?_
    refine A_iload_n 3 d_Seconds_fitsAlone_27 rfl rfl ?_
    refine A_callS2 m_Seconds_isAmong d_Seconds_fitsAlone_28 l_Seconds_77 k_Seconds_isAmong (by decide +kernel) (by decide) (Nat.le_of_ble_eq_true rfl) (s_Seconds_isAmong  ) (fun r h43 hq => ?_)
    obtain ⟨x45, rfl, bx45, rfl⟩ := hq
    refine A_if_ne (tgt := 36) d_Seconds_fitsAlone_31 (by decide) (fun c46 => ?_) (fun c46 => ?_)
    · refine A_pc (pc' := 36) rfl ?_
      exact jp36 
    · refine A_iconst d_Seconds_fitsAlone_34 rfl ?_
      exact A_zret d_Seconds_fitsAlone_35 (by decide) rfl (by omega) ⟨_, rfl, by omega, rfl⟩
theorem s_Seconds_fitsBehind {G : cx_T} {s : Nat} {h : ah_T} (hx : xi s h) {a1 : Int} (la1 : 1 ≤ a1) (ua1 : a1 ≤ 7) : con G 2 0 0 m_Seconds_fitsBehind [av_R (some 158), av_I a1] h (fun r h' => ∃ z, r = some (av_I z) ∧ (z = 0 ∨ z = 1) ∧ h = h') := by
  refine con_of (L := [some (av_R (some 158)), some (av_I a1), none, none, none, none, none]) (by decide +kernel) (Nat.le_of_ble_eq_true rfl) rfl ?_
  have hS : isS s := hx.2.1
  have hs0 : s = 17 ∨ s = 80 := hS
  have hs0b : 17 ≤ s ∧ s ≤ 80 := by omega
  refine A_aload_n 0 d_Seconds_fitsBehind_0 rfl rfl ?_
  refine A_getAv (z := some 161) T_ok d_Seconds_fitsBehind_1 f_Seconds_19 (xi_s hx sf_158) (xi_r hx rff_158_7) ?_
  refine A_iload_n 1 d_Seconds_fitsBehind_4 rfl rfl ?_
  refine A_ialoadf d_Seconds_fitsBehind_5 (xi_s hx sf_161) (by omega) (by omega) (fun x2 ex2 _ _ => ?_)
  refine A_aload_n 0 d_Seconds_fitsBehind_6 rfl rfl ?_
  refine A_pc (pc' := 7) rfl ?_
  refine A_getAv (z := some 160) T_ok d_Seconds_fitsBehind_7 f_Seconds_15 (xi_s hx sf_158) (xi_r hx rff_158_6) ?_
  refine A_iload_n 1 d_Seconds_fitsBehind_10 rfl rfl ?_
  refine A_ialoadf d_Seconds_fitsBehind_11 (xi_s hx sf_160) (by omega) (by omega) (fun x4 ex4 _ _ => ?_)
  refine A_isubw d_Seconds_fitsBehind_12 (fun x5 _ _ _ => ?_)
  refine A_istore_n 2 (L' := [some (av_R (some 158)), some (av_I a1), some (av_I x5), none, none, none, none]) d_Seconds_fitsBehind_13 rfl (Nat.le_of_ble_eq_true rfl) rfl ?_
  refine A_aload_n 0 d_Seconds_fitsBehind_14 rfl rfl ?_
  refine A_pc (pc' := 15) rfl ?_
  refine A_getAv (z := some 161) T_ok d_Seconds_fitsBehind_15 f_Seconds_19 (xi_s hx sf_158) (xi_r hx rff_158_7) ?_
  refine A_iload_n 1 d_Seconds_fitsBehind_18 rfl rfl ?_
  refine A_iconst d_Seconds_fitsBehind_19 rfl ?_
  refine A_isubv (z := (a1 - 1)) d_Seconds_fitsBehind_20 (w32_to (by omega) (by unfold i32; omega)) ?_
  refine A_ialoadf d_Seconds_fitsBehind_21 (xi_s hx sf_161) (by omega) (by omega) (fun x7 ex7 _ _ => ?_)
  refine A_aload_n 0 d_Seconds_fitsBehind_22 rfl rfl ?_
  refine A_pc (pc' := 23) rfl ?_
  refine A_getAv (z := some 160) T_ok d_Seconds_fitsBehind_23 f_Seconds_15 (xi_s hx sf_158) (xi_r hx rff_158_6) ?_
  refine A_iload_n 1 d_Seconds_fitsBehind_26 rfl rfl ?_
  refine A_iconst d_Seconds_fitsBehind_27 rfl ?_
  refine A_isubv (z := (a1 - 1)) d_Seconds_fitsBehind_28 (w32_to (by omega) (by unfold i32; omega)) ?_
  refine A_ialoadf d_Seconds_fitsBehind_29 (xi_s hx sf_160) (by omega) (by omega) (fun x9 ex9 _ _ => ?_)
  refine A_isubw d_Seconds_fitsBehind_30 (fun x10 _ _ _ => ?_)
  refine A_pc (pc' := 31) rfl ?_
  refine A_istore_n 3 (L' := [some (av_R (some 158)), some (av_I a1), some (av_I x5), some (av_I x10), none, none, none]) d_Seconds_fitsBehind_31 rfl (Nat.le_of_ble_eq_true rfl) rfl ?_
  refine A_aload_n 0 d_Seconds_fitsBehind_32 rfl rfl ?_
  refine A_getAv (z := some 161) T_ok d_Seconds_fitsBehind_33 f_Seconds_19 (xi_s hx sf_158) (xi_r hx rff_158_7) ?_
  refine A_iload_n 1 d_Seconds_fitsBehind_36 rfl rfl ?_
  refine A_ialoadv (z := x2) d_Seconds_fitsBehind_37 (xi_s hx sf_161) (by omega) (by omega) ex2.symm ?_
  refine A_aload_n 0 d_Seconds_fitsBehind_38 rfl rfl ?_
  refine A_pc (pc' := 39) rfl ?_
  refine A_getAv (z := some 161) T_ok d_Seconds_fitsBehind_39 f_Seconds_19 (xi_s hx sf_158) (xi_r hx rff_158_7) ?_
  refine A_iload_n 1 d_Seconds_fitsBehind_42 rfl rfl ?_
  refine A_iconst d_Seconds_fitsBehind_43 rfl ?_
  refine A_isubv (z := (a1 - 1)) d_Seconds_fitsBehind_44 (w32_to (by omega) (by unfold i32; omega)) ?_
  refine A_ialoadv (z := x7) d_Seconds_fitsBehind_45 (xi_s hx sf_161) (by omega) (by omega) ex7.symm ?_
  refine A_isubw d_Seconds_fitsBehind_46 (fun x15 _ _ _ => ?_)
  refine A_pc (pc' := 47) rfl ?_
  refine A_istore (L' := [some (av_R (some 158)), some (av_I a1), some (av_I x5), some (av_I x10), some (av_I x15), none, none]) d_Seconds_fitsBehind_47 (Nat.le_of_ble_eq_true rfl) rfl ?_
  refine A_aload_n 0 d_Seconds_fitsBehind_49 rfl rfl ?_
  refine A_getAv (z := some 160) T_ok d_Seconds_fitsBehind_50 f_Seconds_15 (xi_s hx sf_158) (xi_r hx rff_158_6) ?_
  refine A_iload_n 1 d_Seconds_fitsBehind_53 rfl rfl ?_
  refine A_ialoadv (z := x4) d_Seconds_fitsBehind_54 (xi_s hx sf_160) (by omega) (by omega) ex4.symm ?_
  refine A_aload_n 0 d_Seconds_fitsBehind_55 rfl rfl ?_
  refine A_pc (pc' := 56) rfl ?_
  refine A_getAv (z := some 160) T_ok d_Seconds_fitsBehind_56 f_Seconds_15 (xi_s hx sf_158) (xi_r hx rff_158_6) ?_
  refine A_iload_n 1 d_Seconds_fitsBehind_59 rfl rfl ?_
  refine A_iconst d_Seconds_fitsBehind_60 rfl ?_
  refine A_isubv (z := (a1 - 1)) d_Seconds_fitsBehind_61 (w32_to (by omega) (by unfold i32; omega)) ?_
  refine A_ialoadv (z := x9) d_Seconds_fitsBehind_62 (xi_s hx sf_160) (by omega) (by omega) ex9.symm ?_
  refine A_isubw d_Seconds_fitsBehind_63 (fun x20 _ _ _ => ?_)
  refine A_pc (pc' := 64) rfl ?_
  refine A_istore (L' := [some (av_R (some 158)), some (av_I a1), some (av_I x5), some (av_I x10), some (av_I x15), some (av_I x20), none]) d_Seconds_fitsBehind_64 (Nat.le_of_ble_eq_true rfl) rfl ?_
  refine A_sipush d_Seconds_fitsBehind_66 rfl ?_
  refine A_iload_n 2 d_Seconds_fitsBehind_69 rfl rfl ?_
  refine A_callS2 m_Seconds_isAmong d_Seconds_fitsBehind_70 l_Seconds_77 k_Seconds_isAmong (by decide +kernel) (by decide) (Nat.le_of_ble_eq_true rfl) (s_Seconds_isAmong  ) (fun r h21 hq => ?_)
  obtain ⟨x23, rfl, bx23, rfl⟩ := hq
  refine A_istore (L' := [some (av_R (some 158)), some (av_I a1), some (av_I x5), some (av_I x10), some (av_I x15), some (av_I x20), some (av_I x23)]) d_Seconds_fitsBehind_73 (Nat.le_of_ble_eq_true rfl) rfl ?_
  refine A_aload_n 0 d_Seconds_fitsBehind_75 rfl rfl ?_
  refine A_iconst d_Seconds_fitsBehind_76 rfl ?_
  refine A_callV1 m_Seconds_asks T_ok d_Seconds_fitsBehind_77 l_Seconds_74 k_Seconds_asks (xi_s hx sf_158) rfl (by decide +kernel) (by decide) (Nat.le_of_ble_eq_true rfl) (s_Seconds_asks hx ) (fun r h24 hq => ?_)
  obtain ⟨x26, rfl, bx26, rfl⟩ := hq
  have jp106 : aw G (rm_R 2 0 0) m_Seconds_fitsBehind 0 0 106 [some (av_R (some 158)), some (av_I a1), some (av_I x5), some (av_I x10), some (av_I x15), some (av_I x20), some (av_I x23)] [] h (fun r h' => ∃ z, r = some (av_I z) ∧ (z = 0 ∨ z = 1) ∧ h = h') := by
    refine A_aload_n 0 d_Seconds_fitsBehind_106 rfl rfl ?_
    refine A_bipush d_Seconds_fitsBehind_107 rfl ?_
    refine A_callV1 m_Seconds_asks T_ok d_Seconds_fitsBehind_109 l_Seconds_74 k_Seconds_asks (xi_s hx sf_158) rfl (by decide +kernel) (by decide) (Nat.le_of_ble_eq_true rfl) (s_Seconds_asks hx ) (fun r h27 hq => ?_)
    obtain ⟨x29, rfl, bx29, rfl⟩ := hq
    have jp142 : aw G (rm_R 2 0 0) m_Seconds_fitsBehind 0 0 142 [some (av_R (some 158)), some (av_I a1), some (av_I x5), some (av_I x10), some (av_I x15), some (av_I x20), some (av_I x23)] [] h (fun r h' => ∃ z, r = some (av_I z) ∧ (z = 0 ∨ z = 1) ∧ h = h') := by
      refine A_aload_n 0 d_Seconds_fitsBehind_142 rfl rfl ?_
      refine A_bipush d_Seconds_fitsBehind_143 rfl ?_
      refine A_callV1 m_Seconds_asks T_ok d_Seconds_fitsBehind_145 l_Seconds_74 k_Seconds_asks (xi_s hx sf_158) rfl (by decide +kernel) (by decide) (Nat.le_of_ble_eq_true rfl) (s_Seconds_asks hx ) (fun r h30 hq => ?_)
      obtain ⟨x32, rfl, bx32, rfl⟩ := hq
      have jp173 : aw G (rm_R 2 0 0) m_Seconds_fitsBehind 0 0 173 [some (av_R (some 158)), some (av_I a1), some (av_I x5), some (av_I x10), some (av_I x15), some (av_I x20), some (av_I x23)] [] h (fun r h' => ∃ z, r = some (av_I z) ∧ (z = 0 ∨ z = 1) ∧ h = h') := by
        refine A_aload_n 0 d_Seconds_fitsBehind_173 rfl rfl ?_
        refine A_bipush d_Seconds_fitsBehind_174 rfl ?_
        refine A_callV1 m_Seconds_asks T_ok d_Seconds_fitsBehind_176 l_Seconds_74 k_Seconds_asks (xi_s hx sf_158) rfl (by decide +kernel) (by decide) (Nat.le_of_ble_eq_true rfl) (s_Seconds_asks hx ) (fun r h33 hq => ?_)
        obtain ⟨x35, rfl, bx35, rfl⟩ := hq
        have jp187 : aw G (rm_R 2 0 0) m_Seconds_fitsBehind 0 0 187 [some (av_R (some 158)), some (av_I a1), some (av_I x5), some (av_I x10), some (av_I x15), some (av_I x20), some (av_I x23)] [] h (fun r h' => ∃ z, r = some (av_I z) ∧ (z = 0 ∨ z = 1) ∧ h = h') := by
          refine A_iconst d_Seconds_fitsBehind_187 rfl ?_
          refine A_goto (tgt := 192) d_Seconds_fitsBehind_188 (by decide) ?_
          exact A_zret d_Seconds_fitsBehind_192 (by decide) rfl (by omega) ⟨_, rfl, by omega, rfl⟩
        have jp192 : ∀ (j36 : Int) , 0 ≤ j36 → j36 ≤ 1 → aw G (rm_R 2 0 0) m_Seconds_fitsBehind 0 0 192 [some (av_R (some 158)), some (av_I a1), some (av_I x5), some (av_I x10), some (av_I x15), some (av_I x20), some (av_I x23)] [av_I j36] h (fun r h' => ∃ z, r = some (av_I z) ∧ (z = 0 ∨ z = 1) ∧ h = h') := by
          intro j36  _ _ 
          exact A_zret d_Seconds_fitsBehind_192 (by decide) rfl (by omega) ⟨_, rfl, by omega, rfl⟩
        refine A_if_eq (tgt := 187) d_Seconds_fitsBehind_179 (by decide) (fun c37 => ?_) (fun c37 => ?_)
        · refine A_pc (pc' := 187) rfl ?_
          exact jp187 
        · refine A_iload d_Seconds_fitsBehind_182 rfl ?_
          refine A_if_eq (tgt := 191) d_Seconds_fitsBehind_184 (by decide) (fun c38 => ?_) (fun c38 => ?_)
          · refine A_iconst d_Seconds_fitsBehind_191 rfl ?_
            refine A_pc (pc' := 192) rfl ?_
            exact jp192 0 (by omega) (by omega)
          · refine A_pc (pc' := 187) rfl ?_
            exact jp187 
      refine A_if_eq (tgt := 173) d_Seconds_fitsBehind_148 (by decide) (fun c39 => ?_) (fun c39 => ?_)
      · refine A_pc (pc' := 173) rfl ?_
        exact jp173 
      · refine A_iload d_Seconds_fitsBehind_151 rfl ?_
        refine A_mabs d_Seconds_fitsBehind_153 lm_Seconds_81 ma_abs (by decide) (by decide) (Nat.le_of_ble_eq_true rfl) rfl ?_
        refine A_nrI (fun x40 ex40 _ _ => ?_)
        refine A_bipush d_Seconds_fitsBehind_156 rfl ?_
        refine A_icmp_le (tgt := 173) d_Seconds_fitsBehind_158 (by decide) (fun c41 => ?_) (fun c41 => ?_)
        · refine A_pc (pc' := 173) rfl ?_
          exact jp173 
        · refine A_iload d_Seconds_fitsBehind_161 rfl ?_
          refine A_mabs d_Seconds_fitsBehind_163 lm_Seconds_81 ma_abs (by decide) (by decide) (Nat.le_of_ble_eq_true rfl) rfl ?_
          refine A_nrI (fun x42 ex42 _ _ => ?_)
          refine A_bipush d_Seconds_fitsBehind_166 rfl ?_
          refine A_icmp_eq (tgt := 173) d_Seconds_fitsBehind_168 (by decide) (fun c43 => ?_) (fun c43 => ?_)
          · refine A_pc (pc' := 173) rfl ?_
            exact jp173 
          · refine A_iconst d_Seconds_fitsBehind_171 rfl ?_
            exact A_zret d_Seconds_fitsBehind_172 (by decide) rfl (by omega) ⟨_, rfl, by omega, rfl⟩
    refine A_if_eq (tgt := 142) d_Seconds_fitsBehind_112 (by decide) (fun c44 => ?_) (fun c44 => ?_)
    · refine A_pc (pc' := 142) rfl ?_
      exact jp142 
    · refine A_iload d_Seconds_fitsBehind_115 rfl ?_
      refine A_if_eq (tgt := 142) d_Seconds_fitsBehind_117 (by decide) (fun c45 => ?_) (fun c45 => ?_)
      · refine A_pc (pc' := 142) rfl ?_
        exact jp142 
      · refine A_iload d_Seconds_fitsBehind_120 rfl ?_
        have jp130 : aw G (rm_R 2 0 0) m_Seconds_fitsBehind 0 0 130 [some (av_R (some 158)), some (av_I a1), some (av_I x5), some (av_I x10), some (av_I x15), some (av_I x20), some (av_I x23)] [] h (fun r h' => ∃ z, r = some (av_I z) ∧ (z = 0 ∨ z = 1) ∧ h = h') := by
          refine A_iload d_Seconds_fitsBehind_130 rfl ?_
          refine A_if_ge (tgt := 142) d_Seconds_fitsBehind_132 (by decide) (fun c46 => ?_) (fun c46 => ?_)
          · refine A_pc (pc' := 142) rfl ?_
            exact jp142 
          · refine A_iload d_Seconds_fitsBehind_135 rfl ?_
            refine A_if_ge (tgt := 142) d_Seconds_fitsBehind_137 (by decide) (fun c47 => ?_) (fun c47 => ?_)
            · refine A_pc (pc' := 142) rfl ?_
              exact jp142 
            · refine A_iconst d_Seconds_fitsBehind_140 rfl ?_
              exact A_zret d_Seconds_fitsBehind_141 (by decide) rfl (by omega) ⟨_, rfl, by omega, rfl⟩
        have jp140 : aw G (rm_R 2 0 0) m_Seconds_fitsBehind 0 0 140 [some (av_R (some 158)), some (av_I a1), some (av_I x5), some (av_I x10), some (av_I x15), some (av_I x20), some (av_I x23)] [] h (fun r h' => ∃ z, r = some (av_I z) ∧ (z = 0 ∨ z = 1) ∧ h = h') := by
          refine A_iconst d_Seconds_fitsBehind_140 rfl ?_
          exact A_zret d_Seconds_fitsBehind_141 (by decide) rfl (by omega) ⟨_, rfl, by omega, rfl⟩
        refine A_if_le (tgt := 130) d_Seconds_fitsBehind_122 (by decide) (fun c48 => ?_) (fun c48 => ?_)
        · refine A_pc (pc' := 130) rfl ?_
          exact jp130 
        · refine A_iload d_Seconds_fitsBehind_125 rfl ?_
          refine A_if_gt (tgt := 140) d_Seconds_fitsBehind_127 (by decide) (fun c49 => ?_) (fun c49 => ?_)
          · refine A_pc (pc' := 140) rfl ?_
            exact jp140 
          · refine A_pc (pc' := 130) rfl ?_
            exact jp130 
  refine A_if_eq (tgt := 106) d_Seconds_fitsBehind_80 (by decide) (fun c50 => ?_) (fun c50 => ?_)
  · refine A_pc (pc' := 106) rfl ?_
    exact jp106 
  · refine A_iload d_Seconds_fitsBehind_83 rfl ?_
    refine A_if_eq (tgt := 106) d_Seconds_fitsBehind_85 (by decide) (fun c51 => ?_) (fun c51 => ?_)
    · refine A_pc (pc' := 106) rfl ?_
      exact jp106 
    · refine A_iload d_Seconds_fitsBehind_88 rfl ?_
      refine A_if_eq (tgt := 106) d_Seconds_fitsBehind_90 (by decide) (fun c52 => ?_) (fun c52 => ?_)
      · refine A_pc (pc' := 106) rfl ?_
        exact jp106 
      · refine A_iload_n 2 d_Seconds_fitsBehind_93 rfl rfl ?_
        refine A_iload_n 3 d_Seconds_fitsBehind_94 rfl rfl ?_
        refine A_isubw d_Seconds_fitsBehind_95 (fun x53 _ _ _ => ?_)
        refine A_bipush d_Seconds_fitsBehind_96 rfl ?_
        refine A_callS2 m_JMath_floorMod d_Seconds_fitsBehind_98 l_Seconds_71 k_JMath_floorMod (by decide +kernel) (by decide) (Nat.le_of_ble_eq_true rfl) (s_JMath_floorMod  (by omega) (by omega)) (fun r h54 hq => ?_)
        obtain ⟨x56, rfl, ⟨_, _⟩, xx56, rfl⟩ := hq
        refine A_if_ne (tgt := 106) d_Seconds_fitsBehind_101 (by decide) (fun c57 => ?_) (fun c57 => ?_)
        · refine A_pc (pc' := 106) rfl ?_
          exact jp106 
        · refine A_iconst d_Seconds_fitsBehind_104 rfl ?_
          exact A_zret d_Seconds_fitsBehind_105 (by decide) rfl (by omega) ⟨_, rfl, by omega, rfl⟩
theorem s_Seconds_fitsLeap {G : cx_T} {s : Nat} {h : ah_T} (hx : xi s h) {a1 : Int} (la1 : 2 ≤ a1) (ua1 : a1 ≤ 7) : con G 1 0 0 m_Seconds_fitsLeap [av_R (some 158), av_I a1] h (fun r h' => ∃ z, r = some (av_I z) ∧ (z = 0 ∨ z = 1) ∧ h = h') := by
  refine con_of (L := [some (av_R (some 158)), some (av_I a1), none, none]) (by decide +kernel) (Nat.le_of_ble_eq_true rfl) rfl ?_
  have hS : isS s := hx.2.1
  have hs0 : s = 17 ∨ s = 80 := hS
  have hs0b : 17 ≤ s ∧ s ≤ 80 := by omega
  refine A_aload_n 0 d_Seconds_fitsLeap_0 rfl rfl ?_
  refine A_getAv (z := some 161) T_ok d_Seconds_fitsLeap_1 f_Seconds_19 (xi_s hx sf_158) (xi_r hx rff_158_7) ?_
  refine A_iload_n 1 d_Seconds_fitsLeap_4 rfl rfl ?_
  refine A_iconst d_Seconds_fitsLeap_5 rfl ?_
  refine A_isubv (z := (a1 - 1)) d_Seconds_fitsLeap_6 (w32_to (by omega) (by unfold i32; omega)) ?_
  refine A_pc (pc' := 7) rfl ?_
  refine A_ialoadf d_Seconds_fitsLeap_7 (xi_s hx sf_161) (by omega) (by omega) (fun x2 ex2 _ _ => ?_)
  refine A_aload_n 0 d_Seconds_fitsLeap_8 rfl rfl ?_
  refine A_getAv (z := some 161) T_ok d_Seconds_fitsLeap_9 f_Seconds_19 (xi_s hx sf_158) (xi_r hx rff_158_7) ?_
  refine A_iload_n 1 d_Seconds_fitsLeap_12 rfl rfl ?_
  refine A_iconst d_Seconds_fitsLeap_13 rfl ?_
  refine A_isubv (z := (a1 - 2)) d_Seconds_fitsLeap_14 (w32_to (by omega) (by unfold i32; omega)) ?_
  refine A_pc (pc' := 15) rfl ?_
  refine A_ialoadf d_Seconds_fitsLeap_15 (xi_s hx sf_161) (by omega) (by omega) (fun x4 ex4 _ _ => ?_)
  refine A_isubw d_Seconds_fitsLeap_16 (fun x5 _ _ _ => ?_)
  refine A_istore_n 2 (L' := [some (av_R (some 158)), some (av_I a1), some (av_I x5), none]) d_Seconds_fitsLeap_17 rfl (Nat.le_of_ble_eq_true rfl) rfl ?_
  refine A_aload_n 0 d_Seconds_fitsLeap_18 rfl rfl ?_
  refine A_getAv (z := some 161) T_ok d_Seconds_fitsLeap_19 f_Seconds_19 (xi_s hx sf_158) (xi_r hx rff_158_7) ?_
  refine A_iload_n 1 d_Seconds_fitsLeap_22 rfl rfl ?_
  refine A_pc (pc' := 23) rfl ?_
  refine A_ialoadf d_Seconds_fitsLeap_23 (xi_s hx sf_161) (by omega) (by omega) (fun x7 ex7 _ _ => ?_)
  refine A_aload_n 0 d_Seconds_fitsLeap_24 rfl rfl ?_
  refine A_getAv (z := some 161) T_ok d_Seconds_fitsLeap_25 f_Seconds_19 (xi_s hx sf_158) (xi_r hx rff_158_7) ?_
  refine A_iload_n 1 d_Seconds_fitsLeap_28 rfl rfl ?_
  refine A_iconst d_Seconds_fitsLeap_29 rfl ?_
  refine A_isubv (z := (a1 - 1)) d_Seconds_fitsLeap_30 (w32_to (by omega) (by unfold i32; omega)) ?_
  refine A_pc (pc' := 31) rfl ?_
  refine A_ialoadv (z := x2) d_Seconds_fitsLeap_31 (xi_s hx sf_161) (by omega) (by omega) ex2.symm ?_
  refine A_isubw d_Seconds_fitsLeap_32 (fun x10 _ _ _ => ?_)
  refine A_istore_n 3 (L' := [some (av_R (some 158)), some (av_I a1), some (av_I x5), some (av_I x10)]) d_Seconds_fitsLeap_33 rfl (Nat.le_of_ble_eq_true rfl) rfl ?_
  refine A_aload_n 0 d_Seconds_fitsLeap_34 rfl rfl ?_
  refine A_bipush d_Seconds_fitsLeap_35 rfl ?_
  refine A_callV1 m_Seconds_asks T_ok d_Seconds_fitsLeap_37 l_Seconds_74 k_Seconds_asks (xi_s hx sf_158) rfl (by decide +kernel) (by decide) (Nat.le_of_ble_eq_true rfl) (s_Seconds_asks hx ) (fun r h11 hq => ?_)
  obtain ⟨x13, rfl, bx13, rfl⟩ := hq
  refine A_if_eq (tgt := 51) d_Seconds_fitsLeap_40 (by decide) (fun c14 => ?_) (fun c14 => ?_)
  · refine A_iconst d_Seconds_fitsLeap_51 rfl ?_
    exact A_zret d_Seconds_fitsLeap_52 (by decide) rfl (by omega) ⟨_, rfl, by omega, rfl⟩
  · refine A_iload_n 2 d_Seconds_fitsLeap_43 rfl rfl ?_
    refine A_mabs d_Seconds_fitsLeap_44 lm_Seconds_81 ma_abs (by decide) (by decide) (Nat.le_of_ble_eq_true rfl) rfl ?_
    refine A_nrI (fun x15 ex15 _ _ => ?_)
    refine A_iconst d_Seconds_fitsLeap_47 rfl ?_
    refine A_icmp_gt (tgt := 53) d_Seconds_fitsLeap_48 (by decide) (fun c16 => ?_) (fun c16 => ?_)
    · refine A_iload_n 2 d_Seconds_fitsLeap_53 rfl rfl ?_
      refine A_if_le (tgt := 76) d_Seconds_fitsLeap_54 (by decide) (fun c17 => ?_) (fun c17 => ?_)
      · refine A_iload_n 3 d_Seconds_fitsLeap_76 rfl rfl ?_
        refine A_iconst d_Seconds_fitsLeap_77 rfl ?_
        refine A_icmp_eq (tgt := 86) d_Seconds_fitsLeap_78 (by decide) (fun c18 => ?_) (fun c18 => ?_)
        · refine A_iconst d_Seconds_fitsLeap_86 rfl ?_
          refine A_goto (tgt := 91) d_Seconds_fitsLeap_87 (by decide) ?_
          exact A_zret d_Seconds_fitsLeap_91 (by decide) rfl (by omega) ⟨_, rfl, by omega, rfl⟩
        · refine A_iload_n 3 d_Seconds_fitsLeap_81 rfl rfl ?_
          refine A_iconst d_Seconds_fitsLeap_82 rfl ?_
          refine A_icmp_ne (tgt := 90) d_Seconds_fitsLeap_83 (by decide) (fun c19 => ?_) (fun c19 => ?_)
          · refine A_iconst d_Seconds_fitsLeap_90 rfl ?_
            exact A_zret d_Seconds_fitsLeap_91 (by decide) rfl (by omega) ⟨_, rfl, by omega, rfl⟩
          · refine A_iconst d_Seconds_fitsLeap_86 rfl ?_
            refine A_goto (tgt := 91) d_Seconds_fitsLeap_87 (by decide) ?_
            exact A_zret d_Seconds_fitsLeap_91 (by decide) rfl (by omega) ⟨_, rfl, by omega, rfl⟩
      · refine A_iload_n 3 d_Seconds_fitsLeap_57 rfl rfl ?_
        refine A_iconst d_Seconds_fitsLeap_58 rfl ?_
        refine A_icmp_eq (tgt := 68) d_Seconds_fitsLeap_59 (by decide) (fun c20 => ?_) (fun c20 => ?_)
        · refine A_iconst d_Seconds_fitsLeap_68 rfl ?_
          refine A_goto (tgt := 91) d_Seconds_fitsLeap_69 (by decide) ?_
          exact A_zret d_Seconds_fitsLeap_91 (by decide) rfl (by omega) ⟨_, rfl, by omega, rfl⟩
        · refine A_iload_n 3 d_Seconds_fitsLeap_62 rfl rfl ?_
          refine A_bipush d_Seconds_fitsLeap_63 rfl ?_
          refine A_icmp_ne (tgt := 72) d_Seconds_fitsLeap_65 (by decide) (fun c21 => ?_) (fun c21 => ?_)
          · refine A_iconst d_Seconds_fitsLeap_72 rfl ?_
            refine A_goto (tgt := 91) d_Seconds_fitsLeap_73 (by decide) ?_
            exact A_zret d_Seconds_fitsLeap_91 (by decide) rfl (by omega) ⟨_, rfl, by omega, rfl⟩
          · refine A_iconst d_Seconds_fitsLeap_68 rfl ?_
            refine A_goto (tgt := 91) d_Seconds_fitsLeap_69 (by decide) ?_
            exact A_zret d_Seconds_fitsLeap_91 (by decide) rfl (by omega) ⟨_, rfl, by omega, rfl⟩
    · refine A_iconst d_Seconds_fitsLeap_51 rfl ?_
      exact A_zret d_Seconds_fitsLeap_52 (by decide) rfl (by omega) ⟨_, rfl, by omega, rfl⟩
theorem s_Seconds_keep {G : cx_T} {s : Nat} {h : ah_T} (hx : xi s h) {a1 : Int}  : con G 0 0 0 m_Seconds_keep [av_R (some 158), av_I a1] h (fun r h' => r = none ∧ kF FC s h h') := by
  refine con_of (L := [some (av_R (some 158)), some (av_I a1), none]) (by decide +kernel) (Nat.le_of_ble_eq_true rfl) rfl ?_
  have hS : isS s := hx.2.1
  have hs0 : s = 17 ∨ s = 80 := hS
  have hs0b : 17 ≤ s ∧ s ≤ 80 := by omega
  have k0 : kF FC s h h := kF_0 hx
  refine A_locI 1 rfl (fun ra => ?_)
  obtain ⟨_, _⟩ := ra
  refine A_iload_n 1 d_Seconds_keep_0 rfl rfl ?_
  refine A_bipush d_Seconds_keep_1 rfl ?_
  refine A_ishr d_Seconds_keep_3 ?_
  refine A_nrI (fun x1 ex1 _ _ => ?_)
  refine A_istore_n 2 (L' := [some (av_R (some 158)), some (av_I a1), some (av_I x1)]) d_Seconds_keep_4 rfl (Nat.le_of_ble_eq_true rfl) rfl ?_
  refine A_iload_n 2 d_Seconds_keep_5 rfl rfl ?_
  refine A_pc (pc' := 6) rfl ?_
  refine A_if_lt (tgt := 43) d_Seconds_keep_6 (by decide) (fun c2 => ?_) (fun c2 => ?_)
  · exact A_vret d_Seconds_keep_43 (by decide) rfl ⟨rfl, k0⟩
  · refine A_iload_n 2 d_Seconds_keep_9 rfl rfl ?_
    refine A_aload_n 0 d_Seconds_keep_10 rfl rfl ?_
    refine A_getAv (z := some 159) T_ok d_Seconds_keep_11 f_Seconds_11 (xi_s k0.1 sf_158) (xi_r k0.1 rff_158_0) ?_
    refine A_alenN d_Seconds_keep_14 (xi_s k0.1 sf_159) (by decide) (by decide) ?_
    refine A_icmp_ge (tgt := 43) d_Seconds_keep_15 (by decide) (fun c4 => ?_) (fun c4 => ?_)
    · exact A_vret d_Seconds_keep_43 (by decide) rfl ⟨rfl, k0⟩
    · refine A_aload_n 0 d_Seconds_keep_18 rfl rfl ?_
      refine A_getAv (z := some 159) T_ok d_Seconds_keep_19 f_Seconds_11 (xi_s k0.1 sf_158) (xi_r k0.1 rff_158_0) ?_
      refine A_iload_n 2 d_Seconds_keep_22 rfl rfl ?_
      refine A_dup2RI d_Seconds_keep_23 ?_
      refine A_laloadf d_Seconds_keep_24 (xi_s k0.1 sf_159) (by omega) (by omega) (fun x6 ex6 _ _ => ?_)
      refine A_pc (pc' := 25) rfl ?_
      refine A_lconst_1 d_Seconds_keep_25 ?_
      refine A_iload_n 1 d_Seconds_keep_26 rfl rfl ?_
      refine A_bipush d_Seconds_keep_27 rfl ?_
      refine A_iand d_Seconds_keep_29 ?_
      refine A_nrI (fun x7 ex7 _ _ => ?_)
      have bx7 := and_r (m := 63) 6 ex7 (by decide) (by decide) (by decide)
      refine A_lshl d_Seconds_keep_30 ?_
      refine A_nrL (fun x8 ex8 _ _ => ?_)
      refine A_lor d_Seconds_keep_31 ?_
      refine A_nrL (fun x9 ex9 _ _ => ?_)
      refine A_pc (pc' := 32) rfl ?_
      refine A_lastorek (KR := kF FC s h) d_Seconds_keep_32 (xi_s k0.1 sf_159) (by omega) (by omega) (kF_l k0 (by decide) (nl_b rfl)) (fun h10 k11 eh10 => ?_)
      refine A_aload_n 0 d_Seconds_keep_33 rfl rfl ?_
      refine A_dupR d_Seconds_keep_34 ?_
      refine A_getIf T_ok d_Seconds_keep_35 f_Seconds_22 (xi_s k11.1 sf_158) (fun x12 ex12 _ _ => ?_)
      refine A_iconst d_Seconds_keep_38 rfl ?_
      refine A_iaddw d_Seconds_keep_39 (fun x13 _ _ _ => ?_)
      refine A_pc (pc' := 40) rfl ?_
      refine A_putIk (KR := kF FC s h) T_ok d_Seconds_keep_40 f_Seconds_22 (xi_s k11.1 sf_158) fin_f (kF_j k11 (by decide) (ns_b rfl) rgf_158_1 (by omega) (by omega)) (fun h14 k15 eh14 => ?_)
      exact A_vret d_Seconds_keep_43 (by decide) rfl ⟨rfl, k15⟩
theorem s_Seconds_extend_8 {G : cx_T} {s : Nat} {h : ah_T} (hx : xi s h) {a1 : Int} {a2 : Int} (la1 : 8 ≤ a1) (ua1 : a1 ≤ 8) : con G 4 0 0 m_Seconds_extend [av_R (some 158), av_I a1, av_I a2] h (fun r h' => r = none ∧ kF FC s h h') := by
  refine con_of (L := [some (av_R (some 158)), some (av_I a1), some (av_I a2), none]) (by decide +kernel) (Nat.le_of_ble_eq_true rfl) rfl ?_
  have hS : isS s := hx.2.1
  have hs0 : s = 17 ∨ s = 80 := hS
  have hs0b : 17 ≤ s ∧ s ≤ 80 := by omega
  have k0 : kF FC s h h := kF_0 hx
  refine A_locI 2 rfl (fun ra => ?_)
  obtain ⟨_, _⟩ := ra
  refine A_iload_n 1 d_Seconds_extend_0 rfl rfl ?_
  refine A_aload_n 0 d_Seconds_extend_1 rfl rfl ?_
  refine A_getIn (lo := 0) (hi := 8) T_ok d_Seconds_extend_2 f_Seconds_47 (xi_s k0.1 sf_158) (xi_g k0.1 (by decide) rgf_158_4) (fun x1 ex1 _ _ => ?_)
  refine A_icmp_ge (tgt := 17) d_Seconds_extend_5 (by decide) (fun c2 => ?_) (fun c => False.elim (by omega))
  refine A_aload_n 0 d_Seconds_extend_17 rfl rfl ?_
  refine A_iload_n 2 d_Seconds_extend_18 rfl rfl ?_
  refine A_callV1 m_Seconds_keep T_ok d_Seconds_extend_19 l_Seconds_57 k_Seconds_keep (xi_s k0.1 sf_158) rfl (by decide +kernel) (by decide) (Nat.le_of_ble_eq_true rfl) (s_Seconds_keep k0.1 ) (fun r h3 hq => ?_)
  obtain ⟨rfl, k4⟩ := hq
  have k5 := kF_t k0 k4 (fun _ q => q)
  exact A_vret d_Seconds_extend_22 (by decide) rfl ⟨rfl, k5⟩
theorem s_Seconds_extend_7 {G : cx_T} {s : Nat} {h : ah_T} (hx : xi s h) {a1 : Int} {a2 : Int} (la1 : 7 ≤ a1) (ua1 : a1 ≤ 7) : con G 5 0 0 m_Seconds_extend [av_R (some 158), av_I a1, av_I a2] h (fun r h' => r = none ∧ kF FC s h h') := by
  refine con_of (L := [some (av_R (some 158)), some (av_I a1), some (av_I a2), none]) (by decide +kernel) (Nat.le_of_ble_eq_true rfl) rfl ?_
  have hS : isS s := hx.2.1
  have hs0 : s = 17 ∨ s = 80 := hS
  have hs0b : 17 ≤ s ∧ s ≤ 80 := by omega
  have k0 : kF FC s h h := kF_0 hx
  refine A_locI 2 rfl (fun ra => ?_)
  obtain ⟨_, _⟩ := ra
  refine A_iload_n 1 d_Seconds_extend_0 rfl rfl ?_
  refine A_aload_n 0 d_Seconds_extend_1 rfl rfl ?_
  refine A_getIn (lo := 0) (hi := 8) T_ok d_Seconds_extend_2 f_Seconds_47 (xi_s k0.1 sf_158) (xi_g k0.1 (by decide) rgf_158_4) (fun x1 ex1 _ _ => ?_)
  refine A_icmp_ge (tgt := 17) d_Seconds_extend_5 (by decide) (fun c2 => ?_) (fun c2 => ?_)
  · refine A_aload_n 0 d_Seconds_extend_17 rfl rfl ?_
    refine A_iload_n 2 d_Seconds_extend_18 rfl rfl ?_
    refine A_callV1 m_Seconds_keep T_ok d_Seconds_extend_19 l_Seconds_57 k_Seconds_keep (xi_s k0.1 sf_158) rfl (by decide +kernel) (by decide) (Nat.le_of_ble_eq_true rfl) (s_Seconds_keep k0.1 ) (fun r h3 hq => ?_)
    obtain ⟨rfl, k4⟩ := hq
    have k5 := kF_t k0 k4 (fun _ q => q)
    exact A_vret d_Seconds_extend_22 (by decide) rfl ⟨rfl, k5⟩
  · refine A_iload_n 1 d_Seconds_extend_8 rfl rfl ?_
    refine A_aload_n 0 d_Seconds_extend_9 rfl rfl ?_
    refine A_getAv (z := some 161) T_ok d_Seconds_extend_10 f_Seconds_19 (xi_s k0.1 sf_158) (xi_r k0.1 rff_158_7) ?_
    refine A_alenN d_Seconds_extend_13 (xi_s k0.1 sf_161) (by decide) (by decide) ?_
    refine A_icmp_lt (tgt := 23) d_Seconds_extend_14 (by decide) (fun c7 => ?_) (fun c => False.elim (by omega))
    refine A_iconst d_Seconds_extend_23 rfl ?_
    refine A_istore_n 3 (L' := [some (av_R (some 158)), some (av_I a1), some (av_I a2), some (av_I 0)]) d_Seconds_extend_24 rfl (Nat.le_of_ble_eq_true rfl) rfl ?_
    have lp25 : ∀ (n : Nat) (i8 : Int) (h9 : ah_T) , 0 ≤ i8 → i8 ≤ 121 → kF FC s h h9 → (122 - i8).toNat < n → aw G (rm_R 5 0 0) m_Seconds_extend 0 0 25 [some (av_R (some 158)), some (av_I a1), some (av_I a2), some (av_I i8)] [] h9 (fun r h' => r = none ∧ kF FC s h h') := by
      intro n
      induction n with
      | zero => intro i8 h9 _ _ _ hm; omega
      | succ n ih25 =>
        intro i8 h9 hl0 hl1 k10 hm
        refine A_iload_n 3 d_Seconds_extend_25 rfl rfl ?_
        refine A_aload_n 0 d_Seconds_extend_26 rfl rfl ?_
        refine A_getIn (lo := 0) (hi := 121) T_ok d_Seconds_extend_27 f_Seconds_35 (xi_s k10.1 sf_158) (xi_g k10.1 (by decide) rgf_158_3) (fun x11 ex11 _ _ => ?_)
        refine A_icmp_ge (tgt := 99) d_Seconds_extend_30 (by decide) (fun c12 => ?_) (fun c12 => ?_)
        · exact A_vret d_Seconds_extend_99 (by decide) rfl ⟨rfl, k10⟩
        · refine A_aload_n 0 d_Seconds_extend_33 rfl rfl ?_
          refine A_getAv (z := some 161) T_ok d_Seconds_extend_34 f_Seconds_19 (xi_s k10.1 sf_158) (xi_r k10.1 rff_158_7) ?_
          refine A_iload_n 1 d_Seconds_extend_37 rfl rfl ?_
          refine A_aload_n 0 d_Seconds_extend_38 rfl rfl ?_
          refine A_getIf T_ok d_Seconds_extend_39 f_Seconds_32 (xi_s k10.1 sf_158) (fun x14 ex14 _ _ => ?_)
          refine A_pc (pc' := 42) rfl ?_
          refine A_iload_n 3 d_Seconds_extend_42 rfl rfl ?_
          refine A_iaddw d_Seconds_extend_43 (fun x15 _ _ _ => ?_)
          refine A_iastorek (KR := kF FC s h) d_Seconds_extend_44 (xi_s k10.1 sf_161) (by omega) (by omega) (kF_j k10 (by decide) (ns_b rfl) (rgf_161 _) (by omega) (by omega)) (fun h16 k17 eh16 => ?_)
          refine A_aload_n 0 d_Seconds_extend_45 rfl rfl ?_
          refine A_iload_n 1 d_Seconds_extend_46 rfl rfl ?_
          refine A_callV1 m_Seconds_fitsAlone T_ok d_Seconds_extend_47 l_Seconds_61 k_Seconds_fitsAlone (xi_s k17.1 sf_158) rfl (by decide +kernel) (by decide) (Nat.le_of_ble_eq_true rfl) (s_Seconds_fitsAlone k17.1 (by omega) (by omega)) (fun r h18 hq => ?_)
          obtain ⟨x20, rfl, bx20, rfl⟩ := hq
          refine A_if_eq (tgt := 93) d_Seconds_extend_50 (by decide) (fun c21 => ?_) (fun c21 => ?_)
          · refine A_iincv (z := (i8 + 1)) (L' := [some (av_R (some 158)), some (av_I a1), some (av_I a2), some (av_I (i8 + 1))]) d_Seconds_extend_93 rfl (w32_to (by omega) (by unfold i32; omega)) rfl ?_
            refine A_goto (tgt := 25) d_Seconds_extend_96 (by decide) ?_
            exact ih25 (i8 + 1) h16 (by omega) (by omega) k17 (by omega)
          · refine A_iload_n 1 d_Seconds_extend_53 rfl rfl ?_
            refine A_if_eq (tgt := 65) d_Seconds_extend_54 (by decide) (fun c => False.elim (by omega)) (fun c22 => ?_)
            refine A_aload_n 0 d_Seconds_extend_57 rfl rfl ?_
            refine A_iload_n 1 d_Seconds_extend_58 rfl rfl ?_
            refine A_callV1 m_Seconds_fitsBehind T_ok d_Seconds_extend_59 l_Seconds_65 k_Seconds_fitsBehind (xi_s k17.1 sf_158) rfl (by decide +kernel) (by decide) (Nat.le_of_ble_eq_true rfl) (s_Seconds_fitsBehind k17.1 (by omega) (by omega)) (fun r h23 hq => ?_)
            obtain ⟨x25, rfl, bx25, rfl⟩ := hq
            refine A_if_eq (tgt := 93) d_Seconds_extend_62 (by decide) (fun c26 => ?_) (fun c26 => ?_)
            · refine A_iincv (z := (i8 + 1)) (L' := [some (av_R (some 158)), some (av_I a1), some (av_I a2), some (av_I (i8 + 1))]) d_Seconds_extend_93 rfl (w32_to (by omega) (by unfold i32; omega)) rfl ?_
              refine A_goto (tgt := 25) d_Seconds_extend_96 (by decide) ?_
              exact ih25 (i8 + 1) h16 (by omega) (by omega) k17 (by omega)
            · refine A_iload_n 1 d_Seconds_extend_65 rfl rfl ?_
              refine A_iconst d_Seconds_extend_66 rfl ?_
              refine A_icmp_lt (tgt := 78) d_Seconds_extend_67 (by decide) (fun c => False.elim (by omega)) (fun c27 => ?_)
              refine A_aload_n 0 d_Seconds_extend_70 rfl rfl ?_
              refine A_iload_n 1 d_Seconds_extend_71 rfl rfl ?_
              refine A_callV1 m_Seconds_fitsLeap T_ok d_Seconds_extend_72 l_Seconds_68 k_Seconds_fitsLeap (xi_s k17.1 sf_158) rfl (by decide +kernel) (by decide) (Nat.le_of_ble_eq_true rfl) (s_Seconds_fitsLeap k17.1 (by omega) (by omega)) (fun r h28 hq => ?_)
              obtain ⟨x30, rfl, bx30, rfl⟩ := hq
              refine A_if_eq (tgt := 93) d_Seconds_extend_75 (by decide) (fun c31 => ?_) (fun c31 => ?_)
              · refine A_iincv (z := (i8 + 1)) (L' := [some (av_R (some 158)), some (av_I a1), some (av_I a2), some (av_I (i8 + 1))]) d_Seconds_extend_93 rfl (w32_to (by omega) (by unfold i32; omega)) rfl ?_
                refine A_goto (tgt := 25) d_Seconds_extend_96 (by decide) ?_
                exact ih25 (i8 + 1) h16 (by omega) (by omega) k17 (by omega)
              · refine A_aload_n 0 d_Seconds_extend_78 rfl rfl ?_
                refine A_iload_n 1 d_Seconds_extend_79 rfl rfl ?_
                refine A_iconst d_Seconds_extend_80 rfl ?_
                refine A_iaddv (z := (a1 + 1)) d_Seconds_extend_81 (w32_to (by omega) (by unfold i32; omega)) ?_
                refine A_iload_n 2 d_Seconds_extend_82 rfl rfl ?_
                refine A_pc (pc' := 83) rfl ?_
                refine A_aload_n 0 d_Seconds_extend_83 rfl rfl ?_
                refine A_getIv (z := x11) T_ok d_Seconds_extend_84 f_Seconds_35 (xi_s k17.1 sf_158) ((eh16.1 _ _ (fun q => absurd q (by decide))).trans ex11.symm) ?_
                refine A_imulw d_Seconds_extend_87 (fun x33 _ _ _ => ?_)
                refine A_iload_n 3 d_Seconds_extend_88 rfl rfl ?_
                refine A_iaddw d_Seconds_extend_89 (fun x34 _ _ _ => ?_)
                refine A_callV2 m_Seconds_extend T_ok d_Seconds_extend_90 l_Seconds_53 k_Seconds_extend (xi_s k17.1 sf_158) rfl (by decide +kernel) (by decide) (Nat.le_of_ble_eq_true rfl) (s_Seconds_extend_8 k17.1 (by omega) (by omega)) (fun r h35 hq => ?_)
                obtain ⟨rfl, k36⟩ := hq
                have k37 := kF_t k17 k36 (fun _ q => q)
                refine A_iincv (z := (i8 + 1)) (L' := [some (av_R (some 158)), some (av_I a1), some (av_I a2), some (av_I (i8 + 1))]) d_Seconds_extend_93 rfl (w32_to (by omega) (by unfold i32; omega)) rfl ?_
                refine A_goto (tgt := 25) d_Seconds_extend_96 (by decide) ?_
                exact ih25 (i8 + 1) h35 (by omega) (by omega) k37 (by omega)
    exact lp25 _ 0 h (by omega) (by omega) k0 (Nat.lt_succ_self _)
theorem s_Seconds_extend_6 {G : cx_T} {s : Nat} {h : ah_T} (hx : xi s h) {a1 : Int} {a2 : Int} (la1 : 6 ≤ a1) (ua1 : a1 ≤ 6) : con G 6 0 0 m_Seconds_extend [av_R (some 158), av_I a1, av_I a2] h (fun r h' => r = none ∧ kF FC s h h') := by
  refine con_of (L := [some (av_R (some 158)), some (av_I a1), some (av_I a2), none]) (by decide +kernel) (Nat.le_of_ble_eq_true rfl) rfl ?_
  have hS : isS s := hx.2.1
  have hs0 : s = 17 ∨ s = 80 := hS
  have hs0b : 17 ≤ s ∧ s ≤ 80 := by omega
  have k0 : kF FC s h h := kF_0 hx
  refine A_locI 2 rfl (fun ra => ?_)
  obtain ⟨_, _⟩ := ra
  refine A_iload_n 1 d_Seconds_extend_0 rfl rfl ?_
  refine A_aload_n 0 d_Seconds_extend_1 rfl rfl ?_
  refine A_getIn (lo := 0) (hi := 8) T_ok d_Seconds_extend_2 f_Seconds_47 (xi_s k0.1 sf_158) (xi_g k0.1 (by decide) rgf_158_4) (fun x1 ex1 _ _ => ?_)
  refine A_icmp_ge (tgt := 17) d_Seconds_extend_5 (by decide) (fun c2 => ?_) (fun c2 => ?_)
  · refine A_aload_n 0 d_Seconds_extend_17 rfl rfl ?_
    refine A_iload_n 2 d_Seconds_extend_18 rfl rfl ?_
    refine A_callV1 m_Seconds_keep T_ok d_Seconds_extend_19 l_Seconds_57 k_Seconds_keep (xi_s k0.1 sf_158) rfl (by decide +kernel) (by decide) (Nat.le_of_ble_eq_true rfl) (s_Seconds_keep k0.1 ) (fun r h3 hq => ?_)
    obtain ⟨rfl, k4⟩ := hq
    have k5 := kF_t k0 k4 (fun _ q => q)
    exact A_vret d_Seconds_extend_22 (by decide) rfl ⟨rfl, k5⟩
  · refine A_iload_n 1 d_Seconds_extend_8 rfl rfl ?_
    refine A_aload_n 0 d_Seconds_extend_9 rfl rfl ?_
    refine A_getAv (z := some 161) T_ok d_Seconds_extend_10 f_Seconds_19 (xi_s k0.1 sf_158) (xi_r k0.1 rff_158_7) ?_
    refine A_alenN d_Seconds_extend_13 (xi_s k0.1 sf_161) (by decide) (by decide) ?_
    refine A_icmp_lt (tgt := 23) d_Seconds_extend_14 (by decide) (fun c7 => ?_) (fun c => False.elim (by omega))
    refine A_iconst d_Seconds_extend_23 rfl ?_
    refine A_istore_n 3 (L' := [some (av_R (some 158)), some (av_I a1), some (av_I a2), some (av_I 0)]) d_Seconds_extend_24 rfl (Nat.le_of_ble_eq_true rfl) rfl ?_
    have lp25 : ∀ (n : Nat) (i8 : Int) (h9 : ah_T) , 0 ≤ i8 → i8 ≤ 121 → kF FC s h h9 → (122 - i8).toNat < n → aw G (rm_R 6 0 0) m_Seconds_extend 0 0 25 [some (av_R (some 158)), some (av_I a1), some (av_I a2), some (av_I i8)] [] h9 (fun r h' => r = none ∧ kF FC s h h') := by
      intro n
      induction n with
      | zero => intro i8 h9 _ _ _ hm; omega
      | succ n ih25 =>
        intro i8 h9 hl0 hl1 k10 hm
        refine A_iload_n 3 d_Seconds_extend_25 rfl rfl ?_
        refine A_aload_n 0 d_Seconds_extend_26 rfl rfl ?_
        refine A_getIn (lo := 0) (hi := 121) T_ok d_Seconds_extend_27 f_Seconds_35 (xi_s k10.1 sf_158) (xi_g k10.1 (by decide) rgf_158_3) (fun x11 ex11 _ _ => ?_)
        refine A_icmp_ge (tgt := 99) d_Seconds_extend_30 (by decide) (fun c12 => ?_) (fun c12 => ?_)
        · exact A_vret d_Seconds_extend_99 (by decide) rfl ⟨rfl, k10⟩
        · refine A_aload_n 0 d_Seconds_extend_33 rfl rfl ?_
          refine A_getAv (z := some 161) T_ok d_Seconds_extend_34 f_Seconds_19 (xi_s k10.1 sf_158) (xi_r k10.1 rff_158_7) ?_
          refine A_iload_n 1 d_Seconds_extend_37 rfl rfl ?_
          refine A_aload_n 0 d_Seconds_extend_38 rfl rfl ?_
          refine A_getIf T_ok d_Seconds_extend_39 f_Seconds_32 (xi_s k10.1 sf_158) (fun x14 ex14 _ _ => ?_)
          refine A_pc (pc' := 42) rfl ?_
          refine A_iload_n 3 d_Seconds_extend_42 rfl rfl ?_
          refine A_iaddw d_Seconds_extend_43 (fun x15 _ _ _ => ?_)
          refine A_iastorek (KR := kF FC s h) d_Seconds_extend_44 (xi_s k10.1 sf_161) (by omega) (by omega) (kF_j k10 (by decide) (ns_b rfl) (rgf_161 _) (by omega) (by omega)) (fun h16 k17 eh16 => ?_)
          refine A_aload_n 0 d_Seconds_extend_45 rfl rfl ?_
          refine A_iload_n 1 d_Seconds_extend_46 rfl rfl ?_
          refine A_callV1 m_Seconds_fitsAlone T_ok d_Seconds_extend_47 l_Seconds_61 k_Seconds_fitsAlone (xi_s k17.1 sf_158) rfl (by decide +kernel) (by decide) (Nat.le_of_ble_eq_true rfl) (s_Seconds_fitsAlone k17.1 (by omega) (by omega)) (fun r h18 hq => ?_)
          obtain ⟨x20, rfl, bx20, rfl⟩ := hq
          refine A_if_eq (tgt := 93) d_Seconds_extend_50 (by decide) (fun c21 => ?_) (fun c21 => ?_)
          · refine A_iincv (z := (i8 + 1)) (L' := [some (av_R (some 158)), some (av_I a1), some (av_I a2), some (av_I (i8 + 1))]) d_Seconds_extend_93 rfl (w32_to (by omega) (by unfold i32; omega)) rfl ?_
            refine A_goto (tgt := 25) d_Seconds_extend_96 (by decide) ?_
            exact ih25 (i8 + 1) h16 (by omega) (by omega) k17 (by omega)
          · refine A_iload_n 1 d_Seconds_extend_53 rfl rfl ?_
            refine A_if_eq (tgt := 65) d_Seconds_extend_54 (by decide) (fun c => False.elim (by omega)) (fun c22 => ?_)
            refine A_aload_n 0 d_Seconds_extend_57 rfl rfl ?_
            refine A_iload_n 1 d_Seconds_extend_58 rfl rfl ?_
            refine A_callV1 m_Seconds_fitsBehind T_ok d_Seconds_extend_59 l_Seconds_65 k_Seconds_fitsBehind (xi_s k17.1 sf_158) rfl (by decide +kernel) (by decide) (Nat.le_of_ble_eq_true rfl) (s_Seconds_fitsBehind k17.1 (by omega) (by omega)) (fun r h23 hq => ?_)
            obtain ⟨x25, rfl, bx25, rfl⟩ := hq
            refine A_if_eq (tgt := 93) d_Seconds_extend_62 (by decide) (fun c26 => ?_) (fun c26 => ?_)
            · refine A_iincv (z := (i8 + 1)) (L' := [some (av_R (some 158)), some (av_I a1), some (av_I a2), some (av_I (i8 + 1))]) d_Seconds_extend_93 rfl (w32_to (by omega) (by unfold i32; omega)) rfl ?_
              refine A_goto (tgt := 25) d_Seconds_extend_96 (by decide) ?_
              exact ih25 (i8 + 1) h16 (by omega) (by omega) k17 (by omega)
            · refine A_iload_n 1 d_Seconds_extend_65 rfl rfl ?_
              refine A_iconst d_Seconds_extend_66 rfl ?_
              refine A_icmp_lt (tgt := 78) d_Seconds_extend_67 (by decide) (fun c => False.elim (by omega)) (fun c27 => ?_)
              refine A_aload_n 0 d_Seconds_extend_70 rfl rfl ?_
              refine A_iload_n 1 d_Seconds_extend_71 rfl rfl ?_
              refine A_callV1 m_Seconds_fitsLeap T_ok d_Seconds_extend_72 l_Seconds_68 k_Seconds_fitsLeap (xi_s k17.1 sf_158) rfl (by decide +kernel) (by decide) (Nat.le_of_ble_eq_true rfl) (s_Seconds_fitsLeap k17.1 (by omega) (by omega)) (fun r h28 hq => ?_)
              obtain ⟨x30, rfl, bx30, rfl⟩ := hq
              refine A_if_eq (tgt := 93) d_Seconds_extend_75 (by decide) (fun c31 => ?_) (fun c31 => ?_)
              · refine A_iincv (z := (i8 + 1)) (L' := [some (av_R (some 158)), some (av_I a1), some (av_I a2), some (av_I (i8 + 1))]) d_Seconds_extend_93 rfl (w32_to (by omega) (by unfold i32; omega)) rfl ?_
                refine A_goto (tgt := 25) d_Seconds_extend_96 (by decide) ?_
                exact ih25 (i8 + 1) h16 (by omega) (by omega) k17 (by omega)
              · refine A_aload_n 0 d_Seconds_extend_78 rfl rfl ?_
                refine A_iload_n 1 d_Seconds_extend_79 rfl rfl ?_
                refine A_iconst d_Seconds_extend_80 rfl ?_
                refine A_iaddv (z := (a1 + 1)) d_Seconds_extend_81 (w32_to (by omega) (by unfold i32; omega)) ?_
                refine A_iload_n 2 d_Seconds_extend_82 rfl rfl ?_
                refine A_pc (pc' := 83) rfl ?_
                refine A_aload_n 0 d_Seconds_extend_83 rfl rfl ?_
                refine A_getIv (z := x11) T_ok d_Seconds_extend_84 f_Seconds_35 (xi_s k17.1 sf_158) ((eh16.1 _ _ (fun q => absurd q (by decide))).trans ex11.symm) ?_
                refine A_imulw d_Seconds_extend_87 (fun x33 _ _ _ => ?_)
                refine A_iload_n 3 d_Seconds_extend_88 rfl rfl ?_
                refine A_iaddw d_Seconds_extend_89 (fun x34 _ _ _ => ?_)
                refine A_callV2 m_Seconds_extend T_ok d_Seconds_extend_90 l_Seconds_53 k_Seconds_extend (xi_s k17.1 sf_158) rfl (by decide +kernel) (by decide) (Nat.le_of_ble_eq_true rfl) (s_Seconds_extend_7 k17.1 (by omega) (by omega)) (fun r h35 hq => ?_)
                obtain ⟨rfl, k36⟩ := hq
                have k37 := kF_t k17 k36 (fun _ q => q)
                refine A_iincv (z := (i8 + 1)) (L' := [some (av_R (some 158)), some (av_I a1), some (av_I a2), some (av_I (i8 + 1))]) d_Seconds_extend_93 rfl (w32_to (by omega) (by unfold i32; omega)) rfl ?_
                refine A_goto (tgt := 25) d_Seconds_extend_96 (by decide) ?_
                exact ih25 (i8 + 1) h35 (by omega) (by omega) k37 (by omega)
    exact lp25 _ 0 h (by omega) (by omega) k0 (Nat.lt_succ_self _)
theorem s_Seconds_extend_5 {G : cx_T} {s : Nat} {h : ah_T} (hx : xi s h) {a1 : Int} {a2 : Int} (la1 : 5 ≤ a1) (ua1 : a1 ≤ 5) : con G 7 0 0 m_Seconds_extend [av_R (some 158), av_I a1, av_I a2] h (fun r h' => r = none ∧ kF FC s h h') := by
  refine con_of (L := [some (av_R (some 158)), some (av_I a1), some (av_I a2), none]) (by decide +kernel) (Nat.le_of_ble_eq_true rfl) rfl ?_
  have hS : isS s := hx.2.1
  have hs0 : s = 17 ∨ s = 80 := hS
  have hs0b : 17 ≤ s ∧ s ≤ 80 := by omega
  have k0 : kF FC s h h := kF_0 hx
  refine A_locI 2 rfl (fun ra => ?_)
  obtain ⟨_, _⟩ := ra
  refine A_iload_n 1 d_Seconds_extend_0 rfl rfl ?_
  refine A_aload_n 0 d_Seconds_extend_1 rfl rfl ?_
  refine A_getIn (lo := 0) (hi := 8) T_ok d_Seconds_extend_2 f_Seconds_47 (xi_s k0.1 sf_158) (xi_g k0.1 (by decide) rgf_158_4) (fun x1 ex1 _ _ => ?_)
  refine A_icmp_ge (tgt := 17) d_Seconds_extend_5 (by decide) (fun c2 => ?_) (fun c2 => ?_)
  · refine A_aload_n 0 d_Seconds_extend_17 rfl rfl ?_
    refine A_iload_n 2 d_Seconds_extend_18 rfl rfl ?_
    refine A_callV1 m_Seconds_keep T_ok d_Seconds_extend_19 l_Seconds_57 k_Seconds_keep (xi_s k0.1 sf_158) rfl (by decide +kernel) (by decide) (Nat.le_of_ble_eq_true rfl) (s_Seconds_keep k0.1 ) (fun r h3 hq => ?_)
    obtain ⟨rfl, k4⟩ := hq
    have k5 := kF_t k0 k4 (fun _ q => q)
    exact A_vret d_Seconds_extend_22 (by decide) rfl ⟨rfl, k5⟩
  · refine A_iload_n 1 d_Seconds_extend_8 rfl rfl ?_
    refine A_aload_n 0 d_Seconds_extend_9 rfl rfl ?_
    refine A_getAv (z := some 161) T_ok d_Seconds_extend_10 f_Seconds_19 (xi_s k0.1 sf_158) (xi_r k0.1 rff_158_7) ?_
    refine A_alenN d_Seconds_extend_13 (xi_s k0.1 sf_161) (by decide) (by decide) ?_
    refine A_icmp_lt (tgt := 23) d_Seconds_extend_14 (by decide) (fun c7 => ?_) (fun c => False.elim (by omega))
    refine A_iconst d_Seconds_extend_23 rfl ?_
    refine A_istore_n 3 (L' := [some (av_R (some 158)), some (av_I a1), some (av_I a2), some (av_I 0)]) d_Seconds_extend_24 rfl (Nat.le_of_ble_eq_true rfl) rfl ?_
    have lp25 : ∀ (n : Nat) (i8 : Int) (h9 : ah_T) , 0 ≤ i8 → i8 ≤ 121 → kF FC s h h9 → (122 - i8).toNat < n → aw G (rm_R 7 0 0) m_Seconds_extend 0 0 25 [some (av_R (some 158)), some (av_I a1), some (av_I a2), some (av_I i8)] [] h9 (fun r h' => r = none ∧ kF FC s h h') := by
      intro n
      induction n with
      | zero => intro i8 h9 _ _ _ hm; omega
      | succ n ih25 =>
        intro i8 h9 hl0 hl1 k10 hm
        refine A_iload_n 3 d_Seconds_extend_25 rfl rfl ?_
        refine A_aload_n 0 d_Seconds_extend_26 rfl rfl ?_
        refine A_getIn (lo := 0) (hi := 121) T_ok d_Seconds_extend_27 f_Seconds_35 (xi_s k10.1 sf_158) (xi_g k10.1 (by decide) rgf_158_3) (fun x11 ex11 _ _ => ?_)
        refine A_icmp_ge (tgt := 99) d_Seconds_extend_30 (by decide) (fun c12 => ?_) (fun c12 => ?_)
        · exact A_vret d_Seconds_extend_99 (by decide) rfl ⟨rfl, k10⟩
        · refine A_aload_n 0 d_Seconds_extend_33 rfl rfl ?_
          refine A_getAv (z := some 161) T_ok d_Seconds_extend_34 f_Seconds_19 (xi_s k10.1 sf_158) (xi_r k10.1 rff_158_7) ?_
          refine A_iload_n 1 d_Seconds_extend_37 rfl rfl ?_
          refine A_aload_n 0 d_Seconds_extend_38 rfl rfl ?_
          refine A_getIf T_ok d_Seconds_extend_39 f_Seconds_32 (xi_s k10.1 sf_158) (fun x14 ex14 _ _ => ?_)
          refine A_pc (pc' := 42) rfl ?_
          refine A_iload_n 3 d_Seconds_extend_42 rfl rfl ?_
          refine A_iaddw d_Seconds_extend_43 (fun x15 _ _ _ => ?_)
          refine A_iastorek (KR := kF FC s h) d_Seconds_extend_44 (xi_s k10.1 sf_161) (by omega) (by omega) (kF_j k10 (by decide) (ns_b rfl) (rgf_161 _) (by omega) (by omega)) (fun h16 k17 eh16 => ?_)
          refine A_aload_n 0 d_Seconds_extend_45 rfl rfl ?_
          refine A_iload_n 1 d_Seconds_extend_46 rfl rfl ?_
          refine A_callV1 m_Seconds_fitsAlone T_ok d_Seconds_extend_47 l_Seconds_61 k_Seconds_fitsAlone (xi_s k17.1 sf_158) rfl (by decide +kernel) (by decide) (Nat.le_of_ble_eq_true rfl) (s_Seconds_fitsAlone k17.1 (by omega) (by omega)) (fun r h18 hq => ?_)
          obtain ⟨x20, rfl, bx20, rfl⟩ := hq
          refine A_if_eq (tgt := 93) d_Seconds_extend_50 (by decide) (fun c21 => ?_) (fun c21 => ?_)
          · refine A_iincv (z := (i8 + 1)) (L' := [some (av_R (some 158)), some (av_I a1), some (av_I a2), some (av_I (i8 + 1))]) d_Seconds_extend_93 rfl (w32_to (by omega) (by unfold i32; omega)) rfl ?_
            refine A_goto (tgt := 25) d_Seconds_extend_96 (by decide) ?_
            exact ih25 (i8 + 1) h16 (by omega) (by omega) k17 (by omega)
          · refine A_iload_n 1 d_Seconds_extend_53 rfl rfl ?_
            refine A_if_eq (tgt := 65) d_Seconds_extend_54 (by decide) (fun c => False.elim (by omega)) (fun c22 => ?_)
            refine A_aload_n 0 d_Seconds_extend_57 rfl rfl ?_
            refine A_iload_n 1 d_Seconds_extend_58 rfl rfl ?_
            refine A_callV1 m_Seconds_fitsBehind T_ok d_Seconds_extend_59 l_Seconds_65 k_Seconds_fitsBehind (xi_s k17.1 sf_158) rfl (by decide +kernel) (by decide) (Nat.le_of_ble_eq_true rfl) (s_Seconds_fitsBehind k17.1 (by omega) (by omega)) (fun r h23 hq => ?_)
            obtain ⟨x25, rfl, bx25, rfl⟩ := hq
            refine A_if_eq (tgt := 93) d_Seconds_extend_62 (by decide) (fun c26 => ?_) (fun c26 => ?_)
            · refine A_iincv (z := (i8 + 1)) (L' := [some (av_R (some 158)), some (av_I a1), some (av_I a2), some (av_I (i8 + 1))]) d_Seconds_extend_93 rfl (w32_to (by omega) (by unfold i32; omega)) rfl ?_
              refine A_goto (tgt := 25) d_Seconds_extend_96 (by decide) ?_
              exact ih25 (i8 + 1) h16 (by omega) (by omega) k17 (by omega)
            · refine A_iload_n 1 d_Seconds_extend_65 rfl rfl ?_
              refine A_iconst d_Seconds_extend_66 rfl ?_
              refine A_icmp_lt (tgt := 78) d_Seconds_extend_67 (by decide) (fun c => False.elim (by omega)) (fun c27 => ?_)
              refine A_aload_n 0 d_Seconds_extend_70 rfl rfl ?_
              refine A_iload_n 1 d_Seconds_extend_71 rfl rfl ?_
              refine A_callV1 m_Seconds_fitsLeap T_ok d_Seconds_extend_72 l_Seconds_68 k_Seconds_fitsLeap (xi_s k17.1 sf_158) rfl (by decide +kernel) (by decide) (Nat.le_of_ble_eq_true rfl) (s_Seconds_fitsLeap k17.1 (by omega) (by omega)) (fun r h28 hq => ?_)
              obtain ⟨x30, rfl, bx30, rfl⟩ := hq
              refine A_if_eq (tgt := 93) d_Seconds_extend_75 (by decide) (fun c31 => ?_) (fun c31 => ?_)
              · refine A_iincv (z := (i8 + 1)) (L' := [some (av_R (some 158)), some (av_I a1), some (av_I a2), some (av_I (i8 + 1))]) d_Seconds_extend_93 rfl (w32_to (by omega) (by unfold i32; omega)) rfl ?_
                refine A_goto (tgt := 25) d_Seconds_extend_96 (by decide) ?_
                exact ih25 (i8 + 1) h16 (by omega) (by omega) k17 (by omega)
              · refine A_aload_n 0 d_Seconds_extend_78 rfl rfl ?_
                refine A_iload_n 1 d_Seconds_extend_79 rfl rfl ?_
                refine A_iconst d_Seconds_extend_80 rfl ?_
                refine A_iaddv (z := (a1 + 1)) d_Seconds_extend_81 (w32_to (by omega) (by unfold i32; omega)) ?_
                refine A_iload_n 2 d_Seconds_extend_82 rfl rfl ?_
                refine A_pc (pc' := 83) rfl ?_
                refine A_aload_n 0 d_Seconds_extend_83 rfl rfl ?_
                refine A_getIv (z := x11) T_ok d_Seconds_extend_84 f_Seconds_35 (xi_s k17.1 sf_158) ((eh16.1 _ _ (fun q => absurd q (by decide))).trans ex11.symm) ?_
                refine A_imulw d_Seconds_extend_87 (fun x33 _ _ _ => ?_)
                refine A_iload_n 3 d_Seconds_extend_88 rfl rfl ?_
                refine A_iaddw d_Seconds_extend_89 (fun x34 _ _ _ => ?_)
                refine A_callV2 m_Seconds_extend T_ok d_Seconds_extend_90 l_Seconds_53 k_Seconds_extend (xi_s k17.1 sf_158) rfl (by decide +kernel) (by decide) (Nat.le_of_ble_eq_true rfl) (s_Seconds_extend_6 k17.1 (by omega) (by omega)) (fun r h35 hq => ?_)
                obtain ⟨rfl, k36⟩ := hq
                have k37 := kF_t k17 k36 (fun _ q => q)
                refine A_iincv (z := (i8 + 1)) (L' := [some (av_R (some 158)), some (av_I a1), some (av_I a2), some (av_I (i8 + 1))]) d_Seconds_extend_93 rfl (w32_to (by omega) (by unfold i32; omega)) rfl ?_
                refine A_goto (tgt := 25) d_Seconds_extend_96 (by decide) ?_
                exact ih25 (i8 + 1) h35 (by omega) (by omega) k37 (by omega)
    exact lp25 _ 0 h (by omega) (by omega) k0 (Nat.lt_succ_self _)
theorem s_Seconds_extend_4 {G : cx_T} {s : Nat} {h : ah_T} (hx : xi s h) {a1 : Int} {a2 : Int} (la1 : 4 ≤ a1) (ua1 : a1 ≤ 4) : con G 8 0 0 m_Seconds_extend [av_R (some 158), av_I a1, av_I a2] h (fun r h' => r = none ∧ kF FC s h h') := by
  refine con_of (L := [some (av_R (some 158)), some (av_I a1), some (av_I a2), none]) (by decide +kernel) (Nat.le_of_ble_eq_true rfl) rfl ?_
  have hS : isS s := hx.2.1
  have hs0 : s = 17 ∨ s = 80 := hS
  have hs0b : 17 ≤ s ∧ s ≤ 80 := by omega
  have k0 : kF FC s h h := kF_0 hx
  refine A_locI 2 rfl (fun ra => ?_)
  obtain ⟨_, _⟩ := ra
  refine A_iload_n 1 d_Seconds_extend_0 rfl rfl ?_
  refine A_aload_n 0 d_Seconds_extend_1 rfl rfl ?_
  refine A_getIn (lo := 0) (hi := 8) T_ok d_Seconds_extend_2 f_Seconds_47 (xi_s k0.1 sf_158) (xi_g k0.1 (by decide) rgf_158_4) (fun x1 ex1 _ _ => ?_)
  refine A_icmp_ge (tgt := 17) d_Seconds_extend_5 (by decide) (fun c2 => ?_) (fun c2 => ?_)
  · refine A_aload_n 0 d_Seconds_extend_17 rfl rfl ?_
    refine A_iload_n 2 d_Seconds_extend_18 rfl rfl ?_
    refine A_callV1 m_Seconds_keep T_ok d_Seconds_extend_19 l_Seconds_57 k_Seconds_keep (xi_s k0.1 sf_158) rfl (by decide +kernel) (by decide) (Nat.le_of_ble_eq_true rfl) (s_Seconds_keep k0.1 ) (fun r h3 hq => ?_)
    obtain ⟨rfl, k4⟩ := hq
    have k5 := kF_t k0 k4 (fun _ q => q)
    exact A_vret d_Seconds_extend_22 (by decide) rfl ⟨rfl, k5⟩
  · refine A_iload_n 1 d_Seconds_extend_8 rfl rfl ?_
    refine A_aload_n 0 d_Seconds_extend_9 rfl rfl ?_
    refine A_getAv (z := some 161) T_ok d_Seconds_extend_10 f_Seconds_19 (xi_s k0.1 sf_158) (xi_r k0.1 rff_158_7) ?_
    refine A_alenN d_Seconds_extend_13 (xi_s k0.1 sf_161) (by decide) (by decide) ?_
    refine A_icmp_lt (tgt := 23) d_Seconds_extend_14 (by decide) (fun c7 => ?_) (fun c => False.elim (by omega))
    refine A_iconst d_Seconds_extend_23 rfl ?_
    refine A_istore_n 3 (L' := [some (av_R (some 158)), some (av_I a1), some (av_I a2), some (av_I 0)]) d_Seconds_extend_24 rfl (Nat.le_of_ble_eq_true rfl) rfl ?_
    have lp25 : ∀ (n : Nat) (i8 : Int) (h9 : ah_T) , 0 ≤ i8 → i8 ≤ 121 → kF FC s h h9 → (122 - i8).toNat < n → aw G (rm_R 8 0 0) m_Seconds_extend 0 0 25 [some (av_R (some 158)), some (av_I a1), some (av_I a2), some (av_I i8)] [] h9 (fun r h' => r = none ∧ kF FC s h h') := by
      intro n
      induction n with
      | zero => intro i8 h9 _ _ _ hm; omega
      | succ n ih25 =>
        intro i8 h9 hl0 hl1 k10 hm
        refine A_iload_n 3 d_Seconds_extend_25 rfl rfl ?_
        refine A_aload_n 0 d_Seconds_extend_26 rfl rfl ?_
        refine A_getIn (lo := 0) (hi := 121) T_ok d_Seconds_extend_27 f_Seconds_35 (xi_s k10.1 sf_158) (xi_g k10.1 (by decide) rgf_158_3) (fun x11 ex11 _ _ => ?_)
        refine A_icmp_ge (tgt := 99) d_Seconds_extend_30 (by decide) (fun c12 => ?_) (fun c12 => ?_)
        · exact A_vret d_Seconds_extend_99 (by decide) rfl ⟨rfl, k10⟩
        · refine A_aload_n 0 d_Seconds_extend_33 rfl rfl ?_
          refine A_getAv (z := some 161) T_ok d_Seconds_extend_34 f_Seconds_19 (xi_s k10.1 sf_158) (xi_r k10.1 rff_158_7) ?_
          refine A_iload_n 1 d_Seconds_extend_37 rfl rfl ?_
          refine A_aload_n 0 d_Seconds_extend_38 rfl rfl ?_
          refine A_getIf T_ok d_Seconds_extend_39 f_Seconds_32 (xi_s k10.1 sf_158) (fun x14 ex14 _ _ => ?_)
          refine A_pc (pc' := 42) rfl ?_
          refine A_iload_n 3 d_Seconds_extend_42 rfl rfl ?_
          refine A_iaddw d_Seconds_extend_43 (fun x15 _ _ _ => ?_)
          refine A_iastorek (KR := kF FC s h) d_Seconds_extend_44 (xi_s k10.1 sf_161) (by omega) (by omega) (kF_j k10 (by decide) (ns_b rfl) (rgf_161 _) (by omega) (by omega)) (fun h16 k17 eh16 => ?_)
          refine A_aload_n 0 d_Seconds_extend_45 rfl rfl ?_
          refine A_iload_n 1 d_Seconds_extend_46 rfl rfl ?_
          refine A_callV1 m_Seconds_fitsAlone T_ok d_Seconds_extend_47 l_Seconds_61 k_Seconds_fitsAlone (xi_s k17.1 sf_158) rfl (by decide +kernel) (by decide) (Nat.le_of_ble_eq_true rfl) (s_Seconds_fitsAlone k17.1 (by omega) (by omega)) (fun r h18 hq => ?_)
          obtain ⟨x20, rfl, bx20, rfl⟩ := hq
          refine A_if_eq (tgt := 93) d_Seconds_extend_50 (by decide) (fun c21 => ?_) (fun c21 => ?_)
          · refine A_iincv (z := (i8 + 1)) (L' := [some (av_R (some 158)), some (av_I a1), some (av_I a2), some (av_I (i8 + 1))]) d_Seconds_extend_93 rfl (w32_to (by omega) (by unfold i32; omega)) rfl ?_
            refine A_goto (tgt := 25) d_Seconds_extend_96 (by decide) ?_
            exact ih25 (i8 + 1) h16 (by omega) (by omega) k17 (by omega)
          · refine A_iload_n 1 d_Seconds_extend_53 rfl rfl ?_
            refine A_if_eq (tgt := 65) d_Seconds_extend_54 (by decide) (fun c => False.elim (by omega)) (fun c22 => ?_)
            refine A_aload_n 0 d_Seconds_extend_57 rfl rfl ?_
            refine A_iload_n 1 d_Seconds_extend_58 rfl rfl ?_
            refine A_callV1 m_Seconds_fitsBehind T_ok d_Seconds_extend_59 l_Seconds_65 k_Seconds_fitsBehind (xi_s k17.1 sf_158) rfl (by decide +kernel) (by decide) (Nat.le_of_ble_eq_true rfl) (s_Seconds_fitsBehind k17.1 (by omega) (by omega)) (fun r h23 hq => ?_)
            obtain ⟨x25, rfl, bx25, rfl⟩ := hq
            refine A_if_eq (tgt := 93) d_Seconds_extend_62 (by decide) (fun c26 => ?_) (fun c26 => ?_)
            · refine A_iincv (z := (i8 + 1)) (L' := [some (av_R (some 158)), some (av_I a1), some (av_I a2), some (av_I (i8 + 1))]) d_Seconds_extend_93 rfl (w32_to (by omega) (by unfold i32; omega)) rfl ?_
              refine A_goto (tgt := 25) d_Seconds_extend_96 (by decide) ?_
              exact ih25 (i8 + 1) h16 (by omega) (by omega) k17 (by omega)
            · refine A_iload_n 1 d_Seconds_extend_65 rfl rfl ?_
              refine A_iconst d_Seconds_extend_66 rfl ?_
              refine A_icmp_lt (tgt := 78) d_Seconds_extend_67 (by decide) (fun c => False.elim (by omega)) (fun c27 => ?_)
              refine A_aload_n 0 d_Seconds_extend_70 rfl rfl ?_
              refine A_iload_n 1 d_Seconds_extend_71 rfl rfl ?_
              refine A_callV1 m_Seconds_fitsLeap T_ok d_Seconds_extend_72 l_Seconds_68 k_Seconds_fitsLeap (xi_s k17.1 sf_158) rfl (by decide +kernel) (by decide) (Nat.le_of_ble_eq_true rfl) (s_Seconds_fitsLeap k17.1 (by omega) (by omega)) (fun r h28 hq => ?_)
              obtain ⟨x30, rfl, bx30, rfl⟩ := hq
              refine A_if_eq (tgt := 93) d_Seconds_extend_75 (by decide) (fun c31 => ?_) (fun c31 => ?_)
              · refine A_iincv (z := (i8 + 1)) (L' := [some (av_R (some 158)), some (av_I a1), some (av_I a2), some (av_I (i8 + 1))]) d_Seconds_extend_93 rfl (w32_to (by omega) (by unfold i32; omega)) rfl ?_
                refine A_goto (tgt := 25) d_Seconds_extend_96 (by decide) ?_
                exact ih25 (i8 + 1) h16 (by omega) (by omega) k17 (by omega)
              · refine A_aload_n 0 d_Seconds_extend_78 rfl rfl ?_
                refine A_iload_n 1 d_Seconds_extend_79 rfl rfl ?_
                refine A_iconst d_Seconds_extend_80 rfl ?_
                refine A_iaddv (z := (a1 + 1)) d_Seconds_extend_81 (w32_to (by omega) (by unfold i32; omega)) ?_
                refine A_iload_n 2 d_Seconds_extend_82 rfl rfl ?_
                refine A_pc (pc' := 83) rfl ?_
                refine A_aload_n 0 d_Seconds_extend_83 rfl rfl ?_
                refine A_getIv (z := x11) T_ok d_Seconds_extend_84 f_Seconds_35 (xi_s k17.1 sf_158) ((eh16.1 _ _ (fun q => absurd q (by decide))).trans ex11.symm) ?_
                refine A_imulw d_Seconds_extend_87 (fun x33 _ _ _ => ?_)
                refine A_iload_n 3 d_Seconds_extend_88 rfl rfl ?_
                refine A_iaddw d_Seconds_extend_89 (fun x34 _ _ _ => ?_)
                refine A_callV2 m_Seconds_extend T_ok d_Seconds_extend_90 l_Seconds_53 k_Seconds_extend (xi_s k17.1 sf_158) rfl (by decide +kernel) (by decide) (Nat.le_of_ble_eq_true rfl) (s_Seconds_extend_5 k17.1 (by omega) (by omega)) (fun r h35 hq => ?_)
                obtain ⟨rfl, k36⟩ := hq
                have k37 := kF_t k17 k36 (fun _ q => q)
                refine A_iincv (z := (i8 + 1)) (L' := [some (av_R (some 158)), some (av_I a1), some (av_I a2), some (av_I (i8 + 1))]) d_Seconds_extend_93 rfl (w32_to (by omega) (by unfold i32; omega)) rfl ?_
                refine A_goto (tgt := 25) d_Seconds_extend_96 (by decide) ?_
                exact ih25 (i8 + 1) h35 (by omega) (by omega) k37 (by omega)
    exact lp25 _ 0 h (by omega) (by omega) k0 (Nat.lt_succ_self _)
theorem s_Seconds_extend_3 {G : cx_T} {s : Nat} {h : ah_T} (hx : xi s h) {a1 : Int} {a2 : Int} (la1 : 3 ≤ a1) (ua1 : a1 ≤ 3) : con G 9 0 0 m_Seconds_extend [av_R (some 158), av_I a1, av_I a2] h (fun r h' => r = none ∧ kF FC s h h') := by
  refine con_of (L := [some (av_R (some 158)), some (av_I a1), some (av_I a2), none]) (by decide +kernel) (Nat.le_of_ble_eq_true rfl) rfl ?_
  have hS : isS s := hx.2.1
  have hs0 : s = 17 ∨ s = 80 := hS
  have hs0b : 17 ≤ s ∧ s ≤ 80 := by omega
  have k0 : kF FC s h h := kF_0 hx
  refine A_locI 2 rfl (fun ra => ?_)
  obtain ⟨_, _⟩ := ra
  refine A_iload_n 1 d_Seconds_extend_0 rfl rfl ?_
  refine A_aload_n 0 d_Seconds_extend_1 rfl rfl ?_
  refine A_getIn (lo := 0) (hi := 8) T_ok d_Seconds_extend_2 f_Seconds_47 (xi_s k0.1 sf_158) (xi_g k0.1 (by decide) rgf_158_4) (fun x1 ex1 _ _ => ?_)
  refine A_icmp_ge (tgt := 17) d_Seconds_extend_5 (by decide) (fun c2 => ?_) (fun c2 => ?_)
  · refine A_aload_n 0 d_Seconds_extend_17 rfl rfl ?_
    refine A_iload_n 2 d_Seconds_extend_18 rfl rfl ?_
    refine A_callV1 m_Seconds_keep T_ok d_Seconds_extend_19 l_Seconds_57 k_Seconds_keep (xi_s k0.1 sf_158) rfl (by decide +kernel) (by decide) (Nat.le_of_ble_eq_true rfl) (s_Seconds_keep k0.1 ) (fun r h3 hq => ?_)
    obtain ⟨rfl, k4⟩ := hq
    have k5 := kF_t k0 k4 (fun _ q => q)
    exact A_vret d_Seconds_extend_22 (by decide) rfl ⟨rfl, k5⟩
  · refine A_iload_n 1 d_Seconds_extend_8 rfl rfl ?_
    refine A_aload_n 0 d_Seconds_extend_9 rfl rfl ?_
    refine A_getAv (z := some 161) T_ok d_Seconds_extend_10 f_Seconds_19 (xi_s k0.1 sf_158) (xi_r k0.1 rff_158_7) ?_
    refine A_alenN d_Seconds_extend_13 (xi_s k0.1 sf_161) (by decide) (by decide) ?_
    refine A_icmp_lt (tgt := 23) d_Seconds_extend_14 (by decide) (fun c7 => ?_) (fun c => False.elim (by omega))
    refine A_iconst d_Seconds_extend_23 rfl ?_
    refine A_istore_n 3 (L' := [some (av_R (some 158)), some (av_I a1), some (av_I a2), some (av_I 0)]) d_Seconds_extend_24 rfl (Nat.le_of_ble_eq_true rfl) rfl ?_
    have lp25 : ∀ (n : Nat) (i8 : Int) (h9 : ah_T) , 0 ≤ i8 → i8 ≤ 121 → kF FC s h h9 → (122 - i8).toNat < n → aw G (rm_R 9 0 0) m_Seconds_extend 0 0 25 [some (av_R (some 158)), some (av_I a1), some (av_I a2), some (av_I i8)] [] h9 (fun r h' => r = none ∧ kF FC s h h') := by
      intro n
      induction n with
      | zero => intro i8 h9 _ _ _ hm; omega
      | succ n ih25 =>
        intro i8 h9 hl0 hl1 k10 hm
        refine A_iload_n 3 d_Seconds_extend_25 rfl rfl ?_
        refine A_aload_n 0 d_Seconds_extend_26 rfl rfl ?_
        refine A_getIn (lo := 0) (hi := 121) T_ok d_Seconds_extend_27 f_Seconds_35 (xi_s k10.1 sf_158) (xi_g k10.1 (by decide) rgf_158_3) (fun x11 ex11 _ _ => ?_)
        refine A_icmp_ge (tgt := 99) d_Seconds_extend_30 (by decide) (fun c12 => ?_) (fun c12 => ?_)
        · exact A_vret d_Seconds_extend_99 (by decide) rfl ⟨rfl, k10⟩
        · refine A_aload_n 0 d_Seconds_extend_33 rfl rfl ?_
          refine A_getAv (z := some 161) T_ok d_Seconds_extend_34 f_Seconds_19 (xi_s k10.1 sf_158) (xi_r k10.1 rff_158_7) ?_
          refine A_iload_n 1 d_Seconds_extend_37 rfl rfl ?_
          refine A_aload_n 0 d_Seconds_extend_38 rfl rfl ?_
          refine A_getIf T_ok d_Seconds_extend_39 f_Seconds_32 (xi_s k10.1 sf_158) (fun x14 ex14 _ _ => ?_)
          refine A_pc (pc' := 42) rfl ?_
          refine A_iload_n 3 d_Seconds_extend_42 rfl rfl ?_
          refine A_iaddw d_Seconds_extend_43 (fun x15 _ _ _ => ?_)
          refine A_iastorek (KR := kF FC s h) d_Seconds_extend_44 (xi_s k10.1 sf_161) (by omega) (by omega) (kF_j k10 (by decide) (ns_b rfl) (rgf_161 _) (by omega) (by omega)) (fun h16 k17 eh16 => ?_)
          refine A_aload_n 0 d_Seconds_extend_45 rfl rfl ?_
          refine A_iload_n 1 d_Seconds_extend_46 rfl rfl ?_
          refine A_callV1 m_Seconds_fitsAlone T_ok d_Seconds_extend_47 l_Seconds_61 k_Seconds_fitsAlone (xi_s k17.1 sf_158) rfl (by decide +kernel) (by decide) (Nat.le_of_ble_eq_true rfl) (s_Seconds_fitsAlone k17.1 (by omega) (by omega)) (fun r h18 hq => ?_)
          obtain ⟨x20, rfl, bx20, rfl⟩ := hq
          refine A_if_eq (tgt := 93) d_Seconds_extend_50 (by decide) (fun c21 => ?_) (fun c21 => ?_)
          · refine A_iincv (z := (i8 + 1)) (L' := [some (av_R (some 158)), some (av_I a1), some (av_I a2), some (av_I (i8 + 1))]) d_Seconds_extend_93 rfl (w32_to (by omega) (by unfold i32; omega)) rfl ?_
            refine A_goto (tgt := 25) d_Seconds_extend_96 (by decide) ?_
            exact ih25 (i8 + 1) h16 (by omega) (by omega) k17 (by omega)
          · refine A_iload_n 1 d_Seconds_extend_53 rfl rfl ?_
            refine A_if_eq (tgt := 65) d_Seconds_extend_54 (by decide) (fun c => False.elim (by omega)) (fun c22 => ?_)
            refine A_aload_n 0 d_Seconds_extend_57 rfl rfl ?_
            refine A_iload_n 1 d_Seconds_extend_58 rfl rfl ?_
            refine A_callV1 m_Seconds_fitsBehind T_ok d_Seconds_extend_59 l_Seconds_65 k_Seconds_fitsBehind (xi_s k17.1 sf_158) rfl (by decide +kernel) (by decide) (Nat.le_of_ble_eq_true rfl) (s_Seconds_fitsBehind k17.1 (by omega) (by omega)) (fun r h23 hq => ?_)
            obtain ⟨x25, rfl, bx25, rfl⟩ := hq
            refine A_if_eq (tgt := 93) d_Seconds_extend_62 (by decide) (fun c26 => ?_) (fun c26 => ?_)
            · refine A_iincv (z := (i8 + 1)) (L' := [some (av_R (some 158)), some (av_I a1), some (av_I a2), some (av_I (i8 + 1))]) d_Seconds_extend_93 rfl (w32_to (by omega) (by unfold i32; omega)) rfl ?_
              refine A_goto (tgt := 25) d_Seconds_extend_96 (by decide) ?_
              exact ih25 (i8 + 1) h16 (by omega) (by omega) k17 (by omega)
            · refine A_iload_n 1 d_Seconds_extend_65 rfl rfl ?_
              refine A_iconst d_Seconds_extend_66 rfl ?_
              refine A_icmp_lt (tgt := 78) d_Seconds_extend_67 (by decide) (fun c => False.elim (by omega)) (fun c27 => ?_)
              refine A_aload_n 0 d_Seconds_extend_70 rfl rfl ?_
              refine A_iload_n 1 d_Seconds_extend_71 rfl rfl ?_
              refine A_callV1 m_Seconds_fitsLeap T_ok d_Seconds_extend_72 l_Seconds_68 k_Seconds_fitsLeap (xi_s k17.1 sf_158) rfl (by decide +kernel) (by decide) (Nat.le_of_ble_eq_true rfl) (s_Seconds_fitsLeap k17.1 (by omega) (by omega)) (fun r h28 hq => ?_)
              obtain ⟨x30, rfl, bx30, rfl⟩ := hq
              refine A_if_eq (tgt := 93) d_Seconds_extend_75 (by decide) (fun c31 => ?_) (fun c31 => ?_)
              · refine A_iincv (z := (i8 + 1)) (L' := [some (av_R (some 158)), some (av_I a1), some (av_I a2), some (av_I (i8 + 1))]) d_Seconds_extend_93 rfl (w32_to (by omega) (by unfold i32; omega)) rfl ?_
                refine A_goto (tgt := 25) d_Seconds_extend_96 (by decide) ?_
                exact ih25 (i8 + 1) h16 (by omega) (by omega) k17 (by omega)
              · refine A_aload_n 0 d_Seconds_extend_78 rfl rfl ?_
                refine A_iload_n 1 d_Seconds_extend_79 rfl rfl ?_
                refine A_iconst d_Seconds_extend_80 rfl ?_
                refine A_iaddv (z := (a1 + 1)) d_Seconds_extend_81 (w32_to (by omega) (by unfold i32; omega)) ?_
                refine A_iload_n 2 d_Seconds_extend_82 rfl rfl ?_
                refine A_pc (pc' := 83) rfl ?_
                refine A_aload_n 0 d_Seconds_extend_83 rfl rfl ?_
                refine A_getIv (z := x11) T_ok d_Seconds_extend_84 f_Seconds_35 (xi_s k17.1 sf_158) ((eh16.1 _ _ (fun q => absurd q (by decide))).trans ex11.symm) ?_
                refine A_imulw d_Seconds_extend_87 (fun x33 _ _ _ => ?_)
                refine A_iload_n 3 d_Seconds_extend_88 rfl rfl ?_
                refine A_iaddw d_Seconds_extend_89 (fun x34 _ _ _ => ?_)
                refine A_callV2 m_Seconds_extend T_ok d_Seconds_extend_90 l_Seconds_53 k_Seconds_extend (xi_s k17.1 sf_158) rfl (by decide +kernel) (by decide) (Nat.le_of_ble_eq_true rfl) (s_Seconds_extend_4 k17.1 (by omega) (by omega)) (fun r h35 hq => ?_)
                obtain ⟨rfl, k36⟩ := hq
                have k37 := kF_t k17 k36 (fun _ q => q)
                refine A_iincv (z := (i8 + 1)) (L' := [some (av_R (some 158)), some (av_I a1), some (av_I a2), some (av_I (i8 + 1))]) d_Seconds_extend_93 rfl (w32_to (by omega) (by unfold i32; omega)) rfl ?_
                refine A_goto (tgt := 25) d_Seconds_extend_96 (by decide) ?_
                exact ih25 (i8 + 1) h35 (by omega) (by omega) k37 (by omega)
    exact lp25 _ 0 h (by omega) (by omega) k0 (Nat.lt_succ_self _)
theorem s_Seconds_extend_2 {G : cx_T} {s : Nat} {h : ah_T} (hx : xi s h) {a1 : Int} {a2 : Int} (la1 : 2 ≤ a1) (ua1 : a1 ≤ 2) : con G 10 0 0 m_Seconds_extend [av_R (some 158), av_I a1, av_I a2] h (fun r h' => r = none ∧ kF FC s h h') := by
  refine con_of (L := [some (av_R (some 158)), some (av_I a1), some (av_I a2), none]) (by decide +kernel) (Nat.le_of_ble_eq_true rfl) rfl ?_
  have hS : isS s := hx.2.1
  have hs0 : s = 17 ∨ s = 80 := hS
  have hs0b : 17 ≤ s ∧ s ≤ 80 := by omega
  have k0 : kF FC s h h := kF_0 hx
  refine A_locI 2 rfl (fun ra => ?_)
  obtain ⟨_, _⟩ := ra
  refine A_iload_n 1 d_Seconds_extend_0 rfl rfl ?_
  refine A_aload_n 0 d_Seconds_extend_1 rfl rfl ?_
  refine A_getIn (lo := 0) (hi := 8) T_ok d_Seconds_extend_2 f_Seconds_47 (xi_s k0.1 sf_158) (xi_g k0.1 (by decide) rgf_158_4) (fun x1 ex1 _ _ => ?_)
  refine A_icmp_ge (tgt := 17) d_Seconds_extend_5 (by decide) (fun c2 => ?_) (fun c2 => ?_)
  · refine A_aload_n 0 d_Seconds_extend_17 rfl rfl ?_
    refine A_iload_n 2 d_Seconds_extend_18 rfl rfl ?_
    refine A_callV1 m_Seconds_keep T_ok d_Seconds_extend_19 l_Seconds_57 k_Seconds_keep (xi_s k0.1 sf_158) rfl (by decide +kernel) (by decide) (Nat.le_of_ble_eq_true rfl) (s_Seconds_keep k0.1 ) (fun r h3 hq => ?_)
    obtain ⟨rfl, k4⟩ := hq
    have k5 := kF_t k0 k4 (fun _ q => q)
    exact A_vret d_Seconds_extend_22 (by decide) rfl ⟨rfl, k5⟩
  · refine A_iload_n 1 d_Seconds_extend_8 rfl rfl ?_
    refine A_aload_n 0 d_Seconds_extend_9 rfl rfl ?_
    refine A_getAv (z := some 161) T_ok d_Seconds_extend_10 f_Seconds_19 (xi_s k0.1 sf_158) (xi_r k0.1 rff_158_7) ?_
    refine A_alenN d_Seconds_extend_13 (xi_s k0.1 sf_161) (by decide) (by decide) ?_
    refine A_icmp_lt (tgt := 23) d_Seconds_extend_14 (by decide) (fun c7 => ?_) (fun c => False.elim (by omega))
    refine A_iconst d_Seconds_extend_23 rfl ?_
    refine A_istore_n 3 (L' := [some (av_R (some 158)), some (av_I a1), some (av_I a2), some (av_I 0)]) d_Seconds_extend_24 rfl (Nat.le_of_ble_eq_true rfl) rfl ?_
    have lp25 : ∀ (n : Nat) (i8 : Int) (h9 : ah_T) , 0 ≤ i8 → i8 ≤ 121 → kF FC s h h9 → (122 - i8).toNat < n → aw G (rm_R 10 0 0) m_Seconds_extend 0 0 25 [some (av_R (some 158)), some (av_I a1), some (av_I a2), some (av_I i8)] [] h9 (fun r h' => r = none ∧ kF FC s h h') := by
      intro n
      induction n with
      | zero => intro i8 h9 _ _ _ hm; omega
      | succ n ih25 =>
        intro i8 h9 hl0 hl1 k10 hm
        refine A_iload_n 3 d_Seconds_extend_25 rfl rfl ?_
        refine A_aload_n 0 d_Seconds_extend_26 rfl rfl ?_
        refine A_getIn (lo := 0) (hi := 121) T_ok d_Seconds_extend_27 f_Seconds_35 (xi_s k10.1 sf_158) (xi_g k10.1 (by decide) rgf_158_3) (fun x11 ex11 _ _ => ?_)
        refine A_icmp_ge (tgt := 99) d_Seconds_extend_30 (by decide) (fun c12 => ?_) (fun c12 => ?_)
        · exact A_vret d_Seconds_extend_99 (by decide) rfl ⟨rfl, k10⟩
        · refine A_aload_n 0 d_Seconds_extend_33 rfl rfl ?_
          refine A_getAv (z := some 161) T_ok d_Seconds_extend_34 f_Seconds_19 (xi_s k10.1 sf_158) (xi_r k10.1 rff_158_7) ?_
          refine A_iload_n 1 d_Seconds_extend_37 rfl rfl ?_
          refine A_aload_n 0 d_Seconds_extend_38 rfl rfl ?_
          refine A_getIf T_ok d_Seconds_extend_39 f_Seconds_32 (xi_s k10.1 sf_158) (fun x14 ex14 _ _ => ?_)
          refine A_pc (pc' := 42) rfl ?_
          refine A_iload_n 3 d_Seconds_extend_42 rfl rfl ?_
          refine A_iaddw d_Seconds_extend_43 (fun x15 _ _ _ => ?_)
          refine A_iastorek (KR := kF FC s h) d_Seconds_extend_44 (xi_s k10.1 sf_161) (by omega) (by omega) (kF_j k10 (by decide) (ns_b rfl) (rgf_161 _) (by omega) (by omega)) (fun h16 k17 eh16 => ?_)
          refine A_aload_n 0 d_Seconds_extend_45 rfl rfl ?_
          refine A_iload_n 1 d_Seconds_extend_46 rfl rfl ?_
          refine A_callV1 m_Seconds_fitsAlone T_ok d_Seconds_extend_47 l_Seconds_61 k_Seconds_fitsAlone (xi_s k17.1 sf_158) rfl (by decide +kernel) (by decide) (Nat.le_of_ble_eq_true rfl) (s_Seconds_fitsAlone k17.1 (by omega) (by omega)) (fun r h18 hq => ?_)
          obtain ⟨x20, rfl, bx20, rfl⟩ := hq
          refine A_if_eq (tgt := 93) d_Seconds_extend_50 (by decide) (fun c21 => ?_) (fun c21 => ?_)
          · refine A_iincv (z := (i8 + 1)) (L' := [some (av_R (some 158)), some (av_I a1), some (av_I a2), some (av_I (i8 + 1))]) d_Seconds_extend_93 rfl (w32_to (by omega) (by unfold i32; omega)) rfl ?_
            refine A_goto (tgt := 25) d_Seconds_extend_96 (by decide) ?_
            exact ih25 (i8 + 1) h16 (by omega) (by omega) k17 (by omega)
          · refine A_iload_n 1 d_Seconds_extend_53 rfl rfl ?_
            refine A_if_eq (tgt := 65) d_Seconds_extend_54 (by decide) (fun c => False.elim (by omega)) (fun c22 => ?_)
            refine A_aload_n 0 d_Seconds_extend_57 rfl rfl ?_
            refine A_iload_n 1 d_Seconds_extend_58 rfl rfl ?_
            refine A_callV1 m_Seconds_fitsBehind T_ok d_Seconds_extend_59 l_Seconds_65 k_Seconds_fitsBehind (xi_s k17.1 sf_158) rfl (by decide +kernel) (by decide) (Nat.le_of_ble_eq_true rfl) (s_Seconds_fitsBehind k17.1 (by omega) (by omega)) (fun r h23 hq => ?_)
            obtain ⟨x25, rfl, bx25, rfl⟩ := hq
            refine A_if_eq (tgt := 93) d_Seconds_extend_62 (by decide) (fun c26 => ?_) (fun c26 => ?_)
            · refine A_iincv (z := (i8 + 1)) (L' := [some (av_R (some 158)), some (av_I a1), some (av_I a2), some (av_I (i8 + 1))]) d_Seconds_extend_93 rfl (w32_to (by omega) (by unfold i32; omega)) rfl ?_
              refine A_goto (tgt := 25) d_Seconds_extend_96 (by decide) ?_
              exact ih25 (i8 + 1) h16 (by omega) (by omega) k17 (by omega)
            · refine A_iload_n 1 d_Seconds_extend_65 rfl rfl ?_
              refine A_iconst d_Seconds_extend_66 rfl ?_
              refine A_icmp_lt (tgt := 78) d_Seconds_extend_67 (by decide) (fun c => False.elim (by omega)) (fun c27 => ?_)
              refine A_aload_n 0 d_Seconds_extend_70 rfl rfl ?_
              refine A_iload_n 1 d_Seconds_extend_71 rfl rfl ?_
              refine A_callV1 m_Seconds_fitsLeap T_ok d_Seconds_extend_72 l_Seconds_68 k_Seconds_fitsLeap (xi_s k17.1 sf_158) rfl (by decide +kernel) (by decide) (Nat.le_of_ble_eq_true rfl) (s_Seconds_fitsLeap k17.1 (by omega) (by omega)) (fun r h28 hq => ?_)
              obtain ⟨x30, rfl, bx30, rfl⟩ := hq
              refine A_if_eq (tgt := 93) d_Seconds_extend_75 (by decide) (fun c31 => ?_) (fun c31 => ?_)
              · refine A_iincv (z := (i8 + 1)) (L' := [some (av_R (some 158)), some (av_I a1), some (av_I a2), some (av_I (i8 + 1))]) d_Seconds_extend_93 rfl (w32_to (by omega) (by unfold i32; omega)) rfl ?_
                refine A_goto (tgt := 25) d_Seconds_extend_96 (by decide) ?_
                exact ih25 (i8 + 1) h16 (by omega) (by omega) k17 (by omega)
              · refine A_aload_n 0 d_Seconds_extend_78 rfl rfl ?_
                refine A_iload_n 1 d_Seconds_extend_79 rfl rfl ?_
                refine A_iconst d_Seconds_extend_80 rfl ?_
                refine A_iaddv (z := (a1 + 1)) d_Seconds_extend_81 (w32_to (by omega) (by unfold i32; omega)) ?_
                refine A_iload_n 2 d_Seconds_extend_82 rfl rfl ?_
                refine A_pc (pc' := 83) rfl ?_
                refine A_aload_n 0 d_Seconds_extend_83 rfl rfl ?_
                refine A_getIv (z := x11) T_ok d_Seconds_extend_84 f_Seconds_35 (xi_s k17.1 sf_158) ((eh16.1 _ _ (fun q => absurd q (by decide))).trans ex11.symm) ?_
                refine A_imulw d_Seconds_extend_87 (fun x33 _ _ _ => ?_)
                refine A_iload_n 3 d_Seconds_extend_88 rfl rfl ?_
                refine A_iaddw d_Seconds_extend_89 (fun x34 _ _ _ => ?_)
                refine A_callV2 m_Seconds_extend T_ok d_Seconds_extend_90 l_Seconds_53 k_Seconds_extend (xi_s k17.1 sf_158) rfl (by decide +kernel) (by decide) (Nat.le_of_ble_eq_true rfl) (s_Seconds_extend_3 k17.1 (by omega) (by omega)) (fun r h35 hq => ?_)
                obtain ⟨rfl, k36⟩ := hq
                have k37 := kF_t k17 k36 (fun _ q => q)
                refine A_iincv (z := (i8 + 1)) (L' := [some (av_R (some 158)), some (av_I a1), some (av_I a2), some (av_I (i8 + 1))]) d_Seconds_extend_93 rfl (w32_to (by omega) (by unfold i32; omega)) rfl ?_
                refine A_goto (tgt := 25) d_Seconds_extend_96 (by decide) ?_
                exact ih25 (i8 + 1) h35 (by omega) (by omega) k37 (by omega)
    exact lp25 _ 0 h (by omega) (by omega) k0 (Nat.lt_succ_self _)
theorem s_Seconds_extend_1 {G : cx_T} {s : Nat} {h : ah_T} (hx : xi s h) {a1 : Int} {a2 : Int} (la1 : 1 ≤ a1) (ua1 : a1 ≤ 1) : con G 11 0 0 m_Seconds_extend [av_R (some 158), av_I a1, av_I a2] h (fun r h' => r = none ∧ kF FC s h h') := by
  refine con_of (L := [some (av_R (some 158)), some (av_I a1), some (av_I a2), none]) (by decide +kernel) (Nat.le_of_ble_eq_true rfl) rfl ?_
  have hS : isS s := hx.2.1
  have hs0 : s = 17 ∨ s = 80 := hS
  have hs0b : 17 ≤ s ∧ s ≤ 80 := by omega
  have k0 : kF FC s h h := kF_0 hx
  refine A_locI 2 rfl (fun ra => ?_)
  obtain ⟨_, _⟩ := ra
  refine A_iload_n 1 d_Seconds_extend_0 rfl rfl ?_
  refine A_aload_n 0 d_Seconds_extend_1 rfl rfl ?_
  refine A_getIn (lo := 0) (hi := 8) T_ok d_Seconds_extend_2 f_Seconds_47 (xi_s k0.1 sf_158) (xi_g k0.1 (by decide) rgf_158_4) (fun x1 ex1 _ _ => ?_)
  refine A_icmp_ge (tgt := 17) d_Seconds_extend_5 (by decide) (fun c2 => ?_) (fun c2 => ?_)
  · refine A_aload_n 0 d_Seconds_extend_17 rfl rfl ?_
    refine A_iload_n 2 d_Seconds_extend_18 rfl rfl ?_
    refine A_callV1 m_Seconds_keep T_ok d_Seconds_extend_19 l_Seconds_57 k_Seconds_keep (xi_s k0.1 sf_158) rfl (by decide +kernel) (by decide) (Nat.le_of_ble_eq_true rfl) (s_Seconds_keep k0.1 ) (fun r h3 hq => ?_)
    obtain ⟨rfl, k4⟩ := hq
    have k5 := kF_t k0 k4 (fun _ q => q)
    exact A_vret d_Seconds_extend_22 (by decide) rfl ⟨rfl, k5⟩
  · refine A_iload_n 1 d_Seconds_extend_8 rfl rfl ?_
    refine A_aload_n 0 d_Seconds_extend_9 rfl rfl ?_
    refine A_getAv (z := some 161) T_ok d_Seconds_extend_10 f_Seconds_19 (xi_s k0.1 sf_158) (xi_r k0.1 rff_158_7) ?_
    refine A_alenN d_Seconds_extend_13 (xi_s k0.1 sf_161) (by decide) (by decide) ?_
    refine A_icmp_lt (tgt := 23) d_Seconds_extend_14 (by decide) (fun c7 => ?_) (fun c => False.elim (by omega))
    refine A_iconst d_Seconds_extend_23 rfl ?_
    refine A_istore_n 3 (L' := [some (av_R (some 158)), some (av_I a1), some (av_I a2), some (av_I 0)]) d_Seconds_extend_24 rfl (Nat.le_of_ble_eq_true rfl) rfl ?_
    have lp25 : ∀ (n : Nat) (i8 : Int) (h9 : ah_T) , 0 ≤ i8 → i8 ≤ 121 → kF FC s h h9 → (122 - i8).toNat < n → aw G (rm_R 11 0 0) m_Seconds_extend 0 0 25 [some (av_R (some 158)), some (av_I a1), some (av_I a2), some (av_I i8)] [] h9 (fun r h' => r = none ∧ kF FC s h h') := by
      intro n
      induction n with
      | zero => intro i8 h9 _ _ _ hm; omega
      | succ n ih25 =>
        intro i8 h9 hl0 hl1 k10 hm
        refine A_iload_n 3 d_Seconds_extend_25 rfl rfl ?_
        refine A_aload_n 0 d_Seconds_extend_26 rfl rfl ?_
        refine A_getIn (lo := 0) (hi := 121) T_ok d_Seconds_extend_27 f_Seconds_35 (xi_s k10.1 sf_158) (xi_g k10.1 (by decide) rgf_158_3) (fun x11 ex11 _ _ => ?_)
        refine A_icmp_ge (tgt := 99) d_Seconds_extend_30 (by decide) (fun c12 => ?_) (fun c12 => ?_)
        · exact A_vret d_Seconds_extend_99 (by decide) rfl ⟨rfl, k10⟩
        · refine A_aload_n 0 d_Seconds_extend_33 rfl rfl ?_
          refine A_getAv (z := some 161) T_ok d_Seconds_extend_34 f_Seconds_19 (xi_s k10.1 sf_158) (xi_r k10.1 rff_158_7) ?_
          refine A_iload_n 1 d_Seconds_extend_37 rfl rfl ?_
          refine A_aload_n 0 d_Seconds_extend_38 rfl rfl ?_
          refine A_getIf T_ok d_Seconds_extend_39 f_Seconds_32 (xi_s k10.1 sf_158) (fun x14 ex14 _ _ => ?_)
          refine A_pc (pc' := 42) rfl ?_
          refine A_iload_n 3 d_Seconds_extend_42 rfl rfl ?_
          refine A_iaddw d_Seconds_extend_43 (fun x15 _ _ _ => ?_)
          refine A_iastorek (KR := kF FC s h) d_Seconds_extend_44 (xi_s k10.1 sf_161) (by omega) (by omega) (kF_j k10 (by decide) (ns_b rfl) (rgf_161 _) (by omega) (by omega)) (fun h16 k17 eh16 => ?_)
          refine A_aload_n 0 d_Seconds_extend_45 rfl rfl ?_
          refine A_iload_n 1 d_Seconds_extend_46 rfl rfl ?_
          refine A_callV1 m_Seconds_fitsAlone T_ok d_Seconds_extend_47 l_Seconds_61 k_Seconds_fitsAlone (xi_s k17.1 sf_158) rfl (by decide +kernel) (by decide) (Nat.le_of_ble_eq_true rfl) (s_Seconds_fitsAlone k17.1 (by omega) (by omega)) (fun r h18 hq => ?_)
          obtain ⟨x20, rfl, bx20, rfl⟩ := hq
          refine A_if_eq (tgt := 93) d_Seconds_extend_50 (by decide) (fun c21 => ?_) (fun c21 => ?_)
          · refine A_iincv (z := (i8 + 1)) (L' := [some (av_R (some 158)), some (av_I a1), some (av_I a2), some (av_I (i8 + 1))]) d_Seconds_extend_93 rfl (w32_to (by omega) (by unfold i32; omega)) rfl ?_
            refine A_goto (tgt := 25) d_Seconds_extend_96 (by decide) ?_
            exact ih25 (i8 + 1) h16 (by omega) (by omega) k17 (by omega)
          · refine A_iload_n 1 d_Seconds_extend_53 rfl rfl ?_
            refine A_if_eq (tgt := 65) d_Seconds_extend_54 (by decide) (fun c => False.elim (by omega)) (fun c22 => ?_)
            refine A_aload_n 0 d_Seconds_extend_57 rfl rfl ?_
            refine A_iload_n 1 d_Seconds_extend_58 rfl rfl ?_
            refine A_callV1 m_Seconds_fitsBehind T_ok d_Seconds_extend_59 l_Seconds_65 k_Seconds_fitsBehind (xi_s k17.1 sf_158) rfl (by decide +kernel) (by decide) (Nat.le_of_ble_eq_true rfl) (s_Seconds_fitsBehind k17.1 (by omega) (by omega)) (fun r h23 hq => ?_)
            obtain ⟨x25, rfl, bx25, rfl⟩ := hq
            refine A_if_eq (tgt := 93) d_Seconds_extend_62 (by decide) (fun c26 => ?_) (fun c26 => ?_)
            · refine A_iincv (z := (i8 + 1)) (L' := [some (av_R (some 158)), some (av_I a1), some (av_I a2), some (av_I (i8 + 1))]) d_Seconds_extend_93 rfl (w32_to (by omega) (by unfold i32; omega)) rfl ?_
              refine A_goto (tgt := 25) d_Seconds_extend_96 (by decide) ?_
              exact ih25 (i8 + 1) h16 (by omega) (by omega) k17 (by omega)
            · refine A_iload_n 1 d_Seconds_extend_65 rfl rfl ?_
              refine A_iconst d_Seconds_extend_66 rfl ?_
              refine A_icmp_lt (tgt := 78) d_Seconds_extend_67 (by decide) (fun c27 => ?_) (fun c => False.elim (by omega))
              refine A_aload_n 0 d_Seconds_extend_78 rfl rfl ?_
              refine A_iload_n 1 d_Seconds_extend_79 rfl rfl ?_
              refine A_iconst d_Seconds_extend_80 rfl ?_
              refine A_iaddv (z := (a1 + 1)) d_Seconds_extend_81 (w32_to (by omega) (by unfold i32; omega)) ?_
              refine A_iload_n 2 d_Seconds_extend_82 rfl rfl ?_
              refine A_pc (pc' := 83) rfl ?_
              refine A_aload_n 0 d_Seconds_extend_83 rfl rfl ?_
              refine A_getIv (z := x11) T_ok d_Seconds_extend_84 f_Seconds_35 (xi_s k17.1 sf_158) ((eh16.1 _ _ (fun q => absurd q (by decide))).trans ex11.symm) ?_
              refine A_imulw d_Seconds_extend_87 (fun x29 _ _ _ => ?_)
              refine A_iload_n 3 d_Seconds_extend_88 rfl rfl ?_
              refine A_iaddw d_Seconds_extend_89 (fun x30 _ _ _ => ?_)
              refine A_callV2 m_Seconds_extend T_ok d_Seconds_extend_90 l_Seconds_53 k_Seconds_extend (xi_s k17.1 sf_158) rfl (by decide +kernel) (by decide) (Nat.le_of_ble_eq_true rfl) (s_Seconds_extend_2 k17.1 (by omega) (by omega)) (fun r h31 hq => ?_)
              obtain ⟨rfl, k32⟩ := hq
              have k33 := kF_t k17 k32 (fun _ q => q)
              refine A_iincv (z := (i8 + 1)) (L' := [some (av_R (some 158)), some (av_I a1), some (av_I a2), some (av_I (i8 + 1))]) d_Seconds_extend_93 rfl (w32_to (by omega) (by unfold i32; omega)) rfl ?_
              refine A_goto (tgt := 25) d_Seconds_extend_96 (by decide) ?_
              exact ih25 (i8 + 1) h31 (by omega) (by omega) k33 (by omega)
    exact lp25 _ 0 h (by omega) (by omega) k0 (Nat.lt_succ_self _)
theorem s_Seconds_extend_0 {G : cx_T} {s : Nat} {h : ah_T} (hx : xi s h) {a1 : Int} {a2 : Int} (la1 : 0 ≤ a1) (ua1 : a1 ≤ 0) : con G 12 0 0 m_Seconds_extend [av_R (some 158), av_I a1, av_I a2] h (fun r h' => r = none ∧ kF FC s h h') := by
  refine con_of (L := [some (av_R (some 158)), some (av_I a1), some (av_I a2), none]) (by decide +kernel) (Nat.le_of_ble_eq_true rfl) rfl ?_
  have hS : isS s := hx.2.1
  have hs0 : s = 17 ∨ s = 80 := hS
  have hs0b : 17 ≤ s ∧ s ≤ 80 := by omega
  have k0 : kF FC s h h := kF_0 hx
  refine A_locI 2 rfl (fun ra => ?_)
  obtain ⟨_, _⟩ := ra
  refine A_iload_n 1 d_Seconds_extend_0 rfl rfl ?_
  refine A_aload_n 0 d_Seconds_extend_1 rfl rfl ?_
  refine A_getIn (lo := 0) (hi := 8) T_ok d_Seconds_extend_2 f_Seconds_47 (xi_s k0.1 sf_158) (xi_g k0.1 (by decide) rgf_158_4) (fun x1 ex1 _ _ => ?_)
  refine A_icmp_ge (tgt := 17) d_Seconds_extend_5 (by decide) (fun c2 => ?_) (fun c2 => ?_)
  · refine A_aload_n 0 d_Seconds_extend_17 rfl rfl ?_
    refine A_iload_n 2 d_Seconds_extend_18 rfl rfl ?_
    refine A_callV1 m_Seconds_keep T_ok d_Seconds_extend_19 l_Seconds_57 k_Seconds_keep (xi_s k0.1 sf_158) rfl (by decide +kernel) (by decide) (Nat.le_of_ble_eq_true rfl) (s_Seconds_keep k0.1 ) (fun r h3 hq => ?_)
    obtain ⟨rfl, k4⟩ := hq
    have k5 := kF_t k0 k4 (fun _ q => q)
    exact A_vret d_Seconds_extend_22 (by decide) rfl ⟨rfl, k5⟩
  · refine A_iload_n 1 d_Seconds_extend_8 rfl rfl ?_
    refine A_aload_n 0 d_Seconds_extend_9 rfl rfl ?_
    refine A_getAv (z := some 161) T_ok d_Seconds_extend_10 f_Seconds_19 (xi_s k0.1 sf_158) (xi_r k0.1 rff_158_7) ?_
    refine A_alenN d_Seconds_extend_13 (xi_s k0.1 sf_161) (by decide) (by decide) ?_
    refine A_icmp_lt (tgt := 23) d_Seconds_extend_14 (by decide) (fun c7 => ?_) (fun c => False.elim (by omega))
    refine A_iconst d_Seconds_extend_23 rfl ?_
    refine A_istore_n 3 (L' := [some (av_R (some 158)), some (av_I a1), some (av_I a2), some (av_I 0)]) d_Seconds_extend_24 rfl (Nat.le_of_ble_eq_true rfl) rfl ?_
    have lp25 : ∀ (n : Nat) (i8 : Int) (h9 : ah_T) , 0 ≤ i8 → i8 ≤ 121 → kF FC s h h9 → (122 - i8).toNat < n → aw G (rm_R 12 0 0) m_Seconds_extend 0 0 25 [some (av_R (some 158)), some (av_I a1), some (av_I a2), some (av_I i8)] [] h9 (fun r h' => r = none ∧ kF FC s h h') := by
      intro n
      induction n with
      | zero => intro i8 h9 _ _ _ hm; omega
      | succ n ih25 =>
        intro i8 h9 hl0 hl1 k10 hm
        refine A_iload_n 3 d_Seconds_extend_25 rfl rfl ?_
        refine A_aload_n 0 d_Seconds_extend_26 rfl rfl ?_
        refine A_getIn (lo := 0) (hi := 121) T_ok d_Seconds_extend_27 f_Seconds_35 (xi_s k10.1 sf_158) (xi_g k10.1 (by decide) rgf_158_3) (fun x11 ex11 _ _ => ?_)
        refine A_icmp_ge (tgt := 99) d_Seconds_extend_30 (by decide) (fun c12 => ?_) (fun c12 => ?_)
        · exact A_vret d_Seconds_extend_99 (by decide) rfl ⟨rfl, k10⟩
        · refine A_aload_n 0 d_Seconds_extend_33 rfl rfl ?_
          refine A_getAv (z := some 161) T_ok d_Seconds_extend_34 f_Seconds_19 (xi_s k10.1 sf_158) (xi_r k10.1 rff_158_7) ?_
          refine A_iload_n 1 d_Seconds_extend_37 rfl rfl ?_
          refine A_aload_n 0 d_Seconds_extend_38 rfl rfl ?_
          refine A_getIf T_ok d_Seconds_extend_39 f_Seconds_32 (xi_s k10.1 sf_158) (fun x14 ex14 _ _ => ?_)
          refine A_pc (pc' := 42) rfl ?_
          refine A_iload_n 3 d_Seconds_extend_42 rfl rfl ?_
          refine A_iaddw d_Seconds_extend_43 (fun x15 _ _ _ => ?_)
          refine A_iastorek (KR := kF FC s h) d_Seconds_extend_44 (xi_s k10.1 sf_161) (by omega) (by omega) (kF_j k10 (by decide) (ns_b rfl) (rgf_161 _) (by omega) (by omega)) (fun h16 k17 eh16 => ?_)
          refine A_aload_n 0 d_Seconds_extend_45 rfl rfl ?_
          refine A_iload_n 1 d_Seconds_extend_46 rfl rfl ?_
          refine A_callV1 m_Seconds_fitsAlone T_ok d_Seconds_extend_47 l_Seconds_61 k_Seconds_fitsAlone (xi_s k17.1 sf_158) rfl (by decide +kernel) (by decide) (Nat.le_of_ble_eq_true rfl) (s_Seconds_fitsAlone k17.1 (by omega) (by omega)) (fun r h18 hq => ?_)
          obtain ⟨x20, rfl, bx20, rfl⟩ := hq
          refine A_if_eq (tgt := 93) d_Seconds_extend_50 (by decide) (fun c21 => ?_) (fun c21 => ?_)
          · refine A_iincv (z := (i8 + 1)) (L' := [some (av_R (some 158)), some (av_I a1), some (av_I a2), some (av_I (i8 + 1))]) d_Seconds_extend_93 rfl (w32_to (by omega) (by unfold i32; omega)) rfl ?_
            refine A_goto (tgt := 25) d_Seconds_extend_96 (by decide) ?_
            exact ih25 (i8 + 1) h16 (by omega) (by omega) k17 (by omega)
          · refine A_iload_n 1 d_Seconds_extend_53 rfl rfl ?_
            refine A_if_eq (tgt := 65) d_Seconds_extend_54 (by decide) (fun c22 => ?_) (fun c => False.elim (by omega))
            refine A_iload_n 1 d_Seconds_extend_65 rfl rfl ?_
            refine A_iconst d_Seconds_extend_66 rfl ?_
            refine A_icmp_lt (tgt := 78) d_Seconds_extend_67 (by decide) (fun c23 => ?_) (fun c => False.elim (by omega))
            refine A_aload_n 0 d_Seconds_extend_78 rfl rfl ?_
            refine A_iload_n 1 d_Seconds_extend_79 rfl rfl ?_
            refine A_iconst d_Seconds_extend_80 rfl ?_
            refine A_iaddv (z := (a1 + 1)) d_Seconds_extend_81 (w32_to (by omega) (by unfold i32; omega)) ?_
            refine A_iload_n 2 d_Seconds_extend_82 rfl rfl ?_
            refine A_pc (pc' := 83) rfl ?_
            refine A_aload_n 0 d_Seconds_extend_83 rfl rfl ?_
            refine A_getIv (z := x11) T_ok d_Seconds_extend_84 f_Seconds_35 (xi_s k17.1 sf_158) ((eh16.1 _ _ (fun q => absurd q (by decide))).trans ex11.symm) ?_
            refine A_imulw d_Seconds_extend_87 (fun x25 _ _ _ => ?_)
            refine A_iload_n 3 d_Seconds_extend_88 rfl rfl ?_
            refine A_iaddw d_Seconds_extend_89 (fun x26 _ _ _ => ?_)
            refine A_callV2 m_Seconds_extend T_ok d_Seconds_extend_90 l_Seconds_53 k_Seconds_extend (xi_s k17.1 sf_158) rfl (by decide +kernel) (by decide) (Nat.le_of_ble_eq_true rfl) (s_Seconds_extend_1 k17.1 (by omega) (by omega)) (fun r h27 hq => ?_)
            obtain ⟨rfl, k28⟩ := hq
            have k29 := kF_t k17 k28 (fun _ q => q)
            refine A_iincv (z := (i8 + 1)) (L' := [some (av_R (some 158)), some (av_I a1), some (av_I a2), some (av_I (i8 + 1))]) d_Seconds_extend_93 rfl (w32_to (by omega) (by unfold i32; omega)) rfl ?_
            refine A_goto (tgt := 25) d_Seconds_extend_96 (by decide) ?_
            exact ih25 (i8 + 1) h27 (by omega) (by omega) k29 (by omega)
    exact lp25 _ 0 h (by omega) (by omega) k0 (Nat.lt_succ_self _)
theorem s_Seconds_find {G : cx_T} {s : Nat} {h : ah_T} (hx : xi s h) {a1 : Nat} {a2 : Int} {a3 : Int} {a4 : Int} (ha1 : isS a1) (la2 : 0 ≤ a2) (ua2 : a2 ≤ 120) (la3 : 0 ≤ a3) (ua3 : a3 ≤ 120) (hlt : a2 ≤ a3) : con G 13 0 0 m_Seconds_find [av_R (some 158), av_R (some a1), av_I a2, av_I a3, av_I a4] h (fun r h' => ∃ z, r = some (av_I z) ∧ ((-2147483648) ≤ z ∧ z ≤ 2147483647) ∧ kF FC s h h') := by
  refine con_of (L := [some (av_R (some 158)), some (av_R (some a1)), some (av_I a2), some (av_I a3), some (av_I a4), none, none, none]) (by decide +kernel) (Nat.le_of_ble_eq_true rfl) rfl ?_
  have hS : isS s := hx.2.1
  have hs0 : s = 17 ∨ s = 80 := hS
  have hs0b : 17 ≤ s ∧ s ≤ 80 := by omega
  have k0 : kF FC s h h := kF_0 hx
  refine A_locI 4 rfl (fun ra => ?_)
  obtain ⟨_, _⟩ := ra
  refine A_iload_n 3 d_Seconds_find_0 rfl rfl ?_
  refine A_iload_n 2 d_Seconds_find_1 rfl rfl ?_
  refine A_isubv (z := (a3 - a2)) d_Seconds_find_2 (w32_to (by omega) (by unfold i32; omega)) ?_
  refine A_iconst d_Seconds_find_3 rfl ?_
  refine A_iaddv (z := (a3 - a2 + 1)) d_Seconds_find_4 (w32_to (by omega) (by unfold i32; omega)) ?_
  refine A_pc (pc' := 5) rfl ?_
  refine A_istore (L' := [some (av_R (some 158)), some (av_R (some a1)), some (av_I a2), some (av_I a3), some (av_I a4), some (av_I (a3 - a2 + 1)), none, none]) d_Seconds_find_5 (Nat.le_of_ble_eq_true rfl) rfl ?_
  refine A_iconst d_Seconds_find_7 rfl ?_
  refine A_istore (L' := [some (av_R (some 158)), some (av_R (some a1)), some (av_I a2), some (av_I a3), some (av_I a4), some (av_I (a3 - a2 + 1)), some (av_I 1), none]) d_Seconds_find_8 (Nat.le_of_ble_eq_true rfl) rfl ?_
  refine A_iconst d_Seconds_find_10 rfl ?_
  refine A_istore (L' := [some (av_R (some 158)), some (av_R (some a1)), some (av_I a2), some (av_I a3), some (av_I a4), some (av_I (a3 - a2 + 1)), some (av_I 1), some (av_I 0)]) d_Seconds_find_11 (Nat.le_of_ble_eq_true rfl) rfl ?_
  have lp13 : ∀ (n : Nat) (i1 i2 : Int) , (-2147483648) ≤ i1 → i1 ≤ 100000 → 0 ≤ i2 → i2 ≤ 8 → (9 - i2).toNat < n → aw G (rm_R 13 0 0) m_Seconds_find 0 0 13 [some (av_R (some 158)), some (av_R (some a1)), some (av_I a2), some (av_I a3), some (av_I a4), some (av_I (a3 - a2 + 1)), some (av_I i1), some (av_I i2)] [] h (fun r h' => ∃ z, r = some (av_I z) ∧ ((-2147483648) ≤ z ∧ z ≤ 2147483647) ∧ kF FC s h h') := by
    intro n
    induction n with
    | zero => intro i1 i2 _ _ _ _ hm; omega
    | succ n ih13 =>
      intro i1 i2 hl0 hl1 hl2 hl3 hm
      refine A_iload d_Seconds_find_13 rfl ?_
      refine A_aload_n 1 d_Seconds_find_15 rfl rfl ?_
      refine A_getIn (lo := 0) (hi := 8) T_ok d_Seconds_find_16 f_Seconds_26 (xs_S k0.1 ha1) (xi_g k0.1 (lt1_S ha1) (rg_S_6 ha1)) (fun x3 ex3 _ _ => ?_)
      refine A_icmp_ge (tgt := 45) d_Seconds_find_19 (by decide) (fun c4 => ?_) (fun c4 => ?_)
      · refine A_aload_n 0 d_Seconds_find_45 rfl rfl ?_
        refine A_iload_n 2 d_Seconds_find_46 rfl rfl ?_
        refine A_putIk (KR := kF FC s h) T_ok d_Seconds_find_47 f_Seconds_32 (xi_s k0.1 sf_158) fin_f (kF_j k0 (by decide) (ns_b rfl) rgf_158_2 (by omega) (by omega)) (fun h5 k6 eh5 => ?_)
        refine A_aload_n 0 d_Seconds_find_50 rfl rfl ?_
        refine A_iload d_Seconds_find_51 rfl ?_
        refine A_pc (pc' := 53) rfl ?_
        refine A_putIk (KR := kF FC s h) T_ok d_Seconds_find_53 f_Seconds_35 (xi_s k6.1 sf_158) fin_f (kF_j k6 (by decide) (ns_b rfl) rgf_158_3 (by omega) (by omega)) (fun h7 k8 eh7 => ?_)
        refine A_aload_n 0 d_Seconds_find_56 rfl rfl ?_
        refine A_iload d_Seconds_find_57 rfl ?_
        refine A_putIk (KR := kF FC s h) T_ok d_Seconds_find_59 f_Seconds_38 (xi_s k8.1 sf_158) fin_f (kF_j k8 (by decide) (ns_b rfl) rgf_158_5 (by omega) (by omega)) (fun h9 k10 eh9 => ?_)
        refine A_aload_n 0 d_Seconds_find_62 rfl rfl ?_
        refine A_aload_n 1 d_Seconds_find_63 rfl rfl ?_
        refine A_pc (pc' := 64) rfl ?_
        refine A_getIv (z := x3) T_ok d_Seconds_find_64 f_Seconds_26 (xs_S k10.1 ha1) ((eh9.1 _ _ (fun q => by omega)).trans ((eh7.1 _ _ (fun q => by omega)).trans ((eh5.1 _ _ (fun q => by omega)).trans ex3.symm))) ?_
        refine A_bipush d_Seconds_find_67 rfl ?_
        refine A_mmin d_Seconds_find_69 lm_Seconds_41 ma_min (by decide) (by decide) (Nat.le_of_ble_eq_true rfl) rfl ?_
        refine A_nrI (fun x12 ex12 _ _ => ?_)
        have bx12 := mmin_r ex12
        refine A_putIk (KR := kF FC s h) T_ok d_Seconds_find_72 f_Seconds_47 (xi_s k10.1 sf_158) fin_f (kF_j k10 (by decide) (ns_b rfl) rgf_158_4 (by omega) (by omega)) (fun h13 k14 eh13 => ?_)
        refine A_iconst d_Seconds_find_75 rfl ?_
        refine A_istore (L' := [some (av_R (some 158)), some (av_R (some a1)), some (av_I a2), some (av_I a3), some (av_I a4), some (av_I (a3 - a2 + 1)), some (av_I i1), some (av_I 0)]) d_Seconds_find_76 (Nat.le_of_ble_eq_true rfl) rfl ?_
        have lp78 : ∀ (n : Nat) (i15 : Int) (h16 : ah_T) , 0 ≤ i15 → i15 ≤ 8 → kF FC s h h16 → (9 - i15).toNat < n → aw G (rm_R 13 0 0) m_Seconds_find 0 0 78 [some (av_R (some 158)), some (av_R (some a1)), some (av_I a2), some (av_I a3), some (av_I a4), some (av_I (a3 - a2 + 1)), some (av_I i1), some (av_I i15)] [] h16 (fun r h' => ∃ z, r = some (av_I z) ∧ ((-2147483648) ≤ z ∧ z ≤ 2147483647) ∧ kF FC s h h') := by
          intro n
          induction n with
          | zero => intro i15 h16 _ _ _ hm; omega
          | succ n ih78 =>
            intro i15 h16 hl0 hl1 k17 hm
            refine A_iload d_Seconds_find_78 rfl ?_
            refine A_aload_n 0 d_Seconds_find_80 rfl rfl ?_
            refine A_getIn (lo := 0) (hi := 8) T_ok d_Seconds_find_81 f_Seconds_47 (xi_s k17.1 sf_158) (xi_g k17.1 (by decide) rgf_158_4) (fun x18 ex18 _ _ => ?_)
            refine A_icmp_ge (tgt := 107) d_Seconds_find_84 (by decide) (fun c19 => ?_) (fun c19 => ?_)
            · refine A_iconst d_Seconds_find_107 rfl ?_
              refine A_istore (L' := [some (av_R (some 158)), some (av_R (some a1)), some (av_I a2), some (av_I a3), some (av_I a4), some (av_I (a3 - a2 + 1)), some (av_I i1), some (av_I 0)]) d_Seconds_find_108 (Nat.le_of_ble_eq_true rfl) rfl ?_
              have lp110 : ∀ (n : Nat) (i20 : Int) (h21 : ah_T) , 0 ≤ i20 → i20 ≤ 1563 → kF FC s h h21 → (1564 - i20).toNat < n → aw G (rm_R 13 0 0) m_Seconds_find 0 0 110 [some (av_R (some 158)), some (av_R (some a1)), some (av_I a2), some (av_I a3), some (av_I a4), some (av_I (a3 - a2 + 1)), some (av_I i1), some (av_I i20)] [] h21 (fun r h' => ∃ z, r = some (av_I z) ∧ ((-2147483648) ≤ z ∧ z ≤ 2147483647) ∧ kF FC s h h') := by
                intro n
                induction n with
                | zero => intro i20 h21 _ _ _ hm; omega
                | succ n ih110 =>
                  intro i20 h21 hl0 hl1 k22 hm
                  refine A_iload d_Seconds_find_110 rfl ?_
                  refine A_aload_n 0 d_Seconds_find_112 rfl rfl ?_
                  refine A_getAv (z := some 159) T_ok d_Seconds_find_113 f_Seconds_11 (xi_s k22.1 sf_158) (xi_r k22.1 rff_158_0) ?_
                  refine A_alenN d_Seconds_find_116 (xi_s k22.1 sf_159) (by decide) (by decide) ?_
                  refine A_icmp_ge (tgt := 134) d_Seconds_find_117 (by decide) (fun c24 => ?_) (fun c24 => ?_)
                  · refine A_aload_n 0 d_Seconds_find_134 rfl rfl ?_
                    refine A_iconst d_Seconds_find_135 rfl ?_
                    refine A_putIk (KR := kF FC s h) T_ok d_Seconds_find_136 f_Seconds_22 (xi_s k22.1 sf_158) fin_f (kF_j k22 (by decide) (ns_b rfl) rgf_158_1 (by omega) (by omega)) (fun h25 k26 eh25 => ?_)
                    refine A_aload_n 0 d_Seconds_find_139 rfl rfl ?_
                    refine A_iconst d_Seconds_find_140 rfl ?_
                    refine A_pc (pc' := 141) rfl ?_
                    refine A_iconst d_Seconds_find_141 rfl ?_
                    refine A_callV2 m_Seconds_extend T_ok d_Seconds_find_142 l_Seconds_53 k_Seconds_extend (xi_s k26.1 sf_158) rfl (by decide +kernel) (by decide) (Nat.le_of_ble_eq_true rfl) (s_Seconds_extend_0 k26.1 (by omega) (by omega)) (fun r h27 hq => ?_)
                    obtain ⟨rfl, k28⟩ := hq
                    have k29 := kF_t k26 k28 (fun _ q => q)
                    refine A_aload_n 0 d_Seconds_find_145 rfl rfl ?_
                    refine A_getIf T_ok d_Seconds_find_146 f_Seconds_22 (xi_s k29.1 sf_158) (fun x30 ex30 _ _ => ?_)
                    exact A_iret d_Seconds_find_149 (by decide) rfl ⟨_, rfl, ⟨by omega, by omega⟩, k29⟩
                  · refine A_aload_n 0 d_Seconds_find_120 rfl rfl ?_
                    refine A_getAv (z := some 159) T_ok d_Seconds_find_121 f_Seconds_11 (xi_s k22.1 sf_158) (xi_r k22.1 rff_158_0) ?_
                    refine A_iload d_Seconds_find_124 rfl ?_
                    refine A_lconst_0 d_Seconds_find_126 ?_
                    refine A_lastorek (KR := kF FC s h) d_Seconds_find_127 (xi_s k22.1 sf_159) (by omega) (by omega) (kF_l k22 (by decide) (nl_b rfl)) (fun h32 k33 eh32 => ?_)
                    refine A_pc (pc' := 128) rfl ?_
                    refine A_iincv (z := (i20 + 1)) (L' := [some (av_R (some 158)), some (av_R (some a1)), some (av_I a2), some (av_I a3), some (av_I a4), some (av_I (a3 - a2 + 1)), some (av_I i1), some (av_I (i20 + 1))]) d_Seconds_find_128 rfl (w32_to (by omega) (by unfold i32; omega)) rfl ?_
                    refine A_goto (tgt := 110) d_Seconds_find_131 (by decide) ?_
                    exact ih110 (i20 + 1) h32 (by omega) (by omega) k33 (by omega)
              exact lp110 _ 0 h16 (by omega) (by omega) k17 (Nat.lt_succ_self _)
            · refine A_aload_n 0 d_Seconds_find_87 rfl rfl ?_
              refine A_getAv (z := some 160) T_ok d_Seconds_find_88 f_Seconds_15 (xi_s k17.1 sf_158) (xi_r k17.1 rff_158_6) ?_
              refine A_iload d_Seconds_find_91 rfl ?_
              refine A_aload_n 1 d_Seconds_find_93 rfl rfl ?_
              refine A_getAv (z := some (a1 + 2)) T_ok d_Seconds_find_94 f_Seconds_50 (xs_S k17.1 ha1) (xr_S_5 k17.1 ha1) ?_
              refine A_pc (pc' := 97) rfl ?_
              refine A_iload d_Seconds_find_97 rfl ?_
              refine A_ialoadf d_Seconds_find_99 (xs_S_5 k17.1 ha1) (by omega) (by omega) (fun x36 ex36 _ _ => ?_)
              refine A_iastorek (KR := kF FC s h) d_Seconds_find_100 (xi_s k17.1 sf_160) (by omega) (by omega) (kF_j k17 (by decide) (ns_b rfl) (rgf_160 _) (by omega) (by omega)) (fun h37 k38 eh37 => ?_)
              refine A_iincv (z := (i15 + 1)) (L' := [some (av_R (some 158)), some (av_R (some a1)), some (av_I a2), some (av_I a3), some (av_I a4), some (av_I (a3 - a2 + 1)), some (av_I i1), some (av_I (i15 + 1))]) d_Seconds_find_101 rfl (w32_to (by omega) (by unfold i32; omega)) rfl ?_
              refine A_goto (tgt := 78) d_Seconds_find_104 (by decide) ?_
              exact ih78 (i15 + 1) h37 (by omega) (by omega) k38 (by omega)
        exact lp78 _ 0 h13 (by omega) (by omega) k14 (Nat.lt_succ_self _)
      · refine A_iload d_Seconds_find_22 rfl ?_
        refine A_iload d_Seconds_find_24 rfl ?_
        refine A_imulw d_Seconds_find_26 (fun x39 _ _ _ => ?_)
        refine A_istore (L' := [some (av_R (some 158)), some (av_R (some a1)), some (av_I a2), some (av_I a3), some (av_I a4), some (av_I (a3 - a2 + 1)), some (av_I x39), some (av_I i2)]) d_Seconds_find_27 (Nat.le_of_ble_eq_true rfl) rfl ?_
        refine A_iload d_Seconds_find_29 rfl ?_
        refine A_pc (pc' := 31) rfl ?_
        refine A_ldc (z := 100000) d_Seconds_find_31 cst_Seconds_31 rfl ?_
        refine A_icmp_le (tgt := 39) d_Seconds_find_33 (by decide) (fun c40 => ?_) (fun c40 => ?_)
        · refine A_iincv (z := (i2 + 1)) (L' := [some (av_R (some 158)), some (av_R (some a1)), some (av_I a2), some (av_I a3), some (av_I a4), some (av_I (a3 - a2 + 1)), some (av_I x39), some (av_I (i2 + 1))]) d_Seconds_find_39 rfl (w32_to (by omega) (by unfold i32; omega)) rfl ?_
          refine A_goto (tgt := 13) d_Seconds_find_42 (by decide) ?_
          exact ih13 x39 (i2 + 1) (by omega) (by omega) (by omega) (by omega) (by omega)
        · refine A_bipush d_Seconds_find_36 rfl ?_
          exact A_iret d_Seconds_find_38 (by decide) rfl ⟨_, rfl, ⟨by omega, by omega⟩, k0⟩
  exact lp13 _ 1 0 (by omega) (by omega) (by omega) (by omega) (Nat.lt_succ_self _)
theorem s_Seconds_rowAt {G : cx_T} {s : Nat} {h : ah_T} (hx : xi s h) {a1 : Int}  : con G 1 0 0 m_Seconds_rowAt [av_R (some 158), av_I a1] h (fun r h' => ∃ z, r = some (av_I z) ∧ ((-2147483648) ≤ z ∧ z ≤ 2147483647) ∧ h = h') := by
  refine con_of (L := [some (av_R (some 158)), some (av_I a1), none, none, none]) (by decide +kernel) (Nat.le_of_ble_eq_true rfl) rfl ?_
  have hS : isS s := hx.2.1
  have hs0 : s = 17 ∨ s = 80 := hS
  have hs0b : 17 ≤ s ∧ s ≤ 80 := by omega
  refine A_locI 1 rfl (fun ra => ?_)
  obtain ⟨_, _⟩ := ra
  refine A_iconst d_Seconds_rowAt_0 rfl ?_
  refine A_istore_n 2 (L' := [some (av_R (some 158)), some (av_I a1), some (av_I 0), none, none]) d_Seconds_rowAt_1 rfl (Nat.le_of_ble_eq_true rfl) rfl ?_
  refine A_iconst d_Seconds_rowAt_2 rfl ?_
  refine A_istore_n 3 (L' := [some (av_R (some 158)), some (av_I a1), some (av_I 0), some (av_I 0), none]) d_Seconds_rowAt_3 rfl (Nat.le_of_ble_eq_true rfl) rfl ?_
  have lp4 : ∀ (n : Nat) (i1 i2 : Int) , (-2147483648) ≤ i1 → i1 ≤ 2147483647 → 0 ≤ i2 → i2 ≤ 1563 → (1564 - i2).toNat < n → aw G (rm_R 1 0 0) m_Seconds_rowAt 0 0 4 [some (av_R (some 158)), some (av_I a1), some (av_I i1), some (av_I i2), none] [] h (fun r h' => ∃ z, r = some (av_I z) ∧ ((-2147483648) ≤ z ∧ z ≤ 2147483647) ∧ h = h') := by
    intro n
    induction n with
    | zero => intro i1 i2 _ _ _ _ hm; omega
    | succ n ih4 =>
      intro i1 i2 hl0 hl1 hl2 hl3 hm
      refine A_iload_n 3 d_Seconds_rowAt_4 rfl rfl ?_
      refine A_aload_n 0 d_Seconds_rowAt_5 rfl rfl ?_
      refine A_getAv (z := some 159) T_ok d_Seconds_rowAt_6 f_Seconds_11 (xi_s hx sf_158) (xi_r hx rff_158_0) ?_
      refine A_alenN d_Seconds_rowAt_9 (xi_s hx sf_159) (by decide) (by decide) ?_
      refine A_icmp_ge (tgt := 46) d_Seconds_rowAt_10 (by decide) (fun c4 => ?_) (fun c4 => ?_)
      · refine A_iconst d_Seconds_rowAt_46 rfl ?_
        refine A_istore (L' := [some (av_R (some 158)), some (av_I a1), some (av_I i1), some (av_I i2), some (av_I 0)]) d_Seconds_rowAt_47 (Nat.le_of_ble_eq_true rfl) rfl ?_
        have lp49 : ∀ (n : Nat) (i5 i6 : Int) , (-2147483648) ≤ i5 → i5 ≤ 2147483647 → 0 ≤ i6 → i6 ≤ 0 → (1 - i6).toNat < n → aw G (rm_R 1 0 0) m_Seconds_rowAt 0 0 49 [some (av_R (some 158)), some (av_I a1), some (av_I i5), some (av_I i2), some (av_I i6)] [] h (fun r h' => ∃ z, r = some (av_I z) ∧ ((-2147483648) ≤ z ∧ z ≤ 2147483647) ∧ h = h') := by
          intro n
          induction n with
          | zero => intro i5 i6 _ _ _ _ hm; omega
          | succ n ih49 =>
            intro i5 i6 hl0 hl1 hl2 hl3 hm
            refine A_iload d_Seconds_rowAt_49 rfl ?_
            refine A_bipush d_Seconds_rowAt_51 rfl ?_
            refine A_icmp_ge (tgt := 103) d_Seconds_rowAt_53 (by decide) (fun c => False.elim (by omega)) (fun c7 => ?_)
            refine A_iload_n 3 d_Seconds_rowAt_56 rfl rfl ?_
            refine A_aload_n 0 d_Seconds_rowAt_57 rfl rfl ?_
            refine A_getAv (z := some 159) T_ok d_Seconds_rowAt_58 f_Seconds_11 (xi_s hx sf_158) (xi_r hx rff_158_0) ?_
            refine A_alenN d_Seconds_rowAt_61 (xi_s hx sf_159) (by decide) (by decide) ?_
            refine A_icmp_ge (tgt := 103) d_Seconds_rowAt_62 (by decide) (fun c9 => ?_) (fun c => False.elim (by omega))
            refine A_iconst d_Seconds_rowAt_103 rfl ?_
            exact A_iret d_Seconds_rowAt_104 (by decide) rfl ⟨_, rfl, ⟨by omega, by omega⟩, rfl⟩
        exact lp49 _ i1 0 (by omega) (by omega) (by omega) (by omega) (Nat.lt_succ_self _)
      · refine A_iload_n 2 d_Seconds_rowAt_13 rfl rfl ?_
        refine A_aload_n 0 d_Seconds_rowAt_14 rfl rfl ?_
        refine A_getAv (z := some 159) T_ok d_Seconds_rowAt_15 f_Seconds_11 (xi_s hx sf_158) (xi_r hx rff_158_0) ?_
        refine A_iload_n 3 d_Seconds_rowAt_18 rfl rfl ?_
        refine A_laloadf d_Seconds_rowAt_19 (xi_s hx sf_159) (by omega) (by omega) (fun x11 ex11 _ _ => ?_)
        refine A_pc (pc' := 20) rfl ?_
        refine A_callS1 m_JLong_bitCount d_Seconds_rowAt_20 l_Seconds_88 k_JLong_bitCount (by decide +kernel) (by decide) (Nat.le_of_ble_eq_true rfl) (s_JLong_bitCount  ) (fun r h12 hq => ?_)
        obtain ⟨x14, rfl, ⟨_, _⟩, rfl⟩ := hq
        refine A_iaddw d_Seconds_rowAt_23 (fun x15 _ _ _ => ?_)
        refine A_iload_n 1 d_Seconds_rowAt_24 rfl rfl ?_
        refine A_icmp_gt (tgt := 46) d_Seconds_rowAt_25 (by decide) (fun c16 => ?_) (fun c16 => ?_)
        · refine A_iconst d_Seconds_rowAt_46 rfl ?_
          refine A_istore (L' := [some (av_R (some 158)), some (av_I a1), some (av_I i1), some (av_I i2), some (av_I 0)]) d_Seconds_rowAt_47 (Nat.le_of_ble_eq_true rfl) rfl ?_
          have lp49 : ∀ (n : Nat) (i17 i18 : Int) , (-2147483648) ≤ i17 → i17 ≤ 2147483647 → 0 ≤ i18 → i18 ≤ 64 → (65 - i18).toNat < n → aw G (rm_R 1 0 0) m_Seconds_rowAt 0 0 49 [some (av_R (some 158)), some (av_I a1), some (av_I i17), some (av_I i2), some (av_I i18)] [] h (fun r h' => ∃ z, r = some (av_I z) ∧ ((-2147483648) ≤ z ∧ z ≤ 2147483647) ∧ h = h') := by
            intro n
            induction n with
            | zero => intro i17 i18 _ _ _ _ hm; omega
            | succ n ih49 =>
              intro i17 i18 hl0 hl1 hl2 hl3 hm
              refine A_iload d_Seconds_rowAt_49 rfl ?_
              refine A_bipush d_Seconds_rowAt_51 rfl ?_
              refine A_icmp_ge (tgt := 103) d_Seconds_rowAt_53 (by decide) (fun c19 => ?_) (fun c19 => ?_)
              · refine A_iconst d_Seconds_rowAt_103 rfl ?_
                exact A_iret d_Seconds_rowAt_104 (by decide) rfl ⟨_, rfl, ⟨by omega, by omega⟩, rfl⟩
              · refine A_iload_n 3 d_Seconds_rowAt_56 rfl rfl ?_
                refine A_aload_n 0 d_Seconds_rowAt_57 rfl rfl ?_
                refine A_getAv (z := some 159) T_ok d_Seconds_rowAt_58 f_Seconds_11 (xi_s hx sf_158) (xi_r hx rff_158_0) ?_
                refine A_alenN d_Seconds_rowAt_61 (xi_s hx sf_159) (by decide) (by decide) ?_
                refine A_icmp_ge (tgt := 103) d_Seconds_rowAt_62 (by decide) (fun c => False.elim (by omega)) (fun c21 => ?_)
                refine A_aload_n 0 d_Seconds_rowAt_65 rfl rfl ?_
                refine A_getAv (z := some 159) T_ok d_Seconds_rowAt_66 f_Seconds_11 (xi_s hx sf_158) (xi_r hx rff_158_0) ?_
                refine A_iload_n 3 d_Seconds_rowAt_69 rfl rfl ?_
                refine A_laloadv (z := x11) d_Seconds_rowAt_70 (xi_s hx sf_159) (by omega) (by omega) ex11.symm ?_
                refine A_iload d_Seconds_rowAt_71 rfl ?_
                refine A_pc (pc' := 73) rfl ?_
                refine A_lushr d_Seconds_rowAt_73 ?_
                refine A_nrL (fun x24 ex24 _ _ => ?_)
                refine A_lconst_1 d_Seconds_rowAt_74 ?_
                refine A_land d_Seconds_rowAt_75 ?_
                refine A_nrL (fun x25 ex25 _ _ => ?_)
                refine A_lconst_0 d_Seconds_rowAt_76 ?_
                refine A_lcmpn d_Seconds_rowAt_77 (fun x26 lx26 ex26 gx26 _ _ => ?_)
                refine A_if_eq (tgt := 97) d_Seconds_rowAt_78 (by decide) (fun c27 => ?_) (fun c27 => ?_)
                · have mc27 : x25 = 0 := by omega
                  refine A_iincv (z := (i18 + 1)) (L' := [some (av_R (some 158)), some (av_I a1), some (av_I i17), some (av_I i2), some (av_I (i18 + 1))]) d_Seconds_rowAt_97 rfl (w32_to (by omega) (by unfold i32; omega)) rfl ?_
                  refine A_goto (tgt := 49) d_Seconds_rowAt_100 (by decide) ?_
                  exact ih49 i17 (i18 + 1) (by omega) (by omega) (by omega) (by omega) (by omega)
                · have mc27 : x25 ≠ 0 := by omega
                  refine A_iload_n 2 d_Seconds_rowAt_81 rfl rfl ?_
                  refine A_iload_n 1 d_Seconds_rowAt_82 rfl rfl ?_
                  refine A_icmp_ne (tgt := 94) d_Seconds_rowAt_83 (by decide) (fun c28 => ?_) (fun c28 => ?_)
                  · refine A_iincw d_Seconds_rowAt_94 rfl (fun x29 _ _ _ => ?_)
                    refine A_lL (L' := [some (av_R (some 158)), some (av_I a1), some (av_I x29), some (av_I i2), some (av_I i18)]) rfl ?_
                    refine A_iincv (z := (i18 + 1)) (L' := [some (av_R (some 158)), some (av_I a1), some (av_I x29), some (av_I i2), some (av_I (i18 + 1))]) d_Seconds_rowAt_97 rfl (w32_to (by omega) (by unfold i32; omega)) rfl ?_
                    refine A_goto (tgt := 49) d_Seconds_rowAt_100 (by decide) ?_
                    exact ih49 x29 (i18 + 1) (by omega) (by omega) (by omega) (by omega) (by omega)
                  · refine A_iload_n 3 d_Seconds_rowAt_86 rfl rfl ?_
                    refine A_bipush d_Seconds_rowAt_87 rfl ?_
                    refine A_imulv (z := (64 * i2)) d_Seconds_rowAt_89 (w32_to (by omega) (by unfold i32; omega)) ?_
                    refine A_iload d_Seconds_rowAt_90 rfl ?_
                    refine A_iaddv (z := (64 * i2 + i18)) d_Seconds_rowAt_92 (w32_to (by omega) (by unfold i32; omega)) ?_
                    refine A_pc (pc' := 93) rfl ?_
                    exact A_iret d_Seconds_rowAt_93 (by decide) rfl ⟨_, rfl, ⟨by omega, by omega⟩, rfl⟩
          exact lp49 _ i1 0 (by omega) (by omega) (by omega) (by omega) (Nat.lt_succ_self _)
        · refine A_iload_n 2 d_Seconds_rowAt_28 rfl rfl ?_
          refine A_aload_n 0 d_Seconds_rowAt_29 rfl rfl ?_
          refine A_getAv (z := some 159) T_ok d_Seconds_rowAt_30 f_Seconds_11 (xi_s hx sf_158) (xi_r hx rff_158_0) ?_
          refine A_iload_n 3 d_Seconds_rowAt_33 rfl rfl ?_
          refine A_laloadv (z := x11) d_Seconds_rowAt_34 (xi_s hx sf_159) (by omega) (by omega) ex11.symm ?_
          refine A_pc (pc' := 35) rfl ?_
          refine A_callS1 m_JLong_bitCount d_Seconds_rowAt_35 l_Seconds_88 k_JLong_bitCount (by decide +kernel) (by decide) (Nat.le_of_ble_eq_true rfl) (s_JLong_bitCount  ) (fun r h32 hq => ?_)
          obtain ⟨x34, rfl, ⟨_, _⟩, rfl⟩ := hq
          refine A_iaddw d_Seconds_rowAt_38 (fun x35 _ _ _ => ?_)
          refine A_istore_n 2 (L' := [some (av_R (some 158)), some (av_I a1), some (av_I x35), some (av_I i2), none]) d_Seconds_rowAt_39 rfl (Nat.le_of_ble_eq_true rfl) rfl ?_
          refine A_iincv (z := (i2 + 1)) (L' := [some (av_R (some 158)), some (av_I a1), some (av_I x35), some (av_I (i2 + 1)), none]) d_Seconds_rowAt_40 rfl (w32_to (by omega) (by unfold i32; omega)) rfl ?_
          refine A_goto (tgt := 4) d_Seconds_rowAt_43 (by decide) ?_
          exact ih4 x35 (i2 + 1) (by omega) (by omega) (by omega) (by omega) (by omega)
  exact lp4 _ 0 0 (by omega) (by omega) (by omega) (by omega) (Nat.lt_succ_self _)
theorem s_Seconds_keyIn {G : cx_T} {s : Nat} {h : ah_T} (hx : xi s h) {a1 : Int} {a2 : Int}  : con G 2 0 0 m_Seconds_keyIn [av_R (some 158), av_I a1, av_I a2] h (fun r h' => ∃ z, r = some (av_I z) ∧ ((-2147483648) ≤ z ∧ z ≤ 2147483647) ∧ h = h') := by
  refine con_of (L := [some (av_R (some 158)), some (av_I a1), some (av_I a2), none, none]) (by decide +kernel) (Nat.le_of_ble_eq_true rfl) rfl ?_
  have hS : isS s := hx.2.1
  have hs0 : s = 17 ∨ s = 80 := hS
  have hs0b : 17 ≤ s ∧ s ≤ 80 := by omega
  refine A_locI 1 rfl (fun ra => ?_)
  obtain ⟨_, _⟩ := ra
  refine A_locI 2 rfl (fun ra => ?_)
  obtain ⟨_, _⟩ := ra
  refine A_iload_n 1 d_Seconds_keyIn_0 rfl rfl ?_
  refine A_if_lt (tgt := 32) d_Seconds_keyIn_1 (by decide) (fun c1 => ?_) (fun c1 => ?_)
  · refine A_iconst d_Seconds_keyIn_32 rfl ?_
    exact A_iret d_Seconds_keyIn_33 (by decide) rfl ⟨_, rfl, ⟨by omega, by omega⟩, rfl⟩
  · refine A_iload_n 1 d_Seconds_keyIn_4 rfl rfl ?_
    refine A_aload_n 0 d_Seconds_keyIn_5 rfl rfl ?_
    refine A_getIf T_ok d_Seconds_keyIn_6 f_Seconds_22 (xi_s hx sf_158) (fun x2 ex2 _ _ => ?_)
    refine A_icmp_ge (tgt := 32) d_Seconds_keyIn_9 (by decide) (fun c3 => ?_) (fun c3 => ?_)
    · refine A_iconst d_Seconds_keyIn_32 rfl ?_
      exact A_iret d_Seconds_keyIn_33 (by decide) rfl ⟨_, rfl, ⟨by omega, by omega⟩, rfl⟩
    · refine A_iload_n 2 d_Seconds_keyIn_12 rfl rfl ?_
      refine A_if_lt (tgt := 32) d_Seconds_keyIn_13 (by decide) (fun c4 => ?_) (fun c4 => ?_)
      · refine A_iconst d_Seconds_keyIn_32 rfl ?_
        exact A_iret d_Seconds_keyIn_33 (by decide) rfl ⟨_, rfl, ⟨by omega, by omega⟩, rfl⟩
      · refine A_iload_n 2 d_Seconds_keyIn_16 rfl rfl ?_
        refine A_aload_n 0 d_Seconds_keyIn_17 rfl rfl ?_
        refine A_getIn (lo := 0) (hi := 8) T_ok d_Seconds_keyIn_18 f_Seconds_47 (xi_s hx sf_158) (xi_g hx (by decide) rgf_158_4) (fun x5 ex5 _ _ => ?_)
        refine A_icmp_ge (tgt := 32) d_Seconds_keyIn_21 (by decide) (fun c6 => ?_) (fun c6 => ?_)
        · refine A_iconst d_Seconds_keyIn_32 rfl ?_
          exact A_iret d_Seconds_keyIn_33 (by decide) rfl ⟨_, rfl, ⟨by omega, by omega⟩, rfl⟩
        · refine A_aload_n 0 d_Seconds_keyIn_24 rfl rfl ?_
          refine A_getIn (lo := 0) (hi := 121) T_ok d_Seconds_keyIn_25 f_Seconds_35 (xi_s hx sf_158) (xi_g hx (by decide) rgf_158_3) (fun x7 ex7 _ _ => ?_)
          refine A_iconst d_Seconds_keyIn_28 rfl ?_
          refine A_icmp_ge (tgt := 34) d_Seconds_keyIn_29 (by decide) (fun c8 => ?_) (fun c8 => ?_)
          · refine A_aload_n 0 d_Seconds_keyIn_34 rfl rfl ?_
            refine A_iload_n 1 d_Seconds_keyIn_35 rfl rfl ?_
            refine A_callV1 m_Seconds_rowAt T_ok d_Seconds_keyIn_36 l_Seconds_85 k_Seconds_rowAt (xi_s hx sf_158) rfl (by decide +kernel) (by decide) (Nat.le_of_ble_eq_true rfl) (s_Seconds_rowAt hx ) (fun r h9 hq => ?_)
            obtain ⟨x11, rfl, ⟨_, _⟩, rfl⟩ := hq
            refine A_istore_n 3 (L' := [some (av_R (some 158)), some (av_I a1), some (av_I a2), some (av_I x11), none]) d_Seconds_keyIn_39 rfl (Nat.le_of_ble_eq_true rfl) rfl ?_
            refine A_aload_n 0 d_Seconds_keyIn_40 rfl rfl ?_
            refine A_getIv (z := x5) T_ok d_Seconds_keyIn_41 f_Seconds_47 (xi_s hx sf_158) ex5.symm ?_
            refine A_iconst d_Seconds_keyIn_44 rfl ?_
            refine A_isubv (z := (x5 - 1)) d_Seconds_keyIn_45 (w32_to (by omega) (by unfold i32; omega)) ?_
            refine A_pc (pc' := 46) rfl ?_
            refine A_istore (L' := [some (av_R (some 158)), some (av_I a1), some (av_I a2), some (av_I x11), some (av_I (x5 - 1))]) d_Seconds_keyIn_46 (Nat.le_of_ble_eq_true rfl) rfl ?_
            have lp48 : ∀ (n : Nat) (i13 i14 : Int) , (-2147483648) ≤ i13 → i13 ≤ 2147483647 → 0 ≤ i14 → i14 ≤ 7 → (i14 + 1).toNat < n → aw G (rm_R 2 0 0) m_Seconds_keyIn 0 0 48 [some (av_R (some 158)), some (av_I a1), some (av_I a2), some (av_I i13), some (av_I i14)] [] h (fun r h' => ∃ z, r = some (av_I z) ∧ ((-2147483648) ≤ z ∧ z ≤ 2147483647) ∧ h = h') := by
              intro n
              induction n with
              | zero => intro i13 i14 _ _ _ _ hm; omega
              | succ n ih48 =>
                intro i13 i14 hl0 hl1 hl2 hl3 hm
                refine A_iload d_Seconds_keyIn_48 rfl ?_
                refine A_iload_n 2 d_Seconds_keyIn_50 rfl rfl ?_
                refine A_icmp_le (tgt := 67) d_Seconds_keyIn_51 (by decide) (fun c15 => ?_) (fun c15 => ?_)
                · refine A_aload_n 0 d_Seconds_keyIn_67 rfl rfl ?_
                  refine A_getIf T_ok d_Seconds_keyIn_68 f_Seconds_32 (xi_s hx sf_158) (fun x16 ex16 _ _ => ?_)
                  refine A_iload_n 3 d_Seconds_keyIn_71 rfl rfl ?_
                  refine A_aload_n 0 d_Seconds_keyIn_72 rfl rfl ?_
                  refine A_getIv (z := x7) T_ok d_Seconds_keyIn_73 f_Seconds_35 (xi_s hx sf_158) ex7.symm ?_
                  refine A_pc (pc' := 76) rfl ?_
                  refine A_iremc d_Seconds_keyIn_76 (by omega) (fun x18 ex18 _ _ => ?_)
                  have bx18 := rem_p ex18 (by omega)
                  refine A_iaddw d_Seconds_keyIn_77 (fun x19 _ _ _ => ?_)
                  exact A_iret d_Seconds_keyIn_78 (by decide) rfl ⟨_, rfl, ⟨by omega, by omega⟩, rfl⟩
                · refine A_iload_n 3 d_Seconds_keyIn_54 rfl rfl ?_
                  refine A_aload_n 0 d_Seconds_keyIn_55 rfl rfl ?_
                  refine A_getIv (z := x7) T_ok d_Seconds_keyIn_56 f_Seconds_35 (xi_s hx sf_158) ex7.symm ?_
                  refine A_idivc d_Seconds_keyIn_59 (by omega) (fun x21 ex21 _ _ => ?_)
                  refine A_istore_n 3 (L' := [some (av_R (some 158)), some (av_I a1), some (av_I a2), some (av_I x21), some (av_I i14)]) d_Seconds_keyIn_60 rfl (Nat.le_of_ble_eq_true rfl) rfl ?_
                  refine A_pc (pc' := 61) rfl ?_
                  refine A_iincv (z := (i14 - 1)) (L' := [some (av_R (some 158)), some (av_I a1), some (av_I a2), some (av_I x21), some (av_I (i14 - 1))]) d_Seconds_keyIn_61 rfl (w32_to (by omega) (by unfold i32; omega)) rfl ?_
                  refine A_goto (tgt := 48) d_Seconds_keyIn_64 (by decide) ?_
                  exact ih48 x21 (i14 - 1) (by omega) (by omega) (by omega) (by omega) (by omega)
            exact lp48 _ x11 (x5 - 1) (by omega) (by omega) (by omega) (by omega) (Nat.lt_succ_self _)
          · refine A_iconst d_Seconds_keyIn_32 rfl ?_
            exact A_iret d_Seconds_keyIn_33 (by decide) rfl ⟨_, rfl, ⟨by omega, by omega⟩, rfl⟩
