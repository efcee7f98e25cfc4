/-! ===== the class's methods, 22e ===== -/
def m_Parts_clear : mr_T := (⟨"PlainMusic$Parts", "clear", "()V"⟩, prog_6_method_2_code, 1, none)
theorem d_Parts_clear_0 : decode prog_6_method_2_code 0 = .ok (.aload_n 0, 1) := by decide +kernel
theorem d_Parts_clear_1 : decode prog_6_method_2_code 1 = .ok (.iconst 0, 1) := by decide +kernel
theorem d_Parts_clear_2 : decode prog_6_method_2_code 2 = .ok (.putfield 30, 3) := by decide +kernel
theorem f_Parts_30 : fl_OK "PlainMusic$Parts" 30 4 4 .int false := ⟨_, rfl, by decide, gwi_231, rfl, rfl⟩
theorem sf_9 : sh_L[9]? = some (4 + 4, 12) := by decide +kernel
theorem rgf_9_4 : rg 9 4 = (0, 2000) := by decide +kernel
theorem d_Parts_clear_5 : decode prog_6_method_2_code 5 = .ok (.aload_n 0, 1) := by decide +kernel
theorem d_Parts_clear_6 : decode prog_6_method_2_code 6 = .ok (.iconst 0, 1) := by decide +kernel
theorem d_Parts_clear_7 : decode prog_6_method_2_code 7 = .ok (.putfield 34, 3) := by decide +kernel
theorem f_Parts_34 : fl_OK "PlainMusic$Parts" 34 4 7 .int false := ⟨_, rfl, by decide, gwi_234, rfl, rfl⟩
theorem rgf_9_7 : rg 9 7 = (0, 7) := by decide +kernel
theorem d_Parts_clear_10 : decode prog_6_method_2_code 10 = .ok (.return_, 1) := by decide +kernel
def m_Parts_add : mr_T := (⟨"PlainMusic$Parts", "add", "(III)V"⟩, prog_6_method_3_code, 4, none)
theorem d_Parts_add_0 : decode prog_6_method_3_code 0 = .ok (.aload_n 0, 1) := by decide +kernel
theorem d_Parts_add_1 : decode prog_6_method_3_code 1 = .ok (.getfield 30, 3) := by decide +kernel
theorem d_Parts_add_4 : decode prog_6_method_3_code 4 = .ok (.aload_n 0, 1) := by decide +kernel
theorem d_Parts_add_5 : decode prog_6_method_3_code 5 = .ok (.getfield 9, 3) := by decide +kernel
theorem rff_9_0 : (9, 0, 10) ∈ rf_L := by decide +kernel
theorem d_Parts_add_8 : decode prog_6_method_3_code 8 = .ok (.arraylength, 1) := by decide +kernel
theorem sf_10 : sh_L[10]? = some (0, 2000) := by decide +kernel
theorem d_Parts_add_9 : decode prog_6_method_3_code 9 = .ok (.if_icmp .lt 4, 3) := by decide +kernel
theorem d_Parts_add_13 : decode prog_6_method_3_code 13 = .ok (.iload_n 1, 1) := by decide +kernel
theorem d_Parts_add_14 : decode prog_6_method_3_code 14 = .ok (.bipush 91, 2) := by decide +kernel
theorem d_Parts_add_16 : decode prog_6_method_3_code 16 = .ok (.if_icmp .eq 9, 3) := by decide +kernel
theorem d_Parts_add_25 : decode prog_6_method_3_code 25 = .ok (.aload_n 0, 1) := by decide +kernel
theorem d_Parts_add_26 : decode prog_6_method_3_code 26 = .ok (.getfield 34, 3) := by decide +kernel
theorem d_Parts_add_29 : decode prog_6_method_3_code 29 = .ok (.bipush 7, 2) := by decide +kernel
theorem d_Parts_add_31 : decode prog_6_method_3_code 31 = .ok (.if_icmp .ge 39, 3) := by decide +kernel
theorem d_Parts_add_70 : decode prog_6_method_3_code 70 = .ok (.aload_n 0, 1) := by decide +kernel
theorem d_Parts_add_71 : decode prog_6_method_3_code 71 = .ok (.getfield 9, 3) := by decide +kernel
theorem d_Parts_add_74 : decode prog_6_method_3_code 74 = .ok (.aload_n 0, 1) := by decide +kernel
theorem d_Parts_add_75 : decode prog_6_method_3_code 75 = .ok (.getfield 30, 3) := by decide +kernel
theorem d_Parts_add_78 : decode prog_6_method_3_code 78 = .ok (.iload_n 1, 1) := by decide +kernel
theorem d_Parts_add_79 : decode prog_6_method_3_code 79 = .ok (.iastore, 1) := by decide +kernel
theorem rgf_10 (k : Nat) : rg 10 k = ((-2147483648), 2147483647) := rfl
theorem d_Parts_add_80 : decode prog_6_method_3_code 80 = .ok (.aload_n 0, 1) := by decide +kernel
theorem d_Parts_add_81 : decode prog_6_method_3_code 81 = .ok (.getfield 18, 3) := by decide +kernel
theorem rff_9_2 : (9, 2, 12) ∈ rf_L := by decide +kernel
theorem d_Parts_add_84 : decode prog_6_method_3_code 84 = .ok (.aload_n 0, 1) := by decide +kernel
theorem d_Parts_add_85 : decode prog_6_method_3_code 85 = .ok (.getfield 30, 3) := by decide +kernel
theorem d_Parts_add_88 : decode prog_6_method_3_code 88 = .ok (.iload_n 2, 1) := by decide +kernel
theorem d_Parts_add_89 : decode prog_6_method_3_code 89 = .ok (.iastore, 1) := by decide +kernel
theorem sf_12 : sh_L[12]? = some (0, 2000) := by decide +kernel
theorem rgf_12 (k : Nat) : rg 12 k = (0, 300) := rfl
theorem d_Parts_add_90 : decode prog_6_method_3_code 90 = .ok (.aload_n 0, 1) := by decide +kernel
theorem d_Parts_add_91 : decode prog_6_method_3_code 91 = .ok (.getfield 21, 3) := by decide +kernel
theorem rff_9_3 : (9, 3, 13) ∈ rf_L := by decide +kernel
theorem d_Parts_add_94 : decode prog_6_method_3_code 94 = .ok (.aload_n 0, 1) := by decide +kernel
theorem d_Parts_add_95 : decode prog_6_method_3_code 95 = .ok (.getfield 30, 3) := by decide +kernel
theorem d_Parts_add_98 : decode prog_6_method_3_code 98 = .ok (.iload_n 3, 1) := by decide +kernel
theorem d_Parts_add_99 : decode prog_6_method_3_code 99 = .ok (.iastore, 1) := by decide +kernel
theorem sf_13 : sh_L[13]? = some (0, 2000) := by decide +kernel
theorem rgf_13 (k : Nat) : rg 13 k = (0, 16) := rfl
theorem d_Parts_add_100 : decode prog_6_method_3_code 100 = .ok (.aload_n 0, 1) := by decide +kernel
theorem d_Parts_add_101 : decode prog_6_method_3_code 101 = .ok (.getfield 15, 3) := by decide +kernel
theorem rff_9_1 : (9, 1, 11) ∈ rf_L := by decide +kernel
theorem d_Parts_add_104 : decode prog_6_method_3_code 104 = .ok (.aload_n 0, 1) := by decide +kernel
theorem d_Parts_add_105 : decode prog_6_method_3_code 105 = .ok (.getfield 30, 3) := by decide +kernel
theorem d_Parts_add_108 : decode prog_6_method_3_code 108 = .ok (.aload_n 0, 1) := by decide +kernel
theorem d_Parts_add_109 : decode prog_6_method_3_code 109 = .ok (.getfield 30, 3) := by decide +kernel
theorem d_Parts_add_112 : decode prog_6_method_3_code 112 = .ok (.iastore, 1) := by decide +kernel
theorem sf_11 : sh_L[11]? = some (0, 2000) := by decide +kernel
theorem rgf_11 (k : Nat) : rg 11 k = (0, 1999) := rfl
theorem d_Parts_add_113 : decode prog_6_method_3_code 113 = .ok (.aload_n 0, 1) := by decide +kernel
theorem d_Parts_add_114 : decode prog_6_method_3_code 114 = .ok (.dup, 1) := by decide +kernel
theorem d_Parts_add_115 : decode prog_6_method_3_code 115 = .ok (.getfield 30, 3) := by decide +kernel
theorem d_Parts_add_118 : decode prog_6_method_3_code 118 = .ok (.iconst 1, 1) := by decide +kernel
theorem d_Parts_add_119 : decode prog_6_method_3_code 119 = .ok (.iadd, 1) := by decide +kernel
theorem d_Parts_add_120 : decode prog_6_method_3_code 120 = .ok (.putfield 30, 3) := by decide +kernel
theorem d_Parts_add_123 : decode prog_6_method_3_code 123 = .ok (.return_, 1) := by decide +kernel
theorem d_Parts_add_34 : decode prog_6_method_3_code 34 = .ok (.aload_n 0, 1) := by decide +kernel
theorem d_Parts_add_35 : decode prog_6_method_3_code 35 = .ok (.getfield 24, 3) := by decide +kernel
theorem rff_9_5 : (9, 5, 14) ∈ rf_L := by decide +kernel
theorem d_Parts_add_38 : decode prog_6_method_3_code 38 = .ok (.aload_n 0, 1) := by decide +kernel
theorem d_Parts_add_39 : decode prog_6_method_3_code 39 = .ok (.getfield 34, 3) := by decide +kernel
theorem d_Parts_add_42 : decode prog_6_method_3_code 42 = .ok (.aload_n 0, 1) := by decide +kernel
theorem d_Parts_add_43 : decode prog_6_method_3_code 43 = .ok (.getfield 30, 3) := by decide +kernel
theorem d_Parts_add_46 : decode prog_6_method_3_code 46 = .ok (.iastore, 1) := by decide +kernel
theorem sf_14 : sh_L[14]? = some (0, 7) := by decide +kernel
theorem rgf_14 (k : Nat) : rg 14 k = (0, 1999) := rfl
theorem d_Parts_add_47 : decode prog_6_method_3_code 47 = .ok (.aload_n 0, 1) := by decide +kernel
theorem d_Parts_add_48 : decode prog_6_method_3_code 48 = .ok (.getfield 27, 3) := by decide +kernel
theorem rff_9_6 : (9, 6, 15) ∈ rf_L := by decide +kernel
theorem d_Parts_add_51 : decode prog_6_method_3_code 51 = .ok (.aload_n 0, 1) := by decide +kernel
theorem d_Parts_add_52 : decode prog_6_method_3_code 52 = .ok (.getfield 34, 3) := by decide +kernel
theorem d_Parts_add_55 : decode prog_6_method_3_code 55 = .ok (.aload_n 0, 1) := by decide +kernel
theorem d_Parts_add_56 : decode prog_6_method_3_code 56 = .ok (.getfield 30, 3) := by decide +kernel
theorem d_Parts_add_59 : decode prog_6_method_3_code 59 = .ok (.iastore, 1) := by decide +kernel
theorem sf_15 : sh_L[15]? = some (0, 7) := by decide +kernel
theorem rgf_15 (k : Nat) : rg 15 k = (0, 1999) := rfl
theorem d_Parts_add_60 : decode prog_6_method_3_code 60 = .ok (.aload_n 0, 1) := by decide +kernel
theorem d_Parts_add_61 : decode prog_6_method_3_code 61 = .ok (.dup, 1) := by decide +kernel
theorem d_Parts_add_62 : decode prog_6_method_3_code 62 = .ok (.getfield 34, 3) := by decide +kernel
theorem d_Parts_add_65 : decode prog_6_method_3_code 65 = .ok (.iconst 1, 1) := by decide +kernel
theorem d_Parts_add_66 : decode prog_6_method_3_code 66 = .ok (.iadd, 1) := by decide +kernel
theorem d_Parts_add_67 : decode prog_6_method_3_code 67 = .ok (.putfield 34, 3) := by decide +kernel
theorem d_Parts_add_19 : decode prog_6_method_3_code 19 = .ok (.iload_n 1, 1) := by decide +kernel
theorem d_Parts_add_20 : decode prog_6_method_3_code 20 = .ok (.bipush 123, 2) := by decide +kernel
theorem d_Parts_add_22 : decode prog_6_method_3_code 22 = .ok (.if_icmp .ne 48, 3) := by decide +kernel
theorem d_Parts_add_12 : decode prog_6_method_3_code 12 = .ok (.return_, 1) := by decide +kernel
def m_Parts_addMark : mr_T := (⟨"PlainMusic$Parts", "addMark", "(I)Z"⟩, prog_6_method_4_code, 3, some .boolean)
theorem d_Parts_addMark_0 : decode prog_6_method_4_code 0 = .ok (.aload_n 0, 1) := by decide +kernel
theorem d_Parts_addMark_1 : decode prog_6_method_4_code 1 = .ok (.getfield 34, 3) := by decide +kernel
theorem d_Parts_addMark_4 : decode prog_6_method_4_code 4 = .ok (.iconst 1, 1) := by decide +kernel
theorem d_Parts_addMark_5 : decode prog_6_method_4_code 5 = .ok (.if_icmp .lt 24, 3) := by decide +kernel
theorem d_Parts_addMark_29 : decode prog_6_method_4_code 29 = .ok (.iconst 0, 1) := by decide +kernel
theorem d_Parts_addMark_30 : decode prog_6_method_4_code 30 = .ok (.ireturn, 1) := by decide +kernel
theorem d_Parts_addMark_8 : decode prog_6_method_4_code 8 = .ok (.aload_n 0, 1) := by decide +kernel
theorem d_Parts_addMark_9 : decode prog_6_method_4_code 9 = .ok (.getfield 34, 3) := by decide +kernel
theorem d_Parts_addMark_12 : decode prog_6_method_4_code 12 = .ok (.bipush 7, 2) := by decide +kernel
theorem d_Parts_addMark_14 : decode prog_6_method_4_code 14 = .ok (.if_icmp .gt 15, 3) := by decide +kernel
theorem d_Parts_addMark_17 : decode prog_6_method_4_code 17 = .ok (.aload_n 0, 1) := by decide +kernel
theorem d_Parts_addMark_18 : decode prog_6_method_4_code 18 = .ok (.getfield 30, 3) := by decide +kernel
theorem d_Parts_addMark_21 : decode prog_6_method_4_code 21 = .ok (.aload_n 0, 1) := by decide +kernel
theorem d_Parts_addMark_22 : decode prog_6_method_4_code 22 = .ok (.getfield 9, 3) := by decide +kernel
theorem d_Parts_addMark_25 : decode prog_6_method_4_code 25 = .ok (.arraylength, 1) := by decide +kernel
theorem d_Parts_addMark_26 : decode prog_6_method_4_code 26 = .ok (.if_icmp .lt 5, 3) := by decide +kernel
theorem d_Parts_addMark_31 : decode prog_6_method_4_code 31 = .ok (.aload_n 0, 1) := by decide +kernel
theorem d_Parts_addMark_32 : decode prog_6_method_4_code 32 = .ok (.getfield 34, 3) := by decide +kernel
theorem d_Parts_addMark_35 : decode prog_6_method_4_code 35 = .ok (.iconst 1, 1) := by decide +kernel
theorem d_Parts_addMark_36 : decode prog_6_method_4_code 36 = .ok (.isub, 1) := by decide +kernel
theorem d_Parts_addMark_37 : decode prog_6_method_4_code 37 = .ok (.istore_n 2, 1) := by decide +kernel
theorem d_Parts_addMark_38 : decode prog_6_method_4_code 38 = .ok (.aload_n 0, 1) := by decide +kernel
theorem d_Parts_addMark_39 : decode prog_6_method_4_code 39 = .ok (.getfield 9, 3) := by decide +kernel
theorem d_Parts_addMark_42 : decode prog_6_method_4_code 42 = .ok (.aload_n 0, 1) := by decide +kernel
theorem d_Parts_addMark_43 : decode prog_6_method_4_code 43 = .ok (.getfield 24, 3) := by decide +kernel
theorem d_Parts_addMark_46 : decode prog_6_method_4_code 46 = .ok (.iload_n 2, 1) := by decide +kernel
theorem d_Parts_addMark_47 : decode prog_6_method_4_code 47 = .ok (.iaload, 1) := by decide +kernel
theorem d_Parts_addMark_48 : decode prog_6_method_4_code 48 = .ok (.iaload, 1) := by decide +kernel
theorem d_Parts_addMark_49 : decode prog_6_method_4_code 49 = .ok (.iload_n 1, 1) := by decide +kernel
theorem d_Parts_addMark_50 : decode prog_6_method_4_code 50 = .ok (.bipush 125, 2) := by decide +kernel
theorem d_Parts_addMark_52 : decode prog_6_method_4_code 52 = .ok (.if_icmp .ne 8, 3) := by decide +kernel
theorem d_Parts_addMark_60 : decode prog_6_method_4_code 60 = .ok (.bipush 91, 2) := by decide +kernel
theorem d_Parts_addMark_62 : decode prog_6_method_4_code 62 = .ok (.if_icmp .eq 5, 3) := by decide +kernel
theorem d_Parts_addMark_67 : decode prog_6_method_4_code 67 = .ok (.aload_n 0, 1) := by decide +kernel
theorem d_Parts_addMark_68 : decode prog_6_method_4_code 68 = .ok (.getfield 15, 3) := by decide +kernel
theorem d_Parts_addMark_71 : decode prog_6_method_4_code 71 = .ok (.aload_n 0, 1) := by decide +kernel
theorem d_Parts_addMark_72 : decode prog_6_method_4_code 72 = .ok (.getfield 27, 3) := by decide +kernel
theorem d_Parts_addMark_75 : decode prog_6_method_4_code 75 = .ok (.iload_n 2, 1) := by decide +kernel
theorem d_Parts_addMark_76 : decode prog_6_method_4_code 76 = .ok (.iaload, 1) := by decide +kernel
theorem d_Parts_addMark_77 : decode prog_6_method_4_code 77 = .ok (.aload_n 0, 1) := by decide +kernel
theorem d_Parts_addMark_78 : decode prog_6_method_4_code 78 = .ok (.getfield 30, 3) := by decide +kernel
theorem d_Parts_addMark_81 : decode prog_6_method_4_code 81 = .ok (.iastore, 1) := by decide +kernel
theorem d_Parts_addMark_82 : decode prog_6_method_4_code 82 = .ok (.aload_n 0, 1) := by decide +kernel
theorem d_Parts_addMark_83 : decode prog_6_method_4_code 83 = .ok (.getfield 27, 3) := by decide +kernel
theorem d_Parts_addMark_86 : decode prog_6_method_4_code 86 = .ok (.iload_n 2, 1) := by decide +kernel
theorem d_Parts_addMark_87 : decode prog_6_method_4_code 87 = .ok (.aload_n 0, 1) := by decide +kernel
theorem d_Parts_addMark_88 : decode prog_6_method_4_code 88 = .ok (.getfield 30, 3) := by decide +kernel
theorem d_Parts_addMark_91 : decode prog_6_method_4_code 91 = .ok (.iastore, 1) := by decide +kernel
theorem d_Parts_addMark_92 : decode prog_6_method_4_code 92 = .ok (.aload_n 0, 1) := by decide +kernel
theorem d_Parts_addMark_93 : decode prog_6_method_4_code 93 = .ok (.iload_n 1, 1) := by decide +kernel
theorem d_Parts_addMark_94 : decode prog_6_method_4_code 94 = .ok (.iconst 0, 1) := by decide +kernel
theorem d_Parts_addMark_95 : decode prog_6_method_4_code 95 = .ok (.iconst 0, 1) := by decide +kernel
theorem d_Parts_addMark_96 : decode prog_6_method_4_code 96 = .ok (.invokevirtual 37, 3) := by decide +kernel
theorem k_Parts_add : mt_OK m_Parts_add 3 1 := ⟨gwi_895, gwi_137, ⟨by decide +kernel, by decide +kernel, by decide +kernel⟩, fun h => absurd h (by decide), fun _ => ⟨gwi_893, gwi_894⟩, fun h => absurd h (by decide)⟩
theorem l_Parts_37 : ml_OK "PlainMusic$Parts" 37 ⟨"PlainMusic$Parts", "add", "(III)V"⟩ := Or.inl gwi_904
theorem d_Parts_addMark_99 : decode prog_6_method_4_code 99 = .ok (.iload_n 1, 1) := by decide +kernel
theorem d_Parts_addMark_100 : decode prog_6_method_4_code 100 = .ok (.bipush 58, 2) := by decide +kernel
theorem d_Parts_addMark_102 : decode prog_6_method_4_code 102 = .ok (.if_icmp .eq 13, 3) := by decide +kernel
theorem d_Parts_addMark_115 : decode prog_6_method_4_code 115 = .ok (.iconst 1, 1) := by decide +kernel
theorem d_Parts_addMark_116 : decode prog_6_method_4_code 116 = .ok (.ireturn, 1) := by decide +kernel
theorem d_Parts_addMark_105 : decode prog_6_method_4_code 105 = .ok (.aload_n 0, 1) := by decide +kernel
theorem d_Parts_addMark_106 : decode prog_6_method_4_code 106 = .ok (.dup, 1) := by decide +kernel
theorem d_Parts_addMark_107 : decode prog_6_method_4_code 107 = .ok (.getfield 34, 3) := by decide +kernel
theorem d_Parts_addMark_110 : decode prog_6_method_4_code 110 = .ok (.iconst 1, 1) := by decide +kernel
theorem d_Parts_addMark_111 : decode prog_6_method_4_code 111 = .ok (.isub, 1) := by decide +kernel
theorem d_Parts_addMark_112 : decode prog_6_method_4_code 112 = .ok (.putfield 34, 3) := by decide +kernel
theorem d_Parts_addMark_65 : decode prog_6_method_4_code 65 = .ok (.iconst 0, 1) := by decide +kernel
theorem d_Parts_addMark_66 : decode prog_6_method_4_code 66 = .ok (.ireturn, 1) := by decide +kernel
theorem d_Parts_addMark_55 : decode prog_6_method_4_code 55 = .ok (.bipush 123, 2) := by decide +kernel
theorem d_Parts_addMark_57 : decode prog_6_method_4_code 57 = .ok (.goto 5, 3) := by decide +kernel
def m_Parts_meetLine : mr_T := (⟨"PlainMusic$Parts", "meetLine", "(LPlainMusic$Voice;)V"⟩, prog_6_method_8_code, 2, none)
theorem d_Parts_meetLine_0 : decode prog_6_method_8_code 0 = .ok (.aload_n 0, 1) := by decide +kernel
theorem d_Parts_meetLine_1 : decode prog_6_method_8_code 1 = .ok (.dup, 1) := by decide +kernel
theorem d_Parts_meetLine_2 : decode prog_6_method_8_code 2 = .ok (.getfield 52, 3) := by decide +kernel
theorem f_Parts_52 : fl_OK "PlainMusic$Parts" 52 4 10 .int false := ⟨_, rfl, by decide, gwi_238, rfl, rfl⟩
theorem d_Parts_meetLine_5 : decode prog_6_method_8_code 5 = .ok (.iconst 1, 1) := by decide +kernel
theorem d_Parts_meetLine_6 : decode prog_6_method_8_code 6 = .ok (.iadd, 1) := by decide +kernel
theorem d_Parts_meetLine_7 : decode prog_6_method_8_code 7 = .ok (.putfield 52, 3) := by decide +kernel
theorem d_Parts_meetLine_10 : decode prog_6_method_8_code 10 = .ok (.aload_n 0, 1) := by decide +kernel
theorem d_Parts_meetLine_11 : decode prog_6_method_8_code 11 = .ok (.getfield 52, 3) := by decide +kernel
theorem d_Parts_meetLine_14 : decode prog_6_method_8_code 14 = .ok (.bipush 100, 2) := by decide +kernel
theorem d_Parts_meetLine_16 : decode prog_6_method_8_code 16 = .ok (.if_icmp .gt 7, 3) := by decide +kernel
theorem d_Parts_meetLine_23 : decode prog_6_method_8_code 23 = .ok (.return_, 1) := by decide +kernel
theorem d_Parts_meetLine_19 : decode prog_6_method_8_code 19 = .ok (.aload_n 1, 1) := by decide +kernel
theorem d_Parts_meetLine_20 : decode prog_6_method_8_code 20 = .ok (.invokevirtual 84, 3) := by decide +kernel
theorem k_Voice_addBar : mt_OK m_Voice_addBar 0 1 := ⟨gwi_933, gwi_139, ⟨by decide +kernel, by decide +kernel, by decide +kernel⟩, fun h => absurd h (by decide), fun _ => ⟨gwi_931, gwi_932⟩, fun h => absurd h (by decide)⟩
theorem l_Parts_84 : ml_OK "PlainMusic$Parts" 84 ⟨"PlainMusic$Voice", "addBar", "()V"⟩ := Or.inl gwi_930
def m_Parts_walkThrough : mr_T := (⟨"PlainMusic$Parts", "walkThrough", "(LPlainMusic$Voice;IIIJJ)V"⟩, prog_6_method_6_code, 11, none)
theorem d_Parts_walkThrough_0 : decode prog_6_method_6_code 0 = .ok (.iload 4, 2) := by decide +kernel
theorem d_Parts_walkThrough_2 : decode prog_6_method_6_code 2 = .ok (.bipush 7, 2) := by decide +kernel
theorem d_Parts_walkThrough_4 : decode prog_6_method_6_code 4 = .ok (.if_icmp .le 4, 3) := by decide +kernel
theorem d_Parts_walkThrough_7 : decode prog_6_method_6_code 7 = .ok (.return_, 1) := by decide +kernel
def m_Parts_walkRepeat : mr_T := (⟨"PlainMusic$Parts", "walkRepeat", "(LPlainMusic$Voice;IIJJ)I"⟩, prog_6_method_7_code, 11, some .int)
theorem d_Parts_walkRepeat_0 : decode prog_6_method_7_code 0 = .ok (.aload_n 0, 1) := by decide +kernel
theorem d_Parts_walkRepeat_1 : decode prog_6_method_7_code 1 = .ok (.getfield 15, 3) := by decide +kernel
theorem d_Parts_walkRepeat_4 : decode prog_6_method_7_code 4 = .ok (.iload_n 2, 1) := by decide +kernel
theorem d_Parts_walkRepeat_5 : decode prog_6_method_7_code 5 = .ok (.iaload, 1) := by decide +kernel
theorem d_Parts_walkRepeat_6 : decode prog_6_method_7_code 6 = .ok (.istore 8, 2) := by decide +kernel
theorem d_Parts_walkRepeat_8 : decode prog_6_method_7_code 8 = .ok (.aload_n 0, 1) := by decide +kernel
theorem d_Parts_walkRepeat_9 : decode prog_6_method_7_code 9 = .ok (.getfield 9, 3) := by decide +kernel
theorem d_Parts_walkRepeat_12 : decode prog_6_method_7_code 12 = .ok (.iload 8, 2) := by decide +kernel
theorem d_Parts_walkRepeat_14 : decode prog_6_method_7_code 14 = .ok (.iaload, 1) := by decide +kernel
theorem d_Parts_walkRepeat_15 : decode prog_6_method_7_code 15 = .ok (.bipush 58, 2) := by decide +kernel
theorem d_Parts_walkRepeat_17 : decode prog_6_method_7_code 17 = .ok (.if_icmp .eq 60, 3) := by decide +kernel
theorem d_Parts_walkRepeat_77 : decode prog_6_method_7_code 77 = .ok (.iload 8, 2) := by decide +kernel
theorem d_Parts_walkRepeat_79 : decode prog_6_method_7_code 79 = .ok (.istore 9, 2) := by decide +kernel
theorem d_Parts_walkRepeat_81 : decode prog_6_method_7_code 81 = .ok (.iconst 0, 1) := by decide +kernel
theorem d_Parts_walkRepeat_82 : decode prog_6_method_7_code 82 = .ok (.istore 10, 2) := by decide +kernel
theorem d_Parts_walkRepeat_84 : decode prog_6_method_7_code 84 = .ok (.iload 10, 2) := by decide +kernel
theorem d_Parts_walkRepeat_86 : decode prog_6_method_7_code 86 = .ok (.sipush 2000, 3) := by decide +kernel
theorem d_Parts_walkRepeat_89 : decode prog_6_method_7_code 89 = .ok (.if_icmp .ge 80, 3) := by decide +kernel
theorem d_Parts_walkRepeat_92 : decode prog_6_method_7_code 92 = .ok (.aload_n 0, 1) := by decide +kernel
theorem d_Parts_walkRepeat_93 : decode prog_6_method_7_code 93 = .ok (.getfield 9, 3) := by decide +kernel
theorem d_Parts_walkRepeat_96 : decode prog_6_method_7_code 96 = .ok (.iload 9, 2) := by decide +kernel
theorem d_Parts_walkRepeat_98 : decode prog_6_method_7_code 98 = .ok (.iaload, 1) := by decide +kernel
theorem d_Parts_walkRepeat_99 : decode prog_6_method_7_code 99 = .ok (.bipush 58, 2) := by decide +kernel
theorem d_Parts_walkRepeat_101 : decode prog_6_method_7_code 101 = .ok (.if_icmp .ne 68, 3) := by decide +kernel
theorem d_Parts_walkRepeat_169 : decode prog_6_method_7_code 169 = .ok (.iload 9, 2) := by decide +kernel
theorem d_Parts_walkRepeat_171 : decode prog_6_method_7_code 171 = .ok (.ireturn, 1) := by decide +kernel
theorem d_Parts_walkRepeat_104 : decode prog_6_method_7_code 104 = .ok (.aload_n 0, 1) := by decide +kernel
theorem d_Parts_walkRepeat_105 : decode prog_6_method_7_code 105 = .ok (.dup, 1) := by decide +kernel
theorem d_Parts_walkRepeat_106 : decode prog_6_method_7_code 106 = .ok (.getfield 46, 3) := by decide +kernel
theorem f_Parts_46 : fl_OK "PlainMusic$Parts" 46 4 8 .int false := ⟨_, rfl, by decide, gwi_236, rfl, rfl⟩
theorem d_Parts_walkRepeat_109 : decode prog_6_method_7_code 109 = .ok (.iconst 1, 1) := by decide +kernel
theorem d_Parts_walkRepeat_110 : decode prog_6_method_7_code 110 = .ok (.iadd, 1) := by decide +kernel
theorem d_Parts_walkRepeat_111 : decode prog_6_method_7_code 111 = .ok (.putfield 46, 3) := by decide +kernel
theorem d_Parts_walkRepeat_114 : decode prog_6_method_7_code 114 = .ok (.aload_n 0, 1) := by decide +kernel
theorem d_Parts_walkRepeat_115 : decode prog_6_method_7_code 115 = .ok (.aload_n 1, 1) := by decide +kernel
theorem d_Parts_walkRepeat_116 : decode prog_6_method_7_code 116 = .ok (.iload_n 2, 1) := by decide +kernel
theorem d_Parts_walkRepeat_117 : decode prog_6_method_7_code 117 = .ok (.iconst 1, 1) := by decide +kernel
theorem d_Parts_walkRepeat_118 : decode prog_6_method_7_code 118 = .ok (.iadd, 1) := by decide +kernel
theorem d_Parts_walkRepeat_119 : decode prog_6_method_7_code 119 = .ok (.iload 8, 2) := by decide +kernel
theorem d_Parts_walkRepeat_121 : decode prog_6_method_7_code 121 = .ok (.iload_n 3, 1) := by decide +kernel
theorem d_Parts_walkRepeat_122 : decode prog_6_method_7_code 122 = .ok (.iconst 1, 1) := by decide +kernel
theorem d_Parts_walkRepeat_123 : decode prog_6_method_7_code 123 = .ok (.iadd, 1) := by decide +kernel
theorem d_Parts_walkRepeat_124 : decode prog_6_method_7_code 124 = .ok (.lload 4, 2) := by decide +kernel
theorem d_Parts_walkRepeat_126 : decode prog_6_method_7_code 126 = .ok (.lload 6, 2) := by decide +kernel
theorem d_Parts_walkRepeat_128 : decode prog_6_method_7_code 128 = .ok (.invokevirtual 59, 3) := by decide +kernel
theorem k_Parts_walkThrough : mt_OK m_Parts_walkThrough 6 1 := ⟨gwi_920, gwi_137, ⟨by decide +kernel, by decide +kernel, by decide +kernel⟩, fun h => absurd h (by decide), fun _ => ⟨gwi_919, gwi_20⟩, fun h => absurd h (by decide)⟩
theorem l_Parts_59 : ml_OK "PlainMusic$Parts" 59 ⟨"PlainMusic$Parts", "walkThrough", "(LPlainMusic$Voice;IIIJJ)V"⟩ := Or.inl gwi_917
theorem d_Parts_walkRepeat_131 : decode prog_6_method_7_code 131 = .ok (.aload_n 0, 1) := by decide +kernel
theorem d_Parts_walkRepeat_132 : decode prog_6_method_7_code 132 = .ok (.aload_n 1, 1) := by decide +kernel
theorem d_Parts_walkRepeat_133 : decode prog_6_method_7_code 133 = .ok (.iload 9, 2) := by decide +kernel
theorem d_Parts_walkRepeat_135 : decode prog_6_method_7_code 135 = .ok (.iconst 1, 1) := by decide +kernel
theorem d_Parts_walkRepeat_136 : decode prog_6_method_7_code 136 = .ok (.iadd, 1) := by decide +kernel
theorem d_Parts_walkRepeat_137 : decode prog_6_method_7_code 137 = .ok (.aload_n 0, 1) := by decide +kernel
theorem d_Parts_walkRepeat_138 : decode prog_6_method_7_code 138 = .ok (.getfield 15, 3) := by decide +kernel
theorem d_Parts_walkRepeat_141 : decode prog_6_method_7_code 141 = .ok (.iload 9, 2) := by decide +kernel
theorem d_Parts_walkRepeat_143 : decode prog_6_method_7_code 143 = .ok (.iaload, 1) := by decide +kernel
theorem d_Parts_walkRepeat_144 : decode prog_6_method_7_code 144 = .ok (.iload_n 3, 1) := by decide +kernel
theorem d_Parts_walkRepeat_145 : decode prog_6_method_7_code 145 = .ok (.iconst 1, 1) := by decide +kernel
theorem d_Parts_walkRepeat_146 : decode prog_6_method_7_code 146 = .ok (.iadd, 1) := by decide +kernel
theorem d_Parts_walkRepeat_147 : decode prog_6_method_7_code 147 = .ok (.lload 4, 2) := by decide +kernel
theorem d_Parts_walkRepeat_149 : decode prog_6_method_7_code 149 = .ok (.lload 6, 2) := by decide +kernel
theorem d_Parts_walkRepeat_151 : decode prog_6_method_7_code 151 = .ok (.invokevirtual 59, 3) := by decide +kernel
theorem d_Parts_walkRepeat_154 : decode prog_6_method_7_code 154 = .ok (.aload_n 0, 1) := by decide +kernel
theorem d_Parts_walkRepeat_155 : decode prog_6_method_7_code 155 = .ok (.getfield 15, 3) := by decide +kernel
theorem d_Parts_walkRepeat_158 : decode prog_6_method_7_code 158 = .ok (.iload 9, 2) := by decide +kernel
theorem d_Parts_walkRepeat_160 : decode prog_6_method_7_code 160 = .ok (.iaload, 1) := by decide +kernel
theorem d_Parts_walkRepeat_161 : decode prog_6_method_7_code 161 = .ok (.istore 9, 2) := by decide +kernel
theorem d_Parts_walkRepeat_163 : decode prog_6_method_7_code 163 = .ok (.iinc 10 1, 3) := by decide +kernel
theorem d_Parts_walkRepeat_166 : decode prog_6_method_7_code 166 = .ok (.goto (-82), 3) := by decide +kernel
theorem d_Parts_walkRepeat_20 : decode prog_6_method_7_code 20 = .ok (.aload_n 0, 1) := by decide +kernel
theorem d_Parts_walkRepeat_21 : decode prog_6_method_7_code 21 = .ok (.dup, 1) := by decide +kernel
theorem d_Parts_walkRepeat_22 : decode prog_6_method_7_code 22 = .ok (.getfield 46, 3) := by decide +kernel
theorem d_Parts_walkRepeat_25 : decode prog_6_method_7_code 25 = .ok (.iconst 1, 1) := by decide +kernel
theorem d_Parts_walkRepeat_26 : decode prog_6_method_7_code 26 = .ok (.iadd, 1) := by decide +kernel
theorem d_Parts_walkRepeat_27 : decode prog_6_method_7_code 27 = .ok (.putfield 46, 3) := by decide +kernel
theorem d_Parts_walkRepeat_30 : decode prog_6_method_7_code 30 = .ok (.aload_n 0, 1) := by decide +kernel
theorem d_Parts_walkRepeat_31 : decode prog_6_method_7_code 31 = .ok (.aload_n 1, 1) := by decide +kernel
theorem d_Parts_walkRepeat_32 : decode prog_6_method_7_code 32 = .ok (.iload_n 2, 1) := by decide +kernel
theorem d_Parts_walkRepeat_33 : decode prog_6_method_7_code 33 = .ok (.iconst 1, 1) := by decide +kernel
theorem d_Parts_walkRepeat_34 : decode prog_6_method_7_code 34 = .ok (.iadd, 1) := by decide +kernel
theorem d_Parts_walkRepeat_35 : decode prog_6_method_7_code 35 = .ok (.iload 8, 2) := by decide +kernel
theorem d_Parts_walkRepeat_37 : decode prog_6_method_7_code 37 = .ok (.iload_n 3, 1) := by decide +kernel
theorem d_Parts_walkRepeat_38 : decode prog_6_method_7_code 38 = .ok (.iconst 1, 1) := by decide +kernel
theorem d_Parts_walkRepeat_39 : decode prog_6_method_7_code 39 = .ok (.iadd, 1) := by decide +kernel
theorem d_Parts_walkRepeat_40 : decode prog_6_method_7_code 40 = .ok (.lload 4, 2) := by decide +kernel
theorem d_Parts_walkRepeat_42 : decode prog_6_method_7_code 42 = .ok (.lload 6, 2) := by decide +kernel
theorem d_Parts_walkRepeat_44 : decode prog_6_method_7_code 44 = .ok (.invokevirtual 59, 3) := by decide +kernel
theorem d_Parts_walkRepeat_47 : decode prog_6_method_7_code 47 = .ok (.aload_n 0, 1) := by decide +kernel
theorem d_Parts_walkRepeat_48 : decode prog_6_method_7_code 48 = .ok (.dup, 1) := by decide +kernel
theorem d_Parts_walkRepeat_49 : decode prog_6_method_7_code 49 = .ok (.getfield 46, 3) := by decide +kernel
theorem d_Parts_walkRepeat_52 : decode prog_6_method_7_code 52 = .ok (.iconst 1, 1) := by decide +kernel
theorem d_Parts_walkRepeat_53 : decode prog_6_method_7_code 53 = .ok (.iadd, 1) := by decide +kernel
theorem d_Parts_walkRepeat_54 : decode prog_6_method_7_code 54 = .ok (.putfield 46, 3) := by decide +kernel
theorem d_Parts_walkRepeat_57 : decode prog_6_method_7_code 57 = .ok (.aload_n 0, 1) := by decide +kernel
theorem d_Parts_walkRepeat_58 : decode prog_6_method_7_code 58 = .ok (.aload_n 1, 1) := by decide +kernel
theorem d_Parts_walkRepeat_59 : decode prog_6_method_7_code 59 = .ok (.iload_n 2, 1) := by decide +kernel
theorem d_Parts_walkRepeat_60 : decode prog_6_method_7_code 60 = .ok (.iconst 1, 1) := by decide +kernel
theorem d_Parts_walkRepeat_61 : decode prog_6_method_7_code 61 = .ok (.iadd, 1) := by decide +kernel
theorem d_Parts_walkRepeat_62 : decode prog_6_method_7_code 62 = .ok (.iload 8, 2) := by decide +kernel
theorem d_Parts_walkRepeat_64 : decode prog_6_method_7_code 64 = .ok (.iload_n 3, 1) := by decide +kernel
theorem d_Parts_walkRepeat_65 : decode prog_6_method_7_code 65 = .ok (.iconst 1, 1) := by decide +kernel
theorem d_Parts_walkRepeat_66 : decode prog_6_method_7_code 66 = .ok (.iadd, 1) := by decide +kernel
theorem d_Parts_walkRepeat_67 : decode prog_6_method_7_code 67 = .ok (.lload 4, 2) := by decide +kernel
theorem d_Parts_walkRepeat_69 : decode prog_6_method_7_code 69 = .ok (.lload 6, 2) := by decide +kernel
theorem d_Parts_walkRepeat_71 : decode prog_6_method_7_code 71 = .ok (.invokevirtual 59, 3) := by decide +kernel
theorem d_Parts_walkRepeat_74 : decode prog_6_method_7_code 74 = .ok (.iload 8, 2) := by decide +kernel
theorem d_Parts_walkRepeat_76 : decode prog_6_method_7_code 76 = .ok (.ireturn, 1) := by decide +kernel
theorem d_Parts_walkThrough_8 : decode prog_6_method_6_code 8 = .ok (.iload_n 2, 1) := by decide +kernel
theorem d_Parts_walkThrough_9 : decode prog_6_method_6_code 9 = .ok (.istore 9, 2) := by decide +kernel
theorem d_Parts_walkThrough_11 : decode prog_6_method_6_code 11 = .ok (.iload 9, 2) := by decide +kernel
theorem d_Parts_walkThrough_13 : decode prog_6_method_6_code 13 = .ok (.iload_n 3, 1) := by decide +kernel
theorem d_Parts_walkThrough_14 : decode prog_6_method_6_code 14 = .ok (.if_icmp .ge 204, 3) := by decide +kernel
theorem d_Parts_walkThrough_218 : decode prog_6_method_6_code 218 = .ok (.return_, 1) := by decide +kernel
theorem d_Parts_walkThrough_17 : decode prog_6_method_6_code 17 = .ok (.iload 9, 2) := by decide +kernel
theorem d_Parts_walkThrough_19 : decode prog_6_method_6_code 19 = .ok (.aload_n 0, 1) := by decide +kernel
theorem d_Parts_walkThrough_20 : decode prog_6_method_6_code 20 = .ok (.getfield 30, 3) := by decide +kernel
theorem d_Parts_walkThrough_23 : decode prog_6_method_6_code 23 = .ok (.if_icmp .ge 195, 3) := by decide +kernel
theorem d_Parts_walkThrough_26 : decode prog_6_method_6_code 26 = .ok (.aload_n 0, 1) := by decide +kernel
theorem d_Parts_walkThrough_27 : decode prog_6_method_6_code 27 = .ok (.getfield 46, 3) := by decide +kernel
theorem d_Parts_walkThrough_30 : decode prog_6_method_6_code 30 = .ok (.sipush 2000, 3) := by decide +kernel
theorem d_Parts_walkThrough_33 : decode prog_6_method_6_code 33 = .ok (.if_icmp .gt 185, 3) := by decide +kernel
theorem d_Parts_walkThrough_36 : decode prog_6_method_6_code 36 = .ok (.aload_n 0, 1) := by decide +kernel
theorem d_Parts_walkThrough_37 : decode prog_6_method_6_code 37 = .ok (.dup, 1) := by decide +kernel
theorem d_Parts_walkThrough_38 : decode prog_6_method_6_code 38 = .ok (.getfield 46, 3) := by decide +kernel
theorem d_Parts_walkThrough_41 : decode prog_6_method_6_code 41 = .ok (.iconst 1, 1) := by decide +kernel
theorem d_Parts_walkThrough_42 : decode prog_6_method_6_code 42 = .ok (.iadd, 1) := by decide +kernel
theorem d_Parts_walkThrough_43 : decode prog_6_method_6_code 43 = .ok (.putfield 46, 3) := by decide +kernel
theorem d_Parts_walkThrough_46 : decode prog_6_method_6_code 46 = .ok (.aload_n 0, 1) := by decide +kernel
theorem d_Parts_walkThrough_47 : decode prog_6_method_6_code 47 = .ok (.getfield 9, 3) := by decide +kernel
theorem d_Parts_walkThrough_50 : decode prog_6_method_6_code 50 = .ok (.iload 9, 2) := by decide +kernel
theorem d_Parts_walkThrough_52 : decode prog_6_method_6_code 52 = .ok (.iaload, 1) := by decide +kernel
theorem d_Parts_walkThrough_53 : decode prog_6_method_6_code 53 = .ok (.istore 10, 2) := by decide +kernel
theorem d_Parts_walkThrough_55 : decode prog_6_method_6_code 55 = .ok (.iload 10, 2) := by decide +kernel
theorem d_Parts_walkThrough_57 : decode prog_6_method_6_code 57 = .ok (.bipush 91, 2) := by decide +kernel
theorem d_Parts_walkThrough_59 : decode prog_6_method_6_code 59 = .ok (.if_icmp .ne 26, 3) := by decide +kernel
theorem d_Parts_walkThrough_85 : decode prog_6_method_6_code 85 = .ok (.iload 10, 2) := by decide +kernel
theorem d_Parts_walkThrough_87 : decode prog_6_method_6_code 87 = .ok (.bipush 123, 2) := by decide +kernel
theorem d_Parts_walkThrough_89 : decode prog_6_method_6_code 89 = .ok (.if_icmp .ne 62, 3) := by decide +kernel
theorem d_Parts_walkThrough_151 : decode prog_6_method_6_code 151 = .ok (.iload 10, 2) := by decide +kernel
theorem d_Parts_walkThrough_153 : decode prog_6_method_6_code 153 = .ok (.bipush 124, 2) := by decide +kernel
theorem d_Parts_walkThrough_155 : decode prog_6_method_6_code 155 = .ok (.if_icmp .ne 11, 3) := by decide +kernel
theorem d_Parts_walkThrough_166 : decode prog_6_method_6_code 166 = .ok (.aload_n 0, 1) := by decide +kernel
theorem d_Parts_walkThrough_167 : decode prog_6_method_6_code 167 = .ok (.dup, 1) := by decide +kernel
theorem d_Parts_walkThrough_168 : decode prog_6_method_6_code 168 = .ok (.getfield 49, 3) := by decide +kernel
theorem f_Parts_49 : fl_OK "PlainMusic$Parts" 49 4 9 .int false := ⟨_, rfl, by decide, gwi_237, rfl, rfl⟩
theorem rgf_9_9 : rg 9 9 = ((-2147483648), 2147483647) := by decide +kernel
theorem d_Parts_walkThrough_171 : decode prog_6_method_6_code 171 = .ok (.iconst 1, 1) := by decide +kernel
theorem d_Parts_walkThrough_172 : decode prog_6_method_6_code 172 = .ok (.iadd, 1) := by decide +kernel
theorem d_Parts_walkThrough_173 : decode prog_6_method_6_code 173 = .ok (.putfield 49, 3) := by decide +kernel
theorem d_Parts_walkThrough_176 : decode prog_6_method_6_code 176 = .ok (.aload_n 0, 1) := by decide +kernel
theorem d_Parts_walkThrough_177 : decode prog_6_method_6_code 177 = .ok (.getfield 49, 3) := by decide +kernel
theorem d_Parts_walkThrough_180 : decode prog_6_method_6_code 180 = .ok (.sipush 300, 3) := by decide +kernel
theorem d_Parts_walkThrough_183 : decode prog_6_method_6_code 183 = .ok (.if_icmp .gt 29, 3) := by decide +kernel
theorem d_Parts_walkThrough_212 : decode prog_6_method_6_code 212 = .ok (.iinc 9 1, 3) := by decide +kernel
theorem d_Parts_walkThrough_215 : decode prog_6_method_6_code 215 = .ok (.goto (-204), 3) := by decide +kernel
theorem d_Parts_walkThrough_186 : decode prog_6_method_6_code 186 = .ok (.aload_n 0, 1) := by decide +kernel
theorem d_Parts_walkThrough_187 : decode prog_6_method_6_code 187 = .ok (.getfield 55, 3) := by decide +kernel
theorem f_Parts_55 : fl_OK "PlainMusic$Parts" 55 4 11 .boolean false := ⟨_, rfl, by decide, gwi_239, rfl, rfl⟩
theorem d_Parts_walkThrough_190 : decode prog_6_method_6_code 190 = .ok (.ifCond .eq 22, 3) := by decide +kernel
theorem d_Parts_walkThrough_193 : decode prog_6_method_6_code 193 = .ok (.aload_n 0, 1) := by decide +kernel
theorem d_Parts_walkThrough_194 : decode prog_6_method_6_code 194 = .ok (.aload_n 1, 1) := by decide +kernel
theorem d_Parts_walkThrough_195 : decode prog_6_method_6_code 195 = .ok (.aload_n 0, 1) := by decide +kernel
theorem d_Parts_walkThrough_196 : decode prog_6_method_6_code 196 = .ok (.getfield 18, 3) := by decide +kernel
theorem d_Parts_walkThrough_199 : decode prog_6_method_6_code 199 = .ok (.iload 9, 2) := by decide +kernel
theorem d_Parts_walkThrough_201 : decode prog_6_method_6_code 201 = .ok (.iaload, 1) := by decide +kernel
theorem d_Parts_walkThrough_202 : decode prog_6_method_6_code 202 = .ok (.lload 5, 2) := by decide +kernel
theorem d_Parts_walkThrough_204 : decode prog_6_method_6_code 204 = .ok (.lload 7, 2) := by decide +kernel
theorem d_Parts_walkThrough_206 : decode prog_6_method_6_code 206 = .ok (.invokevirtual 80, 3) := by decide +kernel
theorem k_Voice_addEvent : mt_OK m_Voice_addEvent 3 1 := ⟨gwi_937, gwi_139, ⟨by decide +kernel, by decide +kernel, by decide +kernel⟩, fun h => absurd h (by decide), fun _ => ⟨gwi_935, gwi_936⟩, fun h => absurd h (by decide)⟩
theorem l_Parts_80 : ml_OK "PlainMusic$Parts" 80 ⟨"PlainMusic$Voice", "addEvent", "(IJJ)Z"⟩ := Or.inl gwi_934
theorem d_Parts_walkThrough_209 : decode prog_6_method_6_code 209 = .ok (.putfield 55, 3) := by decide +kernel
theorem rgf_9_11 : rg 9 11 = ((-2147483648), 2147483647) := by decide +kernel
theorem d_Parts_walkThrough_158 : decode prog_6_method_6_code 158 = .ok (.aload_n 0, 1) := by decide +kernel
theorem d_Parts_walkThrough_159 : decode prog_6_method_6_code 159 = .ok (.aload_n 1, 1) := by decide +kernel
theorem d_Parts_walkThrough_160 : decode prog_6_method_6_code 160 = .ok (.invokevirtual 76, 3) := by decide +kernel
theorem k_Parts_meetLine : mt_OK m_Parts_meetLine 1 1 := ⟨gwi_929, gwi_137, ⟨by decide +kernel, by decide +kernel, by decide +kernel⟩, fun h => absurd h (by decide), fun _ => ⟨gwi_928, gwi_22⟩, fun h => absurd h (by decide)⟩
theorem l_Parts_76 : ml_OK "PlainMusic$Parts" 76 ⟨"PlainMusic$Parts", "meetLine", "(LPlainMusic$Voice;)V"⟩ := Or.inl gwi_926
theorem d_Parts_walkThrough_163 : decode prog_6_method_6_code 163 = .ok (.goto 49, 3) := by decide +kernel
theorem d_Parts_walkThrough_92 : decode prog_6_method_6_code 92 = .ok (.aload_n 0, 1) := by decide +kernel
theorem d_Parts_walkThrough_93 : decode prog_6_method_6_code 93 = .ok (.aload_n 1, 1) := by decide +kernel
theorem d_Parts_walkThrough_94 : decode prog_6_method_6_code 94 = .ok (.iload 9, 2) := by decide +kernel
theorem d_Parts_walkThrough_96 : decode prog_6_method_6_code 96 = .ok (.iconst 1, 1) := by decide +kernel
theorem d_Parts_walkThrough_97 : decode prog_6_method_6_code 97 = .ok (.iadd, 1) := by decide +kernel
theorem d_Parts_walkThrough_98 : decode prog_6_method_6_code 98 = .ok (.aload_n 0, 1) := by decide +kernel
theorem d_Parts_walkThrough_99 : decode prog_6_method_6_code 99 = .ok (.getfield 15, 3) := by decide +kernel
theorem d_Parts_walkThrough_102 : decode prog_6_method_6_code 102 = .ok (.iload 9, 2) := by decide +kernel
theorem d_Parts_walkThrough_104 : decode prog_6_method_6_code 104 = .ok (.iaload, 1) := by decide +kernel
theorem d_Parts_walkThrough_105 : decode prog_6_method_6_code 105 = .ok (.iload 4, 2) := by decide +kernel
theorem d_Parts_walkThrough_107 : decode prog_6_method_6_code 107 = .ok (.iconst 1, 1) := by decide +kernel
theorem d_Parts_walkThrough_108 : decode prog_6_method_6_code 108 = .ok (.iadd, 1) := by decide +kernel
theorem d_Parts_walkThrough_109 : decode prog_6_method_6_code 109 = .ok (.lload 5, 2) := by decide +kernel
theorem d_Parts_walkThrough_111 : decode prog_6_method_6_code 111 = .ok (.aload_n 0, 1) := by decide +kernel
theorem d_Parts_walkThrough_112 : decode prog_6_method_6_code 112 = .ok (.getfield 21, 3) := by decide +kernel
theorem d_Parts_walkThrough_115 : decode prog_6_method_6_code 115 = .ok (.iload 9, 2) := by decide +kernel
theorem d_Parts_walkThrough_117 : decode prog_6_method_6_code 117 = .ok (.iaload, 1) := by decide +kernel
theorem d_Parts_walkThrough_118 : decode prog_6_method_6_code 118 = .ok (.i2l, 1) := by decide +kernel
theorem d_Parts_walkThrough_119 : decode prog_6_method_6_code 119 = .ok (.lmul, 1) := by decide +kernel
theorem d_Parts_walkThrough_120 : decode prog_6_method_6_code 120 = .ok (.lload 7, 2) := by decide +kernel
theorem d_Parts_walkThrough_122 : decode prog_6_method_6_code 122 = .ok (.aload_n 0, 1) := by decide +kernel
theorem d_Parts_walkThrough_123 : decode prog_6_method_6_code 123 = .ok (.getfield 18, 3) := by decide +kernel
theorem d_Parts_walkThrough_126 : decode prog_6_method_6_code 126 = .ok (.iload 9, 2) := by decide +kernel
theorem d_Parts_walkThrough_128 : decode prog_6_method_6_code 128 = .ok (.iaload, 1) := by decide +kernel
theorem d_Parts_walkThrough_129 : decode prog_6_method_6_code 129 = .ok (.i2l, 1) := by decide +kernel
theorem d_Parts_walkThrough_130 : decode prog_6_method_6_code 130 = .ok (.lmul, 1) := by decide +kernel
theorem d_Parts_walkThrough_131 : decode prog_6_method_6_code 131 = .ok (.invokevirtual 59, 3) := by decide +kernel
theorem d_Parts_walkThrough_134 : decode prog_6_method_6_code 134 = .ok (.iload 9, 2) := by decide +kernel
theorem d_Parts_walkThrough_136 : decode prog_6_method_6_code 136 = .ok (.aload_n 0, 1) := by decide +kernel
theorem d_Parts_walkThrough_137 : decode prog_6_method_6_code 137 = .ok (.getfield 15, 3) := by decide +kernel
theorem d_Parts_walkThrough_140 : decode prog_6_method_6_code 140 = .ok (.iload 9, 2) := by decide +kernel
theorem d_Parts_walkThrough_142 : decode prog_6_method_6_code 142 = .ok (.iaload, 1) := by decide +kernel
theorem d_Parts_walkThrough_143 : decode prog_6_method_6_code 143 = .ok (.invokestatic 70, 3) := by decide +kernel
theorem lm_Parts_70 : Cond.methodLink "PlainMusic$Parts" 70 Lib.Math.max.name ∈ gw := gwi_925
theorem d_Parts_walkThrough_146 : decode prog_6_method_6_code 146 = .ok (.istore 9, 2) := by decide +kernel
theorem d_Parts_walkThrough_148 : decode prog_6_method_6_code 148 = .ok (.goto 64, 3) := by decide +kernel
theorem d_Parts_walkThrough_62 : decode prog_6_method_6_code 62 = .ok (.iload 9, 2) := by decide +kernel
theorem d_Parts_walkThrough_64 : decode prog_6_method_6_code 64 = .ok (.aload_n 0, 1) := by decide +kernel
theorem d_Parts_walkThrough_65 : decode prog_6_method_6_code 65 = .ok (.aload_n 1, 1) := by decide +kernel
theorem d_Parts_walkThrough_66 : decode prog_6_method_6_code 66 = .ok (.iload 9, 2) := by decide +kernel
theorem d_Parts_walkThrough_68 : decode prog_6_method_6_code 68 = .ok (.iload 4, 2) := by decide +kernel
theorem d_Parts_walkThrough_70 : decode prog_6_method_6_code 70 = .ok (.lload 5, 2) := by decide +kernel
theorem d_Parts_walkThrough_72 : decode prog_6_method_6_code 72 = .ok (.lload 7, 2) := by decide +kernel
theorem d_Parts_walkThrough_74 : decode prog_6_method_6_code 74 = .ok (.invokevirtual 66, 3) := by decide +kernel
theorem k_Parts_walkRepeat : mt_OK m_Parts_walkRepeat 5 1 := ⟨gwi_924, gwi_137, ⟨by decide +kernel, by decide +kernel, by decide +kernel⟩, fun h => absurd h (by decide), fun _ => ⟨gwi_923, gwi_21⟩, fun h => absurd h (by decide)⟩
theorem l_Parts_66 : ml_OK "PlainMusic$Parts" 66 ⟨"PlainMusic$Parts", "walkRepeat", "(LPlainMusic$Voice;IIJJ)I"⟩ := Or.inl gwi_921
theorem d_Parts_walkThrough_77 : decode prog_6_method_6_code 77 = .ok (.invokestatic 70, 3) := by decide +kernel
theorem d_Parts_walkThrough_80 : decode prog_6_method_6_code 80 = .ok (.istore 9, 2) := by decide +kernel
theorem d_Parts_walkThrough_82 : decode prog_6_method_6_code 82 = .ok (.goto 130, 3) := by decide +kernel
def m_Parts_walkInto : mr_T := (⟨"PlainMusic$Parts", "walkInto", "(LPlainMusic$Voice;)I"⟩, prog_6_method_5_code, 2, some .int)
theorem d_Parts_walkInto_0 : decode prog_6_method_5_code 0 = .ok (.aload_n 1, 1) := by decide +kernel
theorem d_Parts_walkInto_1 : decode prog_6_method_5_code 1 = .ok (.invokevirtual 41, 3) := by decide +kernel
theorem k_Voice_beginWalk : mt_OK m_Voice_beginWalk 0 1 := ⟨gwi_916, gwi_139, ⟨by decide +kernel, by decide +kernel, by decide +kernel⟩, fun h => absurd h (by decide), fun _ => ⟨gwi_914, gwi_915⟩, fun h => absurd h (by decide)⟩
theorem l_Parts_41 : ml_OK "PlainMusic$Parts" 41 ⟨"PlainMusic$Voice", "beginWalk", "()V"⟩ := Or.inl gwi_913
theorem d_Parts_walkInto_4 : decode prog_6_method_5_code 4 = .ok (.aload_n 0, 1) := by decide +kernel
theorem d_Parts_walkInto_5 : decode prog_6_method_5_code 5 = .ok (.iconst 0, 1) := by decide +kernel
theorem d_Parts_walkInto_6 : decode prog_6_method_5_code 6 = .ok (.putfield 46, 3) := by decide +kernel
theorem d_Parts_walkInto_9 : decode prog_6_method_5_code 9 = .ok (.aload_n 0, 1) := by decide +kernel
theorem d_Parts_walkInto_10 : decode prog_6_method_5_code 10 = .ok (.iconst 0, 1) := by decide +kernel
theorem d_Parts_walkInto_11 : decode prog_6_method_5_code 11 = .ok (.putfield 49, 3) := by decide +kernel
theorem d_Parts_walkInto_14 : decode prog_6_method_5_code 14 = .ok (.aload_n 0, 1) := by decide +kernel
theorem d_Parts_walkInto_15 : decode prog_6_method_5_code 15 = .ok (.iconst 0, 1) := by decide +kernel
theorem d_Parts_walkInto_16 : decode prog_6_method_5_code 16 = .ok (.putfield 52, 3) := by decide +kernel
theorem d_Parts_walkInto_19 : decode prog_6_method_5_code 19 = .ok (.aload_n 0, 1) := by decide +kernel
theorem d_Parts_walkInto_20 : decode prog_6_method_5_code 20 = .ok (.iconst 1, 1) := by decide +kernel
theorem d_Parts_walkInto_21 : decode prog_6_method_5_code 21 = .ok (.putfield 55, 3) := by decide +kernel
theorem d_Parts_walkInto_24 : decode prog_6_method_5_code 24 = .ok (.aload_n 0, 1) := by decide +kernel
theorem d_Parts_walkInto_25 : decode prog_6_method_5_code 25 = .ok (.aload_n 1, 1) := by decide +kernel
theorem d_Parts_walkInto_26 : decode prog_6_method_5_code 26 = .ok (.iconst 0, 1) := by decide +kernel
theorem d_Parts_walkInto_27 : decode prog_6_method_5_code 27 = .ok (.aload_n 0, 1) := by decide +kernel
theorem d_Parts_walkInto_28 : decode prog_6_method_5_code 28 = .ok (.getfield 30, 3) := by decide +kernel
theorem d_Parts_walkInto_31 : decode prog_6_method_5_code 31 = .ok (.iconst 0, 1) := by decide +kernel
theorem d_Parts_walkInto_32 : decode prog_6_method_5_code 32 = .ok (.lconst 1, 1) := by decide +kernel
theorem d_Parts_walkInto_33 : decode prog_6_method_5_code 33 = .ok (.lconst 1, 1) := by decide +kernel
theorem d_Parts_walkInto_34 : decode prog_6_method_5_code 34 = .ok (.invokevirtual 59, 3) := by decide +kernel
theorem d_Parts_walkInto_37 : decode prog_6_method_5_code 37 = .ok (.aload_n 1, 1) := by decide +kernel
theorem d_Parts_walkInto_38 : decode prog_6_method_5_code 38 = .ok (.invokevirtual 63, 3) := by decide +kernel
theorem k_Voice_endWalk : mt_OK m_Voice_endWalk 0 1 := ⟨gwi_950, gwi_139, ⟨by decide +kernel, by decide +kernel, by decide +kernel⟩, fun h => absurd h (by decide), fun _ => ⟨gwi_948, gwi_949⟩, fun h => absurd h (by decide)⟩
theorem l_Parts_63 : ml_OK "PlainMusic$Parts" 63 ⟨"PlainMusic$Voice", "endWalk", "()V"⟩ := Or.inl gwi_947
theorem d_Parts_walkInto_41 : decode prog_6_method_5_code 41 = .ok (.aload_n 0, 1) := by decide +kernel
theorem d_Parts_walkInto_42 : decode prog_6_method_5_code 42 = .ok (.getfield 46, 3) := by decide +kernel
theorem d_Parts_walkInto_45 : decode prog_6_method_5_code 45 = .ok (.sipush 2000, 3) := by decide +kernel
theorem d_Parts_walkInto_48 : decode prog_6_method_5_code 48 = .ok (.if_icmp .gt 22, 3) := by decide +kernel
theorem d_Parts_walkInto_70 : decode prog_6_method_5_code 70 = .ok (.iconst 3, 1) := by decide +kernel
theorem d_Parts_walkInto_71 : decode prog_6_method_5_code 71 = .ok (.ireturn, 1) := by decide +kernel
theorem d_Parts_walkInto_51 : decode prog_6_method_5_code 51 = .ok (.aload_n 0, 1) := by decide +kernel
theorem d_Parts_walkInto_52 : decode prog_6_method_5_code 52 = .ok (.getfield 49, 3) := by decide +kernel
theorem d_Parts_walkInto_55 : decode prog_6_method_5_code 55 = .ok (.sipush 300, 3) := by decide +kernel
theorem d_Parts_walkInto_58 : decode prog_6_method_5_code 58 = .ok (.if_icmp .gt 12, 3) := by decide +kernel
theorem d_Parts_walkInto_61 : decode prog_6_method_5_code 61 = .ok (.aload_n 0, 1) := by decide +kernel
theorem d_Parts_walkInto_62 : decode prog_6_method_5_code 62 = .ok (.getfield 52, 3) := by decide +kernel
theorem d_Parts_walkInto_65 : decode prog_6_method_5_code 65 = .ok (.bipush 100, 2) := by decide +kernel
theorem d_Parts_walkInto_67 : decode prog_6_method_5_code 67 = .ok (.if_icmp .le 5, 3) := by decide +kernel
theorem d_Parts_walkInto_72 : decode prog_6_method_5_code 72 = .ok (.aload_n 0, 1) := by decide +kernel
theorem d_Parts_walkInto_73 : decode prog_6_method_5_code 73 = .ok (.getfield 55, 3) := by decide +kernel
theorem d_Parts_walkInto_76 : decode prog_6_method_5_code 76 = .ok (.ifCond .eq 7, 3) := by decide +kernel
theorem d_Parts_walkInto_83 : decode prog_6_method_5_code 83 = .ok (.bipush 6, 2) := by decide +kernel
theorem d_Parts_walkInto_85 : decode prog_6_method_5_code 85 = .ok (.ireturn, 1) := by decide +kernel
theorem d_Parts_walkInto_79 : decode prog_6_method_5_code 79 = .ok (.iconst 0, 1) := by decide +kernel
theorem d_Parts_walkInto_80 : decode prog_6_method_5_code 80 = .ok (.goto 5, 3) := by decide +kernel
theorem s_Parts_clear {G : cx_T} {s : Nat} {h : ah_T} (hx : xi s h)   : con G 0 0 0 m_Parts_clear [av_R (some 9)] h (fun r h' => r = none ∧ kF (FB s) s h h') := by
  refine con_of (L := [some (av_R (some 9))]) (by decide +kernel) (Nat.le_of_ble_eq_true rfl) rfl ?_
  have hS : isS s := hx.2.1
  have hs0 : s = 17 ∨ s = 80 := hS
  have hs0b : 17 ≤ s ∧ s ≤ 80 := by omega
  have k0 : kF (FB s) s h h := kF_0 hx
  refine A_aload_n 0 d_Parts_clear_0 rfl rfl ?_
  refine A_iconst d_Parts_clear_1 rfl ?_
  refine A_putIk (KR := kF (FB s) s h) T_ok d_Parts_clear_2 f_Parts_30 (xi_s k0.1 sf_9) fin_f (kF_js k0 (by omega) (sem_V (kF_sem k0) (sP_0 (by omega)) (nV_p (by decide))) rgf_9_4 (by omega) (by omega)) (fun h1 k2 eh1 => ?_)
  refine A_aload_n 0 d_Parts_clear_5 rfl rfl ?_
  refine A_iconst d_Parts_clear_6 rfl ?_
  refine A_pc (pc' := 7) rfl ?_
  refine A_putIk (KR := kF (FB s) s h) T_ok d_Parts_clear_7 f_Parts_34 (xi_s k2.1 sf_9) fin_f (kF_j k2 (by omega) (ns_b rfl) rgf_9_7 (by omega) (by omega)) (fun h3 k4 eh3 => ?_)
  exact A_vret d_Parts_clear_10 (by decide) rfl ⟨rfl, k4⟩
theorem s_Parts_add {G : cx_T} {s : Nat} {h : ah_T} (hx : xi s h) {a1 : Int} {a2 : Int} {a3 : Int} (la2 : 0 ≤ a2) (ua2 : a2 ≤ 300) (la3 : 0 ≤ a3) (ua3 : a3 ≤ 16) (hk : a1 = 123 → 1 ≤ a2 ∧ a2 ≤ 16 ∧ 1 ≤ a3) : con G 0 0 0 m_Parts_add [av_R (some 9), av_I a1, av_I a2, av_I a3] h (fun r h' => r = none ∧ (a1 ≠ 91 → a1 ≠ 123 → h'.2.1 9 7 = h.2.1 9 7) ∧ kF (FB s) s h h') := by
  refine con_of (L := [some (av_R (some 9)), some (av_I a1), some (av_I a2), some (av_I a3)]) (by decide +kernel) (Nat.le_of_ble_eq_true rfl) rfl ?_
  have hS : isS s := hx.2.1
  have hs0 : s = 17 ∨ s = 80 := hS
  have hs0b : 17 ≤ s ∧ s ≤ 80 := by omega
  have k0 : kF (FB s) s h h := kF_0 hx
  obtain ⟨sd1, esd1⟩ : ∃ x, x = h.2.1 9 7 := ⟨_, rfl⟩
  have rsd1 : 0 ≤ sd1 ∧ sd1 ≤ 7 := (by rw [esd1]; exact xi_g k0.1 (by decide) rgf_9_7)
  refine A_locI 1 rfl (fun ra => ?_)
  obtain ⟨_, _⟩ := ra
  refine A_aload_n 0 d_Parts_add_0 rfl rfl ?_
  refine A_getIn (lo := 0) (hi := 2000) T_ok d_Parts_add_1 f_Parts_30 (xi_s k0.1 sf_9) (xi_g k0.1 (by decide) rgf_9_4) (fun x2 ex2 _ _ => ?_)
  refine A_aload_n 0 d_Parts_add_4 rfl rfl ?_
  refine A_getAv (z := some 10) T_ok d_Parts_add_5 f_Parts_9 (xi_s k0.1 sf_9) (xi_r k0.1 rff_9_0) ?_
  refine A_alenN d_Parts_add_8 (xi_s k0.1 sf_10) (by decide) (by decide) ?_
  refine A_pc (pc' := 9) rfl ?_
  refine A_icmp_lt (tgt := 13) d_Parts_add_9 (by decide) (fun c4 => ?_) (fun c4 => ?_)
  · refine A_iload_n 1 d_Parts_add_13 rfl rfl ?_
    refine A_bipush d_Parts_add_14 rfl ?_
    refine A_icmp_eq (tgt := 25) d_Parts_add_16 (by decide) (fun c5 => ?_) (fun c5 => ?_)
    · refine A_aload_n 0 d_Parts_add_25 rfl rfl ?_
      refine A_getIv (z := sd1) T_ok d_Parts_add_26 f_Parts_34 (xi_s k0.1 sf_9) esd1.symm ?_
      refine A_bipush d_Parts_add_29 rfl ?_
      refine A_icmp_ge (tgt := 70) d_Parts_add_31 (by decide) (fun c7 => ?_) (fun c7 => ?_)
      · refine A_aload_n 0 d_Parts_add_70 rfl rfl ?_
        refine A_getAv (z := some 10) T_ok d_Parts_add_71 f_Parts_9 (xi_s k0.1 sf_9) (xi_r k0.1 rff_9_0) ?_
        refine A_aload_n 0 d_Parts_add_74 rfl rfl ?_
        refine A_getIv (z := x2) T_ok d_Parts_add_75 f_Parts_30 (xi_s k0.1 sf_9) ex2.symm ?_
        refine A_iload_n 1 d_Parts_add_78 rfl rfl ?_
        refine A_pc (pc' := 79) rfl ?_
        refine A_iastorek (KR := kF (FB s) s h) d_Parts_add_79 (xi_s k0.1 sf_10) (by omega) (by omega) (kF_js k0 (by omega) (sem_V (kF_sem k0) (sP_k (kF_sem k0).1 (by decide) (le_tn ex2.symm)) (nV_p (by decide))) (rgf_10 _) (by omega) (by omega)) (fun h10 k11 eh10 => ?_)
        refine A_aload_n 0 d_Parts_add_80 rfl rfl ?_
        refine A_getAv (z := some 12) T_ok d_Parts_add_81 f_Parts_18 (xi_s k11.1 sf_9) (xi_r k11.1 rff_9_2) ?_
        refine A_aload_n 0 d_Parts_add_84 rfl rfl ?_
        refine A_getIv (z := x2) T_ok d_Parts_add_85 f_Parts_30 (xi_s k11.1 sf_9) ((eh10.1 _ _ (fun q => absurd q (by decide))).trans ex2.symm) ?_
        refine A_iload_n 2 d_Parts_add_88 rfl rfl ?_
        refine A_pc (pc' := 89) rfl ?_
        refine A_iastorek (KR := kF (FB s) s h) d_Parts_add_89 (xi_s k11.1 sf_12) (by omega) (by omega) (kF_js k11 (by omega) (sem_V (kF_sem k11) (sP_k (kF_sem k11).1 (by decide) (le_tn ((eh10.1 _ _ (fun q => absurd q (by decide))).trans ex2.symm))) (nV_p (by decide))) (rgf_12 _) (by omega) (by omega)) (fun h14 k15 eh14 => ?_)
        refine A_aload_n 0 d_Parts_add_90 rfl rfl ?_
        refine A_getAv (z := some 13) T_ok d_Parts_add_91 f_Parts_21 (xi_s k15.1 sf_9) (xi_r k15.1 rff_9_3) ?_
        refine A_aload_n 0 d_Parts_add_94 rfl rfl ?_
        refine A_getIv (z := x2) T_ok d_Parts_add_95 f_Parts_30 (xi_s k15.1 sf_9) ((eh14.1 _ _ (fun q => absurd q (by decide))).trans ((eh10.1 _ _ (fun q => absurd q (by decide))).trans ex2.symm)) ?_
        refine A_iload_n 3 d_Parts_add_98 rfl rfl ?_
        refine A_pc (pc' := 99) rfl ?_
        refine A_iastorek (KR := kF (FB s) s h) d_Parts_add_99 (xi_s k15.1 sf_13) (by omega) (by omega) (kF_js k15 (by omega) (sem_V (kF_sem k15) (sP_k (kF_sem k15).1 (by decide) (le_tn ((eh14.1 _ _ (fun q => absurd q (by decide))).trans ((eh10.1 _ _ (fun q => absurd q (by decide))).trans ex2.symm)))) (nV_p (by decide))) (rgf_13 _) (by omega) (by omega)) (fun h18 k19 eh18 => ?_)
        refine A_aload_n 0 d_Parts_add_100 rfl rfl ?_
        refine A_getAv (z := some 11) T_ok d_Parts_add_101 f_Parts_15 (xi_s k19.1 sf_9) (xi_r k19.1 rff_9_1) ?_
        refine A_aload_n 0 d_Parts_add_104 rfl rfl ?_
        refine A_getIv (z := x2) T_ok d_Parts_add_105 f_Parts_30 (xi_s k19.1 sf_9) ((eh18.1 _ _ (fun q => absurd q (by decide))).trans ((eh14.1 _ _ (fun q => absurd q (by decide))).trans ((eh10.1 _ _ (fun q => absurd q (by decide))).trans ex2.symm))) ?_
        refine A_aload_n 0 d_Parts_add_108 rfl rfl ?_
        refine A_pc (pc' := 109) rfl ?_
        refine A_getIv (z := x2) T_ok d_Parts_add_109 f_Parts_30 (xi_s k19.1 sf_9) ((eh18.1 _ _ (fun q => absurd q (by decide))).trans ((eh14.1 _ _ (fun q => absurd q (by decide))).trans ((eh10.1 _ _ (fun q => absurd q (by decide))).trans ex2.symm))) ?_
        refine A_iastorek (KR := kF (FB s) s h) d_Parts_add_112 (xi_s k19.1 sf_11) (by omega) (by omega) (kF_j k19 (by omega) (ns_b rfl) (rgf_11 _) (by omega) (by omega)) (fun h23 k24 eh23 => ?_)
        refine A_aload_n 0 d_Parts_add_113 rfl rfl ?_
        refine A_dupR d_Parts_add_114 ?_
        refine A_getIv (z := x2) T_ok d_Parts_add_115 f_Parts_30 (xi_s k24.1 sf_9) ((eh23.1 _ _ (fun q => absurd q (by decide))).trans ((eh18.1 _ _ (fun q => absurd q (by decide))).trans ((eh14.1 _ _ (fun q => absurd q (by decide))).trans ((eh10.1 _ _ (fun q => absurd q (by decide))).trans ex2.symm)))) ?_
        refine A_iconst d_Parts_add_118 rfl ?_
        refine A_pc (pc' := 119) rfl ?_
        refine A_iaddv (z := (x2 + 1)) d_Parts_add_119 (w32_to (by omega) (by unfold i32; omega)) ?_
        refine A_putIk (KR := kF (FB s) s h) T_ok d_Parts_add_120 f_Parts_30 (xi_s k24.1 sf_9) fin_f (kF_js k24 (by omega) (sem_V (kF_sem k24) (sP_s (kF_sem k24).1 ((eh23.1 _ _ (fun q => absurd q (by decide))).trans ((eh18.1 _ _ (fun q => absurd q (by decide))).trans ((eh14.1 _ _ (fun q => absurd q (by decide))).trans ((eh10.1 _ _ (fun q => absurd q (by decide))).trans ex2.symm)))) (by omega) (by omega) ((eh23.1 _ _ (fun q => absurd q (by decide))).trans ((eh18.1 _ _ (fun q => absurd q (by decide))).trans ((eh14.1 _ _ (fun q => absurd q (by decide))).trans eh10.2.1))) ((eh23.1 _ _ (fun q => absurd q (by decide))).trans ((eh18.1 _ _ (fun q => absurd q (by decide))).trans eh14.2.1)) ((eh23.1 _ _ (fun q => absurd q (by decide))).trans eh18.2.1) (fun q => ⟨⟨by omega, by omega⟩, by omega, by omega⟩)) (nV_p (by decide))) rgf_9_4 (by omega) (by omega)) (fun h26 k27 eh26 => ?_)
        exact A_vret d_Parts_add_123 (by decide) rfl ⟨rfl, (fun _ _ => by have qq0 := ((eh26.1 _ _ (fun _ => by decide)).trans ((eh23.1 _ _ (fun q => absurd q (by decide))).trans ((eh18.1 _ _ (fun q => absurd q (by decide))).trans ((eh14.1 _ _ (fun q => absurd q (by decide))).trans ((eh10.1 _ _ (fun q => absurd q (by decide))).trans esd1.symm))))); omega), k27⟩
      · refine A_aload_n 0 d_Parts_add_34 rfl rfl ?_
        refine A_getAv (z := some 14) T_ok d_Parts_add_35 f_Parts_24 (xi_s k0.1 sf_9) (xi_r k0.1 rff_9_5) ?_
        refine A_aload_n 0 d_Parts_add_38 rfl rfl ?_
        refine A_getIv (z := sd1) T_ok d_Parts_add_39 f_Parts_34 (xi_s k0.1 sf_9) esd1.symm ?_
        refine A_aload_n 0 d_Parts_add_42 rfl rfl ?_
        refine A_pc (pc' := 43) rfl ?_
        refine A_getIv (z := x2) T_ok d_Parts_add_43 f_Parts_30 (xi_s k0.1 sf_9) ex2.symm ?_
        refine A_iastorek (KR := kF (FB s) s h) d_Parts_add_46 (xi_s k0.1 sf_14) (by omega) (by omega) (kF_j k0 (by omega) (ns_b rfl) (rgf_14 _) (by omega) (by omega)) (fun h31 k32 eh31 => ?_)
        refine A_aload_n 0 d_Parts_add_47 rfl rfl ?_
        refine A_getAv (z := some 15) T_ok d_Parts_add_48 f_Parts_27 (xi_s k32.1 sf_9) (xi_r k32.1 rff_9_6) ?_
        refine A_aload_n 0 d_Parts_add_51 rfl rfl ?_
        refine A_getIv (z := sd1) T_ok d_Parts_add_52 f_Parts_34 (xi_s k32.1 sf_9) ((eh31.1 _ _ (fun q => absurd q (by decide))).trans esd1.symm) ?_
        refine A_pc (pc' := 55) rfl ?_
        refine A_aload_n 0 d_Parts_add_55 rfl rfl ?_
        refine A_getIv (z := x2) T_ok d_Parts_add_56 f_Parts_30 (xi_s k32.1 sf_9) ((eh31.1 _ _ (fun q => absurd q (by decide))).trans ex2.symm) ?_
        refine A_iastorek (KR := kF (FB s) s h) d_Parts_add_59 (xi_s k32.1 sf_15) (by omega) (by omega) (kF_j k32 (by omega) (ns_b rfl) (rgf_15 _) (by omega) (by omega)) (fun h36 k37 eh36 => ?_)
        refine A_aload_n 0 d_Parts_add_60 rfl rfl ?_
        refine A_dupR d_Parts_add_61 ?_
        refine A_getIv (z := sd1) T_ok d_Parts_add_62 f_Parts_34 (xi_s k37.1 sf_9) ((eh36.1 _ _ (fun q => absurd q (by decide))).trans ((eh31.1 _ _ (fun q => absurd q (by decide))).trans esd1.symm)) ?_
        refine A_pc (pc' := 65) rfl ?_
        refine A_iconst d_Parts_add_65 rfl ?_
        refine A_iaddv (z := (sd1 + 1)) d_Parts_add_66 (w32_to (by omega) (by unfold i32; omega)) ?_
        refine A_putIk (KR := kF (FB s) s h) T_ok d_Parts_add_67 f_Parts_34 (xi_s k37.1 sf_9) fin_f (kF_j k37 (by omega) (ns_b rfl) rgf_9_7 (by omega) (by omega)) (fun h39 k40 eh39 => ?_)
        refine A_aload_n 0 d_Parts_add_70 rfl rfl ?_
        refine A_getAv (z := some 10) T_ok d_Parts_add_71 f_Parts_9 (xi_s k40.1 sf_9) (xi_r k40.1 rff_9_0) ?_
        refine A_aload_n 0 d_Parts_add_74 rfl rfl ?_
        refine A_pc (pc' := 75) rfl ?_
        refine A_getIv (z := x2) T_ok d_Parts_add_75 f_Parts_30 (xi_s k40.1 sf_9) ((eh39.1 _ _ (fun _ => by decide)).trans ((eh36.1 _ _ (fun q => absurd q (by decide))).trans ((eh31.1 _ _ (fun q => absurd q (by decide))).trans ex2.symm))) ?_
        refine A_iload_n 1 d_Parts_add_78 rfl rfl ?_
        refine A_iastorek (KR := kF (FB s) s h) d_Parts_add_79 (xi_s k40.1 sf_10) (by omega) (by omega) (kF_js k40 (by omega) (sem_V (kF_sem k40) (sP_k (kF_sem k40).1 (by decide) (le_tn ((eh39.1 _ _ (fun _ => by decide)).trans ((eh36.1 _ _ (fun q => absurd q (by decide))).trans ((eh31.1 _ _ (fun q => absurd q (by decide))).trans ex2.symm))))) (nV_p (by decide))) (rgf_10 _) (by omega) (by omega)) (fun h43 k44 eh43 => ?_)
        refine A_aload_n 0 d_Parts_add_80 rfl rfl ?_
        refine A_getAv (z := some 12) T_ok d_Parts_add_81 f_Parts_18 (xi_s k44.1 sf_9) (xi_r k44.1 rff_9_2) ?_
        refine A_aload_n 0 d_Parts_add_84 rfl rfl ?_
        refine A_pc (pc' := 85) rfl ?_
        refine A_getIv (z := x2) T_ok d_Parts_add_85 f_Parts_30 (xi_s k44.1 sf_9) ((eh43.1 _ _ (fun q => absurd q (by decide))).trans ((eh39.1 _ _ (fun _ => by decide)).trans ((eh36.1 _ _ (fun q => absurd q (by decide))).trans ((eh31.1 _ _ (fun q => absurd q (by decide))).trans ex2.symm)))) ?_
        refine A_iload_n 2 d_Parts_add_88 rfl rfl ?_
        refine A_iastorek (KR := kF (FB s) s h) d_Parts_add_89 (xi_s k44.1 sf_12) (by omega) (by omega) (kF_js k44 (by omega) (sem_V (kF_sem k44) (sP_k (kF_sem k44).1 (by decide) (le_tn ((eh43.1 _ _ (fun q => absurd q (by decide))).trans ((eh39.1 _ _ (fun _ => by decide)).trans ((eh36.1 _ _ (fun q => absurd q (by decide))).trans ((eh31.1 _ _ (fun q => absurd q (by decide))).trans ex2.symm)))))) (nV_p (by decide))) (rgf_12 _) (by omega) (by omega)) (fun h47 k48 eh47 => ?_)
        refine A_aload_n 0 d_Parts_add_90 rfl rfl ?_
        refine A_getAv (z := some 13) T_ok d_Parts_add_91 f_Parts_21 (xi_s k48.1 sf_9) (xi_r k48.1 rff_9_3) ?_
        refine A_aload_n 0 d_Parts_add_94 rfl rfl ?_
        refine A_pc (pc' := 95) rfl ?_
        refine A_getIv (z := x2) T_ok d_Parts_add_95 f_Parts_30 (xi_s k48.1 sf_9) ((eh47.1 _ _ (fun q => absurd q (by decide))).trans ((eh43.1 _ _ (fun q => absurd q (by decide))).trans ((eh39.1 _ _ (fun _ => by decide)).trans ((eh36.1 _ _ (fun q => absurd q (by decide))).trans ((eh31.1 _ _ (fun q => absurd q (by decide))).trans ex2.symm))))) ?_
        refine A_iload_n 3 d_Parts_add_98 rfl rfl ?_
        refine A_iastorek (KR := kF (FB s) s h) d_Parts_add_99 (xi_s k48.1 sf_13) (by omega) (by omega) (kF_js k48 (by omega) (sem_V (kF_sem k48) (sP_k (kF_sem k48).1 (by decide) (le_tn ((eh47.1 _ _ (fun q => absurd q (by decide))).trans ((eh43.1 _ _ (fun q => absurd q (by decide))).trans ((eh39.1 _ _ (fun _ => by decide)).trans ((eh36.1 _ _ (fun q => absurd q (by decide))).trans ((eh31.1 _ _ (fun q => absurd q (by decide))).trans ex2.symm))))))) (nV_p (by decide))) (rgf_13 _) (by omega) (by omega)) (fun h51 k52 eh51 => ?_)
        refine A_aload_n 0 d_Parts_add_100 rfl rfl ?_
        refine A_getAv (z := some 11) T_ok d_Parts_add_101 f_Parts_15 (xi_s k52.1 sf_9) (xi_r k52.1 rff_9_1) ?_
        refine A_aload_n 0 d_Parts_add_104 rfl rfl ?_
        refine A_pc (pc' := 105) rfl ?_
        refine A_getIv (z := x2) T_ok d_Parts_add_105 f_Parts_30 (xi_s k52.1 sf_9) ((eh51.1 _ _ (fun q => absurd q (by decide))).trans ((eh47.1 _ _ (fun q => absurd q (by decide))).trans ((eh43.1 _ _ (fun q => absurd q (by decide))).trans ((eh39.1 _ _ (fun _ => by decide)).trans ((eh36.1 _ _ (fun q => absurd q (by decide))).trans ((eh31.1 _ _ (fun q => absurd q (by decide))).trans ex2.symm)))))) ?_
        refine A_aload_n 0 d_Parts_add_108 rfl rfl ?_
        refine A_getIv (z := x2) T_ok d_Parts_add_109 f_Parts_30 (xi_s k52.1 sf_9) ((eh51.1 _ _ (fun q => absurd q (by decide))).trans ((eh47.1 _ _ (fun q => absurd q (by decide))).trans ((eh43.1 _ _ (fun q => absurd q (by decide))).trans ((eh39.1 _ _ (fun _ => by decide)).trans ((eh36.1 _ _ (fun q => absurd q (by decide))).trans ((eh31.1 _ _ (fun q => absurd q (by decide))).trans ex2.symm)))))) ?_
        refine A_iastorek (KR := kF (FB s) s h) d_Parts_add_112 (xi_s k52.1 sf_11) (by omega) (by omega) (kF_j k52 (by omega) (ns_b rfl) (rgf_11 _) (by omega) (by omega)) (fun h56 k57 eh56 => ?_)
        refine A_aload_n 0 d_Parts_add_113 rfl rfl ?_
        refine A_dupR d_Parts_add_114 ?_
        refine A_pc (pc' := 115) rfl ?_
        refine A_getIv (z := x2) T_ok d_Parts_add_115 f_Parts_30 (xi_s k57.1 sf_9) ((eh56.1 _ _ (fun q => absurd q (by decide))).trans ((eh51.1 _ _ (fun q => absurd q (by decide))).trans ((eh47.1 _ _ (fun q => absurd q (by decide))).trans ((eh43.1 _ _ (fun q => absurd q (by decide))).trans ((eh39.1 _ _ (fun _ => by decide)).trans ((eh36.1 _ _ (fun q => absurd q (by decide))).trans ((eh31.1 _ _ (fun q => absurd q (by decide))).trans ex2.symm))))))) ?_
        refine A_iconst d_Parts_add_118 rfl ?_
        refine A_iaddv (z := (x2 + 1)) d_Parts_add_119 (w32_to (by omega) (by unfold i32; omega)) ?_
        refine A_putIk (KR := kF (FB s) s h) T_ok d_Parts_add_120 f_Parts_30 (xi_s k57.1 sf_9) fin_f (kF_js k57 (by omega) (sem_V (kF_sem k57) (sP_s (kF_sem k57).1 ((eh56.1 _ _ (fun q => absurd q (by decide))).trans ((eh51.1 _ _ (fun q => absurd q (by decide))).trans ((eh47.1 _ _ (fun q => absurd q (by decide))).trans ((eh43.1 _ _ (fun q => absurd q (by decide))).trans ((eh39.1 _ _ (fun _ => by decide)).trans ((eh36.1 _ _ (fun q => absurd q (by decide))).trans ((eh31.1 _ _ (fun q => absurd q (by decide))).trans ex2.symm))))))) (by omega) (by omega) ((eh56.1 _ _ (fun q => absurd q (by decide))).trans ((eh51.1 _ _ (fun q => absurd q (by decide))).trans ((eh47.1 _ _ (fun q => absurd q (by decide))).trans eh43.2.1))) ((eh56.1 _ _ (fun q => absurd q (by decide))).trans ((eh51.1 _ _ (fun q => absurd q (by decide))).trans eh47.2.1)) ((eh56.1 _ _ (fun q => absurd q (by decide))).trans eh51.2.1) (fun q => ⟨⟨by omega, by omega⟩, by omega, by omega⟩)) (nV_p (by decide))) rgf_9_4 (by omega) (by omega)) (fun h59 k60 eh59 => ?_)
        exact A_vret d_Parts_add_123 (by decide) rfl ⟨rfl, (fun _ _ => by have qq0 := ((eh59.1 _ _ (fun _ => by decide)).trans ((eh56.1 _ _ (fun q => absurd q (by decide))).trans ((eh51.1 _ _ (fun q => absurd q (by decide))).trans ((eh47.1 _ _ (fun q => absurd q (by decide))).trans ((eh43.1 _ _ (fun q => absurd q (by decide))).trans eh39.2.1))))); omega), k60⟩
    · refine A_iload_n 1 d_Parts_add_19 rfl rfl ?_
      refine A_bipush d_Parts_add_20 rfl ?_
      refine A_icmp_ne (tgt := 70) d_Parts_add_22 (by decide) (fun c61 => ?_) (fun c61 => ?_)
      · refine A_aload_n 0 d_Parts_add_70 rfl rfl ?_
        refine A_getAv (z := some 10) T_ok d_Parts_add_71 f_Parts_9 (xi_s k0.1 sf_9) (xi_r k0.1 rff_9_0) ?_
        refine A_aload_n 0 d_Parts_add_74 rfl rfl ?_
        refine A_getIv (z := x2) T_ok d_Parts_add_75 f_Parts_30 (xi_s k0.1 sf_9) ex2.symm ?_
        refine A_iload_n 1 d_Parts_add_78 rfl rfl ?_
        refine A_pc (pc' := 79) rfl ?_
        refine A_iastorek (KR := kF (FB s) s h) d_Parts_add_79 (xi_s k0.1 sf_10) (by omega) (by omega) (kF_js k0 (by omega) (sem_V (kF_sem k0) (sP_k (kF_sem k0).1 (by decide) (le_tn ex2.symm)) (nV_p (by decide))) (rgf_10 _) (by omega) (by omega)) (fun h64 k65 eh64 => ?_)
        refine A_aload_n 0 d_Parts_add_80 rfl rfl ?_
        refine A_getAv (z := some 12) T_ok d_Parts_add_81 f_Parts_18 (xi_s k65.1 sf_9) (xi_r k65.1 rff_9_2) ?_
        refine A_aload_n 0 d_Parts_add_84 rfl rfl ?_
        refine A_getIv (z := x2) T_ok d_Parts_add_85 f_Parts_30 (xi_s k65.1 sf_9) ((eh64.1 _ _ (fun q => absurd q (by decide))).trans ex2.symm) ?_
        refine A_iload_n 2 d_Parts_add_88 rfl rfl ?_
        refine A_pc (pc' := 89) rfl ?_
        refine A_iastorek (KR := kF (FB s) s h) d_Parts_add_89 (xi_s k65.1 sf_12) (by omega) (by omega) (kF_js k65 (by omega) (sem_V (kF_sem k65) (sP_k (kF_sem k65).1 (by decide) (le_tn ((eh64.1 _ _ (fun q => absurd q (by decide))).trans ex2.symm))) (nV_p (by decide))) (rgf_12 _) (by omega) (by omega)) (fun h68 k69 eh68 => ?_)
        refine A_aload_n 0 d_Parts_add_90 rfl rfl ?_
        refine A_getAv (z := some 13) T_ok d_Parts_add_91 f_Parts_21 (xi_s k69.1 sf_9) (xi_r k69.1 rff_9_3) ?_
        refine A_aload_n 0 d_Parts_add_94 rfl rfl ?_
        refine A_getIv (z := x2) T_ok d_Parts_add_95 f_Parts_30 (xi_s k69.1 sf_9) ((eh68.1 _ _ (fun q => absurd q (by decide))).trans ((eh64.1 _ _ (fun q => absurd q (by decide))).trans ex2.symm)) ?_
        refine A_iload_n 3 d_Parts_add_98 rfl rfl ?_
        refine A_pc (pc' := 99) rfl ?_
        refine A_iastorek (KR := kF (FB s) s h) d_Parts_add_99 (xi_s k69.1 sf_13) (by omega) (by omega) (kF_js k69 (by omega) (sem_V (kF_sem k69) (sP_k (kF_sem k69).1 (by decide) (le_tn ((eh68.1 _ _ (fun q => absurd q (by decide))).trans ((eh64.1 _ _ (fun q => absurd q (by decide))).trans ex2.symm)))) (nV_p (by decide))) (rgf_13 _) (by omega) (by omega)) (fun h72 k73 eh72 => ?_)
        refine A_aload_n 0 d_Parts_add_100 rfl rfl ?_
        refine A_getAv (z := some 11) T_ok d_Parts_add_101 f_Parts_15 (xi_s k73.1 sf_9) (xi_r k73.1 rff_9_1) ?_
        refine A_aload_n 0 d_Parts_add_104 rfl rfl ?_
        refine A_getIv (z := x2) T_ok d_Parts_add_105 f_Parts_30 (xi_s k73.1 sf_9) ((eh72.1 _ _ (fun q => absurd q (by decide))).trans ((eh68.1 _ _ (fun q => absurd q (by decide))).trans ((eh64.1 _ _ (fun q => absurd q (by decide))).trans ex2.symm))) ?_
        refine A_aload_n 0 d_Parts_add_108 rfl rfl ?_
        refine A_pc (pc' := 109) rfl ?_
        refine A_getIv (z := x2) T_ok d_Parts_add_109 f_Parts_30 (xi_s k73.1 sf_9) ((eh72.1 _ _ (fun q => absurd q (by decide))).trans ((eh68.1 _ _ (fun q => absurd q (by decide))).trans ((eh64.1 _ _ (fun q => absurd q (by decide))).trans ex2.symm))) ?_
        refine A_iastorek (KR := kF (FB s) s h) d_Parts_add_112 (xi_s k73.1 sf_11) (by omega) (by omega) (kF_j k73 (by omega) (ns_b rfl) (rgf_11 _) (by omega) (by omega)) (fun h77 k78 eh77 => ?_)
        refine A_aload_n 0 d_Parts_add_113 rfl rfl ?_
        refine A_dupR d_Parts_add_114 ?_
        refine A_getIv (z := x2) T_ok d_Parts_add_115 f_Parts_30 (xi_s k78.1 sf_9) ((eh77.1 _ _ (fun q => absurd q (by decide))).trans ((eh72.1 _ _ (fun q => absurd q (by decide))).trans ((eh68.1 _ _ (fun q => absurd q (by decide))).trans ((eh64.1 _ _ (fun q => absurd q (by decide))).trans ex2.symm)))) ?_
        refine A_iconst d_Parts_add_118 rfl ?_
        refine A_pc (pc' := 119) rfl ?_
        refine A_iaddv (z := (x2 + 1)) d_Parts_add_119 (w32_to (by omega) (by unfold i32; omega)) ?_
        refine A_putIk (KR := kF (FB s) s h) T_ok d_Parts_add_120 f_Parts_30 (xi_s k78.1 sf_9) fin_f (kF_js k78 (by omega) (sem_V (kF_sem k78) (sP_s (kF_sem k78).1 ((eh77.1 _ _ (fun q => absurd q (by decide))).trans ((eh72.1 _ _ (fun q => absurd q (by decide))).trans ((eh68.1 _ _ (fun q => absurd q (by decide))).trans ((eh64.1 _ _ (fun q => absurd q (by decide))).trans ex2.symm)))) (by omega) (by omega) ((eh77.1 _ _ (fun q => absurd q (by decide))).trans ((eh72.1 _ _ (fun q => absurd q (by decide))).trans ((eh68.1 _ _ (fun q => absurd q (by decide))).trans eh64.2.1))) ((eh77.1 _ _ (fun q => absurd q (by decide))).trans ((eh72.1 _ _ (fun q => absurd q (by decide))).trans eh68.2.1)) ((eh77.1 _ _ (fun q => absurd q (by decide))).trans eh72.2.1) (fun q => ⟨⟨by omega, by omega⟩, by omega, by omega⟩)) (nV_p (by decide))) rgf_9_4 (by omega) (by omega)) (fun h80 k81 eh80 => ?_)
        exact A_vret d_Parts_add_123 (by decide) rfl ⟨rfl, (fun _ _ => by have qq0 := ((eh80.1 _ _ (fun _ => by decide)).trans ((eh77.1 _ _ (fun q => absurd q (by decide))).trans ((eh72.1 _ _ (fun q => absurd q (by decide))).trans ((eh68.1 _ _ (fun q => absurd q (by decide))).trans ((eh64.1 _ _ (fun q => absurd q (by decide))).trans esd1.symm))))); omega), k81⟩
      · refine A_aload_n 0 d_Parts_add_25 rfl rfl ?_
        refine A_getIv (z := sd1) T_ok d_Parts_add_26 f_Parts_34 (xi_s k0.1 sf_9) esd1.symm ?_
        refine A_bipush d_Parts_add_29 rfl ?_
        refine A_icmp_ge (tgt := 70) d_Parts_add_31 (by decide) (fun c83 => ?_) (fun c83 => ?_)
        · refine A_aload_n 0 d_Parts_add_70 rfl rfl ?_
          refine A_getAv (z := some 10) T_ok d_Parts_add_71 f_Parts_9 (xi_s k0.1 sf_9) (xi_r k0.1 rff_9_0) ?_
          refine A_aload_n 0 d_Parts_add_74 rfl rfl ?_
          refine A_getIv (z := x2) T_ok d_Parts_add_75 f_Parts_30 (xi_s k0.1 sf_9) ex2.symm ?_
          refine A_iload_n 1 d_Parts_add_78 rfl rfl ?_
          refine A_pc (pc' := 79) rfl ?_
          refine A_iastorek (KR := kF (FB s) s h) d_Parts_add_79 (xi_s k0.1 sf_10) (by omega) (by omega) (kF_js k0 (by omega) (sem_V (kF_sem k0) (sP_k (kF_sem k0).1 (by decide) (le_tn ex2.symm)) (nV_p (by decide))) (rgf_10 _) (by omega) (by omega)) (fun h86 k87 eh86 => ?_)
          refine A_aload_n 0 d_Parts_add_80 rfl rfl ?_
          refine A_getAv (z := some 12) T_ok d_Parts_add_81 f_Parts_18 (xi_s k87.1 sf_9) (xi_r k87.1 rff_9_2) ?_
          refine A_aload_n 0 d_Parts_add_84 rfl rfl ?_
          refine A_getIv (z := x2) T_ok d_Parts_add_85 f_Parts_30 (xi_s k87.1 sf_9) ((eh86.1 _ _ (fun q => absurd q (by decide))).trans ex2.symm) ?_
          refine A_iload_n 2 d_Parts_add_88 rfl rfl ?_
          refine A_pc (pc' := 89) rfl ?_
          refine A_iastorek (KR := kF (FB s) s h) d_Parts_add_89 (xi_s k87.1 sf_12) (by omega) (by omega) (kF_js k87 (by omega) (sem_V (kF_sem k87) (sP_k (kF_sem k87).1 (by decide) (le_tn ((eh86.1 _ _ (fun q => absurd q (by decide))).trans ex2.symm))) (nV_p (by decide))) (rgf_12 _) (by omega) (by omega)) (fun h90 k91 eh90 => ?_)
          refine A_aload_n 0 d_Parts_add_90 rfl rfl ?_
          refine A_getAv (z := some 13) T_ok d_Parts_add_91 f_Parts_21 (xi_s k91.1 sf_9) (xi_r k91.1 rff_9_3) ?_
          refine A_aload_n 0 d_Parts_add_94 rfl rfl ?_
          refine A_getIv (z := x2) T_ok d_Parts_add_95 f_Parts_30 (xi_s k91.1 sf_9) ((eh90.1 _ _ (fun q => absurd q (by decide))).trans ((eh86.1 _ _ (fun q => absurd q (by decide))).trans ex2.symm)) ?_
          refine A_iload_n 3 d_Parts_add_98 rfl rfl ?_
          refine A_pc (pc' := 99) rfl ?_
          refine A_iastorek (KR := kF (FB s) s h) d_Parts_add_99 (xi_s k91.1 sf_13) (by omega) (by omega) (kF_js k91 (by omega) (sem_V (kF_sem k91) (sP_k (kF_sem k91).1 (by decide) (le_tn ((eh90.1 _ _ (fun q => absurd q (by decide))).trans ((eh86.1 _ _ (fun q => absurd q (by decide))).trans ex2.symm)))) (nV_p (by decide))) (rgf_13 _) (by omega) (by omega)) (fun h94 k95 eh94 => ?_)
          refine A_aload_n 0 d_Parts_add_100 rfl rfl ?_
          refine A_getAv (z := some 11) T_ok d_Parts_add_101 f_Parts_15 (xi_s k95.1 sf_9) (xi_r k95.1 rff_9_1) ?_
          refine A_aload_n 0 d_Parts_add_104 rfl rfl ?_
          refine A_getIv (z := x2) T_ok d_Parts_add_105 f_Parts_30 (xi_s k95.1 sf_9) ((eh94.1 _ _ (fun q => absurd q (by decide))).trans ((eh90.1 _ _ (fun q => absurd q (by decide))).trans ((eh86.1 _ _ (fun q => absurd q (by decide))).trans ex2.symm))) ?_
          refine A_aload_n 0 d_Parts_add_108 rfl rfl ?_
          refine A_pc (pc' := 109) rfl ?_
          refine A_getIv (z := x2) T_ok d_Parts_add_109 f_Parts_30 (xi_s k95.1 sf_9) ((eh94.1 _ _ (fun q => absurd q (by decide))).trans ((eh90.1 _ _ (fun q => absurd q (by decide))).trans ((eh86.1 _ _ (fun q => absurd q (by decide))).trans ex2.symm))) ?_
          refine A_iastorek (KR := kF (FB s) s h) d_Parts_add_112 (xi_s k95.1 sf_11) (by omega) (by omega) (kF_j k95 (by omega) (ns_b rfl) (rgf_11 _) (by omega) (by omega)) (fun h99 k100 eh99 => ?_)
          refine A_aload_n 0 d_Parts_add_113 rfl rfl ?_
          refine A_dupR d_Parts_add_114 ?_
          refine A_getIv (z := x2) T_ok d_Parts_add_115 f_Parts_30 (xi_s k100.1 sf_9) ((eh99.1 _ _ (fun q => absurd q (by decide))).trans ((eh94.1 _ _ (fun q => absurd q (by decide))).trans ((eh90.1 _ _ (fun q => absurd q (by decide))).trans ((eh86.1 _ _ (fun q => absurd q (by decide))).trans ex2.symm)))) ?_
          refine A_iconst d_Parts_add_118 rfl ?_
          refine A_pc (pc' := 119) rfl ?_
          refine A_iaddv (z := (x2 + 1)) d_Parts_add_119 (w32_to (by omega) (by unfold i32; omega)) ?_
          refine A_putIk (KR := kF (FB s) s h) T_ok d_Parts_add_120 f_Parts_30 (xi_s k100.1 sf_9) fin_f (kF_js k100 (by omega) (sem_V (kF_sem k100) (sP_s (kF_sem k100).1 ((eh99.1 _ _ (fun q => absurd q (by decide))).trans ((eh94.1 _ _ (fun q => absurd q (by decide))).trans ((eh90.1 _ _ (fun q => absurd q (by decide))).trans ((eh86.1 _ _ (fun q => absurd q (by decide))).trans ex2.symm)))) (by omega) (by omega) ((eh99.1 _ _ (fun q => absurd q (by decide))).trans ((eh94.1 _ _ (fun q => absurd q (by decide))).trans ((eh90.1 _ _ (fun q => absurd q (by decide))).trans eh86.2.1))) ((eh99.1 _ _ (fun q => absurd q (by decide))).trans ((eh94.1 _ _ (fun q => absurd q (by decide))).trans eh90.2.1)) ((eh99.1 _ _ (fun q => absurd q (by decide))).trans eh94.2.1) (fun q => ⟨⟨by omega, by omega⟩, by omega, by omega⟩)) (nV_p (by decide))) rgf_9_4 (by omega) (by omega)) (fun h102 k103 eh102 => ?_)
          exact A_vret d_Parts_add_123 (by decide) rfl ⟨rfl, (fun _ _ => by have qq0 := ((eh102.1 _ _ (fun _ => by decide)).trans ((eh99.1 _ _ (fun q => absurd q (by decide))).trans ((eh94.1 _ _ (fun q => absurd q (by decide))).trans ((eh90.1 _ _ (fun q => absurd q (by decide))).trans ((eh86.1 _ _ (fun q => absurd q (by decide))).trans esd1.symm))))); omega), k103⟩
        · refine A_aload_n 0 d_Parts_add_34 rfl rfl ?_
          refine A_getAv (z := some 14) T_ok d_Parts_add_35 f_Parts_24 (xi_s k0.1 sf_9) (xi_r k0.1 rff_9_5) ?_
          refine A_aload_n 0 d_Parts_add_38 rfl rfl ?_
          refine A_getIv (z := sd1) T_ok d_Parts_add_39 f_Parts_34 (xi_s k0.1 sf_9) esd1.symm ?_
          refine A_aload_n 0 d_Parts_add_42 rfl rfl ?_
          refine A_pc (pc' := 43) rfl ?_
          refine A_getIv (z := x2) T_ok d_Parts_add_43 f_Parts_30 (xi_s k0.1 sf_9) ex2.symm ?_
          refine A_iastorek (KR := kF (FB s) s h) d_Parts_add_46 (xi_s k0.1 sf_14) (by omega) (by omega) (kF_j k0 (by omega) (ns_b rfl) (rgf_14 _) (by omega) (by omega)) (fun h107 k108 eh107 => ?_)
          refine A_aload_n 0 d_Parts_add_47 rfl rfl ?_
          refine A_getAv (z := some 15) T_ok d_Parts_add_48 f_Parts_27 (xi_s k108.1 sf_9) (xi_r k108.1 rff_9_6) ?_
          refine A_aload_n 0 d_Parts_add_51 rfl rfl ?_
          refine A_getIv (z := sd1) T_ok d_Parts_add_52 f_Parts_34 (xi_s k108.1 sf_9) ((eh107.1 _ _ (fun q => absurd q (by decide))).trans esd1.symm) ?_
          refine A_pc (pc' := 55) rfl ?_
          refine A_aload_n 0 d_Parts_add_55 rfl rfl ?_
          refine A_getIv (z := x2) T_ok d_Parts_add_56 f_Parts_30 (xi_s k108.1 sf_9) ((eh107.1 _ _ (fun q => absurd q (by decide))).trans ex2.symm) ?_
          refine A_iastorek (KR := kF (FB s) s h) d_Parts_add_59 (xi_s k108.1 sf_15) (by omega) (by omega) (kF_j k108 (by omega) (ns_b rfl) (rgf_15 _) (by omega) (by omega)) (fun h112 k113 eh112 => ?_)
          refine A_aload_n 0 d_Parts_add_60 rfl rfl ?_
          refine A_dupR d_Parts_add_61 ?_
          refine A_getIv (z := sd1) T_ok d_Parts_add_62 f_Parts_34 (xi_s k113.1 sf_9) ((eh112.1 _ _ (fun q => absurd q (by decide))).trans ((eh107.1 _ _ (fun q => absurd q (by decide))).trans esd1.symm)) ?_
          refine A_pc (pc' := 65) rfl ?_
          refine A_iconst d_Parts_add_65 rfl ?_
          refine A_iaddv (z := (sd1 + 1)) d_Parts_add_66 (w32_to (by omega) (by unfold i32; omega)) ?_
          refine A_putIk (KR := kF (FB s) s h) T_ok d_Parts_add_67 f_Parts_34 (xi_s k113.1 sf_9) fin_f (kF_j k113 (by omega) (ns_b rfl) rgf_9_7 (by omega) (by omega)) (fun h115 k116 eh115 => ?_)
          refine A_aload_n 0 d_Parts_add_70 rfl rfl ?_
          refine A_getAv (z := some 10) T_ok d_Parts_add_71 f_Parts_9 (xi_s k116.1 sf_9) (xi_r k116.1 rff_9_0) ?_
          refine A_aload_n 0 d_Parts_add_74 rfl rfl ?_
          refine A_pc (pc' := 75) rfl ?_
          refine A_getIv (z := x2) T_ok d_Parts_add_75 f_Parts_30 (xi_s k116.1 sf_9) ((eh115.1 _ _ (fun _ => by decide)).trans ((eh112.1 _ _ (fun q => absurd q (by decide))).trans ((eh107.1 _ _ (fun q => absurd q (by decide))).trans ex2.symm))) ?_
          refine A_iload_n 1 d_Parts_add_78 rfl rfl ?_
          refine A_iastorek (KR := kF (FB s) s h) d_Parts_add_79 (xi_s k116.1 sf_10) (by omega) (by omega) (kF_js k116 (by omega) (sem_V (kF_sem k116) (sP_k (kF_sem k116).1 (by decide) (le_tn ((eh115.1 _ _ (fun _ => by decide)).trans ((eh112.1 _ _ (fun q => absurd q (by decide))).trans ((eh107.1 _ _ (fun q => absurd q (by decide))).trans ex2.symm))))) (nV_p (by decide))) (rgf_10 _) (by omega) (by omega)) (fun h119 k120 eh119 => ?_)
          refine A_aload_n 0 d_Parts_add_80 rfl rfl ?_
          refine A_getAv (z := some 12) T_ok d_Parts_add_81 f_Parts_18 (xi_s k120.1 sf_9) (xi_r k120.1 rff_9_2) ?_
          refine A_aload_n 0 d_Parts_add_84 rfl rfl ?_
          refine A_pc (pc' := 85) rfl ?_
          refine A_getIv (z := x2) T_ok d_Parts_add_85 f_Parts_30 (xi_s k120.1 sf_9) ((eh119.1 _ _ (fun q => absurd q (by decide))).trans ((eh115.1 _ _ (fun _ => by decide)).trans ((eh112.1 _ _ (fun q => absurd q (by decide))).trans ((eh107.1 _ _ (fun q => absurd q (by decide))).trans ex2.symm)))) ?_
          refine A_iload_n 2 d_Parts_add_88 rfl rfl ?_
          refine A_iastorek (KR := kF (FB s) s h) d_Parts_add_89 (xi_s k120.1 sf_12) (by omega) (by omega) (kF_js k120 (by omega) (sem_V (kF_sem k120) (sP_k (kF_sem k120).1 (by decide) (le_tn ((eh119.1 _ _ (fun q => absurd q (by decide))).trans ((eh115.1 _ _ (fun _ => by decide)).trans ((eh112.1 _ _ (fun q => absurd q (by decide))).trans ((eh107.1 _ _ (fun q => absurd q (by decide))).trans ex2.symm)))))) (nV_p (by decide))) (rgf_12 _) (by omega) (by omega)) (fun h123 k124 eh123 => ?_)
          refine A_aload_n 0 d_Parts_add_90 rfl rfl ?_
          refine A_getAv (z := some 13) T_ok d_Parts_add_91 f_Parts_21 (xi_s k124.1 sf_9) (xi_r k124.1 rff_9_3) ?_
          refine A_aload_n 0 d_Parts_add_94 rfl rfl ?_
          refine A_pc (pc' := 95) rfl ?_
          refine A_getIv (z := x2) T_ok d_Parts_add_95 f_Parts_30 (xi_s k124.1 sf_9) ((eh123.1 _ _ (fun q => absurd q (by decide))).trans ((eh119.1 _ _ (fun q => absurd q (by decide))).trans ((eh115.1 _ _ (fun _ => by decide)).trans ((eh112.1 _ _ (fun q => absurd q (by decide))).trans ((eh107.1 _ _ (fun q => absurd q (by decide))).trans ex2.symm))))) ?_
          refine A_iload_n 3 d_Parts_add_98 rfl rfl ?_
          refine A_iastorek (KR := kF (FB s) s h) d_Parts_add_99 (xi_s k124.1 sf_13) (by omega) (by omega) (kF_js k124 (by omega) (sem_V (kF_sem k124) (sP_k (kF_sem k124).1 (by decide) (le_tn ((eh123.1 _ _ (fun q => absurd q (by decide))).trans ((eh119.1 _ _ (fun q => absurd q (by decide))).trans ((eh115.1 _ _ (fun _ => by decide)).trans ((eh112.1 _ _ (fun q => absurd q (by decide))).trans ((eh107.1 _ _ (fun q => absurd q (by decide))).trans ex2.symm))))))) (nV_p (by decide))) (rgf_13 _) (by omega) (by omega)) (fun h127 k128 eh127 => ?_)
          refine A_aload_n 0 d_Parts_add_100 rfl rfl ?_
          refine A_getAv (z := some 11) T_ok d_Parts_add_101 f_Parts_15 (xi_s k128.1 sf_9) (xi_r k128.1 rff_9_1) ?_
          refine A_aload_n 0 d_Parts_add_104 rfl rfl ?_
          refine A_pc (pc' := 105) rfl ?_
          refine A_getIv (z := x2) T_ok d_Parts_add_105 f_Parts_30 (xi_s k128.1 sf_9) ((eh127.1 _ _ (fun q => absurd q (by decide))).trans ((eh123.1 _ _ (fun q => absurd q (by decide))).trans ((eh119.1 _ _ (fun q => absurd q (by decide))).trans ((eh115.1 _ _ (fun _ => by decide)).trans ((eh112.1 _ _ (fun q => absurd q (by decide))).trans ((eh107.1 _ _ (fun q => absurd q (by decide))).trans ex2.symm)))))) ?_
          refine A_aload_n 0 d_Parts_add_108 rfl rfl ?_
          refine A_getIv (z := x2) T_ok d_Parts_add_109 f_Parts_30 (xi_s k128.1 sf_9) ((eh127.1 _ _ (fun q => absurd q (by decide))).trans ((eh123.1 _ _ (fun q => absurd q (by decide))).trans ((eh119.1 _ _ (fun q => absurd q (by decide))).trans ((eh115.1 _ _ (fun _ => by decide)).trans ((eh112.1 _ _ (fun q => absurd q (by decide))).trans ((eh107.1 _ _ (fun q => absurd q (by decide))).trans ex2.symm)))))) ?_
          refine A_iastorek (KR := kF (FB s) s h) d_Parts_add_112 (xi_s k128.1 sf_11) (by omega) (by omega) (kF_j k128 (by omega) (ns_b rfl) (rgf_11 _) (by omega) (by omega)) (fun h132 k133 eh132 => ?_)
          refine A_aload_n 0 d_Parts_add_113 rfl rfl ?_
          refine A_dupR d_Parts_add_114 ?_
          refine A_pc (pc' := 115) rfl ?_
          refine A_getIv (z := x2) T_ok d_Parts_add_115 f_Parts_30 (xi_s k133.1 sf_9) ((eh132.1 _ _ (fun q => absurd q (by decide))).trans ((eh127.1 _ _ (fun q => absurd q (by decide))).trans ((eh123.1 _ _ (fun q => absurd q (by decide))).trans ((eh119.1 _ _ (fun q => absurd q (by decide))).trans ((eh115.1 _ _ (fun _ => by decide)).trans ((eh112.1 _ _ (fun q => absurd q (by decide))).trans ((eh107.1 _ _ (fun q => absurd q (by decide))).trans ex2.symm))))))) ?_
          refine A_iconst d_Parts_add_118 rfl ?_
          refine A_iaddv (z := (x2 + 1)) d_Parts_add_119 (w32_to (by omega) (by unfold i32; omega)) ?_
          refine A_putIk (KR := kF (FB s) s h) T_ok d_Parts_add_120 f_Parts_30 (xi_s k133.1 sf_9) fin_f (kF_js k133 (by omega) (sem_V (kF_sem k133) (sP_s (kF_sem k133).1 ((eh132.1 _ _ (fun q => absurd q (by decide))).trans ((eh127.1 _ _ (fun q => absurd q (by decide))).trans ((eh123.1 _ _ (fun q => absurd q (by decide))).trans ((eh119.1 _ _ (fun q => absurd q (by decide))).trans ((eh115.1 _ _ (fun _ => by decide)).trans ((eh112.1 _ _ (fun q => absurd q (by decide))).trans ((eh107.1 _ _ (fun q => absurd q (by decide))).trans ex2.symm))))))) (by omega) (by omega) ((eh132.1 _ _ (fun q => absurd q (by decide))).trans ((eh127.1 _ _ (fun q => absurd q (by decide))).trans ((eh123.1 _ _ (fun q => absurd q (by decide))).trans eh119.2.1))) ((eh132.1 _ _ (fun q => absurd q (by decide))).trans ((eh127.1 _ _ (fun q => absurd q (by decide))).trans eh123.2.1)) ((eh132.1 _ _ (fun q => absurd q (by decide))).trans eh127.2.1) (fun q => ⟨⟨by omega, by omega⟩, by omega, by omega⟩)) (nV_p (by decide))) rgf_9_4 (by omega) (by omega)) (fun h135 k136 eh135 => ?_)
          exact A_vret d_Parts_add_123 (by decide) rfl ⟨rfl, (fun _ _ => by have qq0 := ((eh135.1 _ _ (fun _ => by decide)).trans ((eh132.1 _ _ (fun q => absurd q (by decide))).trans ((eh127.1 _ _ (fun q => absurd q (by decide))).trans ((eh123.1 _ _ (fun q => absurd q (by decide))).trans ((eh119.1 _ _ (fun q => absurd q (by decide))).trans eh115.2.1))))); omega), k136⟩
  · exact A_vret d_Parts_add_12 (by decide) rfl ⟨rfl, (fun _ _ => by have qq0 := esd1.symm; omega), k0⟩
theorem s_Parts_addMark {G : cx_T} {s : Nat} {h : ah_T} (hx : xi s h) {a1 : Int} (hk : a1 ≠ 123 ∧ a1 ≠ 91) : con G 1 0 0 m_Parts_addMark [av_R (some 9), av_I a1] h (fun r h' => ∃ z, r = some (av_I z) ∧ (z = 0 ∨ z = 1) ∧ kF (FB s) s h h') := by
  refine con_of (L := [some (av_R (some 9)), some (av_I a1), none]) (by decide +kernel) (Nat.le_of_ble_eq_true rfl) rfl ?_
  have hS : isS s := hx.2.1
  have hs0 : s = 17 ∨ s = 80 := hS
  have hs0b : 17 ≤ s ∧ s ≤ 80 := by omega
  have k0 : kF (FB s) s h h := kF_0 hx
  obtain ⟨sd1, esd1⟩ : ∃ x, x = h.2.1 9 7 := ⟨_, rfl⟩
  have rsd1 : 0 ≤ sd1 ∧ sd1 ≤ 7 := (by rw [esd1]; exact xi_g k0.1 (by decide) rgf_9_7)
  refine A_locI 1 rfl (fun ra => ?_)
  obtain ⟨_, _⟩ := ra
  refine A_aload_n 0 d_Parts_addMark_0 rfl rfl ?_
  refine A_getIv (z := sd1) T_ok d_Parts_addMark_1 f_Parts_34 (xi_s k0.1 sf_9) esd1.symm ?_
  refine A_iconst d_Parts_addMark_4 rfl ?_
  refine A_icmp_lt (tgt := 29) d_Parts_addMark_5 (by decide) (fun c3 => ?_) (fun c3 => ?_)
  · refine A_iconst d_Parts_addMark_29 rfl ?_
    exact A_zret d_Parts_addMark_30 (by decide) rfl (by omega) ⟨_, rfl, by omega, k0⟩
  · refine A_aload_n 0 d_Parts_addMark_8 rfl rfl ?_
    refine A_getIv (z := sd1) T_ok d_Parts_addMark_9 f_Parts_34 (xi_s k0.1 sf_9) esd1.symm ?_
    refine A_bipush d_Parts_addMark_12 rfl ?_
    refine A_icmp_gt (tgt := 29) d_Parts_addMark_14 (by decide) (fun c => False.elim (by omega)) (fun c5 => ?_)
    refine A_aload_n 0 d_Parts_addMark_17 rfl rfl ?_
    refine A_getIn (lo := 0) (hi := 2000) T_ok d_Parts_addMark_18 f_Parts_30 (xi_s k0.1 sf_9) (xi_g k0.1 (by decide) rgf_9_4) (fun x6 ex6 _ _ => ?_)
    refine A_aload_n 0 d_Parts_addMark_21 rfl rfl ?_
    refine A_getAv (z := some 10) T_ok d_Parts_addMark_22 f_Parts_9 (xi_s k0.1 sf_9) (xi_r k0.1 rff_9_0) ?_
    refine A_alenN d_Parts_addMark_25 (xi_s k0.1 sf_10) (by decide) (by decide) ?_
    refine A_pc (pc' := 26) rfl ?_
    refine A_icmp_lt (tgt := 31) d_Parts_addMark_26 (by decide) (fun c8 => ?_) (fun c8 => ?_)
    · refine A_aload_n 0 d_Parts_addMark_31 rfl rfl ?_
      refine A_getIv (z := sd1) T_ok d_Parts_addMark_32 f_Parts_34 (xi_s k0.1 sf_9) esd1.symm ?_
      refine A_iconst d_Parts_addMark_35 rfl ?_
      refine A_isubv (z := (sd1 - 1)) d_Parts_addMark_36 (w32_to (by omega) (by unfold i32; omega)) ?_
      refine A_istore_n 2 (L' := [some (av_R (some 9)), some (av_I a1), some (av_I (sd1 - 1))]) d_Parts_addMark_37 rfl (Nat.le_of_ble_eq_true rfl) rfl ?_
      refine A_pc (pc' := 38) rfl ?_
      refine A_aload_n 0 d_Parts_addMark_38 rfl rfl ?_
      refine A_getAv (z := some 10) T_ok d_Parts_addMark_39 f_Parts_9 (xi_s k0.1 sf_9) (xi_r k0.1 rff_9_0) ?_
      refine A_aload_n 0 d_Parts_addMark_42 rfl rfl ?_
      refine A_getAv (z := some 14) T_ok d_Parts_addMark_43 f_Parts_24 (xi_s k0.1 sf_9) (xi_r k0.1 rff_9_5) ?_
      refine A_iload_n 2 d_Parts_addMark_46 rfl rfl ?_
      refine A_ialoadn (lo := 0) (hi := 1999) d_Parts_addMark_47 (xi_s k0.1 sf_14) (by omega) (by omega) (xi_g k0.1 (by decide) (rgf_14 _)) (fun x12 ex12 _ _ => ?_)
      refine A_pc (pc' := 48) rfl ?_
      refine A_ialoadf d_Parts_addMark_48 (xi_s k0.1 sf_10) (by omega) (by omega) (fun x13 ex13 _ _ => ?_)
      refine A_iload_n 1 d_Parts_addMark_49 rfl rfl ?_
      refine A_bipush d_Parts_addMark_50 rfl ?_
      refine A_icmp_ne (tgt := 60) d_Parts_addMark_52 (by decide) (fun c14 => ?_) (fun c14 => ?_)
      · refine A_bipush d_Parts_addMark_60 rfl ?_
        refine A_icmp_eq (tgt := 67) d_Parts_addMark_62 (by decide) (fun c15 => ?_) (fun c15 => ?_)
        · refine A_aload_n 0 d_Parts_addMark_67 rfl rfl ?_
          refine A_getAv (z := some 11) T_ok d_Parts_addMark_68 f_Parts_15 (xi_s k0.1 sf_9) (xi_r k0.1 rff_9_1) ?_
          refine A_aload_n 0 d_Parts_addMark_71 rfl rfl ?_
          refine A_getAv (z := some 15) T_ok d_Parts_addMark_72 f_Parts_27 (xi_s k0.1 sf_9) (xi_r k0.1 rff_9_6) ?_
          refine A_iload_n 2 d_Parts_addMark_75 rfl rfl ?_
          refine A_pc (pc' := 76) rfl ?_
          refine A_ialoadn (lo := 0) (hi := 1999) d_Parts_addMark_76 (xi_s k0.1 sf_15) (by omega) (by omega) (xi_g k0.1 (by decide) (rgf_15 _)) (fun x18 ex18 _ _ => ?_)
          refine A_aload_n 0 d_Parts_addMark_77 rfl rfl ?_
          refine A_getIv (z := x6) T_ok d_Parts_addMark_78 f_Parts_30 (xi_s k0.1 sf_9) ex6.symm ?_
          refine A_iastorek (KR := kF (FB s) s h) d_Parts_addMark_81 (xi_s k0.1 sf_11) (by omega) (by omega) (kF_j k0 (by omega) (ns_b rfl) (rgf_11 _) (by omega) (by omega)) (fun h20 k21 eh20 => ?_)
          refine A_aload_n 0 d_Parts_addMark_82 rfl rfl ?_
          refine A_getAv (z := some 15) T_ok d_Parts_addMark_83 f_Parts_27 (xi_s k21.1 sf_9) (xi_r k21.1 rff_9_6) ?_
          refine A_pc (pc' := 86) rfl ?_
          refine A_iload_n 2 d_Parts_addMark_86 rfl rfl ?_
          refine A_aload_n 0 d_Parts_addMark_87 rfl rfl ?_
          refine A_getIv (z := x6) T_ok d_Parts_addMark_88 f_Parts_30 (xi_s k21.1 sf_9) ((eh20.1 _ _ (fun q => absurd q (by decide))).trans ex6.symm) ?_
          refine A_iastorek (KR := kF (FB s) s h) d_Parts_addMark_91 (xi_s k21.1 sf_15) (by omega) (by omega) (kF_j k21 (by omega) (ns_b rfl) (rgf_15 _) (by omega) (by omega)) (fun h24 k25 eh24 => ?_)
          refine A_aload_n 0 d_Parts_addMark_92 rfl rfl ?_
          refine A_iload_n 1 d_Parts_addMark_93 rfl rfl ?_
          refine A_pc (pc' := 94) rfl ?_
          refine A_iconst d_Parts_addMark_94 rfl ?_
          refine A_iconst d_Parts_addMark_95 rfl ?_
          have zf27 := ((eh24.1 _ _ (fun q => absurd q (by decide))).trans ((eh20.1 _ _ (fun q => absurd q (by decide))).trans esd1.symm))
          refine A_callV3 m_Parts_add T_ok d_Parts_addMark_96 l_Parts_37 k_Parts_add (xi_s k25.1 sf_9) rfl (by decide +kernel) (by decide) (Nat.le_of_ble_eq_true rfl) (s_Parts_add k25.1 (by omega) (by omega) (by omega) (by omega) (fun q => by omega)) (fun r h26 hq => ?_)
          obtain ⟨rfl, xk28, k28⟩ := hq
          have k29 := kF_t k25 k28 (fun _ q => q)
          obtain ⟨sd30, esd30⟩ : ∃ x, x = h26.2.1 9 7 := ⟨_, rfl⟩
          have rsd30 : 0 ≤ sd30 ∧ sd30 ≤ 7 := (by rw [esd30]; exact xi_g k29.1 (by decide) rgf_9_7)
          refine A_iload_n 1 d_Parts_addMark_99 rfl rfl ?_
          refine A_bipush d_Parts_addMark_100 rfl ?_
          refine A_icmp_eq (tgt := 115) d_Parts_addMark_102 (by decide) (fun c31 => ?_) (fun c31 => ?_)
          · refine A_iconst d_Parts_addMark_115 rfl ?_
            exact A_zret d_Parts_addMark_116 (by decide) rfl (by omega) ⟨_, rfl, by omega, k29⟩
          · refine A_aload_n 0 d_Parts_addMark_105 rfl rfl ?_
            refine A_dupR d_Parts_addMark_106 ?_
            refine A_getIv (z := sd30) T_ok d_Parts_addMark_107 f_Parts_34 (xi_s k29.1 sf_9) esd30.symm ?_
            refine A_iconst d_Parts_addMark_110 rfl ?_
            refine A_isubv (z := (sd30 - 1)) d_Parts_addMark_111 (w32_to (by omega) (by unfold i32; omega)) ?_
            refine A_pc (pc' := 112) rfl ?_
            refine A_putIk (KR := kF (FB s) s h) T_ok d_Parts_addMark_112 f_Parts_34 (xi_s k29.1 sf_9) fin_f (kF_j k29 (by omega) (ns_b rfl) rgf_9_7 (by omega) (by omega)) (fun h33 k34 eh33 => ?_)
            refine A_iconst d_Parts_addMark_115 rfl ?_
            exact A_zret d_Parts_addMark_116 (by decide) rfl (by omega) ⟨_, rfl, by omega, k34⟩
        · refine A_iconst d_Parts_addMark_65 rfl ?_
          exact A_zret d_Parts_addMark_66 (by decide) rfl (by omega) ⟨_, rfl, by omega, k0⟩
      · refine A_bipush d_Parts_addMark_55 rfl ?_
        refine A_goto (tgt := 62) d_Parts_addMark_57 (by decide) ?_
        refine A_icmp_eq (tgt := 67) d_Parts_addMark_62 (by decide) (fun c35 => ?_) (fun c35 => ?_)
        · refine A_aload_n 0 d_Parts_addMark_67 rfl rfl ?_
          refine A_getAv (z := some 11) T_ok d_Parts_addMark_68 f_Parts_15 (xi_s k0.1 sf_9) (xi_r k0.1 rff_9_1) ?_
          refine A_aload_n 0 d_Parts_addMark_71 rfl rfl ?_
          refine A_getAv (z := some 15) T_ok d_Parts_addMark_72 f_Parts_27 (xi_s k0.1 sf_9) (xi_r k0.1 rff_9_6) ?_
          refine A_iload_n 2 d_Parts_addMark_75 rfl rfl ?_
          refine A_pc (pc' := 76) rfl ?_
          refine A_ialoadn (lo := 0) (hi := 1999) d_Parts_addMark_76 (xi_s k0.1 sf_15) (by omega) (by omega) (xi_g k0.1 (by decide) (rgf_15 _)) (fun x38 ex38 _ _ => ?_)
          refine A_aload_n 0 d_Parts_addMark_77 rfl rfl ?_
          refine A_getIv (z := x6) T_ok d_Parts_addMark_78 f_Parts_30 (xi_s k0.1 sf_9) ex6.symm ?_
          refine A_iastorek (KR := kF (FB s) s h) d_Parts_addMark_81 (xi_s k0.1 sf_11) (by omega) (by omega) (kF_j k0 (by omega) (ns_b rfl) (rgf_11 _) (by omega) (by omega)) (fun h40 k41 eh40 => ?_)
          refine A_aload_n 0 d_Parts_addMark_82 rfl rfl ?_
          refine A_getAv (z := some 15) T_ok d_Parts_addMark_83 f_Parts_27 (xi_s k41.1 sf_9) (xi_r k41.1 rff_9_6) ?_
          refine A_pc (pc' := 86) rfl ?_
          refine A_iload_n 2 d_Parts_addMark_86 rfl rfl ?_
          refine A_aload_n 0 d_Parts_addMark_87 rfl rfl ?_
          refine A_getIv (z := x6) T_ok d_Parts_addMark_88 f_Parts_30 (xi_s k41.1 sf_9) ((eh40.1 _ _ (fun q => absurd q (by decide))).trans ex6.symm) ?_
          refine A_iastorek (KR := kF (FB s) s h) d_Parts_addMark_91 (xi_s k41.1 sf_15) (by omega) (by omega) (kF_j k41 (by omega) (ns_b rfl) (rgf_15 _) (by omega) (by omega)) (fun h44 k45 eh44 => ?_)
          refine A_aload_n 0 d_Parts_addMark_92 rfl rfl ?_
          refine A_iload_n 1 d_Parts_addMark_93 rfl rfl ?_
          refine A_pc (pc' := 94) rfl ?_
          refine A_iconst d_Parts_addMark_94 rfl ?_
          refine A_iconst d_Parts_addMark_95 rfl ?_
          have zf47 := ((eh44.1 _ _ (fun q => absurd q (by decide))).trans ((eh40.1 _ _ (fun q => absurd q (by decide))).trans esd1.symm))
          refine A_callV3 m_Parts_add T_ok d_Parts_addMark_96 l_Parts_37 k_Parts_add (xi_s k45.1 sf_9) rfl (by decide +kernel) (by decide) (Nat.le_of_ble_eq_true rfl) (s_Parts_add k45.1 (by omega) (by omega) (by omega) (by omega) (fun q => by omega)) (fun r h46 hq => ?_)
          obtain ⟨rfl, xk48, k48⟩ := hq
          have k49 := kF_t k45 k48 (fun _ q => q)
          obtain ⟨sd50, esd50⟩ : ∃ x, x = h46.2.1 9 7 := ⟨_, rfl⟩
          have rsd50 : 0 ≤ sd50 ∧ sd50 ≤ 7 := (by rw [esd50]; exact xi_g k49.1 (by decide) rgf_9_7)
          refine A_iload_n 1 d_Parts_addMark_99 rfl rfl ?_
          refine A_bipush d_Parts_addMark_100 rfl ?_
          refine A_icmp_eq (tgt := 115) d_Parts_addMark_102 (by decide) (fun c => False.elim (by omega)) (fun c51 => ?_)
          refine A_aload_n 0 d_Parts_addMark_105 rfl rfl ?_
          refine A_dupR d_Parts_addMark_106 ?_
          refine A_getIv (z := sd50) T_ok d_Parts_addMark_107 f_Parts_34 (xi_s k49.1 sf_9) esd50.symm ?_
          refine A_iconst d_Parts_addMark_110 rfl ?_
          refine A_isubv (z := (sd50 - 1)) d_Parts_addMark_111 (w32_to (by omega) (by unfold i32; omega)) ?_
          refine A_pc (pc' := 112) rfl ?_
          refine A_putIk (KR := kF (FB s) s h) T_ok d_Parts_addMark_112 f_Parts_34 (xi_s k49.1 sf_9) fin_f (kF_j k49 (by omega) (ns_b rfl) rgf_9_7 (by omega) (by omega)) (fun h53 k54 eh53 => ?_)
          refine A_iconst d_Parts_addMark_115 rfl ?_
          exact A_zret d_Parts_addMark_116 (by decide) rfl (by omega) ⟨_, rfl, by omega, k54⟩
        · refine A_iconst d_Parts_addMark_65 rfl ?_
          exact A_zret d_Parts_addMark_66 (by decide) rfl (by omega) ⟨_, rfl, by omega, k0⟩
    · refine A_iconst d_Parts_addMark_29 rfl ?_
      exact A_zret d_Parts_addMark_30 (by decide) rfl (by omega) ⟨_, rfl, by omega, k0⟩
theorem s_Parts_meetLine {G : cx_T} {s : Nat} {h : ah_T} (hx : xi s h) {a1 : Nat} (ta1 : tV s a1) (hJ : h.2.1 9 10 + 1 ≤ h.2.1 9 8 ∧ h.2.1 a1 16 ≤ h.2.1 9 10 + 1) : con G 1 0 0 m_Parts_meetLine [av_R (some 9), av_R (some a1)] h (fun r h' => r = none ∧ ((h'.2.1 9 10 ≤ h'.2.1 9 8 ∧ h'.2.1 a1 16 ≤ h'.2.1 9 10 + 1) ∧ h'.2.1 9 8 = h.2.1 9 8) ∧ kF (FB s) s h h') := by
  refine con_of (L := [some (av_R (some 9)), some (av_R (some a1))]) (by decide +kernel) (Nat.le_of_ble_eq_true rfl) rfl ?_
  have hS : isS s := hx.2.1
  have hs0 : s = 17 ∨ s = 80 := hS
  have hs0b : 17 ≤ s ∧ s ≤ 80 := by omega
  have k0 : kF (FB s) s h h := kF_0 hx
  have ga1 : a1 = s + 7 ∨ a1 = s + 21 ∨ a1 = s + 35 ∨ a1 = s + 49 := ta1
  have ga1b : s + 7 ≤ a1 ∧ a1 ≤ s + 49 := by omega
  obtain ⟨sd1, esd1⟩ : ∃ x, x = h.2.1 9 8 := ⟨_, rfl⟩
  have rsd1 : 0 ≤ sd1 ∧ sd1 ≤ 100000 := (by rw [esd1]; exact xi_g k0.1 (by decide) rgf_9_8)
  obtain ⟨sd2, esd2⟩ : ∃ x, x = h.2.1 9 10 := ⟨_, rfl⟩
  have rsd2 : 0 ≤ sd2 ∧ sd2 ≤ 100000 := (by rw [esd2]; exact xi_g k0.1 (by decide) rgf_9_10)
  obtain ⟨sd3, esd3⟩ : ∃ x, x = h.2.1 a1 16 := ⟨_, rfl⟩
  have rsd3 : 0 ≤ sd3 ∧ sd3 ≤ 101 := (by rw [esd3]; exact xi_g k0.1 (lt1_V (tV_V hS ta1)) (rg_V_16 (tV_V hS ta1)))
  refine A_aload_n 0 d_Parts_meetLine_0 rfl rfl ?_
  refine A_dupR d_Parts_meetLine_1 ?_
  refine A_getIv (z := sd2) T_ok d_Parts_meetLine_2 f_Parts_52 (xi_s k0.1 sf_9) esd2.symm ?_
  refine A_iconst d_Parts_meetLine_5 rfl ?_
  refine A_iaddv (z := (sd2 + 1)) d_Parts_meetLine_6 (w32_to (by omega) (by unfold i32; omega)) ?_
  refine A_pc (pc' := 7) rfl ?_
  refine A_putIk (KR := kF (FB s) s h) T_ok d_Parts_meetLine_7 f_Parts_52 (xi_s k0.1 sf_9) fin_f (kF_j k0 (by omega) (ns_b rfl) rgf_9_10 (by omega) (by omega)) (fun h5 k6 eh5 => ?_)
  refine A_aload_n 0 d_Parts_meetLine_10 rfl rfl ?_
  refine A_getIv (z := (sd2 + 1)) T_ok d_Parts_meetLine_11 f_Parts_52 (xi_s k6.1 sf_9) eh5.2.1 ?_
  refine A_bipush d_Parts_meetLine_14 rfl ?_
  refine A_icmp_gt (tgt := 23) d_Parts_meetLine_16 (by decide) (fun c8 => ?_) (fun c8 => ?_)
  · exact A_vret d_Parts_meetLine_23 (by decide) rfl ⟨rfl, (by have qq0 := ((eh5.1 _ _ (fun _ => by decide)).trans esd1.symm); have qq1 := eh5.2.1; have qq2 := ((eh5.1 _ _ (fun q => by omega)).trans esd3.symm); exact ⟨⟨by omega, by omega⟩, by omega⟩), k6⟩
  · refine A_aload_n 1 d_Parts_meetLine_19 rfl rfl ?_
    have zf10 := ((eh5.1 _ _ (fun _ => by decide)).trans esd1.symm)
    have zf11 := eh5.2.1
    have zf12 := ((eh5.1 _ _ (fun q => by omega)).trans esd3.symm)
    refine A_callV0 m_Voice_addBar T_ok d_Parts_meetLine_20 l_Parts_84 k_Voice_addBar (xs_V k6.1 (tV_V hS ta1)) rfl (by decide +kernel) (by decide) (Nat.le_of_ble_eq_true rfl) (s_Voice_addBar k6.1 ta1 (by have qq0 := ((eh5.1 _ _ (fun q => by omega)).trans esd3.symm); omega)) (fun r h9 hq => ?_)
    obtain ⟨rfl, xk13, k13⟩ := hq
    have k14 := kF_t k6 k13 (fun _ q => q)
    obtain ⟨sd15, esd15⟩ : ∃ x, x = h9.2.1 9 8 := ⟨_, rfl⟩
    have rsd15 : 0 ≤ sd15 ∧ sd15 ≤ 100000 := (by rw [esd15]; exact xi_g k14.1 (by decide) rgf_9_8)
    obtain ⟨sd16, esd16⟩ : ∃ x, x = h9.2.1 9 10 := ⟨_, rfl⟩
    have rsd16 : 0 ≤ sd16 ∧ sd16 ≤ 100000 := (by rw [esd16]; exact xi_g k14.1 (by decide) rgf_9_10)
    obtain ⟨sd17, esd17⟩ : ∃ x, x = h9.2.1 a1 16 := ⟨_, rfl⟩
    have rsd17 : 0 ≤ sd17 ∧ sd17 ≤ 101 := (by rw [esd17]; exact xi_g k14.1 (lt1_V (tV_V hS ta1)) (rg_V_16 (tV_V hS ta1)))
    exact A_vret d_Parts_meetLine_23 (by decide) rfl ⟨rfl, (by have qq0 := esd15.symm; have qq1 := esd16.symm; have qq2 := esd17.symm; exact ⟨⟨by omega, by omega⟩, by omega⟩), k14⟩
theorem s_Parts_walkThrough_8 {G : cx_T} {s : Nat} {h : ah_T} (hx : xi s h) {a1 : Nat} {a2 : Int} {a3 : Int} {a4 : Int} {a5 : Int} {a6 : Int} (ta1 : tV s a1) (la2 : 0 ≤ a2) (ua2 : a2 ≤ 2000) (la3 : 0 ≤ a3) (ua3 : a3 ≤ 2000) (la4 : 8 ≤ a4) (ua4 : a4 ≤ 8) (la5 : 1 ≤ a5) (ua5 : a5 ≤ 4294967296) (la6 : 0 ≤ a6) (ua6 : a6 ≤ 4294967296) (hJ : h.2.1 9 10 ≤ h.2.1 9 8 ∧ h.2.1 a1 16 ≤ h.2.1 9 10 + 1) : con G 4 0 0 m_Parts_walkThrough [av_R (some 9), av_R (some a1), av_I a2, av_I a3, av_I a4, av_L a5, av_L a6] h (fun r h' => r = none ∧ ((h'.2.1 9 10 ≤ h'.2.1 9 8 ∧ h'.2.1 a1 16 ≤ h'.2.1 9 10 + 1) ∧ (h'.2.1 9 8 ≤ h.2.1 9 8 ∨ h'.2.1 9 8 ≤ 2001)) ∧ kF (FB s) s h h') := by
  refine con_of (L := [some (av_R (some 9)), some (av_R (some a1)), some (av_I a2), some (av_I a3), some (av_I a4), some (av_L a5), none, some (av_L a6), none, none, none]) (by decide +kernel) (Nat.le_of_ble_eq_true rfl) rfl ?_
  have hS : isS s := hx.2.1
  have hs0 : s = 17 ∨ s = 80 := hS
  have hs0b : 17 ≤ s ∧ s ≤ 80 := by omega
  have k0 : kF (FB s) s h h := kF_0 hx
  have ga1 : a1 = s + 7 ∨ a1 = s + 21 ∨ a1 = s + 35 ∨ a1 = s + 49 := ta1
  have ga1b : s + 7 ≤ a1 ∧ a1 ≤ s + 49 := by omega
  obtain ⟨sd1, esd1⟩ : ∃ x, x = h.2.1 9 8 := ⟨_, rfl⟩
  have rsd1 : 0 ≤ sd1 ∧ sd1 ≤ 100000 := (by rw [esd1]; exact xi_g k0.1 (by decide) rgf_9_8)
  obtain ⟨sd2, esd2⟩ : ∃ x, x = h.2.1 9 10 := ⟨_, rfl⟩
  have rsd2 : 0 ≤ sd2 ∧ sd2 ≤ 100000 := (by rw [esd2]; exact xi_g k0.1 (by decide) rgf_9_10)
  obtain ⟨sd3, esd3⟩ : ∃ x, x = h.2.1 a1 16 := ⟨_, rfl⟩
  have rsd3 : 0 ≤ sd3 ∧ sd3 ≤ 101 := (by rw [esd3]; exact xi_g k0.1 (lt1_V (tV_V hS ta1)) (rg_V_16 (tV_V hS ta1)))
  refine A_iload d_Parts_walkThrough_0 rfl ?_
  refine A_bipush d_Parts_walkThrough_2 rfl ?_
  refine A_icmp_le (tgt := 8) d_Parts_walkThrough_4 (by decide) (fun c => False.elim (by omega)) (fun c4 => ?_)
  exact A_vret d_Parts_walkThrough_7 (by decide) rfl ⟨rfl, (by have qq0 := esd1.symm; have qq1 := esd2.symm; have qq2 := esd3.symm; exact ⟨⟨by omega, by omega⟩, by omega⟩), k0⟩
theorem s_Parts_walkRepeat_7 {G : cx_T} {s : Nat} {h : ah_T} (hx : xi s h) {a1 : Nat} {a2 : Int} {a3 : Int} {a4 : Int} {a5 : Int} (ta1 : tV s a1) (la2 : 0 ≤ a2) (ua2 : a2 ≤ 1999) (la3 : 7 ≤ a3) (ua3 : a3 ≤ 7) (la4 : 1 ≤ a4) (ua4 : a4 ≤ 268435456) (la5 : 0 ≤ a5) (ua5 : a5 ≤ 268435456) (hJ : h.2.1 9 10 ≤ h.2.1 9 8 ∧ h.2.1 a1 16 ≤ h.2.1 9 10 + 1) (hS2 : h.2.1 9 8 ≤ 2001) : con G 5 0 0 m_Parts_walkRepeat [av_R (some 9), av_R (some a1), av_I a2, av_I a3, av_L a4, av_L a5] h (fun r h' => ∃ z, r = some (av_I z) ∧ (0 ≤ z ∧ z ≤ 1999) ∧ ((h'.2.1 9 10 ≤ h'.2.1 9 8 ∧ h'.2.1 a1 16 ≤ h'.2.1 9 10 + 1) ∧ h'.2.1 9 8 ≤ 4001) ∧ kF (FB s) s h h') := by
  refine con_of (L := [some (av_R (some 9)), some (av_R (some a1)), some (av_I a2), some (av_I a3), some (av_L a4), none, some (av_L a5), none, none, none, none]) (by decide +kernel) (Nat.le_of_ble_eq_true rfl) rfl ?_
  have hS : isS s := hx.2.1
  have hs0 : s = 17 ∨ s = 80 := hS
  have hs0b : 17 ≤ s ∧ s ≤ 80 := by omega
  have k0 : kF (FB s) s h h := kF_0 hx
  have ga1 : a1 = s + 7 ∨ a1 = s + 21 ∨ a1 = s + 35 ∨ a1 = s + 49 := ta1
  have ga1b : s + 7 ≤ a1 ∧ a1 ≤ s + 49 := by omega
  obtain ⟨sd1, esd1⟩ : ∃ x, x = h.2.1 9 8 := ⟨_, rfl⟩
  have rsd1 : 0 ≤ sd1 ∧ sd1 ≤ 100000 := (by rw [esd1]; exact xi_g k0.1 (by decide) rgf_9_8)
  obtain ⟨sd2, esd2⟩ : ∃ x, x = h.2.1 9 10 := ⟨_, rfl⟩
  have rsd2 : 0 ≤ sd2 ∧ sd2 ≤ 100000 := (by rw [esd2]; exact xi_g k0.1 (by decide) rgf_9_10)
  obtain ⟨sd3, esd3⟩ : ∃ x, x = h.2.1 a1 16 := ⟨_, rfl⟩
  have rsd3 : 0 ≤ sd3 ∧ sd3 ≤ 101 := (by rw [esd3]; exact xi_g k0.1 (lt1_V (tV_V hS ta1)) (rg_V_16 (tV_V hS ta1)))
  refine A_aload_n 0 d_Parts_walkRepeat_0 rfl rfl ?_
  refine A_getAv (z := some 11) T_ok d_Parts_walkRepeat_1 f_Parts_15 (xi_s k0.1 sf_9) (xi_r k0.1 rff_9_1) ?_
  refine A_iload_n 2 d_Parts_walkRepeat_4 rfl rfl ?_
  refine A_ialoadn (lo := 0) (hi := 1999) d_Parts_walkRepeat_5 (xi_s k0.1 sf_11) (by omega) (by omega) (xi_g k0.1 (by decide) (rgf_11 _)) (fun x5 ex5 _ _ => ?_)
  refine A_istore (L' := [some (av_R (some 9)), some (av_R (some a1)), some (av_I a2), some (av_I a3), some (av_L a4), none, some (av_L a5), none, some (av_I x5), none, none]) d_Parts_walkRepeat_6 (Nat.le_of_ble_eq_true rfl) rfl ?_
  refine A_pc (pc' := 8) rfl ?_
  refine A_aload_n 0 d_Parts_walkRepeat_8 rfl rfl ?_
  refine A_getAv (z := some 10) T_ok d_Parts_walkRepeat_9 f_Parts_9 (xi_s k0.1 sf_9) (xi_r k0.1 rff_9_0) ?_
  refine A_iload d_Parts_walkRepeat_12 rfl ?_
  refine A_ialoadf d_Parts_walkRepeat_14 (xi_s k0.1 sf_10) (by omega) (by omega) (fun x7 ex7 _ _ => ?_)
  refine A_bipush d_Parts_walkRepeat_15 rfl ?_
  refine A_icmp_eq (tgt := 77) d_Parts_walkRepeat_17 (by decide) (fun c8 => ?_) (fun c8 => ?_)
  · refine A_iload d_Parts_walkRepeat_77 rfl ?_
    refine A_istore (L' := [some (av_R (some 9)), some (av_R (some a1)), some (av_I a2), some (av_I a3), some (av_L a4), none, some (av_L a5), none, some (av_I x5), some (av_I x5), none]) d_Parts_walkRepeat_79 (Nat.le_of_ble_eq_true rfl) rfl ?_
    refine A_iconst d_Parts_walkRepeat_81 rfl ?_
    refine A_istore (L' := [some (av_R (some 9)), some (av_R (some a1)), some (av_I a2), some (av_I a3), some (av_L a4), none, some (av_L a5), none, some (av_I x5), some (av_I x5), some (av_I 0)]) d_Parts_walkRepeat_82 (Nat.le_of_ble_eq_true rfl) rfl ?_
    have lp84 : ∀ (n : Nat) (i9 i10 : Int) (h11 : ah_T) , 0 ≤ i9 → i9 ≤ 1999 → 0 ≤ i10 → i10 ≤ 2000 → (h11.2.1 9 10 ≤ h11.2.1 9 8 ∧ h11.2.1 a1 16 ≤ h11.2.1 9 10 + 1) ∧ h11.2.1 9 8 ≤ 2001 + i10 → kF (FB s) s h h11 → (2001 - i10).toNat < n → aw G (rm_R 5 0 0) m_Parts_walkRepeat 0 0 84 [some (av_R (some 9)), some (av_R (some a1)), some (av_I a2), some (av_I a3), some (av_L a4), none, some (av_L a5), none, some (av_I x5), some (av_I i9), some (av_I i10)] [] h11 (fun r h' => ∃ z, r = some (av_I z) ∧ (0 ≤ z ∧ z ≤ 1999) ∧ ((h'.2.1 9 10 ≤ h'.2.1 9 8 ∧ h'.2.1 a1 16 ≤ h'.2.1 9 10 + 1) ∧ h'.2.1 9 8 ≤ 4001) ∧ kF (FB s) s h h') := by
      intro n
      induction n with
      | zero => intro i9 i10 h11 _ _ _ _ _ _ hm; omega
      | succ n ih84 =>
        intro i9 i10 h11 hl0 hl1 hl2 hl3 hinv k12 hm
        obtain ⟨sd13, esd13⟩ : ∃ x, x = h11.2.1 9 8 := ⟨_, rfl⟩
        have rsd13 : 0 ≤ sd13 ∧ sd13 ≤ 100000 := (by rw [esd13]; exact xi_g k12.1 (by decide) rgf_9_8)
        obtain ⟨sd14, esd14⟩ : ∃ x, x = h11.2.1 9 10 := ⟨_, rfl⟩
        have rsd14 : 0 ≤ sd14 ∧ sd14 ≤ 100000 := (by rw [esd14]; exact xi_g k12.1 (by decide) rgf_9_10)
        obtain ⟨sd15, esd15⟩ : ∃ x, x = h11.2.1 a1 16 := ⟨_, rfl⟩
        have rsd15 : 0 ≤ sd15 ∧ sd15 ≤ 101 := (by rw [esd15]; exact xi_g k12.1 (lt1_V (tV_V hS ta1)) (rg_V_16 (tV_V hS ta1)))
        refine A_iload d_Parts_walkRepeat_84 rfl ?_
        refine A_sipush d_Parts_walkRepeat_86 rfl ?_
        refine A_icmp_ge (tgt := 169) d_Parts_walkRepeat_89 (by decide) (fun c16 => ?_) (fun c16 => ?_)
        · refine A_iload d_Parts_walkRepeat_169 rfl ?_
          exact A_iret d_Parts_walkRepeat_171 (by decide) rfl ⟨_, rfl, ⟨by omega, by omega⟩, (by have qq0 := esd13.symm; have qq1 := esd14.symm; have qq2 := esd15.symm; exact ⟨⟨by omega, by omega⟩, by omega⟩), k12⟩
        · refine A_aload_n 0 d_Parts_walkRepeat_92 rfl rfl ?_
          refine A_getAv (z := some 10) T_ok d_Parts_walkRepeat_93 f_Parts_9 (xi_s k12.1 sf_9) (xi_r k12.1 rff_9_0) ?_
          refine A_iload d_Parts_walkRepeat_96 rfl ?_
          refine A_ialoadf d_Parts_walkRepeat_98 (xi_s k12.1 sf_10) (by omega) (by omega) (fun x18 ex18 _ _ => ?_)
          refine A_bipush d_Parts_walkRepeat_99 rfl ?_
          refine A_pc (pc' := 101) rfl ?_
          refine A_icmp_ne (tgt := 169) d_Parts_walkRepeat_101 (by decide) (fun c19 => ?_) (fun c19 => ?_)
          · refine A_iload d_Parts_walkRepeat_169 rfl ?_
            exact A_iret d_Parts_walkRepeat_171 (by decide) rfl ⟨_, rfl, ⟨by omega, by omega⟩, (by have qq0 := esd13.symm; have qq1 := esd14.symm; have qq2 := esd15.symm; exact ⟨⟨by omega, by omega⟩, by omega⟩), k12⟩
          · refine A_aload_n 0 d_Parts_walkRepeat_104 rfl rfl ?_
            refine A_dupR d_Parts_walkRepeat_105 ?_
            refine A_getIv (z := sd13) T_ok d_Parts_walkRepeat_106 f_Parts_46 (xi_s k12.1 sf_9) esd13.symm ?_
            refine A_iconst d_Parts_walkRepeat_109 rfl ?_
            refine A_iaddv (z := (sd13 + 1)) d_Parts_walkRepeat_110 (w32_to (by omega) (by unfold i32; omega)) ?_
            refine A_pc (pc' := 111) rfl ?_
            refine A_putIk (KR := kF (FB s) s h) T_ok d_Parts_walkRepeat_111 f_Parts_46 (xi_s k12.1 sf_9) fin_f (kF_j k12 (by omega) (ns_b rfl) rgf_9_8 (by omega) (by omega)) (fun h21 k22 eh21 => ?_)
            refine A_aload_n 0 d_Parts_walkRepeat_114 rfl rfl ?_
            refine A_aload_n 1 d_Parts_walkRepeat_115 rfl rfl ?_
            refine A_iload_n 2 d_Parts_walkRepeat_116 rfl rfl ?_
            refine A_iconst d_Parts_walkRepeat_117 rfl ?_
            refine A_iaddv (z := (a2 + 1)) d_Parts_walkRepeat_118 (w32_to (by omega) (by unfold i32; omega)) ?_
            refine A_pc (pc' := 119) rfl ?_
            refine A_iload d_Parts_walkRepeat_119 rfl ?_
            refine A_iload_n 3 d_Parts_walkRepeat_121 rfl rfl ?_
            refine A_iconst d_Parts_walkRepeat_122 rfl ?_
            refine A_iaddv (z := (a3 + 1)) d_Parts_walkRepeat_123 (w32_to (by omega) (by unfold i32; omega)) ?_
            refine A_lload d_Parts_walkRepeat_124 rfl ?_
            refine A_lload d_Parts_walkRepeat_126 rfl ?_
            refine A_pc (pc' := 128) rfl ?_
            have zf24 := eh21.2.1
            have zf25 := ((eh21.1 _ _ (fun _ => by decide)).trans esd14.symm)
            have zf26 := ((eh21.1 _ _ (fun q => by omega)).trans esd15.symm)
            refine A_callV6 m_Parts_walkThrough T_ok d_Parts_walkRepeat_128 l_Parts_59 k_Parts_walkThrough (xi_s k22.1 sf_9) rfl (by decide +kernel) (by decide) (Nat.le_of_ble_eq_true rfl) (s_Parts_walkThrough_8 k22.1 ta1 (by omega) (by omega) (by omega) (by omega) (by omega) (by omega) (by omega) (by omega) (by omega) (by omega) (by have qq0 := eh21.2.1; have qq1 := ((eh21.1 _ _ (fun _ => by decide)).trans esd14.symm); have qq2 := ((eh21.1 _ _ (fun q => by omega)).trans esd15.symm); exact ⟨by omega, by omega⟩)) (fun r h23 hq => ?_)
            obtain ⟨rfl, xk27, k27⟩ := hq
            have k28 := kF_t k22 k27 (fun _ q => q)
            obtain ⟨sd29, esd29⟩ : ∃ x, x = h23.2.1 9 8 := ⟨_, rfl⟩
            have rsd29 : 0 ≤ sd29 ∧ sd29 ≤ 100000 := (by rw [esd29]; exact xi_g k28.1 (by decide) rgf_9_8)
            obtain ⟨sd30, esd30⟩ : ∃ x, x = h23.2.1 9 10 := ⟨_, rfl⟩
            have rsd30 : 0 ≤ sd30 ∧ sd30 ≤ 100000 := (by rw [esd30]; exact xi_g k28.1 (by decide) rgf_9_10)
            obtain ⟨sd31, esd31⟩ : ∃ x, x = h23.2.1 a1 16 := ⟨_, rfl⟩
            have rsd31 : 0 ≤ sd31 ∧ sd31 ≤ 101 := (by rw [esd31]; exact xi_g k28.1 (lt1_V (tV_V hS ta1)) (rg_V_16 (tV_V hS ta1)))
            refine A_aload_n 0 d_Parts_walkRepeat_131 rfl rfl ?_
            refine A_aload_n 1 d_Parts_walkRepeat_132 rfl rfl ?_
            refine A_iload d_Parts_walkRepeat_133 rfl ?_
            refine A_iconst d_Parts_walkRepeat_135 rfl ?_
            refine A_iaddv (z := (i9 + 1)) d_Parts_walkRepeat_136 (w32_to (by omega) (by unfold i32; omega)) ?_
            refine A_pc (pc' := 137) rfl ?_
            refine A_aload_n 0 d_Parts_walkRepeat_137 rfl rfl ?_
            refine A_getAv (z := some 11) T_ok d_Parts_walkRepeat_138 f_Parts_15 (xi_s k28.1 sf_9) (xi_r k28.1 rff_9_1) ?_
            refine A_iload d_Parts_walkRepeat_141 rfl ?_
            refine A_ialoadn (lo := 0) (hi := 1999) d_Parts_walkRepeat_143 (xi_s k28.1 sf_11) (by omega) (by omega) (xi_g k28.1 (by decide) (rgf_11 _)) (fun x33 ex33 _ _ => ?_)
            refine A_iload_n 3 d_Parts_walkRepeat_144 rfl rfl ?_
            refine A_iconst d_Parts_walkRepeat_145 rfl ?_
            refine A_pc (pc' := 146) rfl ?_
            refine A_iaddv (z := (a3 + 1)) d_Parts_walkRepeat_146 (w32_to (by omega) (by unfold i32; omega)) ?_
            refine A_lload d_Parts_walkRepeat_147 rfl ?_
            refine A_lload d_Parts_walkRepeat_149 rfl ?_
            have zf35 := esd29.symm
            have zf36 := esd30.symm
            have zf37 := esd31.symm
            refine A_callV6 m_Parts_walkThrough T_ok d_Parts_walkRepeat_151 l_Parts_59 k_Parts_walkThrough (xi_s k28.1 sf_9) rfl (by decide +kernel) (by decide) (Nat.le_of_ble_eq_true rfl) (s_Parts_walkThrough_8 k28.1 ta1 (by omega) (by omega) (by omega) (by omega) (by omega) (by omega) (by omega) (by omega) (by omega) (by omega) (by have qq0 := esd29.symm; have qq1 := esd30.symm; have qq2 := esd31.symm; exact ⟨by omega, by omega⟩)) (fun r h34 hq => ?_)
            obtain ⟨rfl, xk38, k38⟩ := hq
            have k39 := kF_t k28 k38 (fun _ q => q)
            obtain ⟨sd40, esd40⟩ : ∃ x, x = h34.2.1 9 8 := ⟨_, rfl⟩
            have rsd40 : 0 ≤ sd40 ∧ sd40 ≤ 100000 := (by rw [esd40]; exact xi_g k39.1 (by decide) rgf_9_8)
            obtain ⟨sd41, esd41⟩ : ∃ x, x = h34.2.1 9 10 := ⟨_, rfl⟩
            have rsd41 : 0 ≤ sd41 ∧ sd41 ≤ 100000 := (by rw [esd41]; exact xi_g k39.1 (by decide) rgf_9_10)
            obtain ⟨sd42, esd42⟩ : ∃ x, x = h34.2.1 a1 16 := ⟨_, rfl⟩
            have rsd42 : 0 ≤ sd42 ∧ sd42 ≤ 101 := (by rw [esd42]; exact xi_g k39.1 (lt1_V (tV_V hS ta1)) (rg_V_16 (tV_V hS ta1)))
            refine A_aload_n 0 d_Parts_walkRepeat_154 rfl rfl ?_
            refine A_getAv (z := some 11) T_ok d_Parts_walkRepeat_155 f_Parts_15 (xi_s k39.1 sf_9) (xi_r k39.1 rff_9_1) ?_
            refine A_iload d_Parts_walkRepeat_158 rfl ?_
            refine A_ialoadn (lo := 0) (hi := 1999) d_Parts_walkRepeat_160 (xi_s k39.1 sf_11) (by omega) (by omega) (xi_g k39.1 (by decide) (rgf_11 _)) (fun x44 ex44 _ _ => ?_)
            refine A_istore (L' := [some (av_R (some 9)), some (av_R (some a1)), some (av_I a2), some (av_I a3), some (av_L a4), none, some (av_L a5), none, some (av_I x5), some (av_I x44), some (av_I i10)]) d_Parts_walkRepeat_161 (Nat.le_of_ble_eq_true rfl) rfl ?_
            refine A_pc (pc' := 163) rfl ?_
            refine A_iincv (z := (i10 + 1)) (L' := [some (av_R (some 9)), some (av_R (some a1)), some (av_I a2), some (av_I a3), some (av_L a4), none, some (av_L a5), none, some (av_I x5), some (av_I x44), some (av_I (i10 + 1))]) d_Parts_walkRepeat_163 rfl (w32_to (by omega) (by unfold i32; omega)) rfl ?_
            refine A_goto (tgt := 84) d_Parts_walkRepeat_166 (by decide) ?_
            exact ih84 x44 (i10 + 1) h34 (by omega) (by omega) (by omega) (by omega) (by have qq0 := esd40.symm; have qq1 := esd41.symm; have qq2 := esd42.symm; exact ⟨⟨by omega, by omega⟩, by omega⟩) k39 (by omega)
    exact lp84 _ x5 0 h (by omega) (by omega) (by omega) (by omega) (by have qq0 := esd1.symm; have qq1 := esd2.symm; have qq2 := esd3.symm; exact ⟨⟨by omega, by omega⟩, by omega⟩) k0 (Nat.lt_succ_self _)
  · refine A_aload_n 0 d_Parts_walkRepeat_20 rfl rfl ?_
    refine A_dupR d_Parts_walkRepeat_21 ?_
    refine A_getIv (z := sd1) T_ok d_Parts_walkRepeat_22 f_Parts_46 (xi_s k0.1 sf_9) esd1.symm ?_
    refine A_iconst d_Parts_walkRepeat_25 rfl ?_
    refine A_iaddv (z := (sd1 + 1)) d_Parts_walkRepeat_26 (w32_to (by omega) (by unfold i32; omega)) ?_
    refine A_pc (pc' := 27) rfl ?_
    refine A_putIk (KR := kF (FB s) s h) T_ok d_Parts_walkRepeat_27 f_Parts_46 (xi_s k0.1 sf_9) fin_f (kF_j k0 (by omega) (ns_b rfl) rgf_9_8 (by omega) (by omega)) (fun h46 k47 eh46 => ?_)
    refine A_aload_n 0 d_Parts_walkRepeat_30 rfl rfl ?_
    refine A_aload_n 1 d_Parts_walkRepeat_31 rfl rfl ?_
    refine A_iload_n 2 d_Parts_walkRepeat_32 rfl rfl ?_
    refine A_iconst d_Parts_walkRepeat_33 rfl ?_
    refine A_iaddv (z := (a2 + 1)) d_Parts_walkRepeat_34 (w32_to (by omega) (by unfold i32; omega)) ?_
    refine A_pc (pc' := 35) rfl ?_
    refine A_iload d_Parts_walkRepeat_35 rfl ?_
    refine A_iload_n 3 d_Parts_walkRepeat_37 rfl rfl ?_
    refine A_iconst d_Parts_walkRepeat_38 rfl ?_
    refine A_iaddv (z := (a3 + 1)) d_Parts_walkRepeat_39 (w32_to (by omega) (by unfold i32; omega)) ?_
    refine A_lload d_Parts_walkRepeat_40 rfl ?_
    refine A_lload d_Parts_walkRepeat_42 rfl ?_
    refine A_pc (pc' := 44) rfl ?_
    have zf49 := eh46.2.1
    have zf50 := ((eh46.1 _ _ (fun _ => by decide)).trans esd2.symm)
    have zf51 := ((eh46.1 _ _ (fun q => by omega)).trans esd3.symm)
    refine A_callV6 m_Parts_walkThrough T_ok d_Parts_walkRepeat_44 l_Parts_59 k_Parts_walkThrough (xi_s k47.1 sf_9) rfl (by decide +kernel) (by decide) (Nat.le_of_ble_eq_true rfl) (s_Parts_walkThrough_8 k47.1 ta1 (by omega) (by omega) (by omega) (by omega) (by omega) (by omega) (by omega) (by omega) (by omega) (by omega) (by have qq0 := eh46.2.1; have qq1 := ((eh46.1 _ _ (fun _ => by decide)).trans esd2.symm); have qq2 := ((eh46.1 _ _ (fun q => by omega)).trans esd3.symm); exact ⟨by omega, by omega⟩)) (fun r h48 hq => ?_)
    obtain ⟨rfl, xk52, k52⟩ := hq
    have k53 := kF_t k47 k52 (fun _ q => q)
    obtain ⟨sd54, esd54⟩ : ∃ x, x = h48.2.1 9 8 := ⟨_, rfl⟩
    have rsd54 : 0 ≤ sd54 ∧ sd54 ≤ 100000 := (by rw [esd54]; exact xi_g k53.1 (by decide) rgf_9_8)
    obtain ⟨sd55, esd55⟩ : ∃ x, x = h48.2.1 9 10 := ⟨_, rfl⟩
    have rsd55 : 0 ≤ sd55 ∧ sd55 ≤ 100000 := (by rw [esd55]; exact xi_g k53.1 (by decide) rgf_9_10)
    obtain ⟨sd56, esd56⟩ : ∃ x, x = h48.2.1 a1 16 := ⟨_, rfl⟩
    have rsd56 : 0 ≤ sd56 ∧ sd56 ≤ 101 := (by rw [esd56]; exact xi_g k53.1 (lt1_V (tV_V hS ta1)) (rg_V_16 (tV_V hS ta1)))
    refine A_aload_n 0 d_Parts_walkRepeat_47 rfl rfl ?_
    refine A_dupR d_Parts_walkRepeat_48 ?_
    refine A_getIv (z := sd54) T_ok d_Parts_walkRepeat_49 f_Parts_46 (xi_s k53.1 sf_9) esd54.symm ?_
    refine A_iconst d_Parts_walkRepeat_52 rfl ?_
    refine A_iaddv (z := (sd54 + 1)) d_Parts_walkRepeat_53 (w32_to (by omega) (by unfold i32; omega)) ?_
    refine A_pc (pc' := 54) rfl ?_
    refine A_putIk (KR := kF (FB s) s h) T_ok d_Parts_walkRepeat_54 f_Parts_46 (xi_s k53.1 sf_9) fin_f (kF_j k53 (by omega) (ns_b rfl) rgf_9_8 (by omega) (by omega)) (fun h58 k59 eh58 => ?_)
    refine A_aload_n 0 d_Parts_walkRepeat_57 rfl rfl ?_
    refine A_aload_n 1 d_Parts_walkRepeat_58 rfl rfl ?_
    refine A_iload_n 2 d_Parts_walkRepeat_59 rfl rfl ?_
    refine A_iconst d_Parts_walkRepeat_60 rfl ?_
    refine A_iaddv (z := (a2 + 1)) d_Parts_walkRepeat_61 (w32_to (by omega) (by unfold i32; omega)) ?_
    refine A_pc (pc' := 62) rfl ?_
    refine A_iload d_Parts_walkRepeat_62 rfl ?_
    refine A_iload_n 3 d_Parts_walkRepeat_64 rfl rfl ?_
    refine A_iconst d_Parts_walkRepeat_65 rfl ?_
    refine A_iaddv (z := (a3 + 1)) d_Parts_walkRepeat_66 (w32_to (by omega) (by unfold i32; omega)) ?_
    refine A_lload d_Parts_walkRepeat_67 rfl ?_
    refine A_lload d_Parts_walkRepeat_69 rfl ?_
    refine A_pc (pc' := 71) rfl ?_
    have zf61 := eh58.2.1
    have zf62 := ((eh58.1 _ _ (fun _ => by decide)).trans esd55.symm)
    have zf63 := ((eh58.1 _ _ (fun q => by omega)).trans esd56.symm)
    refine A_callV6 m_Parts_walkThrough T_ok d_Parts_walkRepeat_71 l_Parts_59 k_Parts_walkThrough (xi_s k59.1 sf_9) rfl (by decide +kernel) (by decide) (Nat.le_of_ble_eq_true rfl) (s_Parts_walkThrough_8 k59.1 ta1 (by omega) (by omega) (by omega) (by omega) (by omega) (by omega) (by omega) (by omega) (by omega) (by omega) (by have qq0 := eh58.2.1; have qq1 := ((eh58.1 _ _ (fun _ => by decide)).trans esd55.symm); have qq2 := ((eh58.1 _ _ (fun q => by omega)).trans esd56.symm); exact ⟨by omega, by omega⟩)) (fun r h60 hq => ?_)
    obtain ⟨rfl, xk64, k64⟩ := hq
    have k65 := kF_t k59 k64 (fun _ q => q)
    obtain ⟨sd66, esd66⟩ : ∃ x, x = h60.2.1 9 8 := ⟨_, rfl⟩
    have rsd66 : 0 ≤ sd66 ∧ sd66 ≤ 100000 := (by rw [esd66]; exact xi_g k65.1 (by decide) rgf_9_8)
    obtain ⟨sd67, esd67⟩ : ∃ x, x = h60.2.1 9 10 := ⟨_, rfl⟩
    have rsd67 : 0 ≤ sd67 ∧ sd67 ≤ 100000 := (by rw [esd67]; exact xi_g k65.1 (by decide) rgf_9_10)
    obtain ⟨sd68, esd68⟩ : ∃ x, x = h60.2.1 a1 16 := ⟨_, rfl⟩
    have rsd68 : 0 ≤ sd68 ∧ sd68 ≤ 101 := (by rw [esd68]; exact xi_g k65.1 (lt1_V (tV_V hS ta1)) (rg_V_16 (tV_V hS ta1)))
    refine A_iload d_Parts_walkRepeat_74 rfl ?_
    exact A_iret d_Parts_walkRepeat_76 (by decide) rfl ⟨_, rfl, ⟨by omega, by omega⟩, (by have qq0 := esd66.symm; have qq1 := esd67.symm; have qq2 := esd68.symm; exact ⟨⟨by omega, by omega⟩, by omega⟩), k65⟩
theorem s_Parts_walkThrough_7 {G : cx_T} {s : Nat} {h : ah_T} (hx : xi s h) {a1 : Nat} {a2 : Int} {a3 : Int} {a4 : Int} {a5 : Int} {a6 : Int} (ta1 : tV s a1) (la2 : 0 ≤ a2) (ua2 : a2 ≤ 2000) (la3 : 0 ≤ a3) (ua3 : a3 ≤ 2000) (la4 : 7 ≤ a4) (ua4 : a4 ≤ 7) (la5 : 1 ≤ a5) (ua5 : a5 ≤ 268435456) (la6 : 0 ≤ a6) (ua6 : a6 ≤ 268435456) (hJ : h.2.1 9 10 ≤ h.2.1 9 8 ∧ h.2.1 a1 16 ≤ h.2.1 9 10 + 1) : con G 6 0 0 m_Parts_walkThrough [av_R (some 9), av_R (some a1), av_I a2, av_I a3, av_I a4, av_L a5, av_L a6] h (fun r h' => r = none ∧ ((h'.2.1 9 10 ≤ h'.2.1 9 8 ∧ h'.2.1 a1 16 ≤ h'.2.1 9 10 + 1) ∧ (h'.2.1 9 8 ≤ h.2.1 9 8 ∨ h'.2.1 9 8 ≤ 4001)) ∧ kF (FB s) s h h') := by
  refine con_of (L := [some (av_R (some 9)), some (av_R (some a1)), some (av_I a2), some (av_I a3), some (av_I a4), some (av_L a5), none, some (av_L a6), none, none, none]) (by decide +kernel) (Nat.le_of_ble_eq_true rfl) rfl ?_
  have hS : isS s := hx.2.1
  have hs0 : s = 17 ∨ s = 80 := hS
  have hs0b : 17 ≤ s ∧ s ≤ 80 := by omega
  have k0 : kF (FB s) s h h := kF_0 hx
  have ga1 : a1 = s + 7 ∨ a1 = s + 21 ∨ a1 = s + 35 ∨ a1 = s + 49 := ta1
  have ga1b : s + 7 ≤ a1 ∧ a1 ≤ s + 49 := by omega
  obtain ⟨sd1, esd1⟩ : ∃ x, x = h.2.1 9 8 := ⟨_, rfl⟩
  have rsd1 : 0 ≤ sd1 ∧ sd1 ≤ 100000 := (by rw [esd1]; exact xi_g k0.1 (by decide) rgf_9_8)
  obtain ⟨sd2, esd2⟩ : ∃ x, x = h.2.1 9 10 := ⟨_, rfl⟩
  have rsd2 : 0 ≤ sd2 ∧ sd2 ≤ 100000 := (by rw [esd2]; exact xi_g k0.1 (by decide) rgf_9_10)
  obtain ⟨sd3, esd3⟩ : ∃ x, x = h.2.1 a1 16 := ⟨_, rfl⟩
  have rsd3 : 0 ≤ sd3 ∧ sd3 ≤ 101 := (by rw [esd3]; exact xi_g k0.1 (lt1_V (tV_V hS ta1)) (rg_V_16 (tV_V hS ta1)))
  refine A_iload d_Parts_walkThrough_0 rfl ?_
  refine A_bipush d_Parts_walkThrough_2 rfl ?_
  refine A_icmp_le (tgt := 8) d_Parts_walkThrough_4 (by decide) (fun c4 => ?_) (fun c => False.elim (by omega))
  refine A_iload_n 2 d_Parts_walkThrough_8 rfl rfl ?_
  refine A_istore (L' := [some (av_R (some 9)), some (av_R (some a1)), some (av_I a2), some (av_I a3), some (av_I a4), some (av_L a5), none, some (av_L a6), none, some (av_I a2), none]) d_Parts_walkThrough_9 (Nat.le_of_ble_eq_true rfl) rfl ?_
  have lp11 : ∀ (n : Nat) (i5 : Int) (h6 : ah_T) , 0 ≤ i5 → i5 ≤ 2000 → (h6.2.1 9 10 ≤ h6.2.1 9 8 ∧ h6.2.1 a1 16 ≤ h6.2.1 9 10 + 1) ∧ (h6.2.1 9 8 ≤ h.2.1 9 8 ∨ h6.2.1 9 8 ≤ 4001) → kF (FB s) s h h6 → (2001 - i5).toNat < n → aw G (rm_R 6 0 0) m_Parts_walkThrough 0 0 11 [some (av_R (some 9)), some (av_R (some a1)), some (av_I a2), some (av_I a3), some (av_I a4), some (av_L a5), none, some (av_L a6), none, some (av_I i5), none] [] h6 (fun r h' => r = none ∧ ((h'.2.1 9 10 ≤ h'.2.1 9 8 ∧ h'.2.1 a1 16 ≤ h'.2.1 9 10 + 1) ∧ (h'.2.1 9 8 ≤ h.2.1 9 8 ∨ h'.2.1 9 8 ≤ 4001)) ∧ kF (FB s) s h h') := by
    intro n
    induction n with
    | zero => intro i5 h6 _ _ _ _ hm; omega
    | succ n ih11 =>
      intro i5 h6 hl0 hl1 hinv k7 hm
      obtain ⟨sd8, esd8⟩ : ∃ x, x = h6.2.1 9 8 := ⟨_, rfl⟩
      have rsd8 : 0 ≤ sd8 ∧ sd8 ≤ 100000 := (by rw [esd8]; exact xi_g k7.1 (by decide) rgf_9_8)
      obtain ⟨sd9, esd9⟩ : ∃ x, x = h6.2.1 9 10 := ⟨_, rfl⟩
      have rsd9 : 0 ≤ sd9 ∧ sd9 ≤ 100000 := (by rw [esd9]; exact xi_g k7.1 (by decide) rgf_9_10)
      obtain ⟨sd10, esd10⟩ : ∃ x, x = h6.2.1 a1 16 := ⟨_, rfl⟩
      have rsd10 : 0 ≤ sd10 ∧ sd10 ≤ 101 := (by rw [esd10]; exact xi_g k7.1 (lt1_V (tV_V hS ta1)) (rg_V_16 (tV_V hS ta1)))
      refine A_iload d_Parts_walkThrough_11 rfl ?_
      refine A_iload_n 3 d_Parts_walkThrough_13 rfl rfl ?_
      refine A_icmp_ge (tgt := 218) d_Parts_walkThrough_14 (by decide) (fun c11 => ?_) (fun c11 => ?_)
      · exact A_vret d_Parts_walkThrough_218 (by decide) rfl ⟨rfl, (by have qq0 := esd8.symm; have qq1 := esd9.symm; have qq2 := esd10.symm; exact ⟨⟨by omega, by omega⟩, by omega⟩), k7⟩
      · refine A_iload d_Parts_walkThrough_17 rfl ?_
        refine A_aload_n 0 d_Parts_walkThrough_19 rfl rfl ?_
        refine A_getIn (lo := 0) (hi := 2000) T_ok d_Parts_walkThrough_20 f_Parts_30 (xi_s k7.1 sf_9) (xi_g k7.1 (by decide) rgf_9_4) (fun x12 ex12 _ _ => ?_)
        refine A_icmp_ge (tgt := 218) d_Parts_walkThrough_23 (by decide) (fun c13 => ?_) (fun c13 => ?_)
        · exact A_vret d_Parts_walkThrough_218 (by decide) rfl ⟨rfl, (by have qq0 := esd8.symm; have qq1 := esd9.symm; have qq2 := esd10.symm; exact ⟨⟨by omega, by omega⟩, by omega⟩), k7⟩
        · refine A_aload_n 0 d_Parts_walkThrough_26 rfl rfl ?_
          refine A_getIv (z := sd8) T_ok d_Parts_walkThrough_27 f_Parts_46 (xi_s k7.1 sf_9) esd8.symm ?_
          refine A_sipush d_Parts_walkThrough_30 rfl ?_
          refine A_icmp_gt (tgt := 218) d_Parts_walkThrough_33 (by decide) (fun c15 => ?_) (fun c15 => ?_)
          · exact A_vret d_Parts_walkThrough_218 (by decide) rfl ⟨rfl, (by have qq0 := esd8.symm; have qq1 := esd9.symm; have qq2 := esd10.symm; exact ⟨⟨by omega, by omega⟩, by omega⟩), k7⟩
          · refine A_aload_n 0 d_Parts_walkThrough_36 rfl rfl ?_
            refine A_dupR d_Parts_walkThrough_37 ?_
            refine A_getIv (z := sd8) T_ok d_Parts_walkThrough_38 f_Parts_46 (xi_s k7.1 sf_9) esd8.symm ?_
            refine A_iconst d_Parts_walkThrough_41 rfl ?_
            refine A_iaddv (z := (sd8 + 1)) d_Parts_walkThrough_42 (w32_to (by omega) (by unfold i32; omega)) ?_
            refine A_pc (pc' := 43) rfl ?_
            refine A_putIk (KR := kF (FB s) s h) T_ok d_Parts_walkThrough_43 f_Parts_46 (xi_s k7.1 sf_9) fin_f (kF_j k7 (by omega) (ns_b rfl) rgf_9_8 (by omega) (by omega)) (fun h17 k18 eh17 => ?_)
            refine A_aload_n 0 d_Parts_walkThrough_46 rfl rfl ?_
            refine A_getAv (z := some 10) T_ok d_Parts_walkThrough_47 f_Parts_9 (xi_s k18.1 sf_9) (xi_r k18.1 rff_9_0) ?_
            refine A_iload d_Parts_walkThrough_50 rfl ?_
            refine A_ialoadf d_Parts_walkThrough_52 (xi_s k18.1 sf_10) (by omega) (by omega) (fun x20 ex20 _ _ => ?_)
            refine A_istore (L' := [some (av_R (some 9)), some (av_R (some a1)), some (av_I a2), some (av_I a3), some (av_I a4), some (av_L a5), none, some (av_L a6), none, some (av_I i5), some (av_I x20)]) d_Parts_walkThrough_53 (Nat.le_of_ble_eq_true rfl) rfl ?_
            refine A_pc (pc' := 55) rfl ?_
            refine A_iload d_Parts_walkThrough_55 rfl ?_
            refine A_bipush d_Parts_walkThrough_57 rfl ?_
            refine A_icmp_ne (tgt := 85) d_Parts_walkThrough_59 (by decide) (fun c21 => ?_) (fun c21 => ?_)
            · refine A_iload d_Parts_walkThrough_85 rfl ?_
              refine A_bipush d_Parts_walkThrough_87 rfl ?_
              refine A_icmp_ne (tgt := 151) d_Parts_walkThrough_89 (by decide) (fun c22 => ?_) (fun c22 => ?_)
              · refine A_iload d_Parts_walkThrough_151 rfl ?_
                refine A_bipush d_Parts_walkThrough_153 rfl ?_
                refine A_icmp_ne (tgt := 166) d_Parts_walkThrough_155 (by decide) (fun c23 => ?_) (fun c23 => ?_)
                · refine A_aload_n 0 d_Parts_walkThrough_166 rfl rfl ?_
                  refine A_dupR d_Parts_walkThrough_167 ?_
                  refine A_getIf T_ok d_Parts_walkThrough_168 f_Parts_49 (xi_s k18.1 sf_9) (fun x24 ex24 _ _ => ?_)
                  refine A_iconst d_Parts_walkThrough_171 rfl ?_
                  refine A_iaddw d_Parts_walkThrough_172 (fun x25 _ _ _ => ?_)
                  refine A_pc (pc' := 173) rfl ?_
                  refine A_putIk (KR := kF (FB s) s h) T_ok d_Parts_walkThrough_173 f_Parts_49 (xi_s k18.1 sf_9) fin_f (kF_j k18 (by omega) (ns_b rfl) rgf_9_9 (by omega) (by omega)) (fun h26 k27 eh26 => ?_)
                  refine A_aload_n 0 d_Parts_walkThrough_176 rfl rfl ?_
                  refine A_getIv (z := x25) T_ok d_Parts_walkThrough_177 f_Parts_49 (xi_s k27.1 sf_9) eh26.2.1 ?_
                  refine A_sipush d_Parts_walkThrough_180 rfl ?_
                  refine A_icmp_gt (tgt := 212) d_Parts_walkThrough_183 (by decide) (fun c29 => ?_) (fun c29 => ?_)
                  · refine A_iincv (z := (i5 + 1)) (L' := [some (av_R (some 9)), some (av_R (some a1)), some (av_I a2), some (av_I a3), some (av_I a4), some (av_L a5), none, some (av_L a6), none, some (av_I (i5 + 1)), some (av_I x20)]) d_Parts_walkThrough_212 rfl (w32_to (by omega) (by unfold i32; omega)) rfl ?_
                    refine A_goto (tgt := 11) d_Parts_walkThrough_215 (by decide) ?_
                    refine A_free (L' := [some (av_R (some 9)), some (av_R (some a1)), some (av_I a2), some (av_I a3), some (av_I a4), some (av_L a5), none, some (av_L a6), none, some (av_I (i5 + 1)), none]) (And.intro rfl (And.intro rfl (And.intro rfl (And.intro rfl (And.intro rfl (And.intro rfl (And.intro rfl (And.intro rfl trivial)))))))) ?_
                    exact ih11 (i5 + 1) h26 (by omega) (by omega) (by have qq0 := ((eh26.1 _ _ (fun _ => by decide)).trans eh17.2.1); have qq1 := ((eh26.1 _ _ (fun _ => by decide)).trans ((eh17.1 _ _ (fun _ => by decide)).trans esd9.symm)); have qq2 := ((eh26.1 _ _ (fun q => by omega)).trans ((eh17.1 _ _ (fun q => by omega)).trans esd10.symm)); exact ⟨⟨by omega, by omega⟩, by omega⟩) k27 (by omega)
                  · refine A_aload_n 0 d_Parts_walkThrough_186 rfl rfl ?_
                    refine A_getZn T_ok d_Parts_walkThrough_187 f_Parts_55 (xi_s k27.1 sf_9) (fun x30 ex30 bx30 => ?_)
                    refine A_if_eq (tgt := 212) d_Parts_walkThrough_190 (by decide) (fun c31 => ?_) (fun c31 => ?_)
                    · refine A_iincv (z := (i5 + 1)) (L' := [some (av_R (some 9)), some (av_R (some a1)), some (av_I a2), some (av_I a3), some (av_I a4), some (av_L a5), none, some (av_L a6), none, some (av_I (i5 + 1)), some (av_I x20)]) d_Parts_walkThrough_212 rfl (w32_to (by omega) (by unfold i32; omega)) rfl ?_
                      refine A_goto (tgt := 11) d_Parts_walkThrough_215 (by decide) ?_
                      refine A_free (L' := [some (av_R (some 9)), some (av_R (some a1)), some (av_I a2), some (av_I a3), some (av_I a4), some (av_L a5), none, some (av_L a6), none, some (av_I (i5 + 1)), none]) (And.intro rfl (And.intro rfl (And.intro rfl (And.intro rfl (And.intro rfl (And.intro rfl (And.intro rfl (And.intro rfl trivial)))))))) ?_
                      exact ih11 (i5 + 1) h26 (by omega) (by omega) (by have qq0 := ((eh26.1 _ _ (fun _ => by decide)).trans eh17.2.1); have qq1 := ((eh26.1 _ _ (fun _ => by decide)).trans ((eh17.1 _ _ (fun _ => by decide)).trans esd9.symm)); have qq2 := ((eh26.1 _ _ (fun q => by omega)).trans ((eh17.1 _ _ (fun q => by omega)).trans esd10.symm)); exact ⟨⟨by omega, by omega⟩, by omega⟩) k27 (by omega)
                    · refine A_aload_n 0 d_Parts_walkThrough_193 rfl rfl ?_
                      refine A_aload_n 1 d_Parts_walkThrough_194 rfl rfl ?_
                      refine A_aload_n 0 d_Parts_walkThrough_195 rfl rfl ?_
                      refine A_getAv (z := some 12) T_ok d_Parts_walkThrough_196 f_Parts_18 (xi_s k27.1 sf_9) (xi_r k27.1 rff_9_2) ?_
                      refine A_iload d_Parts_walkThrough_199 rfl ?_
                      refine A_pc (pc' := 201) rfl ?_
                      refine A_ialoadn (lo := 0) (hi := 300) d_Parts_walkThrough_201 (xi_s k27.1 sf_12) (by omega) (by omega) (xi_g k27.1 (by decide) (rgf_12 _)) (fun x33 ex33 _ _ => ?_)
                      refine A_lload d_Parts_walkThrough_202 rfl ?_
                      refine A_lload d_Parts_walkThrough_204 rfl ?_
                      have zf35 := ((eh26.1 _ _ (fun _ => by decide)).trans eh17.2.1)
                      have zf36 := ((eh26.1 _ _ (fun _ => by decide)).trans ((eh17.1 _ _ (fun _ => by decide)).trans esd9.symm))
                      have zf37 := ((eh26.1 _ _ (fun q => by omega)).trans ((eh17.1 _ _ (fun q => by omega)).trans esd10.symm))
                      refine A_callV3 m_Voice_addEvent T_ok d_Parts_walkThrough_206 l_Parts_80 k_Voice_addEvent (xs_V k27.1 (tV_V hS ta1)) rfl (by decide +kernel) (by decide) (Nat.le_of_ble_eq_true rfl) (s_Voice_addEvent k27.1 ta1 (by omega) (by omega) (by omega) (by omega)) (fun r h34 hq => ?_)
                      obtain ⟨x39, rfl, bx39, xx39, k38⟩ := hq
                      have k40 := kF_t k27 k38 (fun _ q => q)
                      obtain ⟨sd41, esd41⟩ : ∃ x, x = h34.2.1 9 8 := ⟨_, rfl⟩
                      have rsd41 : 0 ≤ sd41 ∧ sd41 ≤ 100000 := (by rw [esd41]; exact xi_g k40.1 (by decide) rgf_9_8)
                      obtain ⟨sd42, esd42⟩ : ∃ x, x = h34.2.1 9 10 := ⟨_, rfl⟩
                      have rsd42 : 0 ≤ sd42 ∧ sd42 ≤ 100000 := (by rw [esd42]; exact xi_g k40.1 (by decide) rgf_9_10)
                      obtain ⟨sd43, esd43⟩ : ∃ x, x = h34.2.1 a1 16 := ⟨_, rfl⟩
                      have rsd43 : 0 ≤ sd43 ∧ sd43 ≤ 101 := (by rw [esd43]; exact xi_g k40.1 (lt1_V (tV_V hS ta1)) (rg_V_16 (tV_V hS ta1)))
                      refine A_putZk (KR := kF (FB s) s h) T_ok d_Parts_walkThrough_209 f_Parts_55 (xi_s k40.1 sf_9) fin_f (by omega) (kF_j k40 (by omega) (ns_b rfl) rgf_9_11 (by omega) (by omega)) (fun h44 k45 eh44 => ?_)
                      refine A_iincv (z := (i5 + 1)) (L' := [some (av_R (some 9)), some (av_R (some a1)), some (av_I a2), some (av_I a3), some (av_I a4), some (av_L a5), none, some (av_L a6), none, some (av_I (i5 + 1)), some (av_I x20)]) d_Parts_walkThrough_212 rfl (w32_to (by omega) (by unfold i32; omega)) rfl ?_
                      refine A_goto (tgt := 11) d_Parts_walkThrough_215 (by decide) ?_
                      refine A_free (L' := [some (av_R (some 9)), some (av_R (some a1)), some (av_I a2), some (av_I a3), some (av_I a4), some (av_L a5), none, some (av_L a6), none, some (av_I (i5 + 1)), none]) (And.intro rfl (And.intro rfl (And.intro rfl (And.intro rfl (And.intro rfl (And.intro rfl (And.intro rfl (And.intro rfl trivial)))))))) ?_
                      exact ih11 (i5 + 1) h44 (by omega) (by omega) (by have qq0 := ((eh44.1 _ _ (fun _ => by decide)).trans esd41.symm); have qq1 := ((eh44.1 _ _ (fun _ => by decide)).trans esd42.symm); have qq2 := ((eh44.1 _ _ (fun q => by omega)).trans esd43.symm); exact ⟨⟨by omega, by omega⟩, by omega⟩) k45 (by omega)
                · refine A_aload_n 0 d_Parts_walkThrough_158 rfl rfl ?_
                  refine A_aload_n 1 d_Parts_walkThrough_159 rfl rfl ?_
                  have zf47 := eh17.2.1
                  have zf48 := ((eh17.1 _ _ (fun _ => by decide)).trans esd9.symm)
                  have zf49 := ((eh17.1 _ _ (fun q => by omega)).trans esd10.symm)
                  refine A_callV1 m_Parts_meetLine T_ok d_Parts_walkThrough_160 l_Parts_76 k_Parts_meetLine (xi_s k18.1 sf_9) rfl (by decide +kernel) (by decide) (Nat.le_of_ble_eq_true rfl) (s_Parts_meetLine k18.1 ta1 (by have qq0 := eh17.2.1; have qq1 := ((eh17.1 _ _ (fun _ => by decide)).trans esd9.symm); have qq2 := ((eh17.1 _ _ (fun q => by omega)).trans esd10.symm); exact ⟨by omega, by omega⟩)) (fun r h46 hq => ?_)
                  obtain ⟨rfl, xk50, k50⟩ := hq
                  have k51 := kF_t k18 k50 (fun _ q => q)
                  obtain ⟨sd52, esd52⟩ : ∃ x, x = h46.2.1 9 8 := ⟨_, rfl⟩
                  have rsd52 : 0 ≤ sd52 ∧ sd52 ≤ 100000 := (by rw [esd52]; exact xi_g k51.1 (by decide) rgf_9_8)
                  obtain ⟨sd53, esd53⟩ : ∃ x, x = h46.2.1 9 10 := ⟨_, rfl⟩
                  have rsd53 : 0 ≤ sd53 ∧ sd53 ≤ 100000 := (by rw [esd53]; exact xi_g k51.1 (by decide) rgf_9_10)
                  obtain ⟨sd54, esd54⟩ : ∃ x, x = h46.2.1 a1 16 := ⟨_, rfl⟩
                  have rsd54 : 0 ≤ sd54 ∧ sd54 ≤ 101 := (by rw [esd54]; exact xi_g k51.1 (lt1_V (tV_V hS ta1)) (rg_V_16 (tV_V hS ta1)))
                  refine A_goto (tgt := 212) d_Parts_walkThrough_163 (by decide) ?_
                  refine A_iincv (z := (i5 + 1)) (L' := [some (av_R (some 9)), some (av_R (some a1)), some (av_I a2), some (av_I a3), some (av_I a4), some (av_L a5), none, some (av_L a6), none, some (av_I (i5 + 1)), some (av_I x20)]) d_Parts_walkThrough_212 rfl (w32_to (by omega) (by unfold i32; omega)) rfl ?_
                  refine A_goto (tgt := 11) d_Parts_walkThrough_215 (by decide) ?_
                  refine A_free (L' := [some (av_R (some 9)), some (av_R (some a1)), some (av_I a2), some (av_I a3), some (av_I a4), some (av_L a5), none, some (av_L a6), none, some (av_I (i5 + 1)), none]) (And.intro rfl (And.intro rfl (And.intro rfl (And.intro rfl (And.intro rfl (And.intro rfl (And.intro rfl (And.intro rfl trivial)))))))) ?_
                  exact ih11 (i5 + 1) h46 (by omega) (by omega) (by have qq0 := esd52.symm; have qq1 := esd53.symm; have qq2 := esd54.symm; exact ⟨⟨by omega, by omega⟩, by omega⟩) k51 (by omega)
              · refine A_aload_n 0 d_Parts_walkThrough_92 rfl rfl ?_
                refine A_aload_n 1 d_Parts_walkThrough_93 rfl rfl ?_
                refine A_iload d_Parts_walkThrough_94 rfl ?_
                refine A_iconst d_Parts_walkThrough_96 rfl ?_
                refine A_iaddv (z := (i5 + 1)) d_Parts_walkThrough_97 (w32_to (by omega) (by unfold i32; omega)) ?_
                refine A_pc (pc' := 98) rfl ?_
                refine A_aload_n 0 d_Parts_walkThrough_98 rfl rfl ?_
                refine A_getAv (z := some 11) T_ok d_Parts_walkThrough_99 f_Parts_15 (xi_s k18.1 sf_9) (xi_r k18.1 rff_9_1) ?_
                refine A_iload d_Parts_walkThrough_102 rfl ?_
                refine A_ialoadn (lo := 0) (hi := 1999) d_Parts_walkThrough_104 (xi_s k18.1 sf_11) (by omega) (by omega) (xi_g k18.1 (by decide) (rgf_11 _)) (fun x56 ex56 _ _ => ?_)
                refine A_iload d_Parts_walkThrough_105 rfl ?_
                refine A_iconst d_Parts_walkThrough_107 rfl ?_
                refine A_pc (pc' := 108) rfl ?_
                refine A_iaddv (z := (a4 + 1)) d_Parts_walkThrough_108 (w32_to (by omega) (by unfold i32; omega)) ?_
                refine A_lload d_Parts_walkThrough_109 rfl ?_
                refine A_aload_n 0 d_Parts_walkThrough_111 rfl rfl ?_
                refine A_getAv (z := some 13) T_ok d_Parts_walkThrough_112 f_Parts_21 (xi_s k18.1 sf_9) (xi_r k18.1 rff_9_3) ?_
                refine A_iload d_Parts_walkThrough_115 rfl ?_
                refine A_ialoadn (lo := 0) (hi := 16) d_Parts_walkThrough_117 (xi_s k18.1 sf_13) (by omega) (by omega) (xi_g k18.1 (by decide) (rgf_13 _)) (fun x58 ex58 _ _ => ?_)
                have yx58 := sP_at (kF_sem k18).1 ex20.symm.symm (by omega) ((eh17.1 _ _ (fun _ => by decide)).trans ex12.symm) (by omega) (by omega)
                refine A_pc (pc' := 118) rfl ?_
                refine A_i2l d_Parts_walkThrough_118 ?_
                refine A_lmulw d_Parts_walkThrough_119 (fun x59 ex59 _ _ => ?_)
                have bx59 := mul_pp64 (ux := 268435456) (uy := 16) ex59 (by omega) (by omega) (by omega) (by omega) (by decide)
                refine A_lload d_Parts_walkThrough_120 rfl ?_
                refine A_aload_n 0 d_Parts_walkThrough_122 rfl rfl ?_
                refine A_getAv (z := some 12) T_ok d_Parts_walkThrough_123 f_Parts_18 (xi_s k18.1 sf_9) (xi_r k18.1 rff_9_2) ?_
                refine A_iload d_Parts_walkThrough_126 rfl ?_
                refine A_pc (pc' := 128) rfl ?_
                refine A_ialoadn (lo := 0) (hi := 300) d_Parts_walkThrough_128 (xi_s k18.1 sf_12) (by omega) (by omega) (xi_g k18.1 (by decide) (rgf_12 _)) (fun x61 ex61 _ _ => ?_)
                have yx61 := sP_at (kF_sem k18).1 ex20.symm.symm (by omega) ((eh17.1 _ _ (fun _ => by decide)).trans ex12.symm) (by omega) (by omega)
                refine A_i2l d_Parts_walkThrough_129 ?_
                refine A_lmulw d_Parts_walkThrough_130 (fun x62 ex62 _ _ => ?_)
                have bx62 := mul_nn64 (ux := 268435456) (uy := 16) ex62 (by omega) (by omega) (by omega) (by omega) (by decide)
                have zf64 := eh17.2.1
                have zf65 := ((eh17.1 _ _ (fun _ => by decide)).trans esd9.symm)
                have zf66 := ((eh17.1 _ _ (fun q => by omega)).trans esd10.symm)
                refine A_callV6 m_Parts_walkThrough T_ok d_Parts_walkThrough_131 l_Parts_59 k_Parts_walkThrough (xi_s k18.1 sf_9) rfl (by decide +kernel) (by decide) (Nat.le_of_ble_eq_true rfl) (s_Parts_walkThrough_8 k18.1 ta1 (by omega) (by omega) (by omega) (by omega) (by omega) (by omega) (by omega) (by omega) (by omega) (by omega) (by have qq0 := eh17.2.1; have qq1 := ((eh17.1 _ _ (fun _ => by decide)).trans esd9.symm); have qq2 := ((eh17.1 _ _ (fun q => by omega)).trans esd10.symm); exact ⟨by omega, by omega⟩)) (fun r h63 hq => ?_)
                obtain ⟨rfl, xk67, k67⟩ := hq
                have k68 := kF_t k18 k67 (fun _ q => q)
                obtain ⟨sd69, esd69⟩ : ∃ x, x = h63.2.1 9 8 := ⟨_, rfl⟩
                have rsd69 : 0 ≤ sd69 ∧ sd69 ≤ 100000 := (by rw [esd69]; exact xi_g k68.1 (by decide) rgf_9_8)
                obtain ⟨sd70, esd70⟩ : ∃ x, x = h63.2.1 9 10 := ⟨_, rfl⟩
                have rsd70 : 0 ≤ sd70 ∧ sd70 ≤ 100000 := (by rw [esd70]; exact xi_g k68.1 (by decide) rgf_9_10)
                obtain ⟨sd71, esd71⟩ : ∃ x, x = h63.2.1 a1 16 := ⟨_, rfl⟩
                have rsd71 : 0 ≤ sd71 ∧ sd71 ≤ 101 := (by rw [esd71]; exact xi_g k68.1 (lt1_V (tV_V hS ta1)) (rg_V_16 (tV_V hS ta1)))
                refine A_iload d_Parts_walkThrough_134 rfl ?_
                refine A_aload_n 0 d_Parts_walkThrough_136 rfl rfl ?_
                refine A_getAv (z := some 11) T_ok d_Parts_walkThrough_137 f_Parts_15 (xi_s k68.1 sf_9) (xi_r k68.1 rff_9_1) ?_
                refine A_iload d_Parts_walkThrough_140 rfl ?_
                refine A_ialoadn (lo := 0) (hi := 1999) d_Parts_walkThrough_142 (xi_s k68.1 sf_11) (by omega) (by omega) (xi_g k68.1 (by decide) (rgf_11 _)) (fun x73 ex73 _ _ => ?_)
                refine A_pc (pc' := 143) rfl ?_
                refine A_mmax d_Parts_walkThrough_143 lm_Parts_70 ma_max (by decide) (by decide) (Nat.le_of_ble_eq_true rfl) rfl ?_
                refine A_nrI (fun x74 ex74 _ _ => ?_)
                have bx74 := mmax_r ex74
                refine A_istore (L' := [some (av_R (some 9)), some (av_R (some a1)), some (av_I a2), some (av_I a3), some (av_I a4), some (av_L a5), none, some (av_L a6), none, some (av_I x74), some (av_I x20)]) d_Parts_walkThrough_146 (Nat.le_of_ble_eq_true rfl) rfl ?_
                refine A_goto (tgt := 212) d_Parts_walkThrough_148 (by decide) ?_
                refine A_iincv (z := (x74 + 1)) (L' := [some (av_R (some 9)), some (av_R (some a1)), some (av_I a2), some (av_I a3), some (av_I a4), some (av_L a5), none, some (av_L a6), none, some (av_I (x74 + 1)), some (av_I x20)]) d_Parts_walkThrough_212 rfl (w32_to (by omega) (by unfold i32; omega)) rfl ?_
                refine A_goto (tgt := 11) d_Parts_walkThrough_215 (by decide) ?_
                refine A_free (L' := [some (av_R (some 9)), some (av_R (some a1)), some (av_I a2), some (av_I a3), some (av_I a4), some (av_L a5), none, some (av_L a6), none, some (av_I (x74 + 1)), none]) (And.intro rfl (And.intro rfl (And.intro rfl (And.intro rfl (And.intro rfl (And.intro rfl (And.intro rfl (And.intro rfl trivial)))))))) ?_
                exact ih11 (x74 + 1) h63 (by omega) (by omega) (by have qq0 := esd69.symm; have qq1 := esd70.symm; have qq2 := esd71.symm; exact ⟨⟨by omega, by omega⟩, by omega⟩) k68 (by omega)
            · refine A_iload d_Parts_walkThrough_62 rfl ?_
              refine A_aload_n 0 d_Parts_walkThrough_64 rfl rfl ?_
              refine A_aload_n 1 d_Parts_walkThrough_65 rfl rfl ?_
              refine A_iload d_Parts_walkThrough_66 rfl ?_
              refine A_iload d_Parts_walkThrough_68 rfl ?_
              refine A_pc (pc' := 70) rfl ?_
              refine A_lload d_Parts_walkThrough_70 rfl ?_
              refine A_lload d_Parts_walkThrough_72 rfl ?_
              have zf76 := eh17.2.1
              have zf77 := ((eh17.1 _ _ (fun _ => by decide)).trans esd9.symm)
              have zf78 := ((eh17.1 _ _ (fun q => by omega)).trans esd10.symm)
              refine A_callV5 m_Parts_walkRepeat T_ok d_Parts_walkThrough_74 l_Parts_66 k_Parts_walkRepeat (xi_s k18.1 sf_9) rfl (by decide +kernel) (by decide) (Nat.le_of_ble_eq_true rfl) (s_Parts_walkRepeat_7 k18.1 ta1 (by omega) (by omega) (by omega) (by omega) (by omega) (by omega) (by omega) (by omega) (by have qq0 := eh17.2.1; have qq1 := ((eh17.1 _ _ (fun _ => by decide)).trans esd9.symm); have qq2 := ((eh17.1 _ _ (fun q => by omega)).trans esd10.symm); exact ⟨by omega, by omega⟩) (by have qq0 := eh17.2.1; have qq1 := ((eh17.1 _ _ (fun _ => by decide)).trans esd9.symm); omega)) (fun r h75 hq => ?_)
              obtain ⟨x80, rfl, ⟨_, _⟩, xx80, k79⟩ := hq
              have k81 := kF_t k18 k79 (fun _ q => q)
              obtain ⟨sd82, esd82⟩ : ∃ x, x = h75.2.1 9 8 := ⟨_, rfl⟩
              have rsd82 : 0 ≤ sd82 ∧ sd82 ≤ 100000 := (by rw [esd82]; exact xi_g k81.1 (by decide) rgf_9_8)
              obtain ⟨sd83, esd83⟩ : ∃ x, x = h75.2.1 9 10 := ⟨_, rfl⟩
              have rsd83 : 0 ≤ sd83 ∧ sd83 ≤ 100000 := (by rw [esd83]; exact xi_g k81.1 (by decide) rgf_9_10)
              obtain ⟨sd84, esd84⟩ : ∃ x, x = h75.2.1 a1 16 := ⟨_, rfl⟩
              have rsd84 : 0 ≤ sd84 ∧ sd84 ≤ 101 := (by rw [esd84]; exact xi_g k81.1 (lt1_V (tV_V hS ta1)) (rg_V_16 (tV_V hS ta1)))
              refine A_mmax d_Parts_walkThrough_77 lm_Parts_70 ma_max (by decide) (by decide) (Nat.le_of_ble_eq_true rfl) rfl ?_
              refine A_nrI (fun x85 ex85 _ _ => ?_)
              have bx85 := mmax_r ex85
              refine A_istore (L' := [some (av_R (some 9)), some (av_R (some a1)), some (av_I a2), some (av_I a3), some (av_I a4), some (av_L a5), none, some (av_L a6), none, some (av_I x85), some (av_I x20)]) d_Parts_walkThrough_80 (Nat.le_of_ble_eq_true rfl) rfl ?_
              refine A_goto (tgt := 212) d_Parts_walkThrough_82 (by decide) ?_
              refine A_iincv (z := (x85 + 1)) (L' := [some (av_R (some 9)), some (av_R (some a1)), some (av_I a2), some (av_I a3), some (av_I a4), some (av_L a5), none, some (av_L a6), none, some (av_I (x85 + 1)), some (av_I x20)]) d_Parts_walkThrough_212 rfl (w32_to (by omega) (by unfold i32; omega)) rfl ?_
              refine A_goto (tgt := 11) d_Parts_walkThrough_215 (by decide) ?_
              refine A_free (L' := [some (av_R (some 9)), some (av_R (some a1)), some (av_I a2), some (av_I a3), some (av_I a4), some (av_L a5), none, some (av_L a6), none, some (av_I (x85 + 1)), none]) (And.intro rfl (And.intro rfl (And.intro rfl (And.intro rfl (And.intro rfl (And.intro rfl (And.intro rfl (And.intro rfl trivial)))))))) ?_
              exact ih11 (x85 + 1) h75 (by omega) (by omega) (by have qq0 := esd82.symm; have qq1 := esd83.symm; have qq2 := esd84.symm; exact ⟨⟨by omega, by omega⟩, by omega⟩) k81 (by omega)
  exact lp11 _ a2 h (by omega) (by omega) (by have qq0 := esd1.symm; have qq1 := esd2.symm; have qq2 := esd3.symm; exact ⟨⟨by omega, by omega⟩, by omega⟩) k0 (Nat.lt_succ_self _)
theorem s_Parts_walkRepeat_6 {G : cx_T} {s : Nat} {h : ah_T} (hx : xi s h) {a1 : Nat} {a2 : Int} {a3 : Int} {a4 : Int} {a5 : Int} (ta1 : tV s a1) (la2 : 0 ≤ a2) (ua2 : a2 ≤ 1999) (la3 : 6 ≤ a3) (ua3 : a3 ≤ 6) (la4 : 1 ≤ a4) (ua4 : a4 ≤ 16777216) (la5 : 0 ≤ a5) (ua5 : a5 ≤ 16777216) (hJ : h.2.1 9 10 ≤ h.2.1 9 8 ∧ h.2.1 a1 16 ≤ h.2.1 9 10 + 1) (hS2 : h.2.1 9 8 ≤ 2001) : con G 7 0 0 m_Parts_walkRepeat [av_R (some 9), av_R (some a1), av_I a2, av_I a3, av_L a4, av_L a5] h (fun r h' => ∃ z, r = some (av_I z) ∧ (0 ≤ z ∧ z ≤ 1999) ∧ ((h'.2.1 9 10 ≤ h'.2.1 9 8 ∧ h'.2.1 a1 16 ≤ h'.2.1 9 10 + 1) ∧ h'.2.1 9 8 ≤ 6001) ∧ kF (FB s) s h h') := by
  refine con_of (L := [some (av_R (some 9)), some (av_R (some a1)), some (av_I a2), some (av_I a3), some (av_L a4), none, some (av_L a5), none, none, none, none]) (by decide +kernel) (Nat.le_of_ble_eq_true rfl) rfl ?_
  have hS : isS s := hx.2.1
  have hs0 : s = 17 ∨ s = 80 := hS
  have hs0b : 17 ≤ s ∧ s ≤ 80 := by omega
  have k0 : kF (FB s) s h h := kF_0 hx
  have ga1 : a1 = s + 7 ∨ a1 = s + 21 ∨ a1 = s + 35 ∨ a1 = s + 49 := ta1
  have ga1b : s + 7 ≤ a1 ∧ a1 ≤ s + 49 := by omega
  obtain ⟨sd1, esd1⟩ : ∃ x, x = h.2.1 9 8 := ⟨_, rfl⟩
  have rsd1 : 0 ≤ sd1 ∧ sd1 ≤ 100000 := (by rw [esd1]; exact xi_g k0.1 (by decide) rgf_9_8)
  obtain ⟨sd2, esd2⟩ : ∃ x, x = h.2.1 9 10 := ⟨_, rfl⟩
  have rsd2 : 0 ≤ sd2 ∧ sd2 ≤ 100000 := (by rw [esd2]; exact xi_g k0.1 (by decide) rgf_9_10)
  obtain ⟨sd3, esd3⟩ : ∃ x, x = h.2.1 a1 16 := ⟨_, rfl⟩
  have rsd3 : 0 ≤ sd3 ∧ sd3 ≤ 101 := (by rw [esd3]; exact xi_g k0.1 (lt1_V (tV_V hS ta1)) (rg_V_16 (tV_V hS ta1)))
  refine A_aload_n 0 d_Parts_walkRepeat_0 rfl rfl ?_
  refine A_getAv (z := some 11) T_ok d_Parts_walkRepeat_1 f_Parts_15 (xi_s k0.1 sf_9) (xi_r k0.1 rff_9_1) ?_
  refine A_iload_n 2 d_Parts_walkRepeat_4 rfl rfl ?_
  refine A_ialoadn (lo := 0) (hi := 1999) d_Parts_walkRepeat_5 (xi_s k0.1 sf_11) (by omega) (by omega) (xi_g k0.1 (by decide) (rgf_11 _)) (fun x5 ex5 _ _ => ?_)
  refine A_istore (L' := [some (av_R (some 9)), some (av_R (some a1)), some (av_I a2), some (av_I a3), some (av_L a4), none, some (av_L a5), none, some (av_I x5), none, none]) d_Parts_walkRepeat_6 (Nat.le_of_ble_eq_true rfl) rfl ?_
  refine A_pc (pc' := 8) rfl ?_
  refine A_aload_n 0 d_Parts_walkRepeat_8 rfl rfl ?_
  refine A_getAv (z := some 10) T_ok d_Parts_walkRepeat_9 f_Parts_9 (xi_s k0.1 sf_9) (xi_r k0.1 rff_9_0) ?_
  refine A_iload d_Parts_walkRepeat_12 rfl ?_
  refine A_ialoadf d_Parts_walkRepeat_14 (xi_s k0.1 sf_10) (by omega) (by omega) (fun x7 ex7 _ _ => ?_)
  refine A_bipush d_Parts_walkRepeat_15 rfl ?_
  refine A_icmp_eq (tgt := 77) d_Parts_walkRepeat_17 (by decide) (fun c8 => ?_) (fun c8 => ?_)
  · refine A_iload d_Parts_walkRepeat_77 rfl ?_
    refine A_istore (L' := [some (av_R (some 9)), some (av_R (some a1)), some (av_I a2), some (av_I a3), some (av_L a4), none, some (av_L a5), none, some (av_I x5), some (av_I x5), none]) d_Parts_walkRepeat_79 (Nat.le_of_ble_eq_true rfl) rfl ?_
    refine A_iconst d_Parts_walkRepeat_81 rfl ?_
    refine A_istore (L' := [some (av_R (some 9)), some (av_R (some a1)), some (av_I a2), some (av_I a3), some (av_L a4), none, some (av_L a5), none, some (av_I x5), some (av_I x5), some (av_I 0)]) d_Parts_walkRepeat_82 (Nat.le_of_ble_eq_true rfl) rfl ?_
    have lp84 : ∀ (n : Nat) (i9 i10 : Int) (h11 : ah_T) , 0 ≤ i9 → i9 ≤ 1999 → 0 ≤ i10 → i10 ≤ 2000 → (h11.2.1 9 10 ≤ h11.2.1 9 8 ∧ h11.2.1 a1 16 ≤ h11.2.1 9 10 + 1) ∧ h11.2.1 9 8 ≤ 4001 + i10 → kF (FB s) s h h11 → (2001 - i10).toNat < n → aw G (rm_R 7 0 0) m_Parts_walkRepeat 0 0 84 [some (av_R (some 9)), some (av_R (some a1)), some (av_I a2), some (av_I a3), some (av_L a4), none, some (av_L a5), none, some (av_I x5), some (av_I i9), some (av_I i10)] [] h11 (fun r h' => ∃ z, r = some (av_I z) ∧ (0 ≤ z ∧ z ≤ 1999) ∧ ((h'.2.1 9 10 ≤ h'.2.1 9 8 ∧ h'.2.1 a1 16 ≤ h'.2.1 9 10 + 1) ∧ h'.2.1 9 8 ≤ 6001) ∧ kF (FB s) s h h') := by
      intro n
      induction n with
      | zero => intro i9 i10 h11 _ _ _ _ _ _ hm; omega
      | succ n ih84 =>
        intro i9 i10 h11 hl0 hl1 hl2 hl3 hinv k12 hm
        obtain ⟨sd13, esd13⟩ : ∃ x, x = h11.2.1 9 8 := ⟨_, rfl⟩
        have rsd13 : 0 ≤ sd13 ∧ sd13 ≤ 100000 := (by rw [esd13]; exact xi_g k12.1 (by decide) rgf_9_8)
        obtain ⟨sd14, esd14⟩ : ∃ x, x = h11.2.1 9 10 := ⟨_, rfl⟩
        have rsd14 : 0 ≤ sd14 ∧ sd14 ≤ 100000 := (by rw [esd14]; exact xi_g k12.1 (by decide) rgf_9_10)
        obtain ⟨sd15, esd15⟩ : ∃ x, x = h11.2.1 a1 16 := ⟨_, rfl⟩
        have rsd15 : 0 ≤ sd15 ∧ sd15 ≤ 101 := (by rw [esd15]; exact xi_g k12.1 (lt1_V (tV_V hS ta1)) (rg_V_16 (tV_V hS ta1)))
        refine A_iload d_Parts_walkRepeat_84 rfl ?_
        refine A_sipush d_Parts_walkRepeat_86 rfl ?_
        refine A_icmp_ge (tgt := 169) d_Parts_walkRepeat_89 (by decide) (fun c16 => ?_) (fun c16 => ?_)
        · refine A_iload d_Parts_walkRepeat_169 rfl ?_
          exact A_iret d_Parts_walkRepeat_171 (by decide) rfl ⟨_, rfl, ⟨by omega, by omega⟩, (by have qq0 := esd13.symm; have qq1 := esd14.symm; have qq2 := esd15.symm; exact ⟨⟨by omega, by omega⟩, by omega⟩), k12⟩
        · refine A_aload_n 0 d_Parts_walkRepeat_92 rfl rfl ?_
          refine A_getAv (z := some 10) T_ok d_Parts_walkRepeat_93 f_Parts_9 (xi_s k12.1 sf_9) (xi_r k12.1 rff_9_0) ?_
          refine A_iload d_Parts_walkRepeat_96 rfl ?_
          refine A_ialoadf d_Parts_walkRepeat_98 (xi_s k12.1 sf_10) (by omega) (by omega) (fun x18 ex18 _ _ => ?_)
          refine A_bipush d_Parts_walkRepeat_99 rfl ?_
          refine A_pc (pc' := 101) rfl ?_
          refine A_icmp_ne (tgt := 169) d_Parts_walkRepeat_101 (by decide) (fun c19 => ?_) (fun c19 => ?_)
          · refine A_iload d_Parts_walkRepeat_169 rfl ?_
            exact A_iret d_Parts_walkRepeat_171 (by decide) rfl ⟨_, rfl, ⟨by omega, by omega⟩, (by have qq0 := esd13.symm; have qq1 := esd14.symm; have qq2 := esd15.symm; exact ⟨⟨by omega, by omega⟩, by omega⟩), k12⟩
          · refine A_aload_n 0 d_Parts_walkRepeat_104 rfl rfl ?_
            refine A_dupR d_Parts_walkRepeat_105 ?_
            refine A_getIv (z := sd13) T_ok d_Parts_walkRepeat_106 f_Parts_46 (xi_s k12.1 sf_9) esd13.symm ?_
            refine A_iconst d_Parts_walkRepeat_109 rfl ?_
            refine A_iaddv (z := (sd13 + 1)) d_Parts_walkRepeat_110 (w32_to (by omega) (by unfold i32; omega)) ?_
            refine A_pc (pc' := 111) rfl ?_
            refine A_putIk (KR := kF (FB s) s h) T_ok d_Parts_walkRepeat_111 f_Parts_46 (xi_s k12.1 sf_9) fin_f (kF_j k12 (by omega) (ns_b rfl) rgf_9_8 (by omega) (by omega)) (fun h21 k22 eh21 => ?_)
            refine A_aload_n 0 d_Parts_walkRepeat_114 rfl rfl ?_
            refine A_aload_n 1 d_Parts_walkRepeat_115 rfl rfl ?_
            refine A_iload_n 2 d_Parts_walkRepeat_116 rfl rfl ?_
            refine A_iconst d_Parts_walkRepeat_117 rfl ?_
            refine A_iaddv (z := (a2 + 1)) d_Parts_walkRepeat_118 (w32_to (by omega) (by unfold i32; omega)) ?_
            refine A_pc (pc' := 119) rfl ?_
            refine A_iload d_Parts_walkRepeat_119 rfl ?_
            refine A_iload_n 3 d_Parts_walkRepeat_121 rfl rfl ?_
            refine A_iconst d_Parts_walkRepeat_122 rfl ?_
            refine A_iaddv (z := (a3 + 1)) d_Parts_walkRepeat_123 (w32_to (by omega) (by unfold i32; omega)) ?_
            refine A_lload d_Parts_walkRepeat_124 rfl ?_
            refine A_lload d_Parts_walkRepeat_126 rfl ?_
            refine A_pc (pc' := 128) rfl ?_
            have zf24 := eh21.2.1
            have zf25 := ((eh21.1 _ _ (fun _ => by decide)).trans esd14.symm)
            have zf26 := ((eh21.1 _ _ (fun q => by omega)).trans esd15.symm)
            refine A_callV6 m_Parts_walkThrough T_ok d_Parts_walkRepeat_128 l_Parts_59 k_Parts_walkThrough (xi_s k22.1 sf_9) rfl (by decide +kernel) (by decide) (Nat.le_of_ble_eq_true rfl) (s_Parts_walkThrough_7 k22.1 ta1 (by omega) (by omega) (by omega) (by omega) (by omega) (by omega) (by omega) (by omega) (by omega) (by omega) (by have qq0 := eh21.2.1; have qq1 := ((eh21.1 _ _ (fun _ => by decide)).trans esd14.symm); have qq2 := ((eh21.1 _ _ (fun q => by omega)).trans esd15.symm); exact ⟨by omega, by omega⟩)) (fun r h23 hq => ?_)
            obtain ⟨rfl, xk27, k27⟩ := hq
            have k28 := kF_t k22 k27 (fun _ q => q)
            obtain ⟨sd29, esd29⟩ : ∃ x, x = h23.2.1 9 8 := ⟨_, rfl⟩
            have rsd29 : 0 ≤ sd29 ∧ sd29 ≤ 100000 := (by rw [esd29]; exact xi_g k28.1 (by decide) rgf_9_8)
            obtain ⟨sd30, esd30⟩ : ∃ x, x = h23.2.1 9 10 := ⟨_, rfl⟩
            have rsd30 : 0 ≤ sd30 ∧ sd30 ≤ 100000 := (by rw [esd30]; exact xi_g k28.1 (by decide) rgf_9_10)
            obtain ⟨sd31, esd31⟩ : ∃ x, x = h23.2.1 a1 16 := ⟨_, rfl⟩
            have rsd31 : 0 ≤ sd31 ∧ sd31 ≤ 101 := (by rw [esd31]; exact xi_g k28.1 (lt1_V (tV_V hS ta1)) (rg_V_16 (tV_V hS ta1)))
            refine A_aload_n 0 d_Parts_walkRepeat_131 rfl rfl ?_
            refine A_aload_n 1 d_Parts_walkRepeat_132 rfl rfl ?_
            refine A_iload d_Parts_walkRepeat_133 rfl ?_
            refine A_iconst d_Parts_walkRepeat_135 rfl ?_
            refine A_iaddv (z := (i9 + 1)) d_Parts_walkRepeat_136 (w32_to (by omega) (by unfold i32; omega)) ?_
            refine A_pc (pc' := 137) rfl ?_
            refine A_aload_n 0 d_Parts_walkRepeat_137 rfl rfl ?_
            refine A_getAv (z := some 11) T_ok d_Parts_walkRepeat_138 f_Parts_15 (xi_s k28.1 sf_9) (xi_r k28.1 rff_9_1) ?_
            refine A_iload d_Parts_walkRepeat_141 rfl ?_
            refine A_ialoadn (lo := 0) (hi := 1999) d_Parts_walkRepeat_143 (xi_s k28.1 sf_11) (by omega) (by omega) (xi_g k28.1 (by decide) (rgf_11 _)) (fun x33 ex33 _ _ => ?_)
            refine A_iload_n 3 d_Parts_walkRepeat_144 rfl rfl ?_
            refine A_iconst d_Parts_walkRepeat_145 rfl ?_
            refine A_pc (pc' := 146) rfl ?_
            refine A_iaddv (z := (a3 + 1)) d_Parts_walkRepeat_146 (w32_to (by omega) (by unfold i32; omega)) ?_
            refine A_lload d_Parts_walkRepeat_147 rfl ?_
            refine A_lload d_Parts_walkRepeat_149 rfl ?_
            have zf35 := esd29.symm
            have zf36 := esd30.symm
            have zf37 := esd31.symm
            refine A_callV6 m_Parts_walkThrough T_ok d_Parts_walkRepeat_151 l_Parts_59 k_Parts_walkThrough (xi_s k28.1 sf_9) rfl (by decide +kernel) (by decide) (Nat.le_of_ble_eq_true rfl) (s_Parts_walkThrough_7 k28.1 ta1 (by omega) (by omega) (by omega) (by omega) (by omega) (by omega) (by omega) (by omega) (by omega) (by omega) (by have qq0 := esd29.symm; have qq1 := esd30.symm; have qq2 := esd31.symm; exact ⟨by omega, by omega⟩)) (fun r h34 hq => ?_)
            obtain ⟨rfl, xk38, k38⟩ := hq
            have k39 := kF_t k28 k38 (fun _ q => q)
            obtain ⟨sd40, esd40⟩ : ∃ x, x = h34.2.1 9 8 := ⟨_, rfl⟩
            have rsd40 : 0 ≤ sd40 ∧ sd40 ≤ 100000 := (by rw [esd40]; exact xi_g k39.1 (by decide) rgf_9_8)
            obtain ⟨sd41, esd41⟩ : ∃ x, x = h34.2.1 9 10 := ⟨_, rfl⟩
            have rsd41 : 0 ≤ sd41 ∧ sd41 ≤ 100000 := (by rw [esd41]; exact xi_g k39.1 (by decide) rgf_9_10)
            obtain ⟨sd42, esd42⟩ : ∃ x, x = h34.2.1 a1 16 := ⟨_, rfl⟩
            have rsd42 : 0 ≤ sd42 ∧ sd42 ≤ 101 := (by rw [esd42]; exact xi_g k39.1 (lt1_V (tV_V hS ta1)) (rg_V_16 (tV_V hS ta1)))
            refine A_aload_n 0 d_Parts_walkRepeat_154 rfl rfl ?_
            refine A_getAv (z := some 11) T_ok d_Parts_walkRepeat_155 f_Parts_15 (xi_s k39.1 sf_9) (xi_r k39.1 rff_9_1) ?_
            refine A_iload d_Parts_walkRepeat_158 rfl ?_
            refine A_ialoadn (lo := 0) (hi := 1999) d_Parts_walkRepeat_160 (xi_s k39.1 sf_11) (by omega) (by omega) (xi_g k39.1 (by decide) (rgf_11 _)) (fun x44 ex44 _ _ => ?_)
            refine A_istore (L' := [some (av_R (some 9)), some (av_R (some a1)), some (av_I a2), some (av_I a3), some (av_L a4), none, some (av_L a5), none, some (av_I x5), some (av_I x44), some (av_I i10)]) d_Parts_walkRepeat_161 (Nat.le_of_ble_eq_true rfl) rfl ?_
            refine A_pc (pc' := 163) rfl ?_
            refine A_iincv (z := (i10 + 1)) (L' := [some (av_R (some 9)), some (av_R (some a1)), some (av_I a2), some (av_I a3), some (av_L a4), none, some (av_L a5), none, some (av_I x5), some (av_I x44), some (av_I (i10 + 1))]) d_Parts_walkRepeat_163 rfl (w32_to (by omega) (by unfold i32; omega)) rfl ?_
            refine A_goto (tgt := 84) d_Parts_walkRepeat_166 (by decide) ?_
            exact ih84 x44 (i10 + 1) h34 (by omega) (by omega) (by omega) (by omega) (by have qq0 := esd40.symm; have qq1 := esd41.symm; have qq2 := esd42.symm; exact ⟨⟨by omega, by omega⟩, by omega⟩) k39 (by omega)
    exact lp84 _ x5 0 h (by omega) (by omega) (by omega) (by omega) (by have qq0 := esd1.symm; have qq1 := esd2.symm; have qq2 := esd3.symm; exact ⟨⟨by omega, by omega⟩, by omega⟩) k0 (Nat.lt_succ_self _)
  · refine A_aload_n 0 d_Parts_walkRepeat_20 rfl rfl ?_
    refine A_dupR d_Parts_walkRepeat_21 ?_
    refine A_getIv (z := sd1) T_ok d_Parts_walkRepeat_22 f_Parts_46 (xi_s k0.1 sf_9) esd1.symm ?_
    refine A_iconst d_Parts_walkRepeat_25 rfl ?_
    refine A_iaddv (z := (sd1 + 1)) d_Parts_walkRepeat_26 (w32_to (by omega) (by unfold i32; omega)) ?_
    refine A_pc (pc' := 27) rfl ?_
    refine A_putIk (KR := kF (FB s) s h) T_ok d_Parts_walkRepeat_27 f_Parts_46 (xi_s k0.1 sf_9) fin_f (kF_j k0 (by omega) (ns_b rfl) rgf_9_8 (by omega) (by omega)) (fun h46 k47 eh46 => ?_)
    refine A_aload_n 0 d_Parts_walkRepeat_30 rfl rfl ?_
    refine A_aload_n 1 d_Parts_walkRepeat_31 rfl rfl ?_
    refine A_iload_n 2 d_Parts_walkRepeat_32 rfl rfl ?_
    refine A_iconst d_Parts_walkRepeat_33 rfl ?_
    refine A_iaddv (z := (a2 + 1)) d_Parts_walkRepeat_34 (w32_to (by omega) (by unfold i32; omega)) ?_
    refine A_pc (pc' := 35) rfl ?_
    refine A_iload d_Parts_walkRepeat_35 rfl ?_
    refine A_iload_n 3 d_Parts_walkRepeat_37 rfl rfl ?_
    refine A_iconst d_Parts_walkRepeat_38 rfl ?_
    refine A_iaddv (z := (a3 + 1)) d_Parts_walkRepeat_39 (w32_to (by omega) (by unfold i32; omega)) ?_
    refine A_lload d_Parts_walkRepeat_40 rfl ?_
    refine A_lload d_Parts_walkRepeat_42 rfl ?_
    refine A_pc (pc' := 44) rfl ?_
    have zf49 := eh46.2.1
    have zf50 := ((eh46.1 _ _ (fun _ => by decide)).trans esd2.symm)
    have zf51 := ((eh46.1 _ _ (fun q => by omega)).trans esd3.symm)
    refine A_callV6 m_Parts_walkThrough T_ok d_Parts_walkRepeat_44 l_Parts_59 k_Parts_walkThrough (xi_s k47.1 sf_9) rfl (by decide +kernel) (by decide) (Nat.le_of_ble_eq_true rfl) (s_Parts_walkThrough_7 k47.1 ta1 (by omega) (by omega) (by omega) (by omega) (by omega) (by omega) (by omega) (by omega) (by omega) (by omega) (by have qq0 := eh46.2.1; have qq1 := ((eh46.1 _ _ (fun _ => by decide)).trans esd2.symm); have qq2 := ((eh46.1 _ _ (fun q => by omega)).trans esd3.symm); exact ⟨by omega, by omega⟩)) (fun r h48 hq => ?_)
    obtain ⟨rfl, xk52, k52⟩ := hq
    have k53 := kF_t k47 k52 (fun _ q => q)
    obtain ⟨sd54, esd54⟩ : ∃ x, x = h48.2.1 9 8 := ⟨_, rfl⟩
    have rsd54 : 0 ≤ sd54 ∧ sd54 ≤ 100000 := (by rw [esd54]; exact xi_g k53.1 (by decide) rgf_9_8)
    obtain ⟨sd55, esd55⟩ : ∃ x, x = h48.2.1 9 10 := ⟨_, rfl⟩
    have rsd55 : 0 ≤ sd55 ∧ sd55 ≤ 100000 := (by rw [esd55]; exact xi_g k53.1 (by decide) rgf_9_10)
    obtain ⟨sd56, esd56⟩ : ∃ x, x = h48.2.1 a1 16 := ⟨_, rfl⟩
    have rsd56 : 0 ≤ sd56 ∧ sd56 ≤ 101 := (by rw [esd56]; exact xi_g k53.1 (lt1_V (tV_V hS ta1)) (rg_V_16 (tV_V hS ta1)))
    refine A_aload_n 0 d_Parts_walkRepeat_47 rfl rfl ?_
    refine A_dupR d_Parts_walkRepeat_48 ?_
    refine A_getIv (z := sd54) T_ok d_Parts_walkRepeat_49 f_Parts_46 (xi_s k53.1 sf_9) esd54.symm ?_
    refine A_iconst d_Parts_walkRepeat_52 rfl ?_
    refine A_iaddv (z := (sd54 + 1)) d_Parts_walkRepeat_53 (w32_to (by omega) (by unfold i32; omega)) ?_
    refine A_pc (pc' := 54) rfl ?_
    refine A_putIk (KR := kF (FB s) s h) T_ok d_Parts_walkRepeat_54 f_Parts_46 (xi_s k53.1 sf_9) fin_f (kF_j k53 (by omega) (ns_b rfl) rgf_9_8 (by omega) (by omega)) (fun h58 k59 eh58 => ?_)
    refine A_aload_n 0 d_Parts_walkRepeat_57 rfl rfl ?_
    refine A_aload_n 1 d_Parts_walkRepeat_58 rfl rfl ?_
    refine A_iload_n 2 d_Parts_walkRepeat_59 rfl rfl ?_
    refine A_iconst d_Parts_walkRepeat_60 rfl ?_
    refine A_iaddv (z := (a2 + 1)) d_Parts_walkRepeat_61 (w32_to (by omega) (by unfold i32; omega)) ?_
    refine A_pc (pc' := 62) rfl ?_
    refine A_iload d_Parts_walkRepeat_62 rfl ?_
    refine A_iload_n 3 d_Parts_walkRepeat_64 rfl rfl ?_
    refine A_iconst d_Parts_walkRepeat_65 rfl ?_
    refine A_iaddv (z := (a3 + 1)) d_Parts_walkRepeat_66 (w32_to (by omega) (by unfold i32; omega)) ?_
    refine A_lload d_Parts_walkRepeat_67 rfl ?_
    refine A_lload d_Parts_walkRepeat_69 rfl ?_
    refine A_pc (pc' := 71) rfl ?_
    have zf61 := eh58.2.1
    have zf62 := ((eh58.1 _ _ (fun _ => by decide)).trans esd55.symm)
    have zf63 := ((eh58.1 _ _ (fun q => by omega)).trans esd56.symm)
    refine A_callV6 m_Parts_walkThrough T_ok d_Parts_walkRepeat_71 l_Parts_59 k_Parts_walkThrough (xi_s k59.1 sf_9) rfl (by decide +kernel) (by decide) (Nat.le_of_ble_eq_true rfl) (s_Parts_walkThrough_7 k59.1 ta1 (by omega) (by omega) (by omega) (by omega) (by omega) (by omega) (by omega) (by omega) (by omega) (by omega) (by have qq0 := eh58.2.1; have qq1 := ((eh58.1 _ _ (fun _ => by decide)).trans esd55.symm); have qq2 := ((eh58.1 _ _ (fun q => by omega)).trans esd56.symm); exact ⟨by omega, by omega⟩)) (fun r h60 hq => ?_)
    obtain ⟨rfl, xk64, k64⟩ := hq
    have k65 := kF_t k59 k64 (fun _ q => q)
    obtain ⟨sd66, esd66⟩ : ∃ x, x = h60.2.1 9 8 := ⟨_, rfl⟩
    have rsd66 : 0 ≤ sd66 ∧ sd66 ≤ 100000 := (by rw [esd66]; exact xi_g k65.1 (by decide) rgf_9_8)
    obtain ⟨sd67, esd67⟩ : ∃ x, x = h60.2.1 9 10 := ⟨_, rfl⟩
    have rsd67 : 0 ≤ sd67 ∧ sd67 ≤ 100000 := (by rw [esd67]; exact xi_g k65.1 (by decide) rgf_9_10)
    obtain ⟨sd68, esd68⟩ : ∃ x, x = h60.2.1 a1 16 := ⟨_, rfl⟩
    have rsd68 : 0 ≤ sd68 ∧ sd68 ≤ 101 := (by rw [esd68]; exact xi_g k65.1 (lt1_V (tV_V hS ta1)) (rg_V_16 (tV_V hS ta1)))
    refine A_iload d_Parts_walkRepeat_74 rfl ?_
    exact A_iret d_Parts_walkRepeat_76 (by decide) rfl ⟨_, rfl, ⟨by omega, by omega⟩, (by have qq0 := esd66.symm; have qq1 := esd67.symm; have qq2 := esd68.symm; exact ⟨⟨by omega, by omega⟩, by omega⟩), k65⟩
theorem s_Parts_walkThrough_6 {G : cx_T} {s : Nat} {h : ah_T} (hx : xi s h) {a1 : Nat} {a2 : Int} {a3 : Int} {a4 : Int} {a5 : Int} {a6 : Int} (ta1 : tV s a1) (la2 : 0 ≤ a2) (ua2 : a2 ≤ 2000) (la3 : 0 ≤ a3) (ua3 : a3 ≤ 2000) (la4 : 6 ≤ a4) (ua4 : a4 ≤ 6) (la5 : 1 ≤ a5) (ua5 : a5 ≤ 16777216) (la6 : 0 ≤ a6) (ua6 : a6 ≤ 16777216) (hJ : h.2.1 9 10 ≤ h.2.1 9 8 ∧ h.2.1 a1 16 ≤ h.2.1 9 10 + 1) : con G 8 0 0 m_Parts_walkThrough [av_R (some 9), av_R (some a1), av_I a2, av_I a3, av_I a4, av_L a5, av_L a6] h (fun r h' => r = none ∧ ((h'.2.1 9 10 ≤ h'.2.1 9 8 ∧ h'.2.1 a1 16 ≤ h'.2.1 9 10 + 1) ∧ (h'.2.1 9 8 ≤ h.2.1 9 8 ∨ h'.2.1 9 8 ≤ 6001)) ∧ kF (FB s) s h h') := by
  refine con_of (L := [some (av_R (some 9)), some (av_R (some a1)), some (av_I a2), some (av_I a3), some (av_I a4), some (av_L a5), none, some (av_L a6), none, none, none]) (by decide +kernel) (Nat.le_of_ble_eq_true rfl) rfl ?_
  have hS : isS s := hx.2.1
  have hs0 : s = 17 ∨ s = 80 := hS
  have hs0b : 17 ≤ s ∧ s ≤ 80 := by omega
  have k0 : kF (FB s) s h h := kF_0 hx
  have ga1 : a1 = s + 7 ∨ a1 = s + 21 ∨ a1 = s + 35 ∨ a1 = s + 49 := ta1
  have ga1b : s + 7 ≤ a1 ∧ a1 ≤ s + 49 := by omega
  obtain ⟨sd1, esd1⟩ : ∃ x, x = h.2.1 9 8 := ⟨_, rfl⟩
  have rsd1 : 0 ≤ sd1 ∧ sd1 ≤ 100000 := (by rw [esd1]; exact xi_g k0.1 (by decide) rgf_9_8)
  obtain ⟨sd2, esd2⟩ : ∃ x, x = h.2.1 9 10 := ⟨_, rfl⟩
  have rsd2 : 0 ≤ sd2 ∧ sd2 ≤ 100000 := (by rw [esd2]; exact xi_g k0.1 (by decide) rgf_9_10)
  obtain ⟨sd3, esd3⟩ : ∃ x, x = h.2.1 a1 16 := ⟨_, rfl⟩
  have rsd3 : 0 ≤ sd3 ∧ sd3 ≤ 101 := (by rw [esd3]; exact xi_g k0.1 (lt1_V (tV_V hS ta1)) (rg_V_16 (tV_V hS ta1)))
  refine A_iload d_Parts_walkThrough_0 rfl ?_
  refine A_bipush d_Parts_walkThrough_2 rfl ?_
  refine A_icmp_le (tgt := 8) d_Parts_walkThrough_4 (by decide) (fun c4 => ?_) (fun c => False.elim (by omega))
  refine A_iload_n 2 d_Parts_walkThrough_8 rfl rfl ?_
  refine A_istore (L' := [some (av_R (some 9)), some (av_R (some a1)), some (av_I a2), some (av_I a3), some (av_I a4), some (av_L a5), none, some (av_L a6), none, some (av_I a2), none]) d_Parts_walkThrough_9 (Nat.le_of_ble_eq_true rfl) rfl ?_
  have lp11 : ∀ (n : Nat) (i5 : Int) (h6 : ah_T) , 0 ≤ i5 → i5 ≤ 2000 → (h6.2.1 9 10 ≤ h6.2.1 9 8 ∧ h6.2.1 a1 16 ≤ h6.2.1 9 10 + 1) ∧ (h6.2.1 9 8 ≤ h.2.1 9 8 ∨ h6.2.1 9 8 ≤ 6001) → kF (FB s) s h h6 → (2001 - i5).toNat < n → aw G (rm_R 8 0 0) m_Parts_walkThrough 0 0 11 [some (av_R (some 9)), some (av_R (some a1)), some (av_I a2), some (av_I a3), some (av_I a4), some (av_L a5), none, some (av_L a6), none, some (av_I i5), none] [] h6 (fun r h' => r = none ∧ ((h'.2.1 9 10 ≤ h'.2.1 9 8 ∧ h'.2.1 a1 16 ≤ h'.2.1 9 10 + 1) ∧ (h'.2.1 9 8 ≤ h.2.1 9 8 ∨ h'.2.1 9 8 ≤ 6001)) ∧ kF (FB s) s h h') := by
    intro n
    induction n with
    | zero => intro i5 h6 _ _ _ _ hm; omega
    | succ n ih11 =>
      intro i5 h6 hl0 hl1 hinv k7 hm
      obtain ⟨sd8, esd8⟩ : ∃ x, x = h6.2.1 9 8 := ⟨_, rfl⟩
      have rsd8 : 0 ≤ sd8 ∧ sd8 ≤ 100000 := (by rw [esd8]; exact xi_g k7.1 (by decide) rgf_9_8)
      obtain ⟨sd9, esd9⟩ : ∃ x, x = h6.2.1 9 10 := ⟨_, rfl⟩
      have rsd9 : 0 ≤ sd9 ∧ sd9 ≤ 100000 := (by rw [esd9]; exact xi_g k7.1 (by decide) rgf_9_10)
      obtain ⟨sd10, esd10⟩ : ∃ x, x = h6.2.1 a1 16 := ⟨_, rfl⟩
      have rsd10 : 0 ≤ sd10 ∧ sd10 ≤ 101 := (by rw [esd10]; exact xi_g k7.1 (lt1_V (tV_V hS ta1)) (rg_V_16 (tV_V hS ta1)))
      refine A_iload d_Parts_walkThrough_11 rfl ?_
      refine A_iload_n 3 d_Parts_walkThrough_13 rfl rfl ?_
      refine A_icmp_ge (tgt := 218) d_Parts_walkThrough_14 (by decide) (fun c11 => ?_) (fun c11 => ?_)
      · exact A_vret d_Parts_walkThrough_218 (by decide) rfl ⟨rfl, (by have qq0 := esd8.symm; have qq1 := esd9.symm; have qq2 := esd10.symm; exact ⟨⟨by omega, by omega⟩, by omega⟩), k7⟩
      · refine A_iload d_Parts_walkThrough_17 rfl ?_
        refine A_aload_n 0 d_Parts_walkThrough_19 rfl rfl ?_
        refine A_getIn (lo := 0) (hi := 2000) T_ok d_Parts_walkThrough_20 f_Parts_30 (xi_s k7.1 sf_9) (xi_g k7.1 (by decide) rgf_9_4) (fun x12 ex12 _ _ => ?_)
        refine A_icmp_ge (tgt := 218) d_Parts_walkThrough_23 (by decide) (fun c13 => ?_) (fun c13 => ?_)
        · exact A_vret d_Parts_walkThrough_218 (by decide) rfl ⟨rfl, (by have qq0 := esd8.symm; have qq1 := esd9.symm; have qq2 := esd10.symm; exact ⟨⟨by omega, by omega⟩, by omega⟩), k7⟩
        · refine A_aload_n 0 d_Parts_walkThrough_26 rfl rfl ?_
          refine A_getIv (z := sd8) T_ok d_Parts_walkThrough_27 f_Parts_46 (xi_s k7.1 sf_9) esd8.symm ?_
          refine A_sipush d_Parts_walkThrough_30 rfl ?_
          refine A_icmp_gt (tgt := 218) d_Parts_walkThrough_33 (by decide) (fun c15 => ?_) (fun c15 => ?_)
          · exact A_vret d_Parts_walkThrough_218 (by decide) rfl ⟨rfl, (by have qq0 := esd8.symm; have qq1 := esd9.symm; have qq2 := esd10.symm; exact ⟨⟨by omega, by omega⟩, by omega⟩), k7⟩
          · refine A_aload_n 0 d_Parts_walkThrough_36 rfl rfl ?_
            refine A_dupR d_Parts_walkThrough_37 ?_
            refine A_getIv (z := sd8) T_ok d_Parts_walkThrough_38 f_Parts_46 (xi_s k7.1 sf_9) esd8.symm ?_
            refine A_iconst d_Parts_walkThrough_41 rfl ?_
            refine A_iaddv (z := (sd8 + 1)) d_Parts_walkThrough_42 (w32_to (by omega) (by unfold i32; omega)) ?_
            refine A_pc (pc' := 43) rfl ?_
            refine A_putIk (KR := kF (FB s) s h) T_ok d_Parts_walkThrough_43 f_Parts_46 (xi_s k7.1 sf_9) fin_f (kF_j k7 (by omega) (ns_b rfl) rgf_9_8 (by omega) (by omega)) (fun h17 k18 eh17 => ?_)
            refine A_aload_n 0 d_Parts_walkThrough_46 rfl rfl ?_
            refine A_getAv (z := some 10) T_ok d_Parts_walkThrough_47 f_Parts_9 (xi_s k18.1 sf_9) (xi_r k18.1 rff_9_0) ?_
            refine A_iload d_Parts_walkThrough_50 rfl ?_
            refine A_ialoadf d_Parts_walkThrough_52 (xi_s k18.1 sf_10) (by omega) (by omega) (fun x20 ex20 _ _ => ?_)
            refine A_istore (L' := [some (av_R (some 9)), some (av_R (some a1)), some (av_I a2), some (av_I a3), some (av_I a4), some (av_L a5), none, some (av_L a6), none, some (av_I i5), some (av_I x20)]) d_Parts_walkThrough_53 (Nat.le_of_ble_eq_true rfl) rfl ?_
            refine A_pc (pc' := 55) rfl ?_
            refine A_iload d_Parts_walkThrough_55 rfl ?_
            refine A_bipush d_Parts_walkThrough_57 rfl ?_
            refine A_icmp_ne (tgt := 85) d_Parts_walkThrough_59 (by decide) (fun c21 => ?_) (fun c21 => ?_)
            · refine A_iload d_Parts_walkThrough_85 rfl ?_
              refine A_bipush d_Parts_walkThrough_87 rfl ?_
              refine A_icmp_ne (tgt := 151) d_Parts_walkThrough_89 (by decide) (fun c22 => ?_) (fun c22 => ?_)
              · refine A_iload d_Parts_walkThrough_151 rfl ?_
                refine A_bipush d_Parts_walkThrough_153 rfl ?_
                refine A_icmp_ne (tgt := 166) d_Parts_walkThrough_155 (by decide) (fun c23 => ?_) (fun c23 => ?_)
                · refine A_aload_n 0 d_Parts_walkThrough_166 rfl rfl ?_
                  refine A_dupR d_Parts_walkThrough_167 ?_
                  refine A_getIf T_ok d_Parts_walkThrough_168 f_Parts_49 (xi_s k18.1 sf_9) (fun x24 ex24 _ _ => ?_)
                  refine A_iconst d_Parts_walkThrough_171 rfl ?_
                  refine A_iaddw d_Parts_walkThrough_172 (fun x25 _ _ _ => ?_)
                  refine A_pc (pc' := 173) rfl ?_
                  refine A_putIk (KR := kF (FB s) s h) T_ok d_Parts_walkThrough_173 f_Parts_49 (xi_s k18.1 sf_9) fin_f (kF_j k18 (by omega) (ns_b rfl) rgf_9_9 (by omega) (by omega)) (fun h26 k27 eh26 => ?_)
                  refine A_aload_n 0 d_Parts_walkThrough_176 rfl rfl ?_
                  refine A_getIv (z := x25) T_ok d_Parts_walkThrough_177 f_Parts_49 (xi_s k27.1 sf_9) eh26.2.1 ?_
                  refine A_sipush d_Parts_walkThrough_180 rfl ?_
                  refine A_icmp_gt (tgt := 212) d_Parts_walkThrough_183 (by decide) (fun c29 => ?_) (fun c29 => ?_)
                  · refine A_iincv (z := (i5 + 1)) (L' := [some (av_R (some 9)), some (av_R (some a1)), some (av_I a2), some (av_I a3), some (av_I a4), some (av_L a5), none, some (av_L a6), none, some (av_I (i5 + 1)), some (av_I x20)]) d_Parts_walkThrough_212 rfl (w32_to (by omega) (by unfold i32; omega)) rfl ?_
                    refine A_goto (tgt := 11) d_Parts_walkThrough_215 (by decide) ?_
                    refine A_free (L' := [some (av_R (some 9)), some (av_R (some a1)), some (av_I a2), some (av_I a3), some (av_I a4), some (av_L a5), none, some (av_L a6), none, some (av_I (i5 + 1)), none]) (And.intro rfl (And.intro rfl (And.intro rfl (And.intro rfl (And.intro rfl (And.intro rfl (And.intro rfl (And.intro rfl trivial)))))))) ?_
                    exact ih11 (i5 + 1) h26 (by omega) (by omega) (by have qq0 := ((eh26.1 _ _ (fun _ => by decide)).trans eh17.2.1); have qq1 := ((eh26.1 _ _ (fun _ => by decide)).trans ((eh17.1 _ _ (fun _ => by decide)).trans esd9.symm)); have qq2 := ((eh26.1 _ _ (fun q => by omega)).trans ((eh17.1 _ _ (fun q => by omega)).trans esd10.symm)); exact ⟨⟨by omega, by omega⟩, by omega⟩) k27 (by omega)
                  · refine A_aload_n 0 d_Parts_walkThrough_186 rfl rfl ?_
                    refine A_getZn T_ok d_Parts_walkThrough_187 f_Parts_55 (xi_s k27.1 sf_9) (fun x30 ex30 bx30 => ?_)
                    refine A_if_eq (tgt := 212) d_Parts_walkThrough_190 (by decide) (fun c31 => ?_) (fun c31 => ?_)
                    · refine A_iincv (z := (i5 + 1)) (L' := [some (av_R (some 9)), some (av_R (some a1)), some (av_I a2), some (av_I a3), some (av_I a4), some (av_L a5), none, some (av_L a6), none, some (av_I (i5 + 1)), some (av_I x20)]) d_Parts_walkThrough_212 rfl (w32_to (by omega) (by unfold i32; omega)) rfl ?_
                      refine A_goto (tgt := 11) d_Parts_walkThrough_215 (by decide) ?_
                      refine A_free (L' := [some (av_R (some 9)), some (av_R (some a1)), some (av_I a2), some (av_I a3), some (av_I a4), some (av_L a5), none, some (av_L a6), none, some (av_I (i5 + 1)), none]) (And.intro rfl (And.intro rfl (And.intro rfl (And.intro rfl (And.intro rfl (And.intro rfl (And.intro rfl (And.intro rfl trivial)))))))) ?_
                      exact ih11 (i5 + 1) h26 (by omega) (by omega) (by have qq0 := ((eh26.1 _ _ (fun _ => by decide)).trans eh17.2.1); have qq1 := ((eh26.1 _ _ (fun _ => by decide)).trans ((eh17.1 _ _ (fun _ => by decide)).trans esd9.symm)); have qq2 := ((eh26.1 _ _ (fun q => by omega)).trans ((eh17.1 _ _ (fun q => by omega)).trans esd10.symm)); exact ⟨⟨by omega, by omega⟩, by omega⟩) k27 (by omega)
                    · refine A_aload_n 0 d_Parts_walkThrough_193 rfl rfl ?_
                      refine A_aload_n 1 d_Parts_walkThrough_194 rfl rfl ?_
                      refine A_aload_n 0 d_Parts_walkThrough_195 rfl rfl ?_
                      refine A_getAv (z := some 12) T_ok d_Parts_walkThrough_196 f_Parts_18 (xi_s k27.1 sf_9) (xi_r k27.1 rff_9_2) ?_
                      refine A_iload d_Parts_walkThrough_199 rfl ?_
                      refine A_pc (pc' := 201) rfl ?_
                      refine A_ialoadn (lo := 0) (hi := 300) d_Parts_walkThrough_201 (xi_s k27.1 sf_12) (by omega) (by omega) (xi_g k27.1 (by decide) (rgf_12 _)) (fun x33 ex33 _ _ => ?_)
                      refine A_lload d_Parts_walkThrough_202 rfl ?_
                      refine A_lload d_Parts_walkThrough_204 rfl ?_
                      have zf35 := ((eh26.1 _ _ (fun _ => by decide)).trans eh17.2.1)
                      have zf36 := ((eh26.1 _ _ (fun _ => by decide)).trans ((eh17.1 _ _ (fun _ => by decide)).trans esd9.symm))
                      have zf37 := ((eh26.1 _ _ (fun q => by omega)).trans ((eh17.1 _ _ (fun q => by omega)).trans esd10.symm))
                      refine A_callV3 m_Voice_addEvent T_ok d_Parts_walkThrough_206 l_Parts_80 k_Voice_addEvent (xs_V k27.1 (tV_V hS ta1)) rfl (by decide +kernel) (by decide) (Nat.le_of_ble_eq_true rfl) (s_Voice_addEvent k27.1 ta1 (by omega) (by omega) (by omega) (by omega)) (fun r h34 hq => ?_)
                      obtain ⟨x39, rfl, bx39, xx39, k38⟩ := hq
                      have k40 := kF_t k27 k38 (fun _ q => q)
                      obtain ⟨sd41, esd41⟩ : ∃ x, x = h34.2.1 9 8 := ⟨_, rfl⟩
                      have rsd41 : 0 ≤ sd41 ∧ sd41 ≤ 100000 := (by rw [esd41]; exact xi_g k40.1 (by decide) rgf_9_8)
                      obtain ⟨sd42, esd42⟩ : ∃ x, x = h34.2.1 9 10 := ⟨_, rfl⟩
                      have rsd42 : 0 ≤ sd42 ∧ sd42 ≤ 100000 := (by rw [esd42]; exact xi_g k40.1 (by decide) rgf_9_10)
                      obtain ⟨sd43, esd43⟩ : ∃ x, x = h34.2.1 a1 16 := ⟨_, rfl⟩
                      have rsd43 : 0 ≤ sd43 ∧ sd43 ≤ 101 := (by rw [esd43]; exact xi_g k40.1 (lt1_V (tV_V hS ta1)) (rg_V_16 (tV_V hS ta1)))
                      refine A_putZk (KR := kF (FB s) s h) T_ok d_Parts_walkThrough_209 f_Parts_55 (xi_s k40.1 sf_9) fin_f (by omega) (kF_j k40 (by omega) (ns_b rfl) rgf_9_11 (by omega) (by omega)) (fun h44 k45 eh44 => ?_)
                      refine A_iincv (z := (i5 + 1)) (L' := [some (av_R (some 9)), some (av_R (some a1)), some (av_I a2), some (av_I a3), some (av_I a4), some (av_L a5), none, some (av_L a6), none, some (av_I (i5 + 1)), some (av_I x20)]) d_Parts_walkThrough_212 rfl (w32_to (by omega) (by unfold i32; omega)) rfl ?_
                      refine A_goto (tgt := 11) d_Parts_walkThrough_215 (by decide) ?_
                      refine A_free (L' := [some (av_R (some 9)), some (av_R (some a1)), some (av_I a2), some (av_I a3), some (av_I a4), some (av_L a5), none, some (av_L a6), none, some (av_I (i5 + 1)), none]) (And.intro rfl (And.intro rfl (And.intro rfl (And.intro rfl (And.intro rfl (And.intro rfl (And.intro rfl (And.intro rfl trivial)))))))) ?_
                      exact ih11 (i5 + 1) h44 (by omega) (by omega) (by have qq0 := ((eh44.1 _ _ (fun _ => by decide)).trans esd41.symm); have qq1 := ((eh44.1 _ _ (fun _ => by decide)).trans esd42.symm); have qq2 := ((eh44.1 _ _ (fun q => by omega)).trans esd43.symm); exact ⟨⟨by omega, by omega⟩, by omega⟩) k45 (by omega)
                · refine A_aload_n 0 d_Parts_walkThrough_158 rfl rfl ?_
                  refine A_aload_n 1 d_Parts_walkThrough_159 rfl rfl ?_
                  have zf47 := eh17.2.1
                  have zf48 := ((eh17.1 _ _ (fun _ => by decide)).trans esd9.symm)
                  have zf49 := ((eh17.1 _ _ (fun q => by omega)).trans esd10.symm)
                  refine A_callV1 m_Parts_meetLine T_ok d_Parts_walkThrough_160 l_Parts_76 k_Parts_meetLine (xi_s k18.1 sf_9) rfl (by decide +kernel) (by decide) (Nat.le_of_ble_eq_true rfl) (s_Parts_meetLine k18.1 ta1 (by have qq0 := eh17.2.1; have qq1 := ((eh17.1 _ _ (fun _ => by decide)).trans esd9.symm); have qq2 := ((eh17.1 _ _ (fun q => by omega)).trans esd10.symm); exact ⟨by omega, by omega⟩)) (fun r h46 hq => ?_)
                  obtain ⟨rfl, xk50, k50⟩ := hq
                  have k51 := kF_t k18 k50 (fun _ q => q)
                  obtain ⟨sd52, esd52⟩ : ∃ x, x = h46.2.1 9 8 := ⟨_, rfl⟩
                  have rsd52 : 0 ≤ sd52 ∧ sd52 ≤ 100000 := (by rw [esd52]; exact xi_g k51.1 (by decide) rgf_9_8)
                  obtain ⟨sd53, esd53⟩ : ∃ x, x = h46.2.1 9 10 := ⟨_, rfl⟩
                  have rsd53 : 0 ≤ sd53 ∧ sd53 ≤ 100000 := (by rw [esd53]; exact xi_g k51.1 (by decide) rgf_9_10)
                  obtain ⟨sd54, esd54⟩ : ∃ x, x = h46.2.1 a1 16 := ⟨_, rfl⟩
                  have rsd54 : 0 ≤ sd54 ∧ sd54 ≤ 101 := (by rw [esd54]; exact xi_g k51.1 (lt1_V (tV_V hS ta1)) (rg_V_16 (tV_V hS ta1)))
                  refine A_goto (tgt := 212) d_Parts_walkThrough_163 (by decide) ?_
                  refine A_iincv (z := (i5 + 1)) (L' := [some (av_R (some 9)), some (av_R (some a1)), some (av_I a2), some (av_I a3), some (av_I a4), some (av_L a5), none, some (av_L a6), none, some (av_I (i5 + 1)), some (av_I x20)]) d_Parts_walkThrough_212 rfl (w32_to (by omega) (by unfold i32; omega)) rfl ?_
                  refine A_goto (tgt := 11) d_Parts_walkThrough_215 (by decide) ?_
                  refine A_free (L' := [some (av_R (some 9)), some (av_R (some a1)), some (av_I a2), some (av_I a3), some (av_I a4), some (av_L a5), none, some (av_L a6), none, some (av_I (i5 + 1)), none]) (And.intro rfl (And.intro rfl (And.intro rfl (And.intro rfl (And.intro rfl (And.intro rfl (And.intro rfl (And.intro rfl trivial)))))))) ?_
                  exact ih11 (i5 + 1) h46 (by omega) (by omega) (by have qq0 := esd52.symm; have qq1 := esd53.symm; have qq2 := esd54.symm; exact ⟨⟨by omega, by omega⟩, by omega⟩) k51 (by omega)
              · refine A_aload_n 0 d_Parts_walkThrough_92 rfl rfl ?_
                refine A_aload_n 1 d_Parts_walkThrough_93 rfl rfl ?_
                refine A_iload d_Parts_walkThrough_94 rfl ?_
                refine A_iconst d_Parts_walkThrough_96 rfl ?_
                refine A_iaddv (z := (i5 + 1)) d_Parts_walkThrough_97 (w32_to (by omega) (by unfold i32; omega)) ?_
                refine A_pc (pc' := 98) rfl ?_
                refine A_aload_n 0 d_Parts_walkThrough_98 rfl rfl ?_
                refine A_getAv (z := some 11) T_ok d_Parts_walkThrough_99 f_Parts_15 (xi_s k18.1 sf_9) (xi_r k18.1 rff_9_1) ?_
                refine A_iload d_Parts_walkThrough_102 rfl ?_
                refine A_ialoadn (lo := 0) (hi := 1999) d_Parts_walkThrough_104 (xi_s k18.1 sf_11) (by omega) (by omega) (xi_g k18.1 (by decide) (rgf_11 _)) (fun x56 ex56 _ _ => ?_)
                refine A_iload d_Parts_walkThrough_105 rfl ?_
                refine A_iconst d_Parts_walkThrough_107 rfl ?_
                refine A_pc (pc' := 108) rfl ?_
                refine A_iaddv (z := (a4 + 1)) d_Parts_walkThrough_108 (w32_to (by omega) (by unfold i32; omega)) ?_
                refine A_lload d_Parts_walkThrough_109 rfl ?_
                refine A_aload_n 0 d_Parts_walkThrough_111 rfl rfl ?_
                refine A_getAv (z := some 13) T_ok d_Parts_walkThrough_112 f_Parts_21 (xi_s k18.1 sf_9) (xi_r k18.1 rff_9_3) ?_
                refine A_iload d_Parts_walkThrough_115 rfl ?_
                refine A_ialoadn (lo := 0) (hi := 16) d_Parts_walkThrough_117 (xi_s k18.1 sf_13) (by omega) (by omega) (xi_g k18.1 (by decide) (rgf_13 _)) (fun x58 ex58 _ _ => ?_)
                have yx58 := sP_at (kF_sem k18).1 ex20.symm.symm (by omega) ((eh17.1 _ _ (fun _ => by decide)).trans ex12.symm) (by omega) (by omega)
                refine A_pc (pc' := 118) rfl ?_
                refine A_i2l d_Parts_walkThrough_118 ?_
                refine A_lmulw d_Parts_walkThrough_119 (fun x59 ex59 _ _ => ?_)
                have bx59 := mul_pp64 (ux := 16777216) (uy := 16) ex59 (by omega) (by omega) (by omega) (by omega) (by decide)
                refine A_lload d_Parts_walkThrough_120 rfl ?_
                refine A_aload_n 0 d_Parts_walkThrough_122 rfl rfl ?_
                refine A_getAv (z := some 12) T_ok d_Parts_walkThrough_123 f_Parts_18 (xi_s k18.1 sf_9) (xi_r k18.1 rff_9_2) ?_
                refine A_iload d_Parts_walkThrough_126 rfl ?_
                refine A_pc (pc' := 128) rfl ?_
                refine A_ialoadn (lo := 0) (hi := 300) d_Parts_walkThrough_128 (xi_s k18.1 sf_12) (by omega) (by omega) (xi_g k18.1 (by decide) (rgf_12 _)) (fun x61 ex61 _ _ => ?_)
                have yx61 := sP_at (kF_sem k18).1 ex20.symm.symm (by omega) ((eh17.1 _ _ (fun _ => by decide)).trans ex12.symm) (by omega) (by omega)
                refine A_i2l d_Parts_walkThrough_129 ?_
                refine A_lmulw d_Parts_walkThrough_130 (fun x62 ex62 _ _ => ?_)
                have bx62 := mul_nn64 (ux := 16777216) (uy := 16) ex62 (by omega) (by omega) (by omega) (by omega) (by decide)
                have zf64 := eh17.2.1
                have zf65 := ((eh17.1 _ _ (fun _ => by decide)).trans esd9.symm)
                have zf66 := ((eh17.1 _ _ (fun q => by omega)).trans esd10.symm)
                refine A_callV6 m_Parts_walkThrough T_ok d_Parts_walkThrough_131 l_Parts_59 k_Parts_walkThrough (xi_s k18.1 sf_9) rfl (by decide +kernel) (by decide) (Nat.le_of_ble_eq_true rfl) (s_Parts_walkThrough_7 k18.1 ta1 (by omega) (by omega) (by omega) (by omega) (by omega) (by omega) (by omega) (by omega) (by omega) (by omega) (by have qq0 := eh17.2.1; have qq1 := ((eh17.1 _ _ (fun _ => by decide)).trans esd9.symm); have qq2 := ((eh17.1 _ _ (fun q => by omega)).trans esd10.symm); exact ⟨by omega, by omega⟩)) (fun r h63 hq => ?_)
                obtain ⟨rfl, xk67, k67⟩ := hq
                have k68 := kF_t k18 k67 (fun _ q => q)
                obtain ⟨sd69, esd69⟩ : ∃ x, x = h63.2.1 9 8 := ⟨_, rfl⟩
                have rsd69 : 0 ≤ sd69 ∧ sd69 ≤ 100000 := (by rw [esd69]; exact xi_g k68.1 (by decide) rgf_9_8)
                obtain ⟨sd70, esd70⟩ : ∃ x, x = h63.2.1 9 10 := ⟨_, rfl⟩
                have rsd70 : 0 ≤ sd70 ∧ sd70 ≤ 100000 := (by rw [esd70]; exact xi_g k68.1 (by decide) rgf_9_10)
                obtain ⟨sd71, esd71⟩ : ∃ x, x = h63.2.1 a1 16 := ⟨_, rfl⟩
                have rsd71 : 0 ≤ sd71 ∧ sd71 ≤ 101 := (by rw [esd71]; exact xi_g k68.1 (lt1_V (tV_V hS ta1)) (rg_V_16 (tV_V hS ta1)))
                refine A_iload d_Parts_walkThrough_134 rfl ?_
                refine A_aload_n 0 d_Parts_walkThrough_136 rfl rfl ?_
                refine A_getAv (z := some 11) T_ok d_Parts_walkThrough_137 f_Parts_15 (xi_s k68.1 sf_9) (xi_r k68.1 rff_9_1) ?_
                refine A_iload d_Parts_walkThrough_140 rfl ?_
                refine A_ialoadn (lo := 0) (hi := 1999) d_Parts_walkThrough_142 (xi_s k68.1 sf_11) (by omega) (by omega) (xi_g k68.1 (by decide) (rgf_11 _)) (fun x73 ex73 _ _ => ?_)
                refine A_pc (pc' := 143) rfl ?_
                refine A_mmax d_Parts_walkThrough_143 lm_Parts_70 ma_max (by decide) (by decide) (Nat.le_of_ble_eq_true rfl) rfl ?_
                refine A_nrI (fun x74 ex74 _ _ => ?_)
                have bx74 := mmax_r ex74
                refine A_istore (L' := [some (av_R (some 9)), some (av_R (some a1)), some (av_I a2), some (av_I a3), some (av_I a4), some (av_L a5), none, some (av_L a6), none, some (av_I x74), some (av_I x20)]) d_Parts_walkThrough_146 (Nat.le_of_ble_eq_true rfl) rfl ?_
                refine A_goto (tgt := 212) d_Parts_walkThrough_148 (by decide) ?_
                refine A_iincv (z := (x74 + 1)) (L' := [some (av_R (some 9)), some (av_R (some a1)), some (av_I a2), some (av_I a3), some (av_I a4), some (av_L a5), none, some (av_L a6), none, some (av_I (x74 + 1)), some (av_I x20)]) d_Parts_walkThrough_212 rfl (w32_to (by omega) (by unfold i32; omega)) rfl ?_
                refine A_goto (tgt := 11) d_Parts_walkThrough_215 (by decide) ?_
                refine A_free (L' := [some (av_R (some 9)), some (av_R (some a1)), some (av_I a2), some (av_I a3), some (av_I a4), some (av_L a5), none, some (av_L a6), none, some (av_I (x74 + 1)), none]) (And.intro rfl (And.intro rfl (And.intro rfl (And.intro rfl (And.intro rfl (And.intro rfl (And.intro rfl (And.intro rfl trivial)))))))) ?_
                exact ih11 (x74 + 1) h63 (by omega) (by omega) (by have qq0 := esd69.symm; have qq1 := esd70.symm; have qq2 := esd71.symm; exact ⟨⟨by omega, by omega⟩, by omega⟩) k68 (by omega)
            · refine A_iload d_Parts_walkThrough_62 rfl ?_
              refine A_aload_n 0 d_Parts_walkThrough_64 rfl rfl ?_
              refine A_aload_n 1 d_Parts_walkThrough_65 rfl rfl ?_
              refine A_iload d_Parts_walkThrough_66 rfl ?_
              refine A_iload d_Parts_walkThrough_68 rfl ?_
              refine A_pc (pc' := 70) rfl ?_
              refine A_lload d_Parts_walkThrough_70 rfl ?_
              refine A_lload d_Parts_walkThrough_72 rfl ?_
              have zf76 := eh17.2.1
              have zf77 := ((eh17.1 _ _ (fun _ => by decide)).trans esd9.symm)
              have zf78 := ((eh17.1 _ _ (fun q => by omega)).trans esd10.symm)
              refine A_callV5 m_Parts_walkRepeat T_ok d_Parts_walkThrough_74 l_Parts_66 k_Parts_walkRepeat (xi_s k18.1 sf_9) rfl (by decide +kernel) (by decide) (Nat.le_of_ble_eq_true rfl) (s_Parts_walkRepeat_6 k18.1 ta1 (by omega) (by omega) (by omega) (by omega) (by omega) (by omega) (by omega) (by omega) (by have qq0 := eh17.2.1; have qq1 := ((eh17.1 _ _ (fun _ => by decide)).trans esd9.symm); have qq2 := ((eh17.1 _ _ (fun q => by omega)).trans esd10.symm); exact ⟨by omega, by omega⟩) (by have qq0 := eh17.2.1; have qq1 := ((eh17.1 _ _ (fun _ => by decide)).trans esd9.symm); omega)) (fun r h75 hq => ?_)
              obtain ⟨x80, rfl, ⟨_, _⟩, xx80, k79⟩ := hq
              have k81 := kF_t k18 k79 (fun _ q => q)
              obtain ⟨sd82, esd82⟩ : ∃ x, x = h75.2.1 9 8 := ⟨_, rfl⟩
              have rsd82 : 0 ≤ sd82 ∧ sd82 ≤ 100000 := (by rw [esd82]; exact xi_g k81.1 (by decide) rgf_9_8)
              obtain ⟨sd83, esd83⟩ : ∃ x, x = h75.2.1 9 10 := ⟨_, rfl⟩
              have rsd83 : 0 ≤ sd83 ∧ sd83 ≤ 100000 := (by rw [esd83]; exact xi_g k81.1 (by decide) rgf_9_10)
              obtain ⟨sd84, esd84⟩ : ∃ x, x = h75.2.1 a1 16 := ⟨_, rfl⟩
              have rsd84 : 0 ≤ sd84 ∧ sd84 ≤ 101 := (by rw [esd84]; exact xi_g k81.1 (lt1_V (tV_V hS ta1)) (rg_V_16 (tV_V hS ta1)))
              refine A_mmax d_Parts_walkThrough_77 lm_Parts_70 ma_max (by decide) (by decide) (Nat.le_of_ble_eq_true rfl) rfl ?_
              refine A_nrI (fun x85 ex85 _ _ => ?_)
              have bx85 := mmax_r ex85
              refine A_istore (L' := [some (av_R (some 9)), some (av_R (some a1)), some (av_I a2), some (av_I a3), some (av_I a4), some (av_L a5), none, some (av_L a6), none, some (av_I x85), some (av_I x20)]) d_Parts_walkThrough_80 (Nat.le_of_ble_eq_true rfl) rfl ?_
              refine A_goto (tgt := 212) d_Parts_walkThrough_82 (by decide) ?_
              refine A_iincv (z := (x85 + 1)) (L' := [some (av_R (some 9)), some (av_R (some a1)), some (av_I a2), some (av_I a3), some (av_I a4), some (av_L a5), none, some (av_L a6), none, some (av_I (x85 + 1)), some (av_I x20)]) d_Parts_walkThrough_212 rfl (w32_to (by omega) (by unfold i32; omega)) rfl ?_
              refine A_goto (tgt := 11) d_Parts_walkThrough_215 (by decide) ?_
              refine A_free (L' := [some (av_R (some 9)), some (av_R (some a1)), some (av_I a2), some (av_I a3), some (av_I a4), some (av_L a5), none, some (av_L a6), none, some (av_I (x85 + 1)), none]) (And.intro rfl (And.intro rfl (And.intro rfl (And.intro rfl (And.intro rfl (And.intro rfl (And.intro rfl (And.intro rfl trivial)))))))) ?_
              exact ih11 (x85 + 1) h75 (by omega) (by omega) (by have qq0 := esd82.symm; have qq1 := esd83.symm; have qq2 := esd84.symm; exact ⟨⟨by omega, by omega⟩, by omega⟩) k81 (by omega)
  exact lp11 _ a2 h (by omega) (by omega) (by have qq0 := esd1.symm; have qq1 := esd2.symm; have qq2 := esd3.symm; exact ⟨⟨by omega, by omega⟩, by omega⟩) k0 (Nat.lt_succ_self _)
theorem s_Parts_walkRepeat_5 {G : cx_T} {s : Nat} {h : ah_T} (hx : xi s h) {a1 : Nat} {a2 : Int} {a3 : Int} {a4 : Int} {a5 : Int} (ta1 : tV s a1) (la2 : 0 ≤ a2) (ua2 : a2 ≤ 1999) (la3 : 5 ≤ a3) (ua3 : a3 ≤ 5) (la4 : 1 ≤ a4) (ua4 : a4 ≤ 1048576) (la5 : 0 ≤ a5) (ua5 : a5 ≤ 1048576) (hJ : h.2.1 9 10 ≤ h.2.1 9 8 ∧ h.2.1 a1 16 ≤ h.2.1 9 10 + 1) (hS2 : h.2.1 9 8 ≤ 2001) : con G 9 0 0 m_Parts_walkRepeat [av_R (some 9), av_R (some a1), av_I a2, av_I a3, av_L a4, av_L a5] h (fun r h' => ∃ z, r = some (av_I z) ∧ (0 ≤ z ∧ z ≤ 1999) ∧ ((h'.2.1 9 10 ≤ h'.2.1 9 8 ∧ h'.2.1 a1 16 ≤ h'.2.1 9 10 + 1) ∧ h'.2.1 9 8 ≤ 8001) ∧ kF (FB s) s h h') := by
  refine con_of (L := [some (av_R (some 9)), some (av_R (some a1)), some (av_I a2), some (av_I a3), some (av_L a4), none, some (av_L a5), none, none, none, none]) (by decide +kernel) (Nat.le_of_ble_eq_true rfl) rfl ?_
  have hS : isS s := hx.2.1
  have hs0 : s = 17 ∨ s = 80 := hS
  have hs0b : 17 ≤ s ∧ s ≤ 80 := by omega
  have k0 : kF (FB s) s h h := kF_0 hx
  have ga1 : a1 = s + 7 ∨ a1 = s + 21 ∨ a1 = s + 35 ∨ a1 = s + 49 := ta1
  have ga1b : s + 7 ≤ a1 ∧ a1 ≤ s + 49 := by omega
  obtain ⟨sd1, esd1⟩ : ∃ x, x = h.2.1 9 8 := ⟨_, rfl⟩
  have rsd1 : 0 ≤ sd1 ∧ sd1 ≤ 100000 := (by rw [esd1]; exact xi_g k0.1 (by decide) rgf_9_8)
  obtain ⟨sd2, esd2⟩ : ∃ x, x = h.2.1 9 10 := ⟨_, rfl⟩
  have rsd2 : 0 ≤ sd2 ∧ sd2 ≤ 100000 := (by rw [esd2]; exact xi_g k0.1 (by decide) rgf_9_10)
  obtain ⟨sd3, esd3⟩ : ∃ x, x = h.2.1 a1 16 := ⟨_, rfl⟩
  have rsd3 : 0 ≤ sd3 ∧ sd3 ≤ 101 := (by rw [esd3]; exact xi_g k0.1 (lt1_V (tV_V hS ta1)) (rg_V_16 (tV_V hS ta1)))
  refine A_aload_n 0 d_Parts_walkRepeat_0 rfl rfl ?_
  refine A_getAv (z := some 11) T_ok d_Parts_walkRepeat_1 f_Parts_15 (xi_s k0.1 sf_9) (xi_r k0.1 rff_9_1) ?_
  refine A_iload_n 2 d_Parts_walkRepeat_4 rfl rfl ?_
  refine A_ialoadn (lo := 0) (hi := 1999) d_Parts_walkRepeat_5 (xi_s k0.1 sf_11) (by omega) (by omega) (xi_g k0.1 (by decide) (rgf_11 _)) (fun x5 ex5 _ _ => ?_)
  refine A_istore (L' := [some (av_R (some 9)), some (av_R (some a1)), some (av_I a2), some (av_I a3), some (av_L a4), none, some (av_L a5), none, some (av_I x5), none, none]) d_Parts_walkRepeat_6 (Nat.le_of_ble_eq_true rfl) rfl ?_
  refine A_pc (pc' := 8) rfl ?_
  refine A_aload_n 0 d_Parts_walkRepeat_8 rfl rfl ?_
  refine A_getAv (z := some 10) T_ok d_Parts_walkRepeat_9 f_Parts_9 (xi_s k0.1 sf_9) (xi_r k0.1 rff_9_0) ?_
  refine A_iload d_Parts_walkRepeat_12 rfl ?_
  refine A_ialoadf d_Parts_walkRepeat_14 (xi_s k0.1 sf_10) (by omega) (by omega) (fun x7 ex7 _ _ => ?_)
  refine A_bipush d_Parts_walkRepeat_15 rfl ?_
  refine A_icmp_eq (tgt := 77) d_Parts_walkRepeat_17 (by decide) (fun c8 => ?_) (fun c8 => ?_)
  · refine A_iload d_Parts_walkRepeat_77 rfl ?_
    refine A_istore (L' := [some (av_R (some 9)), some (av_R (some a1)), some (av_I a2), some (av_I a3), some (av_L a4), none, some (av_L a5), none, some (av_I x5), some (av_I x5), none]) d_Parts_walkRepeat_79 (Nat.le_of_ble_eq_true rfl) rfl ?_
    refine A_iconst d_Parts_walkRepeat_81 rfl ?_
    refine A_istore (L' := [some (av_R (some 9)), some (av_R (some a1)), some (av_I a2), some (av_I a3), some (av_L a4), none, some (av_L a5), none, some (av_I x5), some (av_I x5), some (av_I 0)]) d_Parts_walkRepeat_82 (Nat.le_of_ble_eq_true rfl) rfl ?_
    have lp84 : ∀ (n : Nat) (i9 i10 : Int) (h11 : ah_T) , 0 ≤ i9 → i9 ≤ 1999 → 0 ≤ i10 → i10 ≤ 2000 → (h11.2.1 9 10 ≤ h11.2.1 9 8 ∧ h11.2.1 a1 16 ≤ h11.2.1 9 10 + 1) ∧ h11.2.1 9 8 ≤ 6001 + i10 → kF (FB s) s h h11 → (2001 - i10).toNat < n → aw G (rm_R 9 0 0) m_Parts_walkRepeat 0 0 84 [some (av_R (some 9)), some (av_R (some a1)), some (av_I a2), some (av_I a3), some (av_L a4), none, some (av_L a5), none, some (av_I x5), some (av_I i9), some (av_I i10)] [] h11 (fun r h' => ∃ z, r = some (av_I z) ∧ (0 ≤ z ∧ z ≤ 1999) ∧ ((h'.2.1 9 10 ≤ h'.2.1 9 8 ∧ h'.2.1 a1 16 ≤ h'.2.1 9 10 + 1) ∧ h'.2.1 9 8 ≤ 8001) ∧ kF (FB s) s h h') := by
      intro n
      induction n with
      | zero => intro i9 i10 h11 _ _ _ _ _ _ hm; omega
      | succ n ih84 =>
        intro i9 i10 h11 hl0 hl1 hl2 hl3 hinv k12 hm
        obtain ⟨sd13, esd13⟩ : ∃ x, x = h11.2.1 9 8 := ⟨_, rfl⟩
        have rsd13 : 0 ≤ sd13 ∧ sd13 ≤ 100000 := (by rw [esd13]; exact xi_g k12.1 (by decide) rgf_9_8)
        obtain ⟨sd14, esd14⟩ : ∃ x, x = h11.2.1 9 10 := ⟨_, rfl⟩
        have rsd14 : 0 ≤ sd14 ∧ sd14 ≤ 100000 := (by rw [esd14]; exact xi_g k12.1 (by decide) rgf_9_10)
        obtain ⟨sd15, esd15⟩ : ∃ x, x = h11.2.1 a1 16 := ⟨_, rfl⟩
        have rsd15 : 0 ≤ sd15 ∧ sd15 ≤ 101 := (by rw [esd15]; exact xi_g k12.1 (lt1_V (tV_V hS ta1)) (rg_V_16 (tV_V hS ta1)))
        refine A_iload d_Parts_walkRepeat_84 rfl ?_
        refine A_sipush d_Parts_walkRepeat_86 rfl ?_
        refine A_icmp_ge (tgt := 169) d_Parts_walkRepeat_89 (by decide) (fun c16 => ?_) (fun c16 => ?_)
        · refine A_iload d_Parts_walkRepeat_169 rfl ?_
          exact A_iret d_Parts_walkRepeat_171 (by decide) rfl ⟨_, rfl, ⟨by omega, by omega⟩, (by have qq0 := esd13.symm; have qq1 := esd14.symm; have qq2 := esd15.symm; exact ⟨⟨by omega, by omega⟩, by omega⟩), k12⟩
        · refine A_aload_n 0 d_Parts_walkRepeat_92 rfl rfl ?_
          refine A_getAv (z := some 10) T_ok d_Parts_walkRepeat_93 f_Parts_9 (xi_s k12.1 sf_9) (xi_r k12.1 rff_9_0) ?_
          refine A_iload d_Parts_walkRepeat_96 rfl ?_
          refine A_ialoadf d_Parts_walkRepeat_98 (xi_s k12.1 sf_10) (by omega) (by omega) (fun x18 ex18 _ _ => ?_)
          refine A_bipush d_Parts_walkRepeat_99 rfl ?_
          refine A_pc (pc' := 101) rfl ?_
          refine A_icmp_ne (tgt := 169) d_Parts_walkRepeat_101 (by decide) (fun c19 => ?_) (fun c19 => ?_)
          · refine A_iload d_Parts_walkRepeat_169 rfl ?_
            exact A_iret d_Parts_walkRepeat_171 (by decide) rfl ⟨_, rfl, ⟨by omega, by omega⟩, (by have qq0 := esd13.symm; have qq1 := esd14.symm; have qq2 := esd15.symm; exact ⟨⟨by omega, by omega⟩, by omega⟩), k12⟩
          · refine A_aload_n 0 d_Parts_walkRepeat_104 rfl rfl ?_
            refine A_dupR d_Parts_walkRepeat_105 ?_
            refine A_getIv (z := sd13) T_ok d_Parts_walkRepeat_106 f_Parts_46 (xi_s k12.1 sf_9) esd13.symm ?_
            refine A_iconst d_Parts_walkRepeat_109 rfl ?_
            refine A_iaddv (z := (sd13 + 1)) d_Parts_walkRepeat_110 (w32_to (by omega) (by unfold i32; omega)) ?_
            refine A_pc (pc' := 111) rfl ?_
            refine A_putIk (KR := kF (FB s) s h) T_ok d_Parts_walkRepeat_111 f_Parts_46 (xi_s k12.1 sf_9) fin_f (kF_j k12 (by omega) (ns_b rfl) rgf_9_8 (by omega) (by omega)) (fun h21 k22 eh21 => ?_)
            refine A_aload_n 0 d_Parts_walkRepeat_114 rfl rfl ?_
            refine A_aload_n 1 d_Parts_walkRepeat_115 rfl rfl ?_
            refine A_iload_n 2 d_Parts_walkRepeat_116 rfl rfl ?_
            refine A_iconst d_Parts_walkRepeat_117 rfl ?_
            refine A_iaddv (z := (a2 + 1)) d_Parts_walkRepeat_118 (w32_to (by omega) (by unfold i32; omega)) ?_
            refine A_pc (pc' := 119) rfl ?_
            refine A_iload d_Parts_walkRepeat_119 rfl ?_
            refine A_iload_n 3 d_Parts_walkRepeat_121 rfl rfl ?_
            refine A_iconst d_Parts_walkRepeat_122 rfl ?_
            refine A_iaddv (z := (a3 + 1)) d_Parts_walkRepeat_123 (w32_to (by omega) (by unfold i32; omega)) ?_
            refine A_lload d_Parts_walkRepeat_124 rfl ?_
            refine A_lload d_Parts_walkRepeat_126 rfl ?_
            refine A_pc (pc' := 128) rfl ?_
            have zf24 := eh21.2.1
            have zf25 := ((eh21.1 _ _ (fun _ => by decide)).trans esd14.symm)
            have zf26 := ((eh21.1 _ _ (fun q => by omega)).trans esd15.symm)
            refine A_callV6 m_Parts_walkThrough T_ok d_Parts_walkRepeat_128 l_Parts_59 k_Parts_walkThrough (xi_s k22.1 sf_9) rfl (by decide +kernel) (by decide) (Nat.le_of_ble_eq_true rfl) (s_Parts_walkThrough_6 k22.1 ta1 (by omega) (by omega) (by omega) (by omega) (by omega) (by omega) (by omega) (by omega) (by omega) (by omega) (by have qq0 := eh21.2.1; have qq1 := ((eh21.1 _ _ (fun _ => by decide)).trans esd14.symm); have qq2 := ((eh21.1 _ _ (fun q => by omega)).trans esd15.symm); exact ⟨by omega, by omega⟩)) (fun r h23 hq => ?_)
            obtain ⟨rfl, xk27, k27⟩ := hq
            have k28 := kF_t k22 k27 (fun _ q => q)
            obtain ⟨sd29, esd29⟩ : ∃ x, x = h23.2.1 9 8 := ⟨_, rfl⟩
            have rsd29 : 0 ≤ sd29 ∧ sd29 ≤ 100000 := (by rw [esd29]; exact xi_g k28.1 (by decide) rgf_9_8)
            obtain ⟨sd30, esd30⟩ : ∃ x, x = h23.2.1 9 10 := ⟨_, rfl⟩
            have rsd30 : 0 ≤ sd30 ∧ sd30 ≤ 100000 := (by rw [esd30]; exact xi_g k28.1 (by decide) rgf_9_10)
            obtain ⟨sd31, esd31⟩ : ∃ x, x = h23.2.1 a1 16 := ⟨_, rfl⟩
            have rsd31 : 0 ≤ sd31 ∧ sd31 ≤ 101 := (by rw [esd31]; exact xi_g k28.1 (lt1_V (tV_V hS ta1)) (rg_V_16 (tV_V hS ta1)))
            refine A_aload_n 0 d_Parts_walkRepeat_131 rfl rfl ?_
            refine A_aload_n 1 d_Parts_walkRepeat_132 rfl rfl ?_
            refine A_iload d_Parts_walkRepeat_133 rfl ?_
            refine A_iconst d_Parts_walkRepeat_135 rfl ?_
            refine A_iaddv (z := (i9 + 1)) d_Parts_walkRepeat_136 (w32_to (by omega) (by unfold i32; omega)) ?_
            refine A_pc (pc' := 137) rfl ?_
            refine A_aload_n 0 d_Parts_walkRepeat_137 rfl rfl ?_
            refine A_getAv (z := some 11) T_ok d_Parts_walkRepeat_138 f_Parts_15 (xi_s k28.1 sf_9) (xi_r k28.1 rff_9_1) ?_
            refine A_iload d_Parts_walkRepeat_141 rfl ?_
            refine A_ialoadn (lo := 0) (hi := 1999) d_Parts_walkRepeat_143 (xi_s k28.1 sf_11) (by omega) (by omega) (xi_g k28.1 (by decide) (rgf_11 _)) (fun x33 ex33 _ _ => ?_)
            refine A_iload_n 3 d_Parts_walkRepeat_144 rfl rfl ?_
            refine A_iconst d_Parts_walkRepeat_145 rfl ?_
            refine A_pc (pc' := 146) rfl ?_
            refine A_iaddv (z := (a3 + 1)) d_Parts_walkRepeat_146 (w32_to (by omega) (by unfold i32; omega)) ?_
            refine A_lload d_Parts_walkRepeat_147 rfl ?_
            refine A_lload d_Parts_walkRepeat_149 rfl ?_
            have zf35 := esd29.symm
            have zf36 := esd30.symm
            have zf37 := esd31.symm
            refine A_callV6 m_Parts_walkThrough T_ok d_Parts_walkRepeat_151 l_Parts_59 k_Parts_walkThrough (xi_s k28.1 sf_9) rfl (by decide +kernel) (by decide) (Nat.le_of_ble_eq_true rfl) (s_Parts_walkThrough_6 k28.1 ta1 (by omega) (by omega) (by omega) (by omega) (by omega) (by omega) (by omega) (by omega) (by omega) (by omega) (by have qq0 := esd29.symm; have qq1 := esd30.symm; have qq2 := esd31.symm; exact ⟨by omega, by omega⟩)) (fun r h34 hq => ?_)
            obtain ⟨rfl, xk38, k38⟩ := hq
            have k39 := kF_t k28 k38 (fun _ q => q)
            obtain ⟨sd40, esd40⟩ : ∃ x, x = h34.2.1 9 8 := ⟨_, rfl⟩
            have rsd40 : 0 ≤ sd40 ∧ sd40 ≤ 100000 := (by rw [esd40]; exact xi_g k39.1 (by decide) rgf_9_8)
            obtain ⟨sd41, esd41⟩ : ∃ x, x = h34.2.1 9 10 := ⟨_, rfl⟩
            have rsd41 : 0 ≤ sd41 ∧ sd41 ≤ 100000 := (by rw [esd41]; exact xi_g k39.1 (by decide) rgf_9_10)
            obtain ⟨sd42, esd42⟩ : ∃ x, x = h34.2.1 a1 16 := ⟨_, rfl⟩
            have rsd42 : 0 ≤ sd42 ∧ sd42 ≤ 101 := (by rw [esd42]; exact xi_g k39.1 (lt1_V (tV_V hS ta1)) (rg_V_16 (tV_V hS ta1)))
            refine A_aload_n 0 d_Parts_walkRepeat_154 rfl rfl ?_
            refine A_getAv (z := some 11) T_ok d_Parts_walkRepeat_155 f_Parts_15 (xi_s k39.1 sf_9) (xi_r k39.1 rff_9_1) ?_
            refine A_iload d_Parts_walkRepeat_158 rfl ?_
            refine A_ialoadn (lo := 0) (hi := 1999) d_Parts_walkRepeat_160 (xi_s k39.1 sf_11) (by omega) (by omega) (xi_g k39.1 (by decide) (rgf_11 _)) (fun x44 ex44 _ _ => ?_)
            refine A_istore (L' := [some (av_R (some 9)), some (av_R (some a1)), some (av_I a2), some (av_I a3), some (av_L a4), none, some (av_L a5), none, some (av_I x5), some (av_I x44), some (av_I i10)]) d_Parts_walkRepeat_161 (Nat.le_of_ble_eq_true rfl) rfl ?_
            refine A_pc (pc' := 163) rfl ?_
            refine A_iincv (z := (i10 + 1)) (L' := [some (av_R (some 9)), some (av_R (some a1)), some (av_I a2), some (av_I a3), some (av_L a4), none, some (av_L a5), none, some (av_I x5), some (av_I x44), some (av_I (i10 + 1))]) d_Parts_walkRepeat_163 rfl (w32_to (by omega) (by unfold i32; omega)) rfl ?_
            refine A_goto (tgt := 84) d_Parts_walkRepeat_166 (by decide) ?_
            exact ih84 x44 (i10 + 1) h34 (by omega) (by omega) (by omega) (by omega) (by have qq0 := esd40.symm; have qq1 := esd41.symm; have qq2 := esd42.symm; exact ⟨⟨by omega, by omega⟩, by omega⟩) k39 (by omega)
    exact lp84 _ x5 0 h (by omega) (by omega) (by omega) (by omega) (by have qq0 := esd1.symm; have qq1 := esd2.symm; have qq2 := esd3.symm; exact ⟨⟨by omega, by omega⟩, by omega⟩) k0 (Nat.lt_succ_self _)
  · refine A_aload_n 0 d_Parts_walkRepeat_20 rfl rfl ?_
    refine A_dupR d_Parts_walkRepeat_21 ?_
    refine A_getIv (z := sd1) T_ok d_Parts_walkRepeat_22 f_Parts_46 (xi_s k0.1 sf_9) esd1.symm ?_
    refine A_iconst d_Parts_walkRepeat_25 rfl ?_
    refine A_iaddv (z := (sd1 + 1)) d_Parts_walkRepeat_26 (w32_to (by omega) (by unfold i32; omega)) ?_
    refine A_pc (pc' := 27) rfl ?_
    refine A_putIk (KR := kF (FB s) s h) T_ok d_Parts_walkRepeat_27 f_Parts_46 (xi_s k0.1 sf_9) fin_f (kF_j k0 (by omega) (ns_b rfl) rgf_9_8 (by omega) (by omega)) (fun h46 k47 eh46 => ?_)
    refine A_aload_n 0 d_Parts_walkRepeat_30 rfl rfl ?_
    refine A_aload_n 1 d_Parts_walkRepeat_31 rfl rfl ?_
    refine A_iload_n 2 d_Parts_walkRepeat_32 rfl rfl ?_
    refine A_iconst d_Parts_walkRepeat_33 rfl ?_
    refine A_iaddv (z := (a2 + 1)) d_Parts_walkRepeat_34 (w32_to (by omega) (by unfold i32; omega)) ?_
    refine A_pc (pc' := 35) rfl ?_
    refine A_iload d_Parts_walkRepeat_35 rfl ?_
    refine A_iload_n 3 d_Parts_walkRepeat_37 rfl rfl ?_
    refine A_iconst d_Parts_walkRepeat_38 rfl ?_
    refine A_iaddv (z := (a3 + 1)) d_Parts_walkRepeat_39 (w32_to (by omega) (by unfold i32; omega)) ?_
    refine A_lload d_Parts_walkRepeat_40 rfl ?_
    refine A_lload d_Parts_walkRepeat_42 rfl ?_
    refine A_pc (pc' := 44) rfl ?_
    have zf49 := eh46.2.1
    have zf50 := ((eh46.1 _ _ (fun _ => by decide)).trans esd2.symm)
    have zf51 := ((eh46.1 _ _ (fun q => by omega)).trans esd3.symm)
    refine A_callV6 m_Parts_walkThrough T_ok d_Parts_walkRepeat_44 l_Parts_59 k_Parts_walkThrough (xi_s k47.1 sf_9) rfl (by decide +kernel) (by decide) (Nat.le_of_ble_eq_true rfl) (s_Parts_walkThrough_6 k47.1 ta1 (by omega) (by omega) (by omega) (by omega) (by omega) (by omega) (by omega) (by omega) (by omega) (by omega) (by have qq0 := eh46.2.1; have qq1 := ((eh46.1 _ _ (fun _ => by decide)).trans esd2.symm); have qq2 := ((eh46.1 _ _ (fun q => by omega)).trans esd3.symm); exact ⟨by omega, by omega⟩)) (fun r h48 hq => ?_)
    obtain ⟨rfl, xk52, k52⟩ := hq
    have k53 := kF_t k47 k52 (fun _ q => q)
    obtain ⟨sd54, esd54⟩ : ∃ x, x = h48.2.1 9 8 := ⟨_, rfl⟩
    have rsd54 : 0 ≤ sd54 ∧ sd54 ≤ 100000 := (by rw [esd54]; exact xi_g k53.1 (by decide) rgf_9_8)
    obtain ⟨sd55, esd55⟩ : ∃ x, x = h48.2.1 9 10 := ⟨_, rfl⟩
    have rsd55 : 0 ≤ sd55 ∧ sd55 ≤ 100000 := (by rw [esd55]; exact xi_g k53.1 (by decide) rgf_9_10)
    obtain ⟨sd56, esd56⟩ : ∃ x, x = h48.2.1 a1 16 := ⟨_, rfl⟩
    have rsd56 : 0 ≤ sd56 ∧ sd56 ≤ 101 := (by rw [esd56]; exact xi_g k53.1 (lt1_V (tV_V hS ta1)) (rg_V_16 (tV_V hS ta1)))
    refine A_aload_n 0 d_Parts_walkRepeat_47 rfl rfl ?_
    refine A_dupR d_Parts_walkRepeat_48 ?_
    refine A_getIv (z := sd54) T_ok d_Parts_walkRepeat_49 f_Parts_46 (xi_s k53.1 sf_9) esd54.symm ?_
    refine A_iconst d_Parts_walkRepeat_52 rfl ?_
    refine A_iaddv (z := (sd54 + 1)) d_Parts_walkRepeat_53 (w32_to (by omega) (by unfold i32; omega)) ?_
    refine A_pc (pc' := 54) rfl ?_
    refine A_putIk (KR := kF (FB s) s h) T_ok d_Parts_walkRepeat_54 f_Parts_46 (xi_s k53.1 sf_9) fin_f (kF_j k53 (by omega) (ns_b rfl) rgf_9_8 (by omega) (by omega)) (fun h58 k59 eh58 => ?_)
    refine A_aload_n 0 d_Parts_walkRepeat_57 rfl rfl ?_
    refine A_aload_n 1 d_Parts_walkRepeat_58 rfl rfl ?_
    refine A_iload_n 2 d_Parts_walkRepeat_59 rfl rfl ?_
    refine A_iconst d_Parts_walkRepeat_60 rfl ?_
    refine A_iaddv (z := (a2 + 1)) d_Parts_walkRepeat_61 (w32_to (by omega) (by unfold i32; omega)) ?_
    refine A_pc (pc' := 62) rfl ?_
    refine A_iload d_Parts_walkRepeat_62 rfl ?_
    refine A_iload_n 3 d_Parts_walkRepeat_64 rfl rfl ?_
    refine A_iconst d_Parts_walkRepeat_65 rfl ?_
    refine A_iaddv (z := (a3 + 1)) d_Parts_walkRepeat_66 (w32_to (by omega) (by unfold i32; omega)) ?_
    refine A_lload d_Parts_walkRepeat_67 rfl ?_
    refine A_lload d_Parts_walkRepeat_69 rfl ?_
    refine A_pc (pc' := 71) rfl ?_
    have zf61 := eh58.2.1
    have zf62 := ((eh58.1 _ _ (fun _ => by decide)).trans esd55.symm)
    have zf63 := ((eh58.1 _ _ (fun q => by omega)).trans esd56.symm)
    refine A_callV6 m_Parts_walkThrough T_ok d_Parts_walkRepeat_71 l_Parts_59 k_Parts_walkThrough (xi_s k59.1 sf_9) rfl (by decide +kernel) (by decide) (Nat.le_of_ble_eq_true rfl) (s_Parts_walkThrough_6 k59.1 ta1 (by omega) (by omega) (by omega) (by omega) (by omega) (by omega) (by omega) (by omega) (by omega) (by omega) (by have qq0 := eh58.2.1; have qq1 := ((eh58.1 _ _ (fun _ => by decide)).trans esd55.symm); have qq2 := ((eh58.1 _ _ (fun q => by omega)).trans esd56.symm); exact ⟨by omega, by omega⟩)) (fun r h60 hq => ?_)
    obtain ⟨rfl, xk64, k64⟩ := hq
    have k65 := kF_t k59 k64 (fun _ q => q)
    obtain ⟨sd66, esd66⟩ : ∃ x, x = h60.2.1 9 8 := ⟨_, rfl⟩
    have rsd66 : 0 ≤ sd66 ∧ sd66 ≤ 100000 := (by rw [esd66]; exact xi_g k65.1 (by decide) rgf_9_8)
    obtain ⟨sd67, esd67⟩ : ∃ x, x = h60.2.1 9 10 := ⟨_, rfl⟩
    have rsd67 : 0 ≤ sd67 ∧ sd67 ≤ 100000 := (by rw [esd67]; exact xi_g k65.1 (by decide) rgf_9_10)
    obtain ⟨sd68, esd68⟩ : ∃ x, x = h60.2.1 a1 16 := ⟨_, rfl⟩
    have rsd68 : 0 ≤ sd68 ∧ sd68 ≤ 101 := (by rw [esd68]; exact xi_g k65.1 (lt1_V (tV_V hS ta1)) (rg_V_16 (tV_V hS ta1)))
    refine A_iload d_Parts_walkRepeat_74 rfl ?_
    exact A_iret d_Parts_walkRepeat_76 (by decide) rfl ⟨_, rfl, ⟨by omega, by omega⟩, (by have qq0 := esd66.symm; have qq1 := esd67.symm; have qq2 := esd68.symm; exact ⟨⟨by omega, by omega⟩, by omega⟩), k65⟩
theorem s_Parts_walkThrough_5 {G : cx_T} {s : Nat} {h : ah_T} (hx : xi s h) {a1 : Nat} {a2 : Int} {a3 : Int} {a4 : Int} {a5 : Int} {a6 : Int} (ta1 : tV s a1) (la2 : 0 ≤ a2) (ua2 : a2 ≤ 2000) (la3 : 0 ≤ a3) (ua3 : a3 ≤ 2000) (la4 : 5 ≤ a4) (ua4 : a4 ≤ 5) (la5 : 1 ≤ a5) (ua5 : a5 ≤ 1048576) (la6 : 0 ≤ a6) (ua6 : a6 ≤ 1048576) (hJ : h.2.1 9 10 ≤ h.2.1 9 8 ∧ h.2.1 a1 16 ≤ h.2.1 9 10 + 1) : con G 10 0 0 m_Parts_walkThrough [av_R (some 9), av_R (some a1), av_I a2, av_I a3, av_I a4, av_L a5, av_L a6] h (fun r h' => r = none ∧ ((h'.2.1 9 10 ≤ h'.2.1 9 8 ∧ h'.2.1 a1 16 ≤ h'.2.1 9 10 + 1) ∧ (h'.2.1 9 8 ≤ h.2.1 9 8 ∨ h'.2.1 9 8 ≤ 8001)) ∧ kF (FB s) s h h') := by
  refine con_of (L := [some (av_R (some 9)), some (av_R (some a1)), some (av_I a2), some (av_I a3), some (av_I a4), some (av_L a5), none, some (av_L a6), none, none, none]) (by decide +kernel) (Nat.le_of_ble_eq_true rfl) rfl ?_
  have hS : isS s := hx.2.1
  have hs0 : s = 17 ∨ s = 80 := hS
  have hs0b : 17 ≤ s ∧ s ≤ 80 := by omega
  have k0 : kF (FB s) s h h := kF_0 hx
  have ga1 : a1 = s + 7 ∨ a1 = s + 21 ∨ a1 = s + 35 ∨ a1 = s + 49 := ta1
  have ga1b : s + 7 ≤ a1 ∧ a1 ≤ s + 49 := by omega
  obtain ⟨sd1, esd1⟩ : ∃ x, x = h.2.1 9 8 := ⟨_, rfl⟩
  have rsd1 : 0 ≤ sd1 ∧ sd1 ≤ 100000 := (by rw [esd1]; exact xi_g k0.1 (by decide) rgf_9_8)
  obtain ⟨sd2, esd2⟩ : ∃ x, x = h.2.1 9 10 := ⟨_, rfl⟩
  have rsd2 : 0 ≤ sd2 ∧ sd2 ≤ 100000 := (by rw [esd2]; exact xi_g k0.1 (by decide) rgf_9_10)
  obtain ⟨sd3, esd3⟩ : ∃ x, x = h.2.1 a1 16 := ⟨_, rfl⟩
  have rsd3 : 0 ≤ sd3 ∧ sd3 ≤ 101 := (by rw [esd3]; exact xi_g k0.1 (lt1_V (tV_V hS ta1)) (rg_V_16 (tV_V hS ta1)))
  refine A_iload d_Parts_walkThrough_0 rfl ?_
  refine A_bipush d_Parts_walkThrough_2 rfl ?_
  refine A_icmp_le (tgt := 8) d_Parts_walkThrough_4 (by decide) (fun c4 => ?_) (fun c => False.elim (by omega))
  refine A_iload_n 2 d_Parts_walkThrough_8 rfl rfl ?_
  refine A_istore (L' := [some (av_R (some 9)), some (av_R (some a1)), some (av_I a2), some (av_I a3), some (av_I a4), some (av_L a5), none, some (av_L a6), none, some (av_I a2), none]) d_Parts_walkThrough_9 (Nat.le_of_ble_eq_true rfl) rfl ?_
  have lp11 : ∀ (n : Nat) (i5 : Int) (h6 : ah_T) , 0 ≤ i5 → i5 ≤ 2000 → (h6.2.1 9 10 ≤ h6.2.1 9 8 ∧ h6.2.1 a1 16 ≤ h6.2.1 9 10 + 1) ∧ (h6.2.1 9 8 ≤ h.2.1 9 8 ∨ h6.2.1 9 8 ≤ 8001) → kF (FB s) s h h6 → (2001 - i5).toNat < n → aw G (rm_R 10 0 0) m_Parts_walkThrough 0 0 11 [some (av_R (some 9)), some (av_R (some a1)), some (av_I a2), some (av_I a3), some (av_I a4), some (av_L a5), none, some (av_L a6), none, some (av_I i5), none] [] h6 (fun r h' => r = none ∧ ((h'.2.1 9 10 ≤ h'.2.1 9 8 ∧ h'.2.1 a1 16 ≤ h'.2.1 9 10 + 1) ∧ (h'.2.1 9 8 ≤ h.2.1 9 8 ∨ h'.2.1 9 8 ≤ 8001)) ∧ kF (FB s) s h h') := by
    intro n
    induction n with
    | zero => intro i5 h6 _ _ _ _ hm; omega
    | succ n ih11 =>
      intro i5 h6 hl0 hl1 hinv k7 hm
      obtain ⟨sd8, esd8⟩ : ∃ x, x = h6.2.1 9 8 := ⟨_, rfl⟩
      have rsd8 : 0 ≤ sd8 ∧ sd8 ≤ 100000 := (by rw [esd8]; exact xi_g k7.1 (by decide) rgf_9_8)
      obtain ⟨sd9, esd9⟩ : ∃ x, x = h6.2.1 9 10 := ⟨_, rfl⟩
      have rsd9 : 0 ≤ sd9 ∧ sd9 ≤ 100000 := (by rw [esd9]; exact xi_g k7.1 (by decide) rgf_9_10)
      obtain ⟨sd10, esd10⟩ : ∃ x, x = h6.2.1 a1 16 := ⟨_, rfl⟩
      have rsd10 : 0 ≤ sd10 ∧ sd10 ≤ 101 := (by rw [esd10]; exact xi_g k7.1 (lt1_V (tV_V hS ta1)) (rg_V_16 (tV_V hS ta1)))
      refine A_iload d_Parts_walkThrough_11 rfl ?_
      refine A_iload_n 3 d_Parts_walkThrough_13 rfl rfl ?_
      refine A_icmp_ge (tgt := 218) d_Parts_walkThrough_14 (by decide) (fun c11 => ?_) (fun c11 => ?_)
      · exact A_vret d_Parts_walkThrough_218 (by decide) rfl ⟨rfl, (by have qq0 := esd8.symm; have qq1 := esd9.symm; have qq2 := esd10.symm; exact ⟨⟨by omega, by omega⟩, by omega⟩), k7⟩
      · refine A_iload d_Parts_walkThrough_17 rfl ?_
        refine A_aload_n 0 d_Parts_walkThrough_19 rfl rfl ?_
        refine A_getIn (lo := 0) (hi := 2000) T_ok d_Parts_walkThrough_20 f_Parts_30 (xi_s k7.1 sf_9) (xi_g k7.1 (by decide) rgf_9_4) (fun x12 ex12 _ _ => ?_)
        refine A_icmp_ge (tgt := 218) d_Parts_walkThrough_23 (by decide) (fun c13 => ?_) (fun c13 => ?_)
        · exact A_vret d_Parts_walkThrough_218 (by decide) rfl ⟨rfl, (by have qq0 := esd8.symm; have qq1 := esd9.symm; have qq2 := esd10.symm; exact ⟨⟨by omega, by omega⟩, by omega⟩), k7⟩
        · refine A_aload_n 0 d_Parts_walkThrough_26 rfl rfl ?_
          refine A_getIv (z := sd8) T_ok d_Parts_walkThrough_27 f_Parts_46 (xi_s k7.1 sf_9) esd8.symm ?_
          refine A_sipush d_Parts_walkThrough_30 rfl ?_
          refine A_icmp_gt (tgt := 218) d_Parts_walkThrough_33 (by decide) (fun c15 => ?_) (fun c15 => ?_)
          · exact A_vret d_Parts_walkThrough_218 (by decide) rfl ⟨rfl, (by have qq0 := esd8.symm; have qq1 := esd9.symm; have qq2 := esd10.symm; exact ⟨⟨by omega, by omega⟩, by omega⟩), k7⟩
          · refine A_aload_n 0 d_Parts_walkThrough_36 rfl rfl ?_
            refine A_dupR d_Parts_walkThrough_37 ?_
            refine A_getIv (z := sd8) T_ok d_Parts_walkThrough_38 f_Parts_46 (xi_s k7.1 sf_9) esd8.symm ?_
            refine A_iconst d_Parts_walkThrough_41 rfl ?_
            refine A_iaddv (z := (sd8 + 1)) d_Parts_walkThrough_42 (w32_to (by omega) (by unfold i32; omega)) ?_
            refine A_pc (pc' := 43) rfl ?_
            refine A_putIk (KR := kF (FB s) s h) T_ok d_Parts_walkThrough_43 f_Parts_46 (xi_s k7.1 sf_9) fin_f (kF_j k7 (by omega) (ns_b rfl) rgf_9_8 (by omega) (by omega)) (fun h17 k18 eh17 => ?_)
            refine A_aload_n 0 d_Parts_walkThrough_46 rfl rfl ?_
            refine A_getAv (z := some 10) T_ok d_Parts_walkThrough_47 f_Parts_9 (xi_s k18.1 sf_9) (xi_r k18.1 rff_9_0) ?_
            refine A_iload d_Parts_walkThrough_50 rfl ?_
            refine A_ialoadf d_Parts_walkThrough_52 (xi_s k18.1 sf_10) (by omega) (by omega) (fun x20 ex20 _ _ => ?_)
            refine A_istore (L' := [some (av_R (some 9)), some (av_R (some a1)), some (av_I a2), some (av_I a3), some (av_I a4), some (av_L a5), none, some (av_L a6), none, some (av_I i5), some (av_I x20)]) d_Parts_walkThrough_53 (Nat.le_of_ble_eq_true rfl) rfl ?_
            refine A_pc (pc' := 55) rfl ?_
            refine A_iload d_Parts_walkThrough_55 rfl ?_
            refine A_bipush d_Parts_walkThrough_57 rfl ?_
            refine A_icmp_ne (tgt := 85) d_Parts_walkThrough_59 (by decide) (fun c21 => ?_) (fun c21 => ?_)
            · refine A_iload d_Parts_walkThrough_85 rfl ?_
              refine A_bipush d_Parts_walkThrough_87 rfl ?_
              refine A_icmp_ne (tgt := 151) d_Parts_walkThrough_89 (by decide) (fun c22 => ?_) (fun c22 => ?_)
              · refine A_iload d_Parts_walkThrough_151 rfl ?_
                refine A_bipush d_Parts_walkThrough_153 rfl ?_
                refine A_icmp_ne (tgt := 166) d_Parts_walkThrough_155 (by decide) (fun c23 => ?_) (fun c23 => ?_)
                · refine A_aload_n 0 d_Parts_walkThrough_166 rfl rfl ?_
                  refine A_dupR d_Parts_walkThrough_167 ?_
                  refine A_getIf T_ok d_Parts_walkThrough_168 f_Parts_49 (xi_s k18.1 sf_9) (fun x24 ex24 _ _ => ?_)
                  refine A_iconst d_Parts_walkThrough_171 rfl ?_
                  refine A_iaddw d_Parts_walkThrough_172 (fun x25 _ _ _ => ?_)
                  refine A_pc (pc' := 173) rfl ?_
                  refine A_putIk (KR := kF (FB s) s h) T_ok d_Parts_walkThrough_173 f_Parts_49 (xi_s k18.1 sf_9) fin_f (kF_j k18 (by omega) (ns_b rfl) rgf_9_9 (by omega) (by omega)) (fun h26 k27 eh26 => ?_)
                  refine A_aload_n 0 d_Parts_walkThrough_176 rfl rfl ?_
                  refine A_getIv (z := x25) T_ok d_Parts_walkThrough_177 f_Parts_49 (xi_s k27.1 sf_9) eh26.2.1 ?_
                  refine A_sipush d_Parts_walkThrough_180 rfl ?_
                  refine A_icmp_gt (tgt := 212) d_Parts_walkThrough_183 (by decide) (fun c29 => ?_) (fun c29 => ?_)
                  · refine A_iincv (z := (i5 + 1)) (L' := [some (av_R (some 9)), some (av_R (some a1)), some (av_I a2), some (av_I a3), some (av_I a4), some (av_L a5), none, some (av_L a6), none, some (av_I (i5 + 1)), some (av_I x20)]) d_Parts_walkThrough_212 rfl (w32_to (by omega) (by unfold i32; omega)) rfl ?_
                    refine A_goto (tgt := 11) d_Parts_walkThrough_215 (by decide) ?_
                    refine A_free (L' := [some (av_R (some 9)), some (av_R (some a1)), some (av_I a2), some (av_I a3), some (av_I a4), some (av_L a5), none, some (av_L a6), none, some (av_I (i5 + 1)), none]) (And.intro rfl (And.intro rfl (And.intro rfl (And.intro rfl (And.intro rfl (And.intro rfl (And.intro rfl (And.intro rfl trivial)))))))) ?_
                    exact ih11 (i5 + 1) h26 (by omega) (by omega) (by have qq0 := ((eh26.1 _ _ (fun _ => by decide)).trans eh17.2.1); have qq1 := ((eh26.1 _ _ (fun _ => by decide)).trans ((eh17.1 _ _ (fun _ => by decide)).trans esd9.symm)); have qq2 := ((eh26.1 _ _ (fun q => by omega)).trans ((eh17.1 _ _ (fun q => by omega)).trans esd10.symm)); exact ⟨⟨by omega, by omega⟩, by omega⟩) k27 (by omega)
                  · refine A_aload_n 0 d_Parts_walkThrough_186 rfl rfl ?_
                    refine A_getZn T_ok d_Parts_walkThrough_187 f_Parts_55 (xi_s k27.1 sf_9) (fun x30 ex30 bx30 => ?_)
                    refine A_if_eq (tgt := 212) d_Parts_walkThrough_190 (by decide) (fun c31 => ?_) (fun c31 => ?_)
                    · refine A_iincv (z := (i5 + 1)) (L' := [some (av_R (some 9)), some (av_R (some a1)), some (av_I a2), some (av_I a3), some (av_I a4), some (av_L a5), none, some (av_L a6), none, some (av_I (i5 + 1)), some (av_I x20)]) d_Parts_walkThrough_212 rfl (w32_to (by omega) (by unfold i32; omega)) rfl ?_
                      refine A_goto (tgt := 11) d_Parts_walkThrough_215 (by decide) ?_
                      refine A_free (L' := [some (av_R (some 9)), some (av_R (some a1)), some (av_I a2), some (av_I a3), some (av_I a4), some (av_L a5), none, some (av_L a6), none, some (av_I (i5 + 1)), none]) (And.intro rfl (And.intro rfl (And.intro rfl (And.intro rfl (And.intro rfl (And.intro rfl (And.intro rfl (And.intro rfl trivial)))))))) ?_
                      exact ih11 (i5 + 1) h26 (by omega) (by omega) (by have qq0 := ((eh26.1 _ _ (fun _ => by decide)).trans eh17.2.1); have qq1 := ((eh26.1 _ _ (fun _ => by decide)).trans ((eh17.1 _ _ (fun _ => by decide)).trans esd9.symm)); have qq2 := ((eh26.1 _ _ (fun q => by omega)).trans ((eh17.1 _ _ (fun q => by omega)).trans esd10.symm)); exact ⟨⟨by omega, by omega⟩, by omega⟩) k27 (by omega)
                    · refine A_aload_n 0 d_Parts_walkThrough_193 rfl rfl ?_
                      refine A_aload_n 1 d_Parts_walkThrough_194 rfl rfl ?_
                      refine A_aload_n 0 d_Parts_walkThrough_195 rfl rfl ?_
                      refine A_getAv (z := some 12) T_ok d_Parts_walkThrough_196 f_Parts_18 (xi_s k27.1 sf_9) (xi_r k27.1 rff_9_2) ?_
                      refine A_iload d_Parts_walkThrough_199 rfl ?_
                      refine A_pc (pc' := 201) rfl ?_
                      refine A_ialoadn (lo := 0) (hi := 300) d_Parts_walkThrough_201 (xi_s k27.1 sf_12) (by omega) (by omega) (xi_g k27.1 (by decide) (rgf_12 _)) (fun x33 ex33 _ _ => ?_)
                      refine A_lload d_Parts_walkThrough_202 rfl ?_
                      refine A_lload d_Parts_walkThrough_204 rfl ?_
                      have zf35 := ((eh26.1 _ _ (fun _ => by decide)).trans eh17.2.1)
                      have zf36 := ((eh26.1 _ _ (fun _ => by decide)).trans ((eh17.1 _ _ (fun _ => by decide)).trans esd9.symm))
                      have zf37 := ((eh26.1 _ _ (fun q => by omega)).trans ((eh17.1 _ _ (fun q => by omega)).trans esd10.symm))
                      refine A_callV3 m_Voice_addEvent T_ok d_Parts_walkThrough_206 l_Parts_80 k_Voice_addEvent (xs_V k27.1 (tV_V hS ta1)) rfl (by decide +kernel) (by decide) (Nat.le_of_ble_eq_true rfl) (s_Voice_addEvent k27.1 ta1 (by omega) (by omega) (by omega) (by omega)) (fun r h34 hq => ?_)
                      obtain ⟨x39, rfl, bx39, xx39, k38⟩ := hq
                      have k40 := kF_t k27 k38 (fun _ q => q)
                      obtain ⟨sd41, esd41⟩ : ∃ x, x = h34.2.1 9 8 := ⟨_, rfl⟩
                      have rsd41 : 0 ≤ sd41 ∧ sd41 ≤ 100000 := (by rw [esd41]; exact xi_g k40.1 (by decide) rgf_9_8)
                      obtain ⟨sd42, esd42⟩ : ∃ x, x = h34.2.1 9 10 := ⟨_, rfl⟩
                      have rsd42 : 0 ≤ sd42 ∧ sd42 ≤ 100000 := (by rw [esd42]; exact xi_g k40.1 (by decide) rgf_9_10)
                      obtain ⟨sd43, esd43⟩ : ∃ x, x = h34.2.1 a1 16 := ⟨_, rfl⟩
                      have rsd43 : 0 ≤ sd43 ∧ sd43 ≤ 101 := (by rw [esd43]; exact xi_g k40.1 (lt1_V (tV_V hS ta1)) (rg_V_16 (tV_V hS ta1)))
                      refine A_putZk (KR := kF (FB s) s h) T_ok d_Parts_walkThrough_209 f_Parts_55 (xi_s k40.1 sf_9) fin_f (by omega) (kF_j k40 (by omega) (ns_b rfl) rgf_9_11 (by omega) (by omega)) (fun h44 k45 eh44 => ?_)
                      refine A_iincv (z := (i5 + 1)) (L' := [some (av_R (some 9)), some (av_R (some a1)), some (av_I a2), some (av_I a3), some (av_I a4), some (av_L a5), none, some (av_L a6), none, some (av_I (i5 + 1)), some (av_I x20)]) d_Parts_walkThrough_212 rfl (w32_to (by omega) (by unfold i32; omega)) rfl ?_
                      refine A_goto (tgt := 11) d_Parts_walkThrough_215 (by decide) ?_
                      refine A_free (L' := [some (av_R (some 9)), some (av_R (some a1)), some (av_I a2), some (av_I a3), some (av_I a4), some (av_L a5), none, some (av_L a6), none, some (av_I (i5 + 1)), none]) (And.intro rfl (And.intro rfl (And.intro rfl (And.intro rfl (And.intro rfl (And.intro rfl (And.intro rfl (And.intro rfl trivial)))))))) ?_
                      exact ih11 (i5 + 1) h44 (by omega) (by omega) (by have qq0 := ((eh44.1 _ _ (fun _ => by decide)).trans esd41.symm); have qq1 := ((eh44.1 _ _ (fun _ => by decide)).trans esd42.symm); have qq2 := ((eh44.1 _ _ (fun q => by omega)).trans esd43.symm); exact ⟨⟨by omega, by omega⟩, by omega⟩) k45 (by omega)
                · refine A_aload_n 0 d_Parts_walkThrough_158 rfl rfl ?_
                  refine A_aload_n 1 d_Parts_walkThrough_159 rfl rfl ?_
                  have zf47 := eh17.2.1
                  have zf48 := ((eh17.1 _ _ (fun _ => by decide)).trans esd9.symm)
                  have zf49 := ((eh17.1 _ _ (fun q => by omega)).trans esd10.symm)
                  refine A_callV1 m_Parts_meetLine T_ok d_Parts_walkThrough_160 l_Parts_76 k_Parts_meetLine (xi_s k18.1 sf_9) rfl (by decide +kernel) (by decide) (Nat.le_of_ble_eq_true rfl) (s_Parts_meetLine k18.1 ta1 (by have qq0 := eh17.2.1; have qq1 := ((eh17.1 _ _ (fun _ => by decide)).trans esd9.symm); have qq2 := ((eh17.1 _ _ (fun q => by omega)).trans esd10.symm); exact ⟨by omega, by omega⟩)) (fun r h46 hq => ?_)
                  obtain ⟨rfl, xk50, k50⟩ := hq
                  have k51 := kF_t k18 k50 (fun _ q => q)
                  obtain ⟨sd52, esd52⟩ : ∃ x, x = h46.2.1 9 8 := ⟨_, rfl⟩
                  have rsd52 : 0 ≤ sd52 ∧ sd52 ≤ 100000 := (by rw [esd52]; exact xi_g k51.1 (by decide) rgf_9_8)
                  obtain ⟨sd53, esd53⟩ : ∃ x, x = h46.2.1 9 10 := ⟨_, rfl⟩
                  have rsd53 : 0 ≤ sd53 ∧ sd53 ≤ 100000 := (by rw [esd53]; exact xi_g k51.1 (by decide) rgf_9_10)
                  obtain ⟨sd54, esd54⟩ : ∃ x, x = h46.2.1 a1 16 := ⟨_, rfl⟩
                  have rsd54 : 0 ≤ sd54 ∧ sd54 ≤ 101 := (by rw [esd54]; exact xi_g k51.1 (lt1_V (tV_V hS ta1)) (rg_V_16 (tV_V hS ta1)))
                  refine A_goto (tgt := 212) d_Parts_walkThrough_163 (by decide) ?_
                  refine A_iincv (z := (i5 + 1)) (L' := [some (av_R (some 9)), some (av_R (some a1)), some (av_I a2), some (av_I a3), some (av_I a4), some (av_L a5), none, some (av_L a6), none, some (av_I (i5 + 1)), some (av_I x20)]) d_Parts_walkThrough_212 rfl (w32_to (by omega) (by unfold i32; omega)) rfl ?_
                  refine A_goto (tgt := 11) d_Parts_walkThrough_215 (by decide) ?_
                  refine A_free (L' := [some (av_R (some 9)), some (av_R (some a1)), some (av_I a2), some (av_I a3), some (av_I a4), some (av_L a5), none, some (av_L a6), none, some (av_I (i5 + 1)), none]) (And.intro rfl (And.intro rfl (And.intro rfl (And.intro rfl (And.intro rfl (And.intro rfl (And.intro rfl (And.intro rfl trivial)))))))) ?_
                  exact ih11 (i5 + 1) h46 (by omega) (by omega) (by have qq0 := esd52.symm; have qq1 := esd53.symm; have qq2 := esd54.symm; exact ⟨⟨by omega, by omega⟩, by omega⟩) k51 (by omega)
              · refine A_aload_n 0 d_Parts_walkThrough_92 rfl rfl ?_
                refine A_aload_n 1 d_Parts_walkThrough_93 rfl rfl ?_
                refine A_iload d_Parts_walkThrough_94 rfl ?_
                refine A_iconst d_Parts_walkThrough_96 rfl ?_
                refine A_iaddv (z := (i5 + 1)) d_Parts_walkThrough_97 (w32_to (by omega) (by unfold i32; omega)) ?_
                refine A_pc (pc' := 98) rfl ?_
                refine A_aload_n 0 d_Parts_walkThrough_98 rfl rfl ?_
                refine A_getAv (z := some 11) T_ok d_Parts_walkThrough_99 f_Parts_15 (xi_s k18.1 sf_9) (xi_r k18.1 rff_9_1) ?_
                refine A_iload d_Parts_walkThrough_102 rfl ?_
                refine A_ialoadn (lo := 0) (hi := 1999) d_Parts_walkThrough_104 (xi_s k18.1 sf_11) (by omega) (by omega) (xi_g k18.1 (by decide) (rgf_11 _)) (fun x56 ex56 _ _ => ?_)
                refine A_iload d_Parts_walkThrough_105 rfl ?_
                refine A_iconst d_Parts_walkThrough_107 rfl ?_
                refine A_pc (pc' := 108) rfl ?_
                refine A_iaddv (z := (a4 + 1)) d_Parts_walkThrough_108 (w32_to (by omega) (by unfold i32; omega)) ?_
                refine A_lload d_Parts_walkThrough_109 rfl ?_
                refine A_aload_n 0 d_Parts_walkThrough_111 rfl rfl ?_
                refine A_getAv (z := some 13) T_ok d_Parts_walkThrough_112 f_Parts_21 (xi_s k18.1 sf_9) (xi_r k18.1 rff_9_3) ?_
                refine A_iload d_Parts_walkThrough_115 rfl ?_
                refine A_ialoadn (lo := 0) (hi := 16) d_Parts_walkThrough_117 (xi_s k18.1 sf_13) (by omega) (by omega) (xi_g k18.1 (by decide) (rgf_13 _)) (fun x58 ex58 _ _ => ?_)
                have yx58 := sP_at (kF_sem k18).1 ex20.symm.symm (by omega) ((eh17.1 _ _ (fun _ => by decide)).trans ex12.symm) (by omega) (by omega)
                refine A_pc (pc' := 118) rfl ?_
                refine A_i2l d_Parts_walkThrough_118 ?_
                refine A_lmulw d_Parts_walkThrough_119 (fun x59 ex59 _ _ => ?_)
                have bx59 := mul_pp64 (ux := 1048576) (uy := 16) ex59 (by omega) (by omega) (by omega) (by omega) (by decide)
                refine A_lload d_Parts_walkThrough_120 rfl ?_
                refine A_aload_n 0 d_Parts_walkThrough_122 rfl rfl ?_
                refine A_getAv (z := some 12) T_ok d_Parts_walkThrough_123 f_Parts_18 (xi_s k18.1 sf_9) (xi_r k18.1 rff_9_2) ?_
                refine A_iload d_Parts_walkThrough_126 rfl ?_
                refine A_pc (pc' := 128) rfl ?_
                refine A_ialoadn (lo := 0) (hi := 300) d_Parts_walkThrough_128 (xi_s k18.1 sf_12) (by omega) (by omega) (xi_g k18.1 (by decide) (rgf_12 _)) (fun x61 ex61 _ _ => ?_)
                have yx61 := sP_at (kF_sem k18).1 ex20.symm.symm (by omega) ((eh17.1 _ _ (fun _ => by decide)).trans ex12.symm) (by omega) (by omega)
                refine A_i2l d_Parts_walkThrough_129 ?_
                refine A_lmulw d_Parts_walkThrough_130 (fun x62 ex62 _ _ => ?_)
                have bx62 := mul_nn64 (ux := 1048576) (uy := 16) ex62 (by omega) (by omega) (by omega) (by omega) (by decide)
                have zf64 := eh17.2.1
                have zf65 := ((eh17.1 _ _ (fun _ => by decide)).trans esd9.symm)
                have zf66 := ((eh17.1 _ _ (fun q => by omega)).trans esd10.symm)
                refine A_callV6 m_Parts_walkThrough T_ok d_Parts_walkThrough_131 l_Parts_59 k_Parts_walkThrough (xi_s k18.1 sf_9) rfl (by decide +kernel) (by decide) (Nat.le_of_ble_eq_true rfl) (s_Parts_walkThrough_6 k18.1 ta1 (by omega) (by omega) (by omega) (by omega) (by omega) (by omega) (by omega) (by omega) (by omega) (by omega) (by have qq0 := eh17.2.1; have qq1 := ((eh17.1 _ _ (fun _ => by decide)).trans esd9.symm); have qq2 := ((eh17.1 _ _ (fun q => by omega)).trans esd10.symm); exact ⟨by omega, by omega⟩)) (fun r h63 hq => ?_)
                obtain ⟨rfl, xk67, k67⟩ := hq
                have k68 := kF_t k18 k67 (fun _ q => q)
                obtain ⟨sd69, esd69⟩ : ∃ x, x = h63.2.1 9 8 := ⟨_, rfl⟩
                have rsd69 : 0 ≤ sd69 ∧ sd69 ≤ 100000 := (by rw [esd69]; exact xi_g k68.1 (by decide) rgf_9_8)
                obtain ⟨sd70, esd70⟩ : ∃ x, x = h63.2.1 9 10 := ⟨_, rfl⟩
                have rsd70 : 0 ≤ sd70 ∧ sd70 ≤ 100000 := (by rw [esd70]; exact xi_g k68.1 (by decide) rgf_9_10)
                obtain ⟨sd71, esd71⟩ : ∃ x, x = h63.2.1 a1 16 := ⟨_, rfl⟩
                have rsd71 : 0 ≤ sd71 ∧ sd71 ≤ 101 := (by rw [esd71]; exact xi_g k68.1 (lt1_V (tV_V hS ta1)) (rg_V_16 (tV_V hS ta1)))
                refine A_iload d_Parts_walkThrough_134 rfl ?_
                refine A_aload_n 0 d_Parts_walkThrough_136 rfl rfl ?_
                refine A_getAv (z := some 11) T_ok d_Parts_walkThrough_137 f_Parts_15 (xi_s k68.1 sf_9) (xi_r k68.1 rff_9_1) ?_
                refine A_iload d_Parts_walkThrough_140 rfl ?_
                refine A_ialoadn (lo := 0) (hi := 1999) d_Parts_walkThrough_142 (xi_s k68.1 sf_11) (by omega) (by omega) (xi_g k68.1 (by decide) (rgf_11 _)) (fun x73 ex73 _ _ => ?_)
                refine A_pc (pc' := 143) rfl ?_
                refine A_mmax d_Parts_walkThrough_143 lm_Parts_70 ma_max (by decide) (by decide) (Nat.le_of_ble_eq_true rfl) rfl ?_
                refine A_nrI (fun x74 ex74 _ _ => ?_)
                have bx74 := mmax_r ex74
                refine A_istore (L' := [some (av_R (some 9)), some (av_R (some a1)), some (av_I a2), some (av_I a3), some (av_I a4), some (av_L a5), none, some (av_L a6), none, some (av_I x74), some (av_I x20)]) d_Parts_walkThrough_146 (Nat.le_of_ble_eq_true rfl) rfl ?_
                refine A_goto (tgt := 212) d_Parts_walkThrough_148 (by decide) ?_
                refine A_iincv (z := (x74 + 1)) (L' := [some (av_R (some 9)), some (av_R (some a1)), some (av_I a2), some (av_I a3), some (av_I a4), some (av_L a5), none, some (av_L a6), none, some (av_I (x74 + 1)), some (av_I x20)]) d_Parts_walkThrough_212 rfl (w32_to (by omega) (by unfold i32; omega)) rfl ?_
                refine A_goto (tgt := 11) d_Parts_walkThrough_215 (by decide) ?_
                refine A_free (L' := [some (av_R (some 9)), some (av_R (some a1)), some (av_I a2), some (av_I a3), some (av_I a4), some (av_L a5), none, some (av_L a6), none, some (av_I (x74 + 1)), none]) (And.intro rfl (And.intro rfl (And.intro rfl (And.intro rfl (And.intro rfl (And.intro rfl (And.intro rfl (And.intro rfl trivial)))))))) ?_
                exact ih11 (x74 + 1) h63 (by omega) (by omega) (by have qq0 := esd69.symm; have qq1 := esd70.symm; have qq2 := esd71.symm; exact ⟨⟨by omega, by omega⟩, by omega⟩) k68 (by omega)
            · refine A_iload d_Parts_walkThrough_62 rfl ?_
              refine A_aload_n 0 d_Parts_walkThrough_64 rfl rfl ?_
              refine A_aload_n 1 d_Parts_walkThrough_65 rfl rfl ?_
              refine A_iload d_Parts_walkThrough_66 rfl ?_
              refine A_iload d_Parts_walkThrough_68 rfl ?_
              refine A_pc (pc' := 70) rfl ?_
              refine A_lload d_Parts_walkThrough_70 rfl ?_
              refine A_lload d_Parts_walkThrough_72 rfl ?_
              have zf76 := eh17.2.1
              have zf77 := ((eh17.1 _ _ (fun _ => by decide)).trans esd9.symm)
              have zf78 := ((eh17.1 _ _ (fun q => by omega)).trans esd10.symm)
              refine A_callV5 m_Parts_walkRepeat T_ok d_Parts_walkThrough_74 l_Parts_66 k_Parts_walkRepeat (xi_s k18.1 sf_9) rfl (by decide +kernel) (by decide) (Nat.le_of_ble_eq_true rfl) (s_Parts_walkRepeat_5 k18.1 ta1 (by omega) (by omega) (by omega) (by omega) (by omega) (by omega) (by omega) (by omega) (by have qq0 := eh17.2.1; have qq1 := ((eh17.1 _ _ (fun _ => by decide)).trans esd9.symm); have qq2 := ((eh17.1 _ _ (fun q => by omega)).trans esd10.symm); exact ⟨by omega, by omega⟩) (by have qq0 := eh17.2.1; have qq1 := ((eh17.1 _ _ (fun _ => by decide)).trans esd9.symm); omega)) (fun r h75 hq => ?_)
              obtain ⟨x80, rfl, ⟨_, _⟩, xx80, k79⟩ := hq
              have k81 := kF_t k18 k79 (fun _ q => q)
              obtain ⟨sd82, esd82⟩ : ∃ x, x = h75.2.1 9 8 := ⟨_, rfl⟩
              have rsd82 : 0 ≤ sd82 ∧ sd82 ≤ 100000 := (by rw [esd82]; exact xi_g k81.1 (by decide) rgf_9_8)
              obtain ⟨sd83, esd83⟩ : ∃ x, x = h75.2.1 9 10 := ⟨_, rfl⟩
              have rsd83 : 0 ≤ sd83 ∧ sd83 ≤ 100000 := (by rw [esd83]; exact xi_g k81.1 (by decide) rgf_9_10)
              obtain ⟨sd84, esd84⟩ : ∃ x, x = h75.2.1 a1 16 := ⟨_, rfl⟩
              have rsd84 : 0 ≤ sd84 ∧ sd84 ≤ 101 := (by rw [esd84]; exact xi_g k81.1 (lt1_V (tV_V hS ta1)) (rg_V_16 (tV_V hS ta1)))
              refine A_mmax d_Parts_walkThrough_77 lm_Parts_70 ma_max (by decide) (by decide) (Nat.le_of_ble_eq_true rfl) rfl ?_
              refine A_nrI (fun x85 ex85 _ _ => ?_)
              have bx85 := mmax_r ex85
              refine A_istore (L' := [some (av_R (some 9)), some (av_R (some a1)), some (av_I a2), some (av_I a3), some (av_I a4), some (av_L a5), none, some (av_L a6), none, some (av_I x85), some (av_I x20)]) d_Parts_walkThrough_80 (Nat.le_of_ble_eq_true rfl) rfl ?_
              refine A_goto (tgt := 212) d_Parts_walkThrough_82 (by decide) ?_
              refine A_iincv (z := (x85 + 1)) (L' := [some (av_R (some 9)), some (av_R (some a1)), some (av_I a2), some (av_I a3), some (av_I a4), some (av_L a5), none, some (av_L a6), none, some (av_I (x85 + 1)), some (av_I x20)]) d_Parts_walkThrough_212 rfl (w32_to (by omega) (by unfold i32; omega)) rfl ?_
              refine A_goto (tgt := 11) d_Parts_walkThrough_215 (by decide) ?_
              refine A_free (L' := [some (av_R (some 9)), some (av_R (some a1)), some (av_I a2), some (av_I a3), some (av_I a4), some (av_L a5), none, some (av_L a6), none, some (av_I (x85 + 1)), none]) (And.intro rfl (And.intro rfl (And.intro rfl (And.intro rfl (And.intro rfl (And.intro rfl (And.intro rfl (And.intro rfl trivial)))))))) ?_
              exact ih11 (x85 + 1) h75 (by omega) (by omega) (by have qq0 := esd82.symm; have qq1 := esd83.symm; have qq2 := esd84.symm; exact ⟨⟨by omega, by omega⟩, by omega⟩) k81 (by omega)
  exact lp11 _ a2 h (by omega) (by omega) (by have qq0 := esd1.symm; have qq1 := esd2.symm; have qq2 := esd3.symm; exact ⟨⟨by omega, by omega⟩, by omega⟩) k0 (Nat.lt_succ_self _)
theorem s_Parts_walkRepeat_4 {G : cx_T} {s : Nat} {h : ah_T} (hx : xi s h) {a1 : Nat} {a2 : Int} {a3 : Int} {a4 : Int} {a5 : Int} (ta1 : tV s a1) (la2 : 0 ≤ a2) (ua2 : a2 ≤ 1999) (la3 : 4 ≤ a3) (ua3 : a3 ≤ 4) (la4 : 1 ≤ a4) (ua4 : a4 ≤ 65536) (la5 : 0 ≤ a5) (ua5 : a5 ≤ 65536) (hJ : h.2.1 9 10 ≤ h.2.1 9 8 ∧ h.2.1 a1 16 ≤ h.2.1 9 10 + 1) (hS2 : h.2.1 9 8 ≤ 2001) : con G 11 0 0 m_Parts_walkRepeat [av_R (some 9), av_R (some a1), av_I a2, av_I a3, av_L a4, av_L a5] h (fun r h' => ∃ z, r = some (av_I z) ∧ (0 ≤ z ∧ z ≤ 1999) ∧ ((h'.2.1 9 10 ≤ h'.2.1 9 8 ∧ h'.2.1 a1 16 ≤ h'.2.1 9 10 + 1) ∧ h'.2.1 9 8 ≤ 10001) ∧ kF (FB s) s h h') := by
  refine con_of (L := [some (av_R (some 9)), some (av_R (some a1)), some (av_I a2), some (av_I a3), some (av_L a4), none, some (av_L a5), none, none, none, none]) (by decide +kernel) (Nat.le_of_ble_eq_true rfl) rfl ?_
  have hS : isS s := hx.2.1
  have hs0 : s = 17 ∨ s = 80 := hS
  have hs0b : 17 ≤ s ∧ s ≤ 80 := by omega
  have k0 : kF (FB s) s h h := kF_0 hx
  have ga1 : a1 = s + 7 ∨ a1 = s + 21 ∨ a1 = s + 35 ∨ a1 = s + 49 := ta1
  have ga1b : s + 7 ≤ a1 ∧ a1 ≤ s + 49 := by omega
  obtain ⟨sd1, esd1⟩ : ∃ x, x = h.2.1 9 8 := ⟨_, rfl⟩
  have rsd1 : 0 ≤ sd1 ∧ sd1 ≤ 100000 := (by rw [esd1]; exact xi_g k0.1 (by decide) rgf_9_8)
  obtain ⟨sd2, esd2⟩ : ∃ x, x = h.2.1 9 10 := ⟨_, rfl⟩
  have rsd2 : 0 ≤ sd2 ∧ sd2 ≤ 100000 := (by rw [esd2]; exact xi_g k0.1 (by decide) rgf_9_10)
  obtain ⟨sd3, esd3⟩ : ∃ x, x = h.2.1 a1 16 := ⟨_, rfl⟩
  have rsd3 : 0 ≤ sd3 ∧ sd3 ≤ 101 := (by rw [esd3]; exact xi_g k0.1 (lt1_V (tV_V hS ta1)) (rg_V_16 (tV_V hS ta1)))
  refine A_aload_n 0 d_Parts_walkRepeat_0 rfl rfl ?_
  refine A_getAv (z := some 11) T_ok d_Parts_walkRepeat_1 f_Parts_15 (xi_s k0.1 sf_9) (xi_r k0.1 rff_9_1) ?_
  refine A_iload_n 2 d_Parts_walkRepeat_4 rfl rfl ?_
  refine A_ialoadn (lo := 0) (hi := 1999) d_Parts_walkRepeat_5 (xi_s k0.1 sf_11) (by omega) (by omega) (xi_g k0.1 (by decide) (rgf_11 _)) (fun x5 ex5 _ _ => ?_)
  refine A_istore (L' := [some (av_R (some 9)), some (av_R (some a1)), some (av_I a2), some (av_I a3), some (av_L a4), none, some (av_L a5), none, some (av_I x5), none, none]) d_Parts_walkRepeat_6 (Nat.le_of_ble_eq_true rfl) rfl ?_
  refine A_pc (pc' := 8) rfl ?_
  refine A_aload_n 0 d_Parts_walkRepeat_8 rfl rfl ?_
  refine A_getAv (z := some 10) T_ok d_Parts_walkRepeat_9 f_Parts_9 (xi_s k0.1 sf_9) (xi_r k0.1 rff_9_0) ?_
  refine A_iload d_Parts_walkRepeat_12 rfl ?_
  refine A_ialoadf d_Parts_walkRepeat_14 (xi_s k0.1 sf_10) (by omega) (by omega) (fun x7 ex7 _ _ => ?_)
  refine A_bipush d_Parts_walkRepeat_15 rfl ?_
  refine A_icmp_eq (tgt := 77) d_Parts_walkRepeat_17 (by decide) (fun c8 => ?_) (fun c8 => ?_)
  · refine A_iload d_Parts_walkRepeat_77 rfl ?_
    refine A_istore (L' := [some (av_R (some 9)), some (av_R (some a1)), some (av_I a2), some (av_I a3), some (av_L a4), none, some (av_L a5), none, some (av_I x5), some (av_I x5), none]) d_Parts_walkRepeat_79 (Nat.le_of_ble_eq_true rfl) rfl ?_
    refine A_iconst d_Parts_walkRepeat_81 rfl ?_
    refine A_istore (L' := [some (av_R (some 9)), some (av_R (some a1)), some (av_I a2), some (av_I a3), some (av_L a4), none, some (av_L a5), none, some (av_I x5), some (av_I x5), some (av_I 0)]) d_Parts_walkRepeat_82 (Nat.le_of_ble_eq_true rfl) rfl ?_
    have lp84 : ∀ (n : Nat) (i9 i10 : Int) (h11 : ah_T) , 0 ≤ i9 → i9 ≤ 1999 → 0 ≤ i10 → i10 ≤ 2000 → (h11.2.1 9 10 ≤ h11.2.1 9 8 ∧ h11.2.1 a1 16 ≤ h11.2.1 9 10 + 1) ∧ h11.2.1 9 8 ≤ 8001 + i10 → kF (FB s) s h h11 → (2001 - i10).toNat < n → aw G (rm_R 11 0 0) m_Parts_walkRepeat 0 0 84 [some (av_R (some 9)), some (av_R (some a1)), some (av_I a2), some (av_I a3), some (av_L a4), none, some (av_L a5), none, some (av_I x5), some (av_I i9), some (av_I i10)] [] h11 (fun r h' => ∃ z, r = some (av_I z) ∧ (0 ≤ z ∧ z ≤ 1999) ∧ ((h'.2.1 9 10 ≤ h'.2.1 9 8 ∧ h'.2.1 a1 16 ≤ h'.2.1 9 10 + 1) ∧ h'.2.1 9 8 ≤ 10001) ∧ kF (FB s) s h h') := by
      intro n
      induction n with
      | zero => intro i9 i10 h11 _ _ _ _ _ _ hm; omega
      | succ n ih84 =>
        intro i9 i10 h11 hl0 hl1 hl2 hl3 hinv k12 hm
        obtain ⟨sd13, esd13⟩ : ∃ x, x = h11.2.1 9 8 := ⟨_, rfl⟩
        have rsd13 : 0 ≤ sd13 ∧ sd13 ≤ 100000 := (by rw [esd13]; exact xi_g k12.1 (by decide) rgf_9_8)
        obtain ⟨sd14, esd14⟩ : ∃ x, x = h11.2.1 9 10 := ⟨_, rfl⟩
        have rsd14 : 0 ≤ sd14 ∧ sd14 ≤ 100000 := (by rw [esd14]; exact xi_g k12.1 (by decide) rgf_9_10)
        obtain ⟨sd15, esd15⟩ : ∃ x, x = h11.2.1 a1 16 := ⟨_, rfl⟩
        have rsd15 : 0 ≤ sd15 ∧ sd15 ≤ 101 := (by rw [esd15]; exact xi_g k12.1 (lt1_V (tV_V hS ta1)) (rg_V_16 (tV_V hS ta1)))
        refine A_iload d_Parts_walkRepeat_84 rfl ?_
        refine A_sipush d_Parts_walkRepeat_86 rfl ?_
        refine A_icmp_ge (tgt := 169) d_Parts_walkRepeat_89 (by decide) (fun c16 => ?_) (fun c16 => ?_)
        · refine A_iload d_Parts_walkRepeat_169 rfl ?_
          exact A_iret d_Parts_walkRepeat_171 (by decide) rfl ⟨_, rfl, ⟨by omega, by omega⟩, (by have qq0 := esd13.symm; have qq1 := esd14.symm; have qq2 := esd15.symm; exact ⟨⟨by omega, by omega⟩, by omega⟩), k12⟩
        · refine A_aload_n 0 d_Parts_walkRepeat_92 rfl rfl ?_
          refine A_getAv (z := some 10) T_ok d_Parts_walkRepeat_93 f_Parts_9 (xi_s k12.1 sf_9) (xi_r k12.1 rff_9_0) ?_
          refine A_iload d_Parts_walkRepeat_96 rfl ?_
          refine A_ialoadf d_Parts_walkRepeat_98 (xi_s k12.1 sf_10) (by omega) (by omega) (fun x18 ex18 _ _ => ?_)
          refine A_bipush d_Parts_walkRepeat_99 rfl ?_
          refine A_pc (pc' := 101) rfl ?_
          refine A_icmp_ne (tgt := 169) d_Parts_walkRepeat_101 (by decide) (fun c19 => ?_) (fun c19 => ?_)
          · refine A_iload d_Parts_walkRepeat_169 rfl ?_
            exact A_iret d_Parts_walkRepeat_171 (by decide) rfl ⟨_, rfl, ⟨by omega, by omega⟩, (by have qq0 := esd13.symm; have qq1 := esd14.symm; have qq2 := esd15.symm; exact ⟨⟨by omega, by omega⟩, by omega⟩), k12⟩
          · refine A_aload_n 0 d_Parts_walkRepeat_104 rfl rfl ?_
            refine A_dupR d_Parts_walkRepeat_105 ?_
            refine A_getIv (z := sd13) T_ok d_Parts_walkRepeat_106 f_Parts_46 (xi_s k12.1 sf_9) esd13.symm ?_
            refine A_iconst d_Parts_walkRepeat_109 rfl ?_
            refine A_iaddv (z := (sd13 + 1)) d_Parts_walkRepeat_110 (w32_to (by omega) (by unfold i32; omega)) ?_
            refine A_pc (pc' := 111) rfl ?_
            refine A_putIk (KR := kF (FB s) s h) T_ok d_Parts_walkRepeat_111 f_Parts_46 (xi_s k12.1 sf_9) fin_f (kF_j k12 (by omega) (ns_b rfl) rgf_9_8 (by omega) (by omega)) (fun h21 k22 eh21 => ?_)
            refine A_aload_n 0 d_Parts_walkRepeat_114 rfl rfl ?_
            refine A_aload_n 1 d_Parts_walkRepeat_115 rfl rfl ?_
            refine A_iload_n 2 d_Parts_walkRepeat_116 rfl rfl ?_
            refine A_iconst d_Parts_walkRepeat_117 rfl ?_
            refine A_iaddv (z := (a2 + 1)) d_Parts_walkRepeat_118 (w32_to (by omega) (by unfold i32; omega)) ?_
            refine A_pc (pc' := 119) rfl ?_
            refine A_iload d_Parts_walkRepeat_119 rfl ?_
            refine A_iload_n 3 d_Parts_walkRepeat_121 rfl rfl ?_
            refine A_iconst d_Parts_walkRepeat_122 rfl ?_
            refine A_iaddv (z := (a3 + 1)) d_Parts_walkRepeat_123 (w32_to (by omega) (by unfold i32; omega)) ?_
            refine A_lload d_Parts_walkRepeat_124 rfl ?_
            refine A_lload d_Parts_walkRepeat_126 rfl ?_
            refine A_pc (pc' := 128) rfl ?_
            have zf24 := eh21.2.1
            have zf25 := ((eh21.1 _ _ (fun _ => by decide)).trans esd14.symm)
            have zf26 := ((eh21.1 _ _ (fun q => by omega)).trans esd15.symm)
            refine A_callV6 m_Parts_walkThrough T_ok d_Parts_walkRepeat_128 l_Parts_59 k_Parts_walkThrough (xi_s k22.1 sf_9) rfl (by decide +kernel) (by decide) (Nat.le_of_ble_eq_true rfl) (s_Parts_walkThrough_5 k22.1 ta1 (by omega) (by omega) (by omega) (by omega) (by omega) (by omega) (by omega) (by omega) (by omega) (by omega) (by have qq0 := eh21.2.1; have qq1 := ((eh21.1 _ _ (fun _ => by decide)).trans esd14.symm); have qq2 := ((eh21.1 _ _ (fun q => by omega)).trans esd15.symm); exact ⟨by omega, by omega⟩)) (fun r h23 hq => ?_)
            obtain ⟨rfl, xk27, k27⟩ := hq
            have k28 := kF_t k22 k27 (fun _ q => q)
            obtain ⟨sd29, esd29⟩ : ∃ x, x = h23.2.1 9 8 := ⟨_, rfl⟩
            have rsd29 : 0 ≤ sd29 ∧ sd29 ≤ 100000 := (by rw [esd29]; exact xi_g k28.1 (by decide) rgf_9_8)
            obtain ⟨sd30, esd30⟩ : ∃ x, x = h23.2.1 9 10 := ⟨_, rfl⟩
            have rsd30 : 0 ≤ sd30 ∧ sd30 ≤ 100000 := (by rw [esd30]; exact xi_g k28.1 (by decide) rgf_9_10)
            obtain ⟨sd31, esd31⟩ : ∃ x, x = h23.2.1 a1 16 := ⟨_, rfl⟩
            have rsd31 : 0 ≤ sd31 ∧ sd31 ≤ 101 := (by rw [esd31]; exact xi_g k28.1 (lt1_V (tV_V hS ta1)) (rg_V_16 (tV_V hS ta1)))
            refine A_aload_n 0 d_Parts_walkRepeat_131 rfl rfl ?_
            refine A_aload_n 1 d_Parts_walkRepeat_132 rfl rfl ?_
            refine A_iload d_Parts_walkRepeat_133 rfl ?_
            refine A_iconst d_Parts_walkRepeat_135 rfl ?_
            refine A_iaddv (z := (i9 + 1)) d_Parts_walkRepeat_136 (w32_to (by omega) (by unfold i32; omega)) ?_
            refine A_pc (pc' := 137) rfl ?_
            refine A_aload_n 0 d_Parts_walkRepeat_137 rfl rfl ?_
            refine A_getAv (z := some 11) T_ok d_Parts_walkRepeat_138 f_Parts_15 (xi_s k28.1 sf_9) (xi_r k28.1 rff_9_1) ?_
            refine A_iload d_Parts_walkRepeat_141 rfl ?_
            refine A_ialoadn (lo := 0) (hi := 1999) d_Parts_walkRepeat_143 (xi_s k28.1 sf_11) (by omega) (by omega) (xi_g k28.1 (by decide) (rgf_11 _)) (fun x33 ex33 _ _ => ?_)
            refine A_iload_n 3 d_Parts_walkRepeat_144 rfl rfl ?_
            refine A_iconst d_Parts_walkRepeat_145 rfl ?_
            refine A_pc (pc' := 146) rfl ?_
            refine A_iaddv (z := (a3 + 1)) d_Parts_walkRepeat_146 (w32_to (by omega) (by unfold i32; omega)) ?_
            refine A_lload d_Parts_walkRepeat_147 rfl ?_
            refine A_lload d_Parts_walkRepeat_149 rfl ?_
            have zf35 := esd29.symm
            have zf36 := esd30.symm
            have zf37 := esd31.symm
            refine A_callV6 m_Parts_walkThrough T_ok d_Parts_walkRepeat_151 l_Parts_59 k_Parts_walkThrough (xi_s k28.1 sf_9) rfl (by decide +kernel) (by decide) (Nat.le_of_ble_eq_true rfl) (s_Parts_walkThrough_5 k28.1 ta1 (by omega) (by omega) (by omega) (by omega) (by omega) (by omega) (by omega) (by omega) (by omega) (by omega) (by have qq0 := esd29.symm; have qq1 := esd30.symm; have qq2 := esd31.symm; exact ⟨by omega, by omega⟩)) (fun r h34 hq => ?_)
            obtain ⟨rfl, xk38, k38⟩ := hq
            have k39 := kF_t k28 k38 (fun _ q => q)
            obtain ⟨sd40, esd40⟩ : ∃ x, x = h34.2.1 9 8 := ⟨_, rfl⟩
            have rsd40 : 0 ≤ sd40 ∧ sd40 ≤ 100000 := (by rw [esd40]; exact xi_g k39.1 (by decide) rgf_9_8)
            obtain ⟨sd41, esd41⟩ : ∃ x, x = h34.2.1 9 10 := ⟨_, rfl⟩
            have rsd41 : 0 ≤ sd41 ∧ sd41 ≤ 100000 := (by rw [esd41]; exact xi_g k39.1 (by decide) rgf_9_10)
            obtain ⟨sd42, esd42⟩ : ∃ x, x = h34.2.1 a1 16 := ⟨_, rfl⟩
            have rsd42 : 0 ≤ sd42 ∧ sd42 ≤ 101 := (by rw [esd42]; exact xi_g k39.1 (lt1_V (tV_V hS ta1)) (rg_V_16 (tV_V hS ta1)))
            refine A_aload_n 0 d_Parts_walkRepeat_154 rfl rfl ?_
            refine A_getAv (z := some 11) T_ok d_Parts_walkRepeat_155 f_Parts_15 (xi_s k39.1 sf_9) (xi_r k39.1 rff_9_1) ?_
            refine A_iload d_Parts_walkRepeat_158 rfl ?_
            refine A_ialoadn (lo := 0) (hi := 1999) d_Parts_walkRepeat_160 (xi_s k39.1 sf_11) (by omega) (by omega) (xi_g k39.1 (by decide) (rgf_11 _)) (fun x44 ex44 _ _ => ?_)
            refine A_istore (L' := [some (av_R (some 9)), some (av_R (some a1)), some (av_I a2), some (av_I a3), some (av_L a4), none, some (av_L a5), none, some (av_I x5), some (av_I x44), some (av_I i10)]) d_Parts_walkRepeat_161 (Nat.le_of_ble_eq_true rfl) rfl ?_
            refine A_pc (pc' := 163) rfl ?_
            refine A_iincv (z := (i10 + 1)) (L' := [some (av_R (some 9)), some (av_R (some a1)), some (av_I a2), some (av_I a3), some (av_L a4), none, some (av_L a5), none, some (av_I x5), some (av_I x44), some (av_I (i10 + 1))]) d_Parts_walkRepeat_163 rfl (w32_to (by omega) (by unfold i32; omega)) rfl ?_
            refine A_goto (tgt := 84) d_Parts_walkRepeat_166 (by decide) ?_
            exact ih84 x44 (i10 + 1) h34 (by omega) (by omega) (by omega) (by omega) (by have qq0 := esd40.symm; have qq1 := esd41.symm; have qq2 := esd42.symm; exact ⟨⟨by omega, by omega⟩, by omega⟩) k39 (by omega)
    exact lp84 _ x5 0 h (by omega) (by omega) (by omega) (by omega) (by have qq0 := esd1.symm; have qq1 := esd2.symm; have qq2 := esd3.symm; exact ⟨⟨by omega, by omega⟩, by omega⟩) k0 (Nat.lt_succ_self _)
  · refine A_aload_n 0 d_Parts_walkRepeat_20 rfl rfl ?_
    refine A_dupR d_Parts_walkRepeat_21 ?_
    refine A_getIv (z := sd1) T_ok d_Parts_walkRepeat_22 f_Parts_46 (xi_s k0.1 sf_9) esd1.symm ?_
    refine A_iconst d_Parts_walkRepeat_25 rfl ?_
    refine A_iaddv (z := (sd1 + 1)) d_Parts_walkRepeat_26 (w32_to (by omega) (by unfold i32; omega)) ?_
    refine A_pc (pc' := 27) rfl ?_
    refine A_putIk (KR := kF (FB s) s h) T_ok d_Parts_walkRepeat_27 f_Parts_46 (xi_s k0.1 sf_9) fin_f (kF_j k0 (by omega) (ns_b rfl) rgf_9_8 (by omega) (by omega)) (fun h46 k47 eh46 => ?_)
    refine A_aload_n 0 d_Parts_walkRepeat_30 rfl rfl ?_
    refine A_aload_n 1 d_Parts_walkRepeat_31 rfl rfl ?_
    refine A_iload_n 2 d_Parts_walkRepeat_32 rfl rfl ?_
    refine A_iconst d_Parts_walkRepeat_33 rfl ?_
    refine A_iaddv (z := (a2 + 1)) d_Parts_walkRepeat_34 (w32_to (by omega) (by unfold i32; omega)) ?_
    refine A_pc (pc' := 35) rfl ?_
    refine A_iload d_Parts_walkRepeat_35 rfl ?_
    refine A_iload_n 3 d_Parts_walkRepeat_37 rfl rfl ?_
    refine A_iconst d_Parts_walkRepeat_38 rfl ?_
    refine A_iaddv (z := (a3 + 1)) d_Parts_walkRepeat_39 (w32_to (by omega) (by unfold i32; omega)) ?_
    refine A_lload d_Parts_walkRepeat_40 rfl ?_
    refine A_lload d_Parts_walkRepeat_42 rfl ?_
    refine A_pc (pc' := 44) rfl ?_
    have zf49 := eh46.2.1
    have zf50 := ((eh46.1 _ _ (fun _ => by decide)).trans esd2.symm)
    have zf51 := ((eh46.1 _ _ (fun q => by omega)).trans esd3.symm)
    refine A_callV6 m_Parts_walkThrough T_ok d_Parts_walkRepeat_44 l_Parts_59 k_Parts_walkThrough (xi_s k47.1 sf_9) rfl (by decide +kernel) (by decide) (Nat.le_of_ble_eq_true rfl) (s_Parts_walkThrough_5 k47.1 ta1 (by omega) (by omega) (by omega) (by omega) (by omega) (by omega) (by omega) (by omega) (by omega) (by omega) (by have qq0 := eh46.2.1; have qq1 := ((eh46.1 _ _ (fun _ => by decide)).trans esd2.symm); have qq2 := ((eh46.1 _ _ (fun q => by omega)).trans esd3.symm); exact ⟨by omega, by omega⟩)) (fun r h48 hq => ?_)
    obtain ⟨rfl, xk52, k52⟩ := hq
    have k53 := kF_t k47 k52 (fun _ q => q)
    obtain ⟨sd54, esd54⟩ : ∃ x, x = h48.2.1 9 8 := ⟨_, rfl⟩
    have rsd54 : 0 ≤ sd54 ∧ sd54 ≤ 100000 := (by rw [esd54]; exact xi_g k53.1 (by decide) rgf_9_8)
    obtain ⟨sd55, esd55⟩ : ∃ x, x = h48.2.1 9 10 := ⟨_, rfl⟩
    have rsd55 : 0 ≤ sd55 ∧ sd55 ≤ 100000 := (by rw [esd55]; exact xi_g k53.1 (by decide) rgf_9_10)
    obtain ⟨sd56, esd56⟩ : ∃ x, x = h48.2.1 a1 16 := ⟨_, rfl⟩
    have rsd56 : 0 ≤ sd56 ∧ sd56 ≤ 101 := (by rw [esd56]; exact xi_g k53.1 (lt1_V (tV_V hS ta1)) (rg_V_16 (tV_V hS ta1)))
    refine A_aload_n 0 d_Parts_walkRepeat_47 rfl rfl ?_
    refine A_dupR d_Parts_walkRepeat_48 ?_
    refine A_getIv (z := sd54) T_ok d_Parts_walkRepeat_49 f_Parts_46 (xi_s k53.1 sf_9) esd54.symm ?_
    refine A_iconst d_Parts_walkRepeat_52 rfl ?_
    refine A_iaddv (z := (sd54 + 1)) d_Parts_walkRepeat_53 (w32_to (by omega) (by unfold i32; omega)) ?_
    refine A_pc (pc' := 54) rfl ?_
    refine A_putIk (KR := kF (FB s) s h) T_ok d_Parts_walkRepeat_54 f_Parts_46 (xi_s k53.1 sf_9) fin_f (kF_j k53 (by omega) (ns_b rfl) rgf_9_8 (by omega) (by omega)) (fun h58 k59 eh58 => ?_)
    refine A_aload_n 0 d_Parts_walkRepeat_57 rfl rfl ?_
    refine A_aload_n 1 d_Parts_walkRepeat_58 rfl rfl ?_
    refine A_iload_n 2 d_Parts_walkRepeat_59 rfl rfl ?_
    refine A_iconst d_Parts_walkRepeat_60 rfl ?_
    refine A_iaddv (z := (a2 + 1)) d_Parts_walkRepeat_61 (w32_to (by omega) (by unfold i32; omega)) ?_
    refine A_pc (pc' := 62) rfl ?_
    refine A_iload d_Parts_walkRepeat_62 rfl ?_
    refine A_iload_n 3 d_Parts_walkRepeat_64 rfl rfl ?_
    refine A_iconst d_Parts_walkRepeat_65 rfl ?_
    refine A_iaddv (z := (a3 + 1)) d_Parts_walkRepeat_66 (w32_to (by omega) (by unfold i32; omega)) ?_
    refine A_lload d_Parts_walkRepeat_67 rfl ?_
    refine A_lload d_Parts_walkRepeat_69 rfl ?_
    refine A_pc (pc' := 71) rfl ?_
    have zf61 := eh58.2.1
    have zf62 := ((eh58.1 _ _ (fun _ => by decide)).trans esd55.symm)
    have zf63 := ((eh58.1 _ _ (fun q => by omega)).trans esd56.symm)
    refine A_callV6 m_Parts_walkThrough T_ok d_Parts_walkRepeat_71 l_Parts_59 k_Parts_walkThrough (xi_s k59.1 sf_9) rfl (by decide +kernel) (by decide) (Nat.le_of_ble_eq_true rfl) (s_Parts_walkThrough_5 k59.1 ta1 (by omega) (by omega) (by omega) (by omega) (by omega) (by omega) (by omega) (by omega) (by omega) (by omega) (by have qq0 := eh58.2.1; have qq1 := ((eh58.1 _ _ (fun _ => by decide)).trans esd55.symm); have qq2 := ((eh58.1 _ _ (fun q => by omega)).trans esd56.symm); exact ⟨by omega, by omega⟩)) (fun r h60 hq => ?_)
    obtain ⟨rfl, xk64, k64⟩ := hq
    have k65 := kF_t k59 k64 (fun _ q => q)
    obtain ⟨sd66, esd66⟩ : ∃ x, x = h60.2.1 9 8 := ⟨_, rfl⟩
    have rsd66 : 0 ≤ sd66 ∧ sd66 ≤ 100000 := (by rw [esd66]; exact xi_g k65.1 (by decide) rgf_9_8)
    obtain ⟨sd67, esd67⟩ : ∃ x, x = h60.2.1 9 10 := ⟨_, rfl⟩
    have rsd67 : 0 ≤ sd67 ∧ sd67 ≤ 100000 := (by rw [esd67]; exact xi_g k65.1 (by decide) rgf_9_10)
    obtain ⟨sd68, esd68⟩ : ∃ x, x = h60.2.1 a1 16 := ⟨_, rfl⟩
    have rsd68 : 0 ≤ sd68 ∧ sd68 ≤ 101 := (by rw [esd68]; exact xi_g k65.1 (lt1_V (tV_V hS ta1)) (rg_V_16 (tV_V hS ta1)))
    refine A_iload d_Parts_walkRepeat_74 rfl ?_
    exact A_iret d_Parts_walkRepeat_76 (by decide) rfl ⟨_, rfl, ⟨by omega, by omega⟩, (by have qq0 := esd66.symm; have qq1 := esd67.symm; have qq2 := esd68.symm; exact ⟨⟨by omega, by omega⟩, by omega⟩), k65⟩
theorem s_Parts_walkThrough_4 {G : cx_T} {s : Nat} {h : ah_T} (hx : xi s h) {a1 : Nat} {a2 : Int} {a3 : Int} {a4 : Int} {a5 : Int} {a6 : Int} (ta1 : tV s a1) (la2 : 0 ≤ a2) (ua2 : a2 ≤ 2000) (la3 : 0 ≤ a3) (ua3 : a3 ≤ 2000) (la4 : 4 ≤ a4) (ua4 : a4 ≤ 4) (la5 : 1 ≤ a5) (ua5 : a5 ≤ 65536) (la6 : 0 ≤ a6) (ua6 : a6 ≤ 65536) (hJ : h.2.1 9 10 ≤ h.2.1 9 8 ∧ h.2.1 a1 16 ≤ h.2.1 9 10 + 1) : con G 12 0 0 m_Parts_walkThrough [av_R (some 9), av_R (some a1), av_I a2, av_I a3, av_I a4, av_L a5, av_L a6] h (fun r h' => r = none ∧ ((h'.2.1 9 10 ≤ h'.2.1 9 8 ∧ h'.2.1 a1 16 ≤ h'.2.1 9 10 + 1) ∧ (h'.2.1 9 8 ≤ h.2.1 9 8 ∨ h'.2.1 9 8 ≤ 10001)) ∧ kF (FB s) s h h') := by
  refine con_of (L := [some (av_R (some 9)), some (av_R (some a1)), some (av_I a2), some (av_I a3), some (av_I a4), some (av_L a5), none, some (av_L a6), none, none, none]) (by decide +kernel) (Nat.le_of_ble_eq_true rfl) rfl ?_
  have hS : isS s := hx.2.1
  have hs0 : s = 17 ∨ s = 80 := hS
  have hs0b : 17 ≤ s ∧ s ≤ 80 := by omega
  have k0 : kF (FB s) s h h := kF_0 hx
  have ga1 : a1 = s + 7 ∨ a1 = s + 21 ∨ a1 = s + 35 ∨ a1 = s + 49 := ta1
  have ga1b : s + 7 ≤ a1 ∧ a1 ≤ s + 49 := by omega
  obtain ⟨sd1, esd1⟩ : ∃ x, x = h.2.1 9 8 := ⟨_, rfl⟩
  have rsd1 : 0 ≤ sd1 ∧ sd1 ≤ 100000 := (by rw [esd1]; exact xi_g k0.1 (by decide) rgf_9_8)
  obtain ⟨sd2, esd2⟩ : ∃ x, x = h.2.1 9 10 := ⟨_, rfl⟩
  have rsd2 : 0 ≤ sd2 ∧ sd2 ≤ 100000 := (by rw [esd2]; exact xi_g k0.1 (by decide) rgf_9_10)
  obtain ⟨sd3, esd3⟩ : ∃ x, x = h.2.1 a1 16 := ⟨_, rfl⟩
  have rsd3 : 0 ≤ sd3 ∧ sd3 ≤ 101 := (by rw [esd3]; exact xi_g k0.1 (lt1_V (tV_V hS ta1)) (rg_V_16 (tV_V hS ta1)))
  refine A_iload d_Parts_walkThrough_0 rfl ?_
  refine A_bipush d_Parts_walkThrough_2 rfl ?_
  refine A_icmp_le (tgt := 8) d_Parts_walkThrough_4 (by decide) (fun c4 => ?_) (fun c => False.elim (by omega))
  refine A_iload_n 2 d_Parts_walkThrough_8 rfl rfl ?_
  refine A_istore (L' := [some (av_R (some 9)), some (av_R (some a1)), some (av_I a2), some (av_I a3), some (av_I a4), some (av_L a5), none, some (av_L a6), none, some (av_I a2), none]) d_Parts_walkThrough_9 (Nat.le_of_ble_eq_true rfl) rfl ?_
  have lp11 : ∀ (n : Nat) (i5 : Int) (h6 : ah_T) , 0 ≤ i5 → i5 ≤ 2000 → (h6.2.1 9 10 ≤ h6.2.1 9 8 ∧ h6.2.1 a1 16 ≤ h6.2.1 9 10 + 1) ∧ (h6.2.1 9 8 ≤ h.2.1 9 8 ∨ h6.2.1 9 8 ≤ 10001) → kF (FB s) s h h6 → (2001 - i5).toNat < n → aw G (rm_R 12 0 0) m_Parts_walkThrough 0 0 11 [some (av_R (some 9)), some (av_R (some a1)), some (av_I a2), some (av_I a3), some (av_I a4), some (av_L a5), none, some (av_L a6), none, some (av_I i5), none] [] h6 (fun r h' => r = none ∧ ((h'.2.1 9 10 ≤ h'.2.1 9 8 ∧ h'.2.1 a1 16 ≤ h'.2.1 9 10 + 1) ∧ (h'.2.1 9 8 ≤ h.2.1 9 8 ∨ h'.2.1 9 8 ≤ 10001)) ∧ kF (FB s) s h h') := by
    intro n
    induction n with
    | zero => intro i5 h6 _ _ _ _ hm; omega
    | succ n ih11 =>
      intro i5 h6 hl0 hl1 hinv k7 hm
      obtain ⟨sd8, esd8⟩ : ∃ x, x = h6.2.1 9 8 := ⟨_, rfl⟩
      have rsd8 : 0 ≤ sd8 ∧ sd8 ≤ 100000 := (by rw [esd8]; exact xi_g k7.1 (by decide) rgf_9_8)
      obtain ⟨sd9, esd9⟩ : ∃ x, x = h6.2.1 9 10 := ⟨_, rfl⟩
      have rsd9 : 0 ≤ sd9 ∧ sd9 ≤ 100000 := (by rw [esd9]; exact xi_g k7.1 (by decide) rgf_9_10)
      obtain ⟨sd10, esd10⟩ : ∃ x, x = h6.2.1 a1 16 := ⟨_, rfl⟩
      have rsd10 : 0 ≤ sd10 ∧ sd10 ≤ 101 := (by rw [esd10]; exact xi_g k7.1 (lt1_V (tV_V hS ta1)) (rg_V_16 (tV_V hS ta1)))
      refine A_iload d_Parts_walkThrough_11 rfl ?_
      refine A_iload_n 3 d_Parts_walkThrough_13 rfl rfl ?_
      refine A_icmp_ge (tgt := 218) d_Parts_walkThrough_14 (by decide) (fun c11 => ?_) (fun c11 => ?_)
      · exact A_vret d_Parts_walkThrough_218 (by decide) rfl ⟨rfl, (by have qq0 := esd8.symm; have qq1 := esd9.symm; have qq2 := esd10.symm; exact ⟨⟨by omega, by omega⟩, by omega⟩), k7⟩
      · refine A_iload d_Parts_walkThrough_17 rfl ?_
        refine A_aload_n 0 d_Parts_walkThrough_19 rfl rfl ?_
        refine A_getIn (lo := 0) (hi := 2000) T_ok d_Parts_walkThrough_20 f_Parts_30 (xi_s k7.1 sf_9) (xi_g k7.1 (by decide) rgf_9_4) (fun x12 ex12 _ _ => ?_)
        refine A_icmp_ge (tgt := 218) d_Parts_walkThrough_23 (by decide) (fun c13 => ?_) (fun c13 => ?_)
        · exact A_vret d_Parts_walkThrough_218 (by decide) rfl ⟨rfl, (by have qq0 := esd8.symm; have qq1 := esd9.symm; have qq2 := esd10.symm; exact ⟨⟨by omega, by omega⟩, by omega⟩), k7⟩
        · refine A_aload_n 0 d_Parts_walkThrough_26 rfl rfl ?_
          refine A_getIv (z := sd8) T_ok d_Parts_walkThrough_27 f_Parts_46 (xi_s k7.1 sf_9) esd8.symm ?_
          refine A_sipush d_Parts_walkThrough_30 rfl ?_
          refine A_icmp_gt (tgt := 218) d_Parts_walkThrough_33 (by decide) (fun c15 => ?_) (fun c15 => ?_)
          · exact A_vret d_Parts_walkThrough_218 (by decide) rfl ⟨rfl, (by have qq0 := esd8.symm; have qq1 := esd9.symm; have qq2 := esd10.symm; exact ⟨⟨by omega, by omega⟩, by omega⟩), k7⟩
          · refine A_aload_n 0 d_Parts_walkThrough_36 rfl rfl ?_
            refine A_dupR d_Parts_walkThrough_37 ?_
            refine A_getIv (z := sd8) T_ok d_Parts_walkThrough_38 f_Parts_46 (xi_s k7.1 sf_9) esd8.symm ?_
            refine A_iconst d_Parts_walkThrough_41 rfl ?_
            refine A_iaddv (z := (sd8 + 1)) d_Parts_walkThrough_42 (w32_to (by omega) (by unfold i32; omega)) ?_
            refine A_pc (pc' := 43) rfl ?_
            refine A_putIk (KR := kF (FB s) s h) T_ok d_Parts_walkThrough_43 f_Parts_46 (xi_s k7.1 sf_9) fin_f (kF_j k7 (by omega) (ns_b rfl) rgf_9_8 (by omega) (by omega)) (fun h17 k18 eh17 => ?_)
            refine A_aload_n 0 d_Parts_walkThrough_46 rfl rfl ?_
            refine A_getAv (z := some 10) T_ok d_Parts_walkThrough_47 f_Parts_9 (xi_s k18.1 sf_9) (xi_r k18.1 rff_9_0) ?_
            refine A_iload d_Parts_walkThrough_50 rfl ?_
            refine A_ialoadf d_Parts_walkThrough_52 (xi_s k18.1 sf_10) (by omega) (by omega) (fun x20 ex20 _ _ => ?_)
            refine A_istore (L' := [some (av_R (some 9)), some (av_R (some a1)), some (av_I a2), some (av_I a3), some (av_I a4), some (av_L a5), none, some (av_L a6), none, some (av_I i5), some (av_I x20)]) d_Parts_walkThrough_53 (Nat.le_of_ble_eq_true rfl) rfl ?_
            refine A_pc (pc' := 55) rfl ?_
            refine A_iload d_Parts_walkThrough_55 rfl ?_
            refine A_bipush d_Parts_walkThrough_57 rfl ?_
            refine A_icmp_ne (tgt := 85) d_Parts_walkThrough_59 (by decide) (fun c21 => ?_) (fun c21 => ?_)
            · refine A_iload d_Parts_walkThrough_85 rfl ?_
              refine A_bipush d_Parts_walkThrough_87 rfl ?_
              refine A_icmp_ne (tgt := 151) d_Parts_walkThrough_89 (by decide) (fun c22 => ?_) (fun c22 => ?_)
              · refine A_iload d_Parts_walkThrough_151 rfl ?_
                refine A_bipush d_Parts_walkThrough_153 rfl ?_
                refine A_icmp_ne (tgt := 166) d_Parts_walkThrough_155 (by decide) (fun c23 => ?_) (fun c23 => ?_)
                · refine A_aload_n 0 d_Parts_walkThrough_166 rfl rfl ?_
                  refine A_dupR d_Parts_walkThrough_167 ?_
                  refine A_getIf T_ok d_Parts_walkThrough_168 f_Parts_49 (xi_s k18.1 sf_9) (fun x24 ex24 _ _ => ?_)
                  refine A_iconst d_Parts_walkThrough_171 rfl ?_
                  refine A_iaddw d_Parts_walkThrough_172 (fun x25 _ _ _ => ?_)
                  refine A_pc (pc' := 173) rfl ?_
                  refine A_putIk (KR := kF (FB s) s h) T_ok d_Parts_walkThrough_173 f_Parts_49 (xi_s k18.1 sf_9) fin_f (kF_j k18 (by omega) (ns_b rfl) rgf_9_9 (by omega) (by omega)) (fun h26 k27 eh26 => ?_)
                  refine A_aload_n 0 d_Parts_walkThrough_176 rfl rfl ?_
                  refine A_getIv (z := x25) T_ok d_Parts_walkThrough_177 f_Parts_49 (xi_s k27.1 sf_9) eh26.2.1 ?_
                  refine A_sipush d_Parts_walkThrough_180 rfl ?_
                  refine A_icmp_gt (tgt := 212) d_Parts_walkThrough_183 (by decide) (fun c29 => ?_) (fun c29 => ?_)
                  · refine A_iincv (z := (i5 + 1)) (L' := [some (av_R (some 9)), some (av_R (some a1)), some (av_I a2), some (av_I a3), some (av_I a4), some (av_L a5), none, some (av_L a6), none, some (av_I (i5 + 1)), some (av_I x20)]) d_Parts_walkThrough_212 rfl (w32_to (by omega) (by unfold i32; omega)) rfl ?_
                    refine A_goto (tgt := 11) d_Parts_walkThrough_215 (by decide) ?_
                    refine A_free (L' := [some (av_R (some 9)), some (av_R (some a1)), some (av_I a2), some (av_I a3), some (av_I a4), some (av_L a5), none, some (av_L a6), none, some (av_I (i5 + 1)), none]) (And.intro rfl (And.intro rfl (And.intro rfl (And.intro rfl (And.intro rfl (And.intro rfl (And.intro rfl (And.intro rfl trivial)))))))) ?_
                    exact ih11 (i5 + 1) h26 (by omega) (by omega) (by have qq0 := ((eh26.1 _ _ (fun _ => by decide)).trans eh17.2.1); have qq1 := ((eh26.1 _ _ (fun _ => by decide)).trans ((eh17.1 _ _ (fun _ => by decide)).trans esd9.symm)); have qq2 := ((eh26.1 _ _ (fun q => by omega)).trans ((eh17.1 _ _ (fun q => by omega)).trans esd10.symm)); exact ⟨⟨by omega, by omega⟩, by omega⟩) k27 (by omega)
                  · refine A_aload_n 0 d_Parts_walkThrough_186 rfl rfl ?_
                    refine A_getZn T_ok d_Parts_walkThrough_187 f_Parts_55 (xi_s k27.1 sf_9) (fun x30 ex30 bx30 => ?_)
                    refine A_if_eq (tgt := 212) d_Parts_walkThrough_190 (by decide) (fun c31 => ?_) (fun c31 => ?_)
                    · refine A_iincv (z := (i5 + 1)) (L' := [some (av_R (some 9)), some (av_R (some a1)), some (av_I a2), some (av_I a3), some (av_I a4), some (av_L a5), none, some (av_L a6), none, some (av_I (i5 + 1)), some (av_I x20)]) d_Parts_walkThrough_212 rfl (w32_to (by omega) (by unfold i32; omega)) rfl ?_
                      refine A_goto (tgt := 11) d_Parts_walkThrough_215 (by decide) ?_
                      refine A_free (L' := [some (av_R (some 9)), some (av_R (some a1)), some (av_I a2), some (av_I a3), some (av_I a4), some (av_L a5), none, some (av_L a6), none, some (av_I (i5 + 1)), none]) (And.intro rfl (And.intro rfl (And.intro rfl (And.intro rfl (And.intro rfl (And.intro rfl (And.intro rfl (And.intro rfl trivial)))))))) ?_
                      exact ih11 (i5 + 1) h26 (by omega) (by omega) (by have qq0 := ((eh26.1 _ _ (fun _ => by decide)).trans eh17.2.1); have qq1 := ((eh26.1 _ _ (fun _ => by decide)).trans ((eh17.1 _ _ (fun _ => by decide)).trans esd9.symm)); have qq2 := ((eh26.1 _ _ (fun q => by omega)).trans ((eh17.1 _ _ (fun q => by omega)).trans esd10.symm)); exact ⟨⟨by omega, by omega⟩, by omega⟩) k27 (by omega)
                    · refine A_aload_n 0 d_Parts_walkThrough_193 rfl rfl ?_
                      refine A_aload_n 1 d_Parts_walkThrough_194 rfl rfl ?_
                      refine A_aload_n 0 d_Parts_walkThrough_195 rfl rfl ?_
                      refine A_getAv (z := some 12) T_ok d_Parts_walkThrough_196 f_Parts_18 (xi_s k27.1 sf_9) (xi_r k27.1 rff_9_2) ?_
                      refine A_iload d_Parts_walkThrough_199 rfl ?_
                      refine A_pc (pc' := 201) rfl ?_
                      refine A_ialoadn (lo := 0) (hi := 300) d_Parts_walkThrough_201 (xi_s k27.1 sf_12) (by omega) (by omega) (xi_g k27.1 (by decide) (rgf_12 _)) (fun x33 ex33 _ _ => ?_)
                      refine A_lload d_Parts_walkThrough_202 rfl ?_
                      refine A_lload d_Parts_walkThrough_204 rfl ?_
                      have zf35 := ((eh26.1 _ _ (fun _ => by decide)).trans eh17.2.1)
                      have zf36 := ((eh26.1 _ _ (fun _ => by decide)).trans ((eh17.1 _ _ (fun _ => by decide)).trans esd9.symm))
                      have zf37 := ((eh26.1 _ _ (fun q => by omega)).trans ((eh17.1 _ _ (fun q => by omega)).trans esd10.symm))
                      refine A_callV3 m_Voice_addEvent T_ok d_Parts_walkThrough_206 l_Parts_80 k_Voice_addEvent (xs_V k27.1 (tV_V hS ta1)) rfl (by decide +kernel) (by decide) (Nat.le_of_ble_eq_true rfl) (s_Voice_addEvent k27.1 ta1 (by omega) (by omega) (by omega) (by omega)) (fun r h34 hq => ?_)
                      obtain ⟨x39, rfl, bx39, xx39, k38⟩ := hq
                      have k40 := kF_t k27 k38 (fun _ q => q)
                      obtain ⟨sd41, esd41⟩ : ∃ x, x = h34.2.1 9 8 := ⟨_, rfl⟩
                      have rsd41 : 0 ≤ sd41 ∧ sd41 ≤ 100000 := (by rw [esd41]; exact xi_g k40.1 (by decide) rgf_9_8)
                      obtain ⟨sd42, esd42⟩ : ∃ x, x = h34.2.1 9 10 := ⟨_, rfl⟩
                      have rsd42 : 0 ≤ sd42 ∧ sd42 ≤ 100000 := (by rw [esd42]; exact xi_g k40.1 (by decide) rgf_9_10)
                      obtain ⟨sd43, esd43⟩ : ∃ x, x = h34.2.1 a1 16 := ⟨_, rfl⟩
                      have rsd43 : 0 ≤ sd43 ∧ sd43 ≤ 101 := (by rw [esd43]; exact xi_g k40.1 (lt1_V (tV_V hS ta1)) (rg_V_16 (tV_V hS ta1)))
                      refine A_putZk (KR := kF (FB s) s h) T_ok d_Parts_walkThrough_209 f_Parts_55 (xi_s k40.1 sf_9) fin_f (by omega) (kF_j k40 (by omega) (ns_b rfl) rgf_9_11 (by omega) (by omega)) (fun h44 k45 eh44 => ?_)
                      refine A_iincv (z := (i5 + 1)) (L' := [some (av_R (some 9)), some (av_R (some a1)), some (av_I a2), some (av_I a3), some (av_I a4), some (av_L a5), none, some (av_L a6), none, some (av_I (i5 + 1)), some (av_I x20)]) d_Parts_walkThrough_212 rfl (w32_to (by omega) (by unfold i32; omega)) rfl ?_
                      refine A_goto (tgt := 11) d_Parts_walkThrough_215 (by decide) ?_
                      refine A_free (L' := [some (av_R (some 9)), some (av_R (some a1)), some (av_I a2), some (av_I a3), some (av_I a4), some (av_L a5), none, some (av_L a6), none, some (av_I (i5 + 1)), none]) (And.intro rfl (And.intro rfl (And.intro rfl (And.intro rfl (And.intro rfl (And.intro rfl (And.intro rfl (And.intro rfl trivial)))))))) ?_
                      exact ih11 (i5 + 1) h44 (by omega) (by omega) (by have qq0 := ((eh44.1 _ _ (fun _ => by decide)).trans esd41.symm); have qq1 := ((eh44.1 _ _ (fun _ => by decide)).trans esd42.symm); have qq2 := ((eh44.1 _ _ (fun q => by omega)).trans esd43.symm); exact ⟨⟨by omega, by omega⟩, by omega⟩) k45 (by omega)
                · refine A_aload_n 0 d_Parts_walkThrough_158 rfl rfl ?_
                  refine A_aload_n 1 d_Parts_walkThrough_159 rfl rfl ?_
                  have zf47 := eh17.2.1
                  have zf48 := ((eh17.1 _ _ (fun _ => by decide)).trans esd9.symm)
                  have zf49 := ((eh17.1 _ _ (fun q => by omega)).trans esd10.symm)
                  refine A_callV1 m_Parts_meetLine T_ok d_Parts_walkThrough_160 l_Parts_76 k_Parts_meetLine (xi_s k18.1 sf_9) rfl (by decide +kernel) (by decide) (Nat.le_of_ble_eq_true rfl) (s_Parts_meetLine k18.1 ta1 (by have qq0 := eh17.2.1; have qq1 := ((eh17.1 _ _ (fun _ => by decide)).trans esd9.symm); have qq2 := ((eh17.1 _ _ (fun q => by omega)).trans esd10.symm); exact ⟨by omega, by omega⟩)) (fun r h46 hq => ?_)
                  obtain ⟨rfl, xk50, k50⟩ := hq
                  have k51 := kF_t k18 k50 (fun _ q => q)
                  obtain ⟨sd52, esd52⟩ : ∃ x, x = h46.2.1 9 8 := ⟨_, rfl⟩
                  have rsd52 : 0 ≤ sd52 ∧ sd52 ≤ 100000 := (by rw [esd52]; exact xi_g k51.1 (by decide) rgf_9_8)
                  obtain ⟨sd53, esd53⟩ : ∃ x, x = h46.2.1 9 10 := ⟨_, rfl⟩
                  have rsd53 : 0 ≤ sd53 ∧ sd53 ≤ 100000 := (by rw [esd53]; exact xi_g k51.1 (by decide) rgf_9_10)
                  obtain ⟨sd54, esd54⟩ : ∃ x, x = h46.2.1 a1 16 := ⟨_, rfl⟩
                  have rsd54 : 0 ≤ sd54 ∧ sd54 ≤ 101 := (by rw [esd54]; exact xi_g k51.1 (lt1_V (tV_V hS ta1)) (rg_V_16 (tV_V hS ta1)))
                  refine A_goto (tgt := 212) d_Parts_walkThrough_163 (by decide) ?_
                  refine A_iincv (z := (i5 + 1)) (L' := [some (av_R (some 9)), some (av_R (some a1)), some (av_I a2), some (av_I a3), some (av_I a4), some (av_L a5), none, some (av_L a6), none, some (av_I (i5 + 1)), some (av_I x20)]) d_Parts_walkThrough_212 rfl (w32_to (by omega) (by unfold i32; omega)) rfl ?_
                  refine A_goto (tgt := 11) d_Parts_walkThrough_215 (by decide) ?_
                  refine A_free (L' := [some (av_R (some 9)), some (av_R (some a1)), some (av_I a2), some (av_I a3), some (av_I a4), some (av_L a5), none, some (av_L a6), none, some (av_I (i5 + 1)), none]) (And.intro rfl (And.intro rfl (And.intro rfl (And.intro rfl (And.intro rfl (And.intro rfl (And.intro rfl (And.intro rfl trivial)))))))) ?_
                  exact ih11 (i5 + 1) h46 (by omega) (by omega) (by have qq0 := esd52.symm; have qq1 := esd53.symm; have qq2 := esd54.symm; exact ⟨⟨by omega, by omega⟩, by omega⟩) k51 (by omega)
              · refine A_aload_n 0 d_Parts_walkThrough_92 rfl rfl ?_
                refine A_aload_n 1 d_Parts_walkThrough_93 rfl rfl ?_
                refine A_iload d_Parts_walkThrough_94 rfl ?_
                refine A_iconst d_Parts_walkThrough_96 rfl ?_
                refine A_iaddv (z := (i5 + 1)) d_Parts_walkThrough_97 (w32_to (by omega) (by unfold i32; omega)) ?_
                refine A_pc (pc' := 98) rfl ?_
                refine A_aload_n 0 d_Parts_walkThrough_98 rfl rfl ?_
                refine A_getAv (z := some 11) T_ok d_Parts_walkThrough_99 f_Parts_15 (xi_s k18.1 sf_9) (xi_r k18.1 rff_9_1) ?_
                refine A_iload d_Parts_walkThrough_102 rfl ?_
                refine A_ialoadn (lo := 0) (hi := 1999) d_Parts_walkThrough_104 (xi_s k18.1 sf_11) (by omega) (by omega) (xi_g k18.1 (by decide) (rgf_11 _)) (fun x56 ex56 _ _ => ?_)
                refine A_iload d_Parts_walkThrough_105 rfl ?_
                refine A_iconst d_Parts_walkThrough_107 rfl ?_
                refine A_pc (pc' := 108) rfl ?_
                refine A_iaddv (z := (a4 + 1)) d_Parts_walkThrough_108 (w32_to (by omega) (by unfold i32; omega)) ?_
                refine A_lload d_Parts_walkThrough_109 rfl ?_
                refine A_aload_n 0 d_Parts_walkThrough_111 rfl rfl ?_
                refine A_getAv (z := some 13) T_ok d_Parts_walkThrough_112 f_Parts_21 (xi_s k18.1 sf_9) (xi_r k18.1 rff_9_3) ?_
                refine A_iload d_Parts_walkThrough_115 rfl ?_
                refine A_ialoadn (lo := 0) (hi := 16) d_Parts_walkThrough_117 (xi_s k18.1 sf_13) (by omega) (by omega) (xi_g k18.1 (by decide) (rgf_13 _)) (fun x58 ex58 _ _ => ?_)
                have yx58 := sP_at (kF_sem k18).1 ex20.symm.symm (by omega) ((eh17.1 _ _ (fun _ => by decide)).trans ex12.symm) (by omega) (by omega)
                refine A_pc (pc' := 118) rfl ?_
                refine A_i2l d_Parts_walkThrough_118 ?_
                refine A_lmulw d_Parts_walkThrough_119 (fun x59 ex59 _ _ => ?_)
                have bx59 := mul_pp64 (ux := 65536) (uy := 16) ex59 (by omega) (by omega) (by omega) (by omega) (by decide)
                refine A_lload d_Parts_walkThrough_120 rfl ?_
                refine A_aload_n 0 d_Parts_walkThrough_122 rfl rfl ?_
                refine A_getAv (z := some 12) T_ok d_Parts_walkThrough_123 f_Parts_18 (xi_s k18.1 sf_9) (xi_r k18.1 rff_9_2) ?_
                refine A_iload d_Parts_walkThrough_126 rfl ?_
                refine A_pc (pc' := 128) rfl ?_
                refine A_ialoadn (lo := 0) (hi := 300) d_Parts_walkThrough_128 (xi_s k18.1 sf_12) (by omega) (by omega) (xi_g k18.1 (by decide) (rgf_12 _)) (fun x61 ex61 _ _ => ?_)
                have yx61 := sP_at (kF_sem k18).1 ex20.symm.symm (by omega) ((eh17.1 _ _ (fun _ => by decide)).trans ex12.symm) (by omega) (by omega)
                refine A_i2l d_Parts_walkThrough_129 ?_
                refine A_lmulw d_Parts_walkThrough_130 (fun x62 ex62 _ _ => ?_)
                have bx62 := mul_nn64 (ux := 65536) (uy := 16) ex62 (by omega) (by omega) (by omega) (by omega) (by decide)
                have zf64 := eh17.2.1
                have zf65 := ((eh17.1 _ _ (fun _ => by decide)).trans esd9.symm)
                have zf66 := ((eh17.1 _ _ (fun q => by omega)).trans esd10.symm)
                refine A_callV6 m_Parts_walkThrough T_ok d_Parts_walkThrough_131 l_Parts_59 k_Parts_walkThrough (xi_s k18.1 sf_9) rfl (by decide +kernel) (by decide) (Nat.le_of_ble_eq_true rfl) (s_Parts_walkThrough_5 k18.1 ta1 (by omega) (by omega) (by omega) (by omega) (by omega) (by omega) (by omega) (by omega) (by omega) (by omega) (by have qq0 := eh17.2.1; have qq1 := ((eh17.1 _ _ (fun _ => by decide)).trans esd9.symm); have qq2 := ((eh17.1 _ _ (fun q => by omega)).trans esd10.symm); exact ⟨by omega, by omega⟩)) (fun r h63 hq => ?_)
                obtain ⟨rfl, xk67, k67⟩ := hq
                have k68 := kF_t k18 k67 (fun _ q => q)
                obtain ⟨sd69, esd69⟩ : ∃ x, x = h63.2.1 9 8 := ⟨_, rfl⟩
                have rsd69 : 0 ≤ sd69 ∧ sd69 ≤ 100000 := (by rw [esd69]; exact xi_g k68.1 (by decide) rgf_9_8)
                obtain ⟨sd70, esd70⟩ : ∃ x, x = h63.2.1 9 10 := ⟨_, rfl⟩
                have rsd70 : 0 ≤ sd70 ∧ sd70 ≤ 100000 := (by rw [esd70]; exact xi_g k68.1 (by decide) rgf_9_10)
                obtain ⟨sd71, esd71⟩ : ∃ x, x = h63.2.1 a1 16 := ⟨_, rfl⟩
                have rsd71 : 0 ≤ sd71 ∧ sd71 ≤ 101 := (by rw [esd71]; exact xi_g k68.1 (lt1_V (tV_V hS ta1)) (rg_V_16 (tV_V hS ta1)))
                refine A_iload d_Parts_walkThrough_134 rfl ?_
                refine A_aload_n 0 d_Parts_walkThrough_136 rfl rfl ?_
                refine A_getAv (z := some 11) T_ok d_Parts_walkThrough_137 f_Parts_15 (xi_s k68.1 sf_9) (xi_r k68.1 rff_9_1) ?_
                refine A_iload d_Parts_walkThrough_140 rfl ?_
                refine A_ialoadn (lo := 0) (hi := 1999) d_Parts_walkThrough_142 (xi_s k68.1 sf_11) (by omega) (by omega) (xi_g k68.1 (by decide) (rgf_11 _)) (fun x73 ex73 _ _ => ?_)
                refine A_pc (pc' := 143) rfl ?_
                refine A_mmax d_Parts_walkThrough_143 lm_Parts_70 ma_max (by decide) (by decide) (Nat.le_of_ble_eq_true rfl) rfl ?_
                refine A_nrI (fun x74 ex74 _ _ => ?_)
                have bx74 := mmax_r ex74
                refine A_istore (L' := [some (av_R (some 9)), some (av_R (some a1)), some (av_I a2), some (av_I a3), some (av_I a4), some (av_L a5), none, some (av_L a6), none, some (av_I x74), some (av_I x20)]) d_Parts_walkThrough_146 (Nat.le_of_ble_eq_true rfl) rfl ?_
                refine A_goto (tgt := 212) d_Parts_walkThrough_148 (by decide) ?_
                refine A_iincv (z := (x74 + 1)) (L' := [some (av_R (some 9)), some (av_R (some a1)), some (av_I a2), some (av_I a3), some (av_I a4), some (av_L a5), none, some (av_L a6), none, some (av_I (x74 + 1)), some (av_I x20)]) d_Parts_walkThrough_212 rfl (w32_to (by omega) (by unfold i32; omega)) rfl ?_
                refine A_goto (tgt := 11) d_Parts_walkThrough_215 (by decide) ?_
                refine A_free (L' := [some (av_R (some 9)), some (av_R (some a1)), some (av_I a2), some (av_I a3), some (av_I a4), some (av_L a5), none, some (av_L a6), none, some (av_I (x74 + 1)), none]) (And.intro rfl (And.intro rfl (And.intro rfl (And.intro rfl (And.intro rfl (And.intro rfl (And.intro rfl (And.intro rfl trivial)))))))) ?_
                exact ih11 (x74 + 1) h63 (by omega) (by omega) (by have qq0 := esd69.symm; have qq1 := esd70.symm; have qq2 := esd71.symm; exact ⟨⟨by omega, by omega⟩, by omega⟩) k68 (by omega)
            · refine A_iload d_Parts_walkThrough_62 rfl ?_
              refine A_aload_n 0 d_Parts_walkThrough_64 rfl rfl ?_
              refine A_aload_n 1 d_Parts_walkThrough_65 rfl rfl ?_
              refine A_iload d_Parts_walkThrough_66 rfl ?_
              refine A_iload d_Parts_walkThrough_68 rfl ?_
              refine A_pc (pc' := 70) rfl ?_
              refine A_lload d_Parts_walkThrough_70 rfl ?_
              refine A_lload d_Parts_walkThrough_72 rfl ?_
              have zf76 := eh17.2.1
              have zf77 := ((eh17.1 _ _ (fun _ => by decide)).trans esd9.symm)
              have zf78 := ((eh17.1 _ _ (fun q => by omega)).trans esd10.symm)
              refine A_callV5 m_Parts_walkRepeat T_ok d_Parts_walkThrough_74 l_Parts_66 k_Parts_walkRepeat (xi_s k18.1 sf_9) rfl (by decide +kernel) (by decide) (Nat.le_of_ble_eq_true rfl) (s_Parts_walkRepeat_4 k18.1 ta1 (by omega) (by omega) (by omega) (by omega) (by omega) (by omega) (by omega) (by omega) (by have qq0 := eh17.2.1; have qq1 := ((eh17.1 _ _ (fun _ => by decide)).trans esd9.symm); have qq2 := ((eh17.1 _ _ (fun q => by omega)).trans esd10.symm); exact ⟨by omega, by omega⟩) (by have qq0 := eh17.2.1; have qq1 := ((eh17.1 _ _ (fun _ => by decide)).trans esd9.symm); omega)) (fun r h75 hq => ?_)
              obtain ⟨x80, rfl, ⟨_, _⟩, xx80, k79⟩ := hq
              have k81 := kF_t k18 k79 (fun _ q => q)
              obtain ⟨sd82, esd82⟩ : ∃ x, x = h75.2.1 9 8 := ⟨_, rfl⟩
              have rsd82 : 0 ≤ sd82 ∧ sd82 ≤ 100000 := (by rw [esd82]; exact xi_g k81.1 (by decide) rgf_9_8)
              obtain ⟨sd83, esd83⟩ : ∃ x, x = h75.2.1 9 10 := ⟨_, rfl⟩
              have rsd83 : 0 ≤ sd83 ∧ sd83 ≤ 100000 := (by rw [esd83]; exact xi_g k81.1 (by decide) rgf_9_10)
              obtain ⟨sd84, esd84⟩ : ∃ x, x = h75.2.1 a1 16 := ⟨_, rfl⟩
              have rsd84 : 0 ≤ sd84 ∧ sd84 ≤ 101 := (by rw [esd84]; exact xi_g k81.1 (lt1_V (tV_V hS ta1)) (rg_V_16 (tV_V hS ta1)))
              refine A_mmax d_Parts_walkThrough_77 lm_Parts_70 ma_max (by decide) (by decide) (Nat.le_of_ble_eq_true rfl) rfl ?_
              refine A_nrI (fun x85 ex85 _ _ => ?_)
              have bx85 := mmax_r ex85
              refine A_istore (L' := [some (av_R (some 9)), some (av_R (some a1)), some (av_I a2), some (av_I a3), some (av_I a4), some (av_L a5), none, some (av_L a6), none, some (av_I x85), some (av_I x20)]) d_Parts_walkThrough_80 (Nat.le_of_ble_eq_true rfl) rfl ?_
              refine A_goto (tgt := 212) d_Parts_walkThrough_82 (by decide) ?_
              refine A_iincv (z := (x85 + 1)) (L' := [some (av_R (some 9)), some (av_R (some a1)), some (av_I a2), some (av_I a3), some (av_I a4), some (av_L a5), none, some (av_L a6), none, some (av_I (x85 + 1)), some (av_I x20)]) d_Parts_walkThrough_212 rfl (w32_to (by omega) (by unfold i32; omega)) rfl ?_
              refine A_goto (tgt := 11) d_Parts_walkThrough_215 (by decide) ?_
              refine A_free (L' := [some (av_R (some 9)), some (av_R (some a1)), some (av_I a2), some (av_I a3), some (av_I a4), some (av_L a5), none, some (av_L a6), none, some (av_I (x85 + 1)), none]) (And.intro rfl (And.intro rfl (And.intro rfl (And.intro rfl (And.intro rfl (And.intro rfl (And.intro rfl (And.intro rfl trivial)))))))) ?_
              exact ih11 (x85 + 1) h75 (by omega) (by omega) (by have qq0 := esd82.symm; have qq1 := esd83.symm; have qq2 := esd84.symm; exact ⟨⟨by omega, by omega⟩, by omega⟩) k81 (by omega)
  exact lp11 _ a2 h (by omega) (by omega) (by have qq0 := esd1.symm; have qq1 := esd2.symm; have qq2 := esd3.symm; exact ⟨⟨by omega, by omega⟩, by omega⟩) k0 (Nat.lt_succ_self _)
theorem s_Parts_walkRepeat_3 {G : cx_T} {s : Nat} {h : ah_T} (hx : xi s h) {a1 : Nat} {a2 : Int} {a3 : Int} {a4 : Int} {a5 : Int} (ta1 : tV s a1) (la2 : 0 ≤ a2) (ua2 : a2 ≤ 1999) (la3 : 3 ≤ a3) (ua3 : a3 ≤ 3) (la4 : 1 ≤ a4) (ua4 : a4 ≤ 4096) (la5 : 0 ≤ a5) (ua5 : a5 ≤ 4096) (hJ : h.2.1 9 10 ≤ h.2.1 9 8 ∧ h.2.1 a1 16 ≤ h.2.1 9 10 + 1) (hS2 : h.2.1 9 8 ≤ 2001) : con G 13 0 0 m_Parts_walkRepeat [av_R (some 9), av_R (some a1), av_I a2, av_I a3, av_L a4, av_L a5] h (fun r h' => ∃ z, r = some (av_I z) ∧ (0 ≤ z ∧ z ≤ 1999) ∧ ((h'.2.1 9 10 ≤ h'.2.1 9 8 ∧ h'.2.1 a1 16 ≤ h'.2.1 9 10 + 1) ∧ h'.2.1 9 8 ≤ 12001) ∧ kF (FB s) s h h') := by
  refine con_of (L := [some (av_R (some 9)), some (av_R (some a1)), some (av_I a2), some (av_I a3), some (av_L a4), none, some (av_L a5), none, none, none, none]) (by decide +kernel) (Nat.le_of_ble_eq_true rfl) rfl ?_
  have hS : isS s := hx.2.1
  have hs0 : s = 17 ∨ s = 80 := hS
  have hs0b : 17 ≤ s ∧ s ≤ 80 := by omega
  have k0 : kF (FB s) s h h := kF_0 hx
  have ga1 : a1 = s + 7 ∨ a1 = s + 21 ∨ a1 = s + 35 ∨ a1 = s + 49 := ta1
  have ga1b : s + 7 ≤ a1 ∧ a1 ≤ s + 49 := by omega
  obtain ⟨sd1, esd1⟩ : ∃ x, x = h.2.1 9 8 := ⟨_, rfl⟩
  have rsd1 : 0 ≤ sd1 ∧ sd1 ≤ 100000 := (by rw [esd1]; exact xi_g k0.1 (by decide) rgf_9_8)
  obtain ⟨sd2, esd2⟩ : ∃ x, x = h.2.1 9 10 := ⟨_, rfl⟩
  have rsd2 : 0 ≤ sd2 ∧ sd2 ≤ 100000 := (by rw [esd2]; exact xi_g k0.1 (by decide) rgf_9_10)
  obtain ⟨sd3, esd3⟩ : ∃ x, x = h.2.1 a1 16 := ⟨_, rfl⟩
  have rsd3 : 0 ≤ sd3 ∧ sd3 ≤ 101 := (by rw [esd3]; exact xi_g k0.1 (lt1_V (tV_V hS ta1)) (rg_V_16 (tV_V hS ta1)))
  refine A_aload_n 0 d_Parts_walkRepeat_0 rfl rfl ?_
  refine A_getAv (z := some 11) T_ok d_Parts_walkRepeat_1 f_Parts_15 (xi_s k0.1 sf_9) (xi_r k0.1 rff_9_1) ?_
  refine A_iload_n 2 d_Parts_walkRepeat_4 rfl rfl ?_
  refine A_ialoadn (lo := 0) (hi := 1999) d_Parts_walkRepeat_5 (xi_s k0.1 sf_11) (by omega) (by omega) (xi_g k0.1 (by decide) (rgf_11 _)) (fun x5 ex5 _ _ => ?_)
  refine A_istore (L' := [some (av_R (some 9)), some (av_R (some a1)), some (av_I a2), some (av_I a3), some (av_L a4), none, some (av_L a5), none, some (av_I x5), none, none]) d_Parts_walkRepeat_6 (Nat.le_of_ble_eq_true rfl) rfl ?_
  refine A_pc (pc' := 8) rfl ?_
  refine A_aload_n 0 d_Parts_walkRepeat_8 rfl rfl ?_
  refine A_getAv (z := some 10) T_ok d_Parts_walkRepeat_9 f_Parts_9 (xi_s k0.1 sf_9) (xi_r k0.1 rff_9_0) ?_
  refine A_iload d_Parts_walkRepeat_12 rfl ?_
  refine A_ialoadf d_Parts_walkRepeat_14 (xi_s k0.1 sf_10) (by omega) (by omega) (fun x7 ex7 _ _ => ?_)
  refine A_bipush d_Parts_walkRepeat_15 rfl ?_
  refine A_icmp_eq (tgt := 77) d_Parts_walkRepeat_17 (by decide) (fun c8 => ?_) (fun c8 => ?_)
  · refine A_iload d_Parts_walkRepeat_77 rfl ?_
    refine A_istore (L' := [some (av_R (some 9)), some (av_R (some a1)), some (av_I a2), some (av_I a3), some (av_L a4), none, some (av_L a5), none, some (av_I x5), some (av_I x5), none]) d_Parts_walkRepeat_79 (Nat.le_of_ble_eq_true rfl) rfl ?_
    refine A_iconst d_Parts_walkRepeat_81 rfl ?_
    refine A_istore (L' := [some (av_R (some 9)), some (av_R (some a1)), some (av_I a2), some (av_I a3), some (av_L a4), none, some (av_L a5), none, some (av_I x5), some (av_I x5), some (av_I 0)]) d_Parts_walkRepeat_82 (Nat.le_of_ble_eq_true rfl) rfl ?_
    have lp84 : ∀ (n : Nat) (i9 i10 : Int) (h11 : ah_T) , 0 ≤ i9 → i9 ≤ 1999 → 0 ≤ i10 → i10 ≤ 2000 → (h11.2.1 9 10 ≤ h11.2.1 9 8 ∧ h11.2.1 a1 16 ≤ h11.2.1 9 10 + 1) ∧ h11.2.1 9 8 ≤ 10001 + i10 → kF (FB s) s h h11 → (2001 - i10).toNat < n → aw G (rm_R 13 0 0) m_Parts_walkRepeat 0 0 84 [some (av_R (some 9)), some (av_R (some a1)), some (av_I a2), some (av_I a3), some (av_L a4), none, some (av_L a5), none, some (av_I x5), some (av_I i9), some (av_I i10)] [] h11 (fun r h' => ∃ z, r = some (av_I z) ∧ (0 ≤ z ∧ z ≤ 1999) ∧ ((h'.2.1 9 10 ≤ h'.2.1 9 8 ∧ h'.2.1 a1 16 ≤ h'.2.1 9 10 + 1) ∧ h'.2.1 9 8 ≤ 12001) ∧ kF (FB s) s h h') := by
      intro n
      induction n with
      | zero => intro i9 i10 h11 _ _ _ _ _ _ hm; omega
      | succ n ih84 =>
        intro i9 i10 h11 hl0 hl1 hl2 hl3 hinv k12 hm
        obtain ⟨sd13, esd13⟩ : ∃ x, x = h11.2.1 9 8 := ⟨_, rfl⟩
        have rsd13 : 0 ≤ sd13 ∧ sd13 ≤ 100000 := (by rw [esd13]; exact xi_g k12.1 (by decide) rgf_9_8)
        obtain ⟨sd14, esd14⟩ : ∃ x, x = h11.2.1 9 10 := ⟨_, rfl⟩
        have rsd14 : 0 ≤ sd14 ∧ sd14 ≤ 100000 := (by rw [esd14]; exact xi_g k12.1 (by decide) rgf_9_10)
        obtain ⟨sd15, esd15⟩ : ∃ x, x = h11.2.1 a1 16 := ⟨_, rfl⟩
        have rsd15 : 0 ≤ sd15 ∧ sd15 ≤ 101 := (by rw [esd15]; exact xi_g k12.1 (lt1_V (tV_V hS ta1)) (rg_V_16 (tV_V hS ta1)))
        refine A_iload d_Parts_walkRepeat_84 rfl ?_
        refine A_sipush d_Parts_walkRepeat_86 rfl ?_
        refine A_icmp_ge (tgt := 169) d_Parts_walkRepeat_89 (by decide) (fun c16 => ?_) (fun c16 => ?_)
        · refine A_iload d_Parts_walkRepeat_169 rfl ?_
          exact A_iret d_Parts_walkRepeat_171 (by decide) rfl ⟨_, rfl, ⟨by omega, by omega⟩, (by have qq0 := esd13.symm; have qq1 := esd14.symm; have qq2 := esd15.symm; exact ⟨⟨by omega, by omega⟩, by omega⟩), k12⟩
        · refine A_aload_n 0 d_Parts_walkRepeat_92 rfl rfl ?_
          refine A_getAv (z := some 10) T_ok d_Parts_walkRepeat_93 f_Parts_9 (xi_s k12.1 sf_9) (xi_r k12.1 rff_9_0) ?_
          refine A_iload d_Parts_walkRepeat_96 rfl ?_
          refine A_ialoadf d_Parts_walkRepeat_98 (xi_s k12.1 sf_10) (by omega) (by omega) (fun x18 ex18 _ _ => ?_)
          refine A_bipush d_Parts_walkRepeat_99 rfl ?_
          refine A_pc (pc' := 101) rfl ?_
          refine A_icmp_ne (tgt := 169) d_Parts_walkRepeat_101 (by decide) (fun c19 => ?_) (fun c19 => ?_)
          · refine A_iload d_Parts_walkRepeat_169 rfl ?_
            exact A_iret d_Parts_walkRepeat_171 (by decide) rfl ⟨_, rfl, ⟨by omega, by omega⟩, (by have qq0 := esd13.symm; have qq1 := esd14.symm; have qq2 := esd15.symm; exact ⟨⟨by omega, by omega⟩, by omega⟩), k12⟩
          · refine A_aload_n 0 d_Parts_walkRepeat_104 rfl rfl ?_
            refine A_dupR d_Parts_walkRepeat_105 ?_
            refine A_getIv (z := sd13) T_ok d_Parts_walkRepeat_106 f_Parts_46 (xi_s k12.1 sf_9) esd13.symm ?_
            refine A_iconst d_Parts_walkRepeat_109 rfl ?_
            refine A_iaddv (z := (sd13 + 1)) d_Parts_walkRepeat_110 (w32_to (by omega) (by unfold i32; omega)) ?_
            refine A_pc (pc' := 111) rfl ?_
            refine A_putIk (KR := kF (FB s) s h) T_ok d_Parts_walkRepeat_111 f_Parts_46 (xi_s k12.1 sf_9) fin_f (kF_j k12 (by omega) (ns_b rfl) rgf_9_8 (by omega) (by omega)) (fun h21 k22 eh21 => ?_)
            refine A_aload_n 0 d_Parts_walkRepeat_114 rfl rfl ?_
            refine A_aload_n 1 d_Parts_walkRepeat_115 rfl rfl ?_
            refine A_iload_n 2 d_Parts_walkRepeat_116 rfl rfl ?_
            refine A_iconst d_Parts_walkRepeat_117 rfl ?_
            refine A_iaddv (z := (a2 + 1)) d_Parts_walkRepeat_118 (w32_to (by omega) (by unfold i32; omega)) ?_
            refine A_pc (pc' := 119) rfl ?_
            refine A_iload d_Parts_walkRepeat_119 rfl ?_
            refine A_iload_n 3 d_Parts_walkRepeat_121 rfl rfl ?_
            refine A_iconst d_Parts_walkRepeat_122 rfl ?_
            refine A_iaddv (z := (a3 + 1)) d_Parts_walkRepeat_123 (w32_to (by omega) (by unfold i32; omega)) ?_
            refine A_lload d_Parts_walkRepeat_124 rfl ?_
            refine A_lload d_Parts_walkRepeat_126 rfl ?_
            refine A_pc (pc' := 128) rfl ?_
            have zf24 := eh21.2.1
            have zf25 := ((eh21.1 _ _ (fun _ => by decide)).trans esd14.symm)
            have zf26 := ((eh21.1 _ _ (fun q => by omega)).trans esd15.symm)
            refine A_callV6 m_Parts_walkThrough T_ok d_Parts_walkRepeat_128 l_Parts_59 k_Parts_walkThrough (xi_s k22.1 sf_9) rfl (by decide +kernel) (by decide) (Nat.le_of_ble_eq_true rfl) (s_Parts_walkThrough_4 k22.1 ta1 (by omega) (by omega) (by omega) (by omega) (by omega) (by omega) (by omega) (by omega) (by omega) (by omega) (by have qq0 := eh21.2.1; have qq1 := ((eh21.1 _ _ (fun _ => by decide)).trans esd14.symm); have qq2 := ((eh21.1 _ _ (fun q => by omega)).trans esd15.symm); exact ⟨by omega, by omega⟩)) (fun r h23 hq => ?_)
            obtain ⟨rfl, xk27, k27⟩ := hq
            have k28 := kF_t k22 k27 (fun _ q => q)
            obtain ⟨sd29, esd29⟩ : ∃ x, x = h23.2.1 9 8 := ⟨_, rfl⟩
            have rsd29 : 0 ≤ sd29 ∧ sd29 ≤ 100000 := (by rw [esd29]; exact xi_g k28.1 (by decide) rgf_9_8)
            obtain ⟨sd30, esd30⟩ : ∃ x, x = h23.2.1 9 10 := ⟨_, rfl⟩
            have rsd30 : 0 ≤ sd30 ∧ sd30 ≤ 100000 := (by rw [esd30]; exact xi_g k28.1 (by decide) rgf_9_10)
            obtain ⟨sd31, esd31⟩ : ∃ x, x = h23.2.1 a1 16 := ⟨_, rfl⟩
            have rsd31 : 0 ≤ sd31 ∧ sd31 ≤ 101 := (by rw [esd31]; exact xi_g k28.1 (lt1_V (tV_V hS ta1)) (rg_V_16 (tV_V hS ta1)))
            refine A_aload_n 0 d_Parts_walkRepeat_131 rfl rfl ?_
            refine A_aload_n 1 d_Parts_walkRepeat_132 rfl rfl ?_
            refine A_iload d_Parts_walkRepeat_133 rfl ?_
            refine A_iconst d_Parts_walkRepeat_135 rfl ?_
            refine A_iaddv (z := (i9 + 1)) d_Parts_walkRepeat_136 (w32_to (by omega) (by unfold i32; omega)) ?_
            refine A_pc (pc' := 137) rfl ?_
            refine A_aload_n 0 d_Parts_walkRepeat_137 rfl rfl ?_
            refine A_getAv (z := some 11) T_ok d_Parts_walkRepeat_138 f_Parts_15 (xi_s k28.1 sf_9) (xi_r k28.1 rff_9_1) ?_
            refine A_iload d_Parts_walkRepeat_141 rfl ?_
            refine A_ialoadn (lo := 0) (hi := 1999) d_Parts_walkRepeat_143 (xi_s k28.1 sf_11) (by omega) (by omega) (xi_g k28.1 (by decide) (rgf_11 _)) (fun x33 ex33 _ _ => ?_)
            refine A_iload_n 3 d_Parts_walkRepeat_144 rfl rfl ?_
            refine A_iconst d_Parts_walkRepeat_145 rfl ?_
            refine A_pc (pc' := 146) rfl ?_
            refine A_iaddv (z := (a3 + 1)) d_Parts_walkRepeat_146 (w32_to (by omega) (by unfold i32; omega)) ?_
            refine A_lload d_Parts_walkRepeat_147 rfl ?_
            refine A_lload d_Parts_walkRepeat_149 rfl ?_
            have zf35 := esd29.symm
            have zf36 := esd30.symm
            have zf37 := esd31.symm
            refine A_callV6 m_Parts_walkThrough T_ok d_Parts_walkRepeat_151 l_Parts_59 k_Parts_walkThrough (xi_s k28.1 sf_9) rfl (by decide +kernel) (by decide) (Nat.le_of_ble_eq_true rfl) (s_Parts_walkThrough_4 k28.1 ta1 (by omega) (by omega) (by omega) (by omega) (by omega) (by omega) (by omega) (by omega) (by omega) (by omega) (by have qq0 := esd29.symm; have qq1 := esd30.symm; have qq2 := esd31.symm; exact ⟨by omega, by omega⟩)) (fun r h34 hq => ?_)
            obtain ⟨rfl, xk38, k38⟩ := hq
            have k39 := kF_t k28 k38 (fun _ q => q)
            obtain ⟨sd40, esd40⟩ : ∃ x, x = h34.2.1 9 8 := ⟨_, rfl⟩
            have rsd40 : 0 ≤ sd40 ∧ sd40 ≤ 100000 := (by rw [esd40]; exact xi_g k39.1 (by decide) rgf_9_8)
            obtain ⟨sd41, esd41⟩ : ∃ x, x = h34.2.1 9 10 := ⟨_, rfl⟩
            have rsd41 : 0 ≤ sd41 ∧ sd41 ≤ 100000 := (by rw [esd41]; exact xi_g k39.1 (by decide) rgf_9_10)
            obtain ⟨sd42, esd42⟩ : ∃ x, x = h34.2.1 a1 16 := ⟨_, rfl⟩
            have rsd42 : 0 ≤ sd42 ∧ sd42 ≤ 101 := (by rw [esd42]; exact xi_g k39.1 (lt1_V (tV_V hS ta1)) (rg_V_16 (tV_V hS ta1)))
            refine A_aload_n 0 d_Parts_walkRepeat_154 rfl rfl ?_
            refine A_getAv (z := some 11) T_ok d_Parts_walkRepeat_155 f_Parts_15 (xi_s k39.1 sf_9) (xi_r k39.1 rff_9_1) ?_
            refine A_iload d_Parts_walkRepeat_158 rfl ?_
            refine A_ialoadn (lo := 0) (hi := 1999) d_Parts_walkRepeat_160 (xi_s k39.1 sf_11) (by omega) (by omega) (xi_g k39.1 (by decide) (rgf_11 _)) (fun x44 ex44 _ _ => ?_)
            refine A_istore (L' := [some (av_R (some 9)), some (av_R (some a1)), some (av_I a2), some (av_I a3), some (av_L a4), none, some (av_L a5), none, some (av_I x5), some (av_I x44), some (av_I i10)]) d_Parts_walkRepeat_161 (Nat.le_of_ble_eq_true rfl) rfl ?_
            refine A_pc (pc' := 163) rfl ?_
            refine A_iincv (z := (i10 + 1)) (L' := [some (av_R (some 9)), some (av_R (some a1)), some (av_I a2), some (av_I a3), some (av_L a4), none, some (av_L a5), none, some (av_I x5), some (av_I x44), some (av_I (i10 + 1))]) d_Parts_walkRepeat_163 rfl (w32_to (by omega) (by unfold i32; omega)) rfl ?_
            refine A_goto (tgt := 84) d_Parts_walkRepeat_166 (by decide) ?_
            exact ih84 x44 (i10 + 1) h34 (by omega) (by omega) (by omega) (by omega) (by have qq0 := esd40.symm; have qq1 := esd41.symm; have qq2 := esd42.symm; exact ⟨⟨by omega, by omega⟩, by omega⟩) k39 (by omega)
    exact lp84 _ x5 0 h (by omega) (by omega) (by omega) (by omega) (by have qq0 := esd1.symm; have qq1 := esd2.symm; have qq2 := esd3.symm; exact ⟨⟨by omega, by omega⟩, by omega⟩) k0 (Nat.lt_succ_self _)
  · refine A_aload_n 0 d_Parts_walkRepeat_20 rfl rfl ?_
    refine A_dupR d_Parts_walkRepeat_21 ?_
    refine A_getIv (z := sd1) T_ok d_Parts_walkRepeat_22 f_Parts_46 (xi_s k0.1 sf_9) esd1.symm ?_
    refine A_iconst d_Parts_walkRepeat_25 rfl ?_
    refine A_iaddv (z := (sd1 + 1)) d_Parts_walkRepeat_26 (w32_to (by omega) (by unfold i32; omega)) ?_
    refine A_pc (pc' := 27) rfl ?_
    refine A_putIk (KR := kF (FB s) s h) T_ok d_Parts_walkRepeat_27 f_Parts_46 (xi_s k0.1 sf_9) fin_f (kF_j k0 (by omega) (ns_b rfl) rgf_9_8 (by omega) (by omega)) (fun h46 k47 eh46 => ?_)
    refine A_aload_n 0 d_Parts_walkRepeat_30 rfl rfl ?_
    refine A_aload_n 1 d_Parts_walkRepeat_31 rfl rfl ?_
    refine A_iload_n 2 d_Parts_walkRepeat_32 rfl rfl ?_
    refine A_iconst d_Parts_walkRepeat_33 rfl ?_
    refine A_iaddv (z := (a2 + 1)) d_Parts_walkRepeat_34 (w32_to (by omega) (by unfold i32; omega)) ?_
    refine A_pc (pc' := 35) rfl ?_
    refine A_iload d_Parts_walkRepeat_35 rfl ?_
    refine A_iload_n 3 d_Parts_walkRepeat_37 rfl rfl ?_
    refine A_iconst d_Parts_walkRepeat_38 rfl ?_
    refine A_iaddv (z := (a3 + 1)) d_Parts_walkRepeat_39 (w32_to (by omega) (by unfold i32; omega)) ?_
    refine A_lload d_Parts_walkRepeat_40 rfl ?_
    refine A_lload d_Parts_walkRepeat_42 rfl ?_
    refine A_pc (pc' := 44) rfl ?_
    have zf49 := eh46.2.1
    have zf50 := ((eh46.1 _ _ (fun _ => by decide)).trans esd2.symm)
    have zf51 := ((eh46.1 _ _ (fun q => by omega)).trans esd3.symm)
    refine A_callV6 m_Parts_walkThrough T_ok d_Parts_walkRepeat_44 l_Parts_59 k_Parts_walkThrough (xi_s k47.1 sf_9) rfl (by decide +kernel) (by decide) (Nat.le_of_ble_eq_true rfl) (s_Parts_walkThrough_4 k47.1 ta1 (by omega) (by omega) (by omega) (by omega) (by omega) (by omega) (by omega) (by omega) (by omega) (by omega) (by have qq0 := eh46.2.1; have qq1 := ((eh46.1 _ _ (fun _ => by decide)).trans esd2.symm); have qq2 := ((eh46.1 _ _ (fun q => by omega)).trans esd3.symm); exact ⟨by omega, by omega⟩)) (fun r h48 hq => ?_)
    obtain ⟨rfl, xk52, k52⟩ := hq
    have k53 := kF_t k47 k52 (fun _ q => q)
    obtain ⟨sd54, esd54⟩ : ∃ x, x = h48.2.1 9 8 := ⟨_, rfl⟩
    have rsd54 : 0 ≤ sd54 ∧ sd54 ≤ 100000 := (by rw [esd54]; exact xi_g k53.1 (by decide) rgf_9_8)
    obtain ⟨sd55, esd55⟩ : ∃ x, x = h48.2.1 9 10 := ⟨_, rfl⟩
    have rsd55 : 0 ≤ sd55 ∧ sd55 ≤ 100000 := (by rw [esd55]; exact xi_g k53.1 (by decide) rgf_9_10)
    obtain ⟨sd56, esd56⟩ : ∃ x, x = h48.2.1 a1 16 := ⟨_, rfl⟩
    have rsd56 : 0 ≤ sd56 ∧ sd56 ≤ 101 := (by rw [esd56]; exact xi_g k53.1 (lt1_V (tV_V hS ta1)) (rg_V_16 (tV_V hS ta1)))
    refine A_aload_n 0 d_Parts_walkRepeat_47 rfl rfl ?_
    refine A_dupR d_Parts_walkRepeat_48 ?_
    refine A_getIv (z := sd54) T_ok d_Parts_walkRepeat_49 f_Parts_46 (xi_s k53.1 sf_9) esd54.symm ?_
    refine A_iconst d_Parts_walkRepeat_52 rfl ?_
    refine A_iaddv (z := (sd54 + 1)) d_Parts_walkRepeat_53 (w32_to (by omega) (by unfold i32; omega)) ?_
    refine A_pc (pc' := 54) rfl ?_
    refine A_putIk (KR := kF (FB s) s h) T_ok d_Parts_walkRepeat_54 f_Parts_46 (xi_s k53.1 sf_9) fin_f (kF_j k53 (by omega) (ns_b rfl) rgf_9_8 (by omega) (by omega)) (fun h58 k59 eh58 => ?_)
    refine A_aload_n 0 d_Parts_walkRepeat_57 rfl rfl ?_
    refine A_aload_n 1 d_Parts_walkRepeat_58 rfl rfl ?_
    refine A_iload_n 2 d_Parts_walkRepeat_59 rfl rfl ?_
    refine A_iconst d_Parts_walkRepeat_60 rfl ?_
    refine A_iaddv (z := (a2 + 1)) d_Parts_walkRepeat_61 (w32_to (by omega) (by unfold i32; omega)) ?_
    refine A_pc (pc' := 62) rfl ?_
    refine A_iload d_Parts_walkRepeat_62 rfl ?_
    refine A_iload_n 3 d_Parts_walkRepeat_64 rfl rfl ?_
    refine A_iconst d_Parts_walkRepeat_65 rfl ?_
    refine A_iaddv (z := (a3 + 1)) d_Parts_walkRepeat_66 (w32_to (by omega) (by unfold i32; omega)) ?_
    refine A_lload d_Parts_walkRepeat_67 rfl ?_
    refine A_lload d_Parts_walkRepeat_69 rfl ?_
    refine A_pc (pc' := 71) rfl ?_
    have zf61 := eh58.2.1
    have zf62 := ((eh58.1 _ _ (fun _ => by decide)).trans esd55.symm)
    have zf63 := ((eh58.1 _ _ (fun q => by omega)).trans esd56.symm)
    refine A_callV6 m_Parts_walkThrough T_ok d_Parts_walkRepeat_71 l_Parts_59 k_Parts_walkThrough (xi_s k59.1 sf_9) rfl (by decide +kernel) (by decide) (Nat.le_of_ble_eq_true rfl) (s_Parts_walkThrough_4 k59.1 ta1 (by omega) (by omega) (by omega) (by omega) (by omega) (by omega) (by omega) (by omega) (by omega) (by omega) (by have qq0 := eh58.2.1; have qq1 := ((eh58.1 _ _ (fun _ => by decide)).trans esd55.symm); have qq2 := ((eh58.1 _ _ (fun q => by omega)).trans esd56.symm); exact ⟨by omega, by omega⟩)) (fun r h60 hq => ?_)
    obtain ⟨rfl, xk64, k64⟩ := hq
    have k65 := kF_t k59 k64 (fun _ q => q)
    obtain ⟨sd66, esd66⟩ : ∃ x, x = h60.2.1 9 8 := ⟨_, rfl⟩
    have rsd66 : 0 ≤ sd66 ∧ sd66 ≤ 100000 := (by rw [esd66]; exact xi_g k65.1 (by decide) rgf_9_8)
    obtain ⟨sd67, esd67⟩ : ∃ x, x = h60.2.1 9 10 := ⟨_, rfl⟩
    have rsd67 : 0 ≤ sd67 ∧ sd67 ≤ 100000 := (by rw [esd67]; exact xi_g k65.1 (by decide) rgf_9_10)
    obtain ⟨sd68, esd68⟩ : ∃ x, x = h60.2.1 a1 16 := ⟨_, rfl⟩
    have rsd68 : 0 ≤ sd68 ∧ sd68 ≤ 101 := (by rw [esd68]; exact xi_g k65.1 (lt1_V (tV_V hS ta1)) (rg_V_16 (tV_V hS ta1)))
    refine A_iload d_Parts_walkRepeat_74 rfl ?_
    exact A_iret d_Parts_walkRepeat_76 (by decide) rfl ⟨_, rfl, ⟨by omega, by omega⟩, (by have qq0 := esd66.symm; have qq1 := esd67.symm; have qq2 := esd68.symm; exact ⟨⟨by omega, by omega⟩, by omega⟩), k65⟩
theorem s_Parts_walkThrough_3 {G : cx_T} {s : Nat} {h : ah_T} (hx : xi s h) {a1 : Nat} {a2 : Int} {a3 : Int} {a4 : Int} {a5 : Int} {a6 : Int} (ta1 : tV s a1) (la2 : 0 ≤ a2) (ua2 : a2 ≤ 2000) (la3 : 0 ≤ a3) (ua3 : a3 ≤ 2000) (la4 : 3 ≤ a4) (ua4 : a4 ≤ 3) (la5 : 1 ≤ a5) (ua5 : a5 ≤ 4096) (la6 : 0 ≤ a6) (ua6 : a6 ≤ 4096) (hJ : h.2.1 9 10 ≤ h.2.1 9 8 ∧ h.2.1 a1 16 ≤ h.2.1 9 10 + 1) : con G 14 0 0 m_Parts_walkThrough [av_R (some 9), av_R (some a1), av_I a2, av_I a3, av_I a4, av_L a5, av_L a6] h (fun r h' => r = none ∧ ((h'.2.1 9 10 ≤ h'.2.1 9 8 ∧ h'.2.1 a1 16 ≤ h'.2.1 9 10 + 1) ∧ (h'.2.1 9 8 ≤ h.2.1 9 8 ∨ h'.2.1 9 8 ≤ 12001)) ∧ kF (FB s) s h h') := by
  refine con_of (L := [some (av_R (some 9)), some (av_R (some a1)), some (av_I a2), some (av_I a3), some (av_I a4), some (av_L a5), none, some (av_L a6), none, none, none]) (by decide +kernel) (Nat.le_of_ble_eq_true rfl) rfl ?_
  have hS : isS s := hx.2.1
  have hs0 : s = 17 ∨ s = 80 := hS
  have hs0b : 17 ≤ s ∧ s ≤ 80 := by omega
  have k0 : kF (FB s) s h h := kF_0 hx
  have ga1 : a1 = s + 7 ∨ a1 = s + 21 ∨ a1 = s + 35 ∨ a1 = s + 49 := ta1
  have ga1b : s + 7 ≤ a1 ∧ a1 ≤ s + 49 := by omega
  obtain ⟨sd1, esd1⟩ : ∃ x, x = h.2.1 9 8 := ⟨_, rfl⟩
  have rsd1 : 0 ≤ sd1 ∧ sd1 ≤ 100000 := (by rw [esd1]; exact xi_g k0.1 (by decide) rgf_9_8)
  obtain ⟨sd2, esd2⟩ : ∃ x, x = h.2.1 9 10 := ⟨_, rfl⟩
  have rsd2 : 0 ≤ sd2 ∧ sd2 ≤ 100000 := (by rw [esd2]; exact xi_g k0.1 (by decide) rgf_9_10)
  obtain ⟨sd3, esd3⟩ : ∃ x, x = h.2.1 a1 16 := ⟨_, rfl⟩
  have rsd3 : 0 ≤ sd3 ∧ sd3 ≤ 101 := (by rw [esd3]; exact xi_g k0.1 (lt1_V (tV_V hS ta1)) (rg_V_16 (tV_V hS ta1)))
  refine A_iload d_Parts_walkThrough_0 rfl ?_
  refine A_bipush d_Parts_walkThrough_2 rfl ?_
  refine A_icmp_le (tgt := 8) d_Parts_walkThrough_4 (by decide) (fun c4 => ?_) (fun c => False.elim (by omega))
  refine A_iload_n 2 d_Parts_walkThrough_8 rfl rfl ?_
  refine A_istore (L' := [some (av_R (some 9)), some (av_R (some a1)), some (av_I a2), some (av_I a3), some (av_I a4), some (av_L a5), none, some (av_L a6), none, some (av_I a2), none]) d_Parts_walkThrough_9 (Nat.le_of_ble_eq_true rfl) rfl ?_
  have lp11 : ∀ (n : Nat) (i5 : Int) (h6 : ah_T) , 0 ≤ i5 → i5 ≤ 2000 → (h6.2.1 9 10 ≤ h6.2.1 9 8 ∧ h6.2.1 a1 16 ≤ h6.2.1 9 10 + 1) ∧ (h6.2.1 9 8 ≤ h.2.1 9 8 ∨ h6.2.1 9 8 ≤ 12001) → kF (FB s) s h h6 → (2001 - i5).toNat < n → aw G (rm_R 14 0 0) m_Parts_walkThrough 0 0 11 [some (av_R (some 9)), some (av_R (some a1)), some (av_I a2), some (av_I a3), some (av_I a4), some (av_L a5), none, some (av_L a6), none, some (av_I i5), none] [] h6 (fun r h' => r = none ∧ ((h'.2.1 9 10 ≤ h'.2.1 9 8 ∧ h'.2.1 a1 16 ≤ h'.2.1 9 10 + 1) ∧ (h'.2.1 9 8 ≤ h.2.1 9 8 ∨ h'.2.1 9 8 ≤ 12001)) ∧ kF (FB s) s h h') := by
    intro n
    induction n with
    | zero => intro i5 h6 _ _ _ _ hm; omega
    | succ n ih11 =>
      intro i5 h6 hl0 hl1 hinv k7 hm
      obtain ⟨sd8, esd8⟩ : ∃ x, x = h6.2.1 9 8 := ⟨_, rfl⟩
      have rsd8 : 0 ≤ sd8 ∧ sd8 ≤ 100000 := (by rw [esd8]; exact xi_g k7.1 (by decide) rgf_9_8)
      obtain ⟨sd9, esd9⟩ : ∃ x, x = h6.2.1 9 10 := ⟨_, rfl⟩
      have rsd9 : 0 ≤ sd9 ∧ sd9 ≤ 100000 := (by rw [esd9]; exact xi_g k7.1 (by decide) rgf_9_10)
      obtain ⟨sd10, esd10⟩ : ∃ x, x = h6.2.1 a1 16 := ⟨_, rfl⟩
      have rsd10 : 0 ≤ sd10 ∧ sd10 ≤ 101 := (by rw [esd10]; exact xi_g k7.1 (lt1_V (tV_V hS ta1)) (rg_V_16 (tV_V hS ta1)))
      refine A_iload d_Parts_walkThrough_11 rfl ?_
      refine A_iload_n 3 d_Parts_walkThrough_13 rfl rfl ?_
      refine A_icmp_ge (tgt := 218) d_Parts_walkThrough_14 (by decide) (fun c11 => ?_) (fun c11 => ?_)
      · exact A_vret d_Parts_walkThrough_218 (by decide) rfl ⟨rfl, (by have qq0 := esd8.symm; have qq1 := esd9.symm; have qq2 := esd10.symm; exact ⟨⟨by omega, by omega⟩, by omega⟩), k7⟩
      · refine A_iload d_Parts_walkThrough_17 rfl ?_
        refine A_aload_n 0 d_Parts_walkThrough_19 rfl rfl ?_
        refine A_getIn (lo := 0) (hi := 2000) T_ok d_Parts_walkThrough_20 f_Parts_30 (xi_s k7.1 sf_9) (xi_g k7.1 (by decide) rgf_9_4) (fun x12 ex12 _ _ => ?_)
        refine A_icmp_ge (tgt := 218) d_Parts_walkThrough_23 (by decide) (fun c13 => ?_) (fun c13 => ?_)
        · exact A_vret d_Parts_walkThrough_218 (by decide) rfl ⟨rfl, (by have qq0 := esd8.symm; have qq1 := esd9.symm; have qq2 := esd10.symm; exact ⟨⟨by omega, by omega⟩, by omega⟩), k7⟩
        · refine A_aload_n 0 d_Parts_walkThrough_26 rfl rfl ?_
          refine A_getIv (z := sd8) T_ok d_Parts_walkThrough_27 f_Parts_46 (xi_s k7.1 sf_9) esd8.symm ?_
          refine A_sipush d_Parts_walkThrough_30 rfl ?_
          refine A_icmp_gt (tgt := 218) d_Parts_walkThrough_33 (by decide) (fun c15 => ?_) (fun c15 => ?_)
          · exact A_vret d_Parts_walkThrough_218 (by decide) rfl ⟨rfl, (by have qq0 := esd8.symm; have qq1 := esd9.symm; have qq2 := esd10.symm; exact ⟨⟨by omega, by omega⟩, by omega⟩), k7⟩
          · refine A_aload_n 0 d_Parts_walkThrough_36 rfl rfl ?_
            refine A_dupR d_Parts_walkThrough_37 ?_
            refine A_getIv (z := sd8) T_ok d_Parts_walkThrough_38 f_Parts_46 (xi_s k7.1 sf_9) esd8.symm ?_
            refine A_iconst d_Parts_walkThrough_41 rfl ?_
            refine A_iaddv (z := (sd8 + 1)) d_Parts_walkThrough_42 (w32_to (by omega) (by unfold i32; omega)) ?_
            refine A_pc (pc' := 43) rfl ?_
            refine A_putIk (KR := kF (FB s) s h) T_ok d_Parts_walkThrough_43 f_Parts_46 (xi_s k7.1 sf_9) fin_f (kF_j k7 (by omega) (ns_b rfl) rgf_9_8 (by omega) (by omega)) (fun h17 k18 eh17 => ?_)
            refine A_aload_n 0 d_Parts_walkThrough_46 rfl rfl ?_
            refine A_getAv (z := some 10) T_ok d_Parts_walkThrough_47 f_Parts_9 (xi_s k18.1 sf_9) (xi_r k18.1 rff_9_0) ?_
            refine A_iload d_Parts_walkThrough_50 rfl ?_
            refine A_ialoadf d_Parts_walkThrough_52 (xi_s k18.1 sf_10) (by omega) (by omega) (fun x20 ex20 _ _ => ?_)
            refine A_istore (L' := [some (av_R (some 9)), some (av_R (some a1)), some (av_I a2), some (av_I a3), some (av_I a4), some (av_L a5), none, some (av_L a6), none, some (av_I i5), some (av_I x20)]) d_Parts_walkThrough_53 (Nat.le_of_ble_eq_true rfl) rfl ?_
            refine A_pc (pc' := 55) rfl ?_
            refine A_iload d_Parts_walkThrough_55 rfl ?_
            refine A_bipush d_Parts_walkThrough_57 rfl ?_
            refine A_icmp_ne (tgt := 85) d_Parts_walkThrough_59 (by decide) (fun c21 => ?_) (fun c21 => ?_)
            · refine A_iload d_Parts_walkThrough_85 rfl ?_
              refine A_bipush d_Parts_walkThrough_87 rfl ?_
              refine A_icmp_ne (tgt := 151) d_Parts_walkThrough_89 (by decide) (fun c22 => ?_) (fun c22 => ?_)
              · refine A_iload d_Parts_walkThrough_151 rfl ?_
                refine A_bipush d_Parts_walkThrough_153 rfl ?_
                refine A_icmp_ne (tgt := 166) d_Parts_walkThrough_155 (by decide) (fun c23 => ?_) (fun c23 => ?_)
                · refine A_aload_n 0 d_Parts_walkThrough_166 rfl rfl ?_
                  refine A_dupR d_Parts_walkThrough_167 ?_
                  refine A_getIf T_ok d_Parts_walkThrough_168 f_Parts_49 (xi_s k18.1 sf_9) (fun x24 ex24 _ _ => ?_)
                  refine A_iconst d_Parts_walkThrough_171 rfl ?_
                  refine A_iaddw d_Parts_walkThrough_172 (fun x25 _ _ _ => ?_)
                  refine A_pc (pc' := 173) rfl ?_
                  refine A_putIk (KR := kF (FB s) s h) T_ok d_Parts_walkThrough_173 f_Parts_49 (xi_s k18.1 sf_9) fin_f (kF_j k18 (by omega) (ns_b rfl) rgf_9_9 (by omega) (by omega)) (fun h26 k27 eh26 => ?_)
                  refine A_aload_n 0 d_Parts_walkThrough_176 rfl rfl ?_
                  refine A_getIv (z := x25) T_ok d_Parts_walkThrough_177 f_Parts_49 (xi_s k27.1 sf_9) eh26.2.1 ?_
                  refine A_sipush d_Parts_walkThrough_180 rfl ?_
                  refine A_icmp_gt (tgt := 212) d_Parts_walkThrough_183 (by decide) (fun c29 => ?_) (fun c29 => ?_)
                  · refine A_iincv (z := (i5 + 1)) (L' := [some (av_R (some 9)), some (av_R (some a1)), some (av_I a2), some (av_I a3), some (av_I a4), some (av_L a5), none, some (av_L a6), none, some (av_I (i5 + 1)), some (av_I x20)]) d_Parts_walkThrough_212 rfl (w32_to (by omega) (by unfold i32; omega)) rfl ?_
                    refine A_goto (tgt := 11) d_Parts_walkThrough_215 (by decide) ?_
                    refine A_free (L' := [some (av_R (some 9)), some (av_R (some a1)), some (av_I a2), some (av_I a3), some (av_I a4), some (av_L a5), none, some (av_L a6), none, some (av_I (i5 + 1)), none]) (And.intro rfl (And.intro rfl (And.intro rfl (And.intro rfl (And.intro rfl (And.intro rfl (And.intro rfl (And.intro rfl trivial)))))))) ?_
                    exact ih11 (i5 + 1) h26 (by omega) (by omega) (by have qq0 := ((eh26.1 _ _ (fun _ => by decide)).trans eh17.2.1); have qq1 := ((eh26.1 _ _ (fun _ => by decide)).trans ((eh17.1 _ _ (fun _ => by decide)).trans esd9.symm)); have qq2 := ((eh26.1 _ _ (fun q => by omega)).trans ((eh17.1 _ _ (fun q => by omega)).trans esd10.symm)); exact ⟨⟨by omega, by omega⟩, by omega⟩) k27 (by omega)
                  · refine A_aload_n 0 d_Parts_walkThrough_186 rfl rfl ?_
                    refine A_getZn T_ok d_Parts_walkThrough_187 f_Parts_55 (xi_s k27.1 sf_9) (fun x30 ex30 bx30 => ?_)
                    refine A_if_eq (tgt := 212) d_Parts_walkThrough_190 (by decide) (fun c31 => ?_) (fun c31 => ?_)
                    · refine A_iincv (z := (i5 + 1)) (L' := [some (av_R (some 9)), some (av_R (some a1)), some (av_I a2), some (av_I a3), some (av_I a4), some (av_L a5), none, some (av_L a6), none, some (av_I (i5 + 1)), some (av_I x20)]) d_Parts_walkThrough_212 rfl (w32_to (by omega) (by unfold i32; omega)) rfl ?_
                      refine A_goto (tgt := 11) d_Parts_walkThrough_215 (by decide) ?_
                      refine A_free (L' := [some (av_R (some 9)), some (av_R (some a1)), some (av_I a2), some (av_I a3), some (av_I a4), some (av_L a5), none, some (av_L a6), none, some (av_I (i5 + 1)), none]) (And.intro rfl (And.intro rfl (And.intro rfl (And.intro rfl (And.intro rfl (And.intro rfl (And.intro rfl (And.intro rfl trivial)))))))) ?_
                      exact ih11 (i5 + 1) h26 (by omega) (by omega) (by have qq0 := ((eh26.1 _ _ (fun _ => by decide)).trans eh17.2.1); have qq1 := ((eh26.1 _ _ (fun _ => by decide)).trans ((eh17.1 _ _ (fun _ => by decide)).trans esd9.symm)); have qq2 := ((eh26.1 _ _ (fun q => by omega)).trans ((eh17.1 _ _ (fun q => by omega)).trans esd10.symm)); exact ⟨⟨by omega, by omega⟩, by omega⟩) k27 (by omega)
                    · refine A_aload_n 0 d_Parts_walkThrough_193 rfl rfl ?_
                      refine A_aload_n 1 d_Parts_walkThrough_194 rfl rfl ?_
                      refine A_aload_n 0 d_Parts_walkThrough_195 rfl rfl ?_
                      refine A_getAv (z := some 12) T_ok d_Parts_walkThrough_196 f_Parts_18 (xi_s k27.1 sf_9) (xi_r k27.1 rff_9_2) ?_
                      refine A_iload d_Parts_walkThrough_199 rfl ?_
                      refine A_pc (pc' := 201) rfl ?_
                      refine A_ialoadn (lo := 0) (hi := 300) d_Parts_walkThrough_201 (xi_s k27.1 sf_12) (by omega) (by omega) (xi_g k27.1 (by decide) (rgf_12 _)) (fun x33 ex33 _ _ => ?_)
                      refine A_lload d_Parts_walkThrough_202 rfl ?_
                      refine A_lload d_Parts_walkThrough_204 rfl ?_
                      have zf35 := ((eh26.1 _ _ (fun _ => by decide)).trans eh17.2.1)
                      have zf36 := ((eh26.1 _ _ (fun _ => by decide)).trans ((eh17.1 _ _ (fun _ => by decide)).trans esd9.symm))
                      have zf37 := ((eh26.1 _ _ (fun q => by omega)).trans ((eh17.1 _ _ (fun q => by omega)).trans esd10.symm))
                      refine A_callV3 m_Voice_addEvent T_ok d_Parts_walkThrough_206 l_Parts_80 k_Voice_addEvent (xs_V k27.1 (tV_V hS ta1)) rfl (by decide +kernel) (by decide) (Nat.le_of_ble_eq_true rfl) (s_Voice_addEvent k27.1 ta1 (by omega) (by omega) (by omega) (by omega)) (fun r h34 hq => ?_)
                      obtain ⟨x39, rfl, bx39, xx39, k38⟩ := hq
                      have k40 := kF_t k27 k38 (fun _ q => q)
                      obtain ⟨sd41, esd41⟩ : ∃ x, x = h34.2.1 9 8 := ⟨_, rfl⟩
                      have rsd41 : 0 ≤ sd41 ∧ sd41 ≤ 100000 := (by rw [esd41]; exact xi_g k40.1 (by decide) rgf_9_8)
                      obtain ⟨sd42, esd42⟩ : ∃ x, x = h34.2.1 9 10 := ⟨_, rfl⟩
                      have rsd42 : 0 ≤ sd42 ∧ sd42 ≤ 100000 := (by rw [esd42]; exact xi_g k40.1 (by decide) rgf_9_10)
                      obtain ⟨sd43, esd43⟩ : ∃ x, x = h34.2.1 a1 16 := ⟨_, rfl⟩
                      have rsd43 : 0 ≤ sd43 ∧ sd43 ≤ 101 := (by rw [esd43]; exact xi_g k40.1 (lt1_V (tV_V hS ta1)) (rg_V_16 (tV_V hS ta1)))
                      refine A_putZk (KR := kF (FB s) s h) T_ok d_Parts_walkThrough_209 f_Parts_55 (xi_s k40.1 sf_9) fin_f (by omega) (kF_j k40 (by omega) (ns_b rfl) rgf_9_11 (by omega) (by omega)) (fun h44 k45 eh44 => ?_)
                      refine A_iincv (z := (i5 + 1)) (L' := [some (av_R (some 9)), some (av_R (some a1)), some (av_I a2), some (av_I a3), some (av_I a4), some (av_L a5), none, some (av_L a6), none, some (av_I (i5 + 1)), some (av_I x20)]) d_Parts_walkThrough_212 rfl (w32_to (by omega) (by unfold i32; omega)) rfl ?_
                      refine A_goto (tgt := 11) d_Parts_walkThrough_215 (by decide) ?_
                      refine A_free (L' := [some (av_R (some 9)), some (av_R (some a1)), some (av_I a2), some (av_I a3), some (av_I a4), some (av_L a5), none, some (av_L a6), none, some (av_I (i5 + 1)), none]) (And.intro rfl (And.intro rfl (And.intro rfl (And.intro rfl (And.intro rfl (And.intro rfl (And.intro rfl (And.intro rfl trivial)))))))) ?_
                      exact ih11 (i5 + 1) h44 (by omega) (by omega) (by have qq0 := ((eh44.1 _ _ (fun _ => by decide)).trans esd41.symm); have qq1 := ((eh44.1 _ _ (fun _ => by decide)).trans esd42.symm); have qq2 := ((eh44.1 _ _ (fun q => by omega)).trans esd43.symm); exact ⟨⟨by omega, by omega⟩, by omega⟩) k45 (by omega)
                · refine A_aload_n 0 d_Parts_walkThrough_158 rfl rfl ?_
                  refine A_aload_n 1 d_Parts_walkThrough_159 rfl rfl ?_
                  have zf47 := eh17.2.1
                  have zf48 := ((eh17.1 _ _ (fun _ => by decide)).trans esd9.symm)
                  have zf49 := ((eh17.1 _ _ (fun q => by omega)).trans esd10.symm)
                  refine A_callV1 m_Parts_meetLine T_ok d_Parts_walkThrough_160 l_Parts_76 k_Parts_meetLine (xi_s k18.1 sf_9) rfl (by decide +kernel) (by decide) (Nat.le_of_ble_eq_true rfl) (s_Parts_meetLine k18.1 ta1 (by have qq0 := eh17.2.1; have qq1 := ((eh17.1 _ _ (fun _ => by decide)).trans esd9.symm); have qq2 := ((eh17.1 _ _ (fun q => by omega)).trans esd10.symm); exact ⟨by omega, by omega⟩)) (fun r h46 hq => ?_)
                  obtain ⟨rfl, xk50, k50⟩ := hq
                  have k51 := kF_t k18 k50 (fun _ q => q)
                  obtain ⟨sd52, esd52⟩ : ∃ x, x = h46.2.1 9 8 := ⟨_, rfl⟩
                  have rsd52 : 0 ≤ sd52 ∧ sd52 ≤ 100000 := (by rw [esd52]; exact xi_g k51.1 (by decide) rgf_9_8)
                  obtain ⟨sd53, esd53⟩ : ∃ x, x = h46.2.1 9 10 := ⟨_, rfl⟩
                  have rsd53 : 0 ≤ sd53 ∧ sd53 ≤ 100000 := (by rw [esd53]; exact xi_g k51.1 (by decide) rgf_9_10)
                  obtain ⟨sd54, esd54⟩ : ∃ x, x = h46.2.1 a1 16 := ⟨_, rfl⟩
                  have rsd54 : 0 ≤ sd54 ∧ sd54 ≤ 101 := (by rw [esd54]; exact xi_g k51.1 (lt1_V (tV_V hS ta1)) (rg_V_16 (tV_V hS ta1)))
                  refine A_goto (tgt := 212) d_Parts_walkThrough_163 (by decide) ?_
                  refine A_iincv (z := (i5 + 1)) (L' := [some (av_R (some 9)), some (av_R (some a1)), some (av_I a2), some (av_I a3), some (av_I a4), some (av_L a5), none, some (av_L a6), none, some (av_I (i5 + 1)), some (av_I x20)]) d_Parts_walkThrough_212 rfl (w32_to (by omega) (by unfold i32; omega)) rfl ?_
                  refine A_goto (tgt := 11) d_Parts_walkThrough_215 (by decide) ?_
                  refine A_free (L' := [some (av_R (some 9)), some (av_R (some a1)), some (av_I a2), some (av_I a3), some (av_I a4), some (av_L a5), none, some (av_L a6), none, some (av_I (i5 + 1)), none]) (And.intro rfl (And.intro rfl (And.intro rfl (And.intro rfl (And.intro rfl (And.intro rfl (And.intro rfl (And.intro rfl trivial)))))))) ?_
                  exact ih11 (i5 + 1) h46 (by omega) (by omega) (by have qq0 := esd52.symm; have qq1 := esd53.symm; have qq2 := esd54.symm; exact ⟨⟨by omega, by omega⟩, by omega⟩) k51 (by omega)
              · refine A_aload_n 0 d_Parts_walkThrough_92 rfl rfl ?_
                refine A_aload_n 1 d_Parts_walkThrough_93 rfl rfl ?_
                refine A_iload d_Parts_walkThrough_94 rfl ?_
                refine A_iconst d_Parts_walkThrough_96 rfl ?_
                refine A_iaddv (z := (i5 + 1)) d_Parts_walkThrough_97 (w32_to (by omega) (by unfold i32; omega)) ?_
                refine A_pc (pc' := 98) rfl ?_
                refine A_aload_n 0 d_Parts_walkThrough_98 rfl rfl ?_
                refine A_getAv (z := some 11) T_ok d_Parts_walkThrough_99 f_Parts_15 (xi_s k18.1 sf_9) (xi_r k18.1 rff_9_1) ?_
                refine A_iload d_Parts_walkThrough_102 rfl ?_
                refine A_ialoadn (lo := 0) (hi := 1999) d_Parts_walkThrough_104 (xi_s k18.1 sf_11) (by omega) (by omega) (xi_g k18.1 (by decide) (rgf_11 _)) (fun x56 ex56 _ _ => ?_)
                refine A_iload d_Parts_walkThrough_105 rfl ?_
                refine A_iconst d_Parts_walkThrough_107 rfl ?_
                refine A_pc (pc' := 108) rfl ?_
                refine A_iaddv (z := (a4 + 1)) d_Parts_walkThrough_108 (w32_to (by omega) (by unfold i32; omega)) ?_
                refine A_lload d_Parts_walkThrough_109 rfl ?_
                refine A_aload_n 0 d_Parts_walkThrough_111 rfl rfl ?_
                refine A_getAv (z := some 13) T_ok d_Parts_walkThrough_112 f_Parts_21 (xi_s k18.1 sf_9) (xi_r k18.1 rff_9_3) ?_
                refine A_iload d_Parts_walkThrough_115 rfl ?_
                refine A_ialoadn (lo := 0) (hi := 16) d_Parts_walkThrough_117 (xi_s k18.1 sf_13) (by omega) (by omega) (xi_g k18.1 (by decide) (rgf_13 _)) (fun x58 ex58 _ _ => ?_)
                have yx58 := sP_at (kF_sem k18).1 ex20.symm.symm (by omega) ((eh17.1 _ _ (fun _ => by decide)).trans ex12.symm) (by omega) (by omega)
                refine A_pc (pc' := 118) rfl ?_
                refine A_i2l d_Parts_walkThrough_118 ?_
                refine A_lmulw d_Parts_walkThrough_119 (fun x59 ex59 _ _ => ?_)
                have bx59 := mul_pp64 (ux := 4096) (uy := 16) ex59 (by omega) (by omega) (by omega) (by omega) (by decide)
                refine A_lload d_Parts_walkThrough_120 rfl ?_
                refine A_aload_n 0 d_Parts_walkThrough_122 rfl rfl ?_
                refine A_getAv (z := some 12) T_ok d_Parts_walkThrough_123 f_Parts_18 (xi_s k18.1 sf_9) (xi_r k18.1 rff_9_2) ?_
                refine A_iload d_Parts_walkThrough_126 rfl ?_
                refine A_pc (pc' := 128) rfl ?_
                refine A_ialoadn (lo := 0) (hi := 300) d_Parts_walkThrough_128 (xi_s k18.1 sf_12) (by omega) (by omega) (xi_g k18.1 (by decide) (rgf_12 _)) (fun x61 ex61 _ _ => ?_)
                have yx61 := sP_at (kF_sem k18).1 ex20.symm.symm (by omega) ((eh17.1 _ _ (fun _ => by decide)).trans ex12.symm) (by omega) (by omega)
                refine A_i2l d_Parts_walkThrough_129 ?_
                refine A_lmulw d_Parts_walkThrough_130 (fun x62 ex62 _ _ => ?_)
                have bx62 := mul_nn64 (ux := 4096) (uy := 16) ex62 (by omega) (by omega) (by omega) (by omega) (by decide)
                have zf64 := eh17.2.1
                have zf65 := ((eh17.1 _ _ (fun _ => by decide)).trans esd9.symm)
                have zf66 := ((eh17.1 _ _ (fun q => by omega)).trans esd10.symm)
                refine A_callV6 m_Parts_walkThrough T_ok d_Parts_walkThrough_131 l_Parts_59 k_Parts_walkThrough (xi_s k18.1 sf_9) rfl (by decide +kernel) (by decide) (Nat.le_of_ble_eq_true rfl) (s_Parts_walkThrough_4 k18.1 ta1 (by omega) (by omega) (by omega) (by omega) (by omega) (by omega) (by omega) (by omega) (by omega) (by omega) (by have qq0 := eh17.2.1; have qq1 := ((eh17.1 _ _ (fun _ => by decide)).trans esd9.symm); have qq2 := ((eh17.1 _ _ (fun q => by omega)).trans esd10.symm); exact ⟨by omega, by omega⟩)) (fun r h63 hq => ?_)
                obtain ⟨rfl, xk67, k67⟩ := hq
                have k68 := kF_t k18 k67 (fun _ q => q)
                obtain ⟨sd69, esd69⟩ : ∃ x, x = h63.2.1 9 8 := ⟨_, rfl⟩
                have rsd69 : 0 ≤ sd69 ∧ sd69 ≤ 100000 := (by rw [esd69]; exact xi_g k68.1 (by decide) rgf_9_8)
                obtain ⟨sd70, esd70⟩ : ∃ x, x = h63.2.1 9 10 := ⟨_, rfl⟩
                have rsd70 : 0 ≤ sd70 ∧ sd70 ≤ 100000 := (by rw [esd70]; exact xi_g k68.1 (by decide) rgf_9_10)
                obtain ⟨sd71, esd71⟩ : ∃ x, x = h63.2.1 a1 16 := ⟨_, rfl⟩
                have rsd71 : 0 ≤ sd71 ∧ sd71 ≤ 101 := (by rw [esd71]; exact xi_g k68.1 (lt1_V (tV_V hS ta1)) (rg_V_16 (tV_V hS ta1)))
                refine A_iload d_Parts_walkThrough_134 rfl ?_
                refine A_aload_n 0 d_Parts_walkThrough_136 rfl rfl ?_
                refine A_getAv (z := some 11) T_ok d_Parts_walkThrough_137 f_Parts_15 (xi_s k68.1 sf_9) (xi_r k68.1 rff_9_1) ?_
                refine A_iload d_Parts_walkThrough_140 rfl ?_
                refine A_ialoadn (lo := 0) (hi := 1999) d_Parts_walkThrough_142 (xi_s k68.1 sf_11) (by omega) (by omega) (xi_g k68.1 (by decide) (rgf_11 _)) (fun x73 ex73 _ _ => ?_)
                refine A_pc (pc' := 143) rfl ?_
                refine A_mmax d_Parts_walkThrough_143 lm_Parts_70 ma_max (by decide) (by decide) (Nat.le_of_ble_eq_true rfl) rfl ?_
                refine A_nrI (fun x74 ex74 _ _ => ?_)
                have bx74 := mmax_r ex74
                refine A_istore (L' := [some (av_R (some 9)), some (av_R (some a1)), some (av_I a2), some (av_I a3), some (av_I a4), some (av_L a5), none, some (av_L a6), none, some (av_I x74), some (av_I x20)]) d_Parts_walkThrough_146 (Nat.le_of_ble_eq_true rfl) rfl ?_
                refine A_goto (tgt := 212) d_Parts_walkThrough_148 (by decide) ?_
                refine A_iincv (z := (x74 + 1)) (L' := [some (av_R (some 9)), some (av_R (some a1)), some (av_I a2), some (av_I a3), some (av_I a4), some (av_L a5), none, some (av_L a6), none, some (av_I (x74 + 1)), some (av_I x20)]) d_Parts_walkThrough_212 rfl (w32_to (by omega) (by unfold i32; omega)) rfl ?_
                refine A_goto (tgt := 11) d_Parts_walkThrough_215 (by decide) ?_
                refine A_free (L' := [some (av_R (some 9)), some (av_R (some a1)), some (av_I a2), some (av_I a3), some (av_I a4), some (av_L a5), none, some (av_L a6), none, some (av_I (x74 + 1)), none]) (And.intro rfl (And.intro rfl (And.intro rfl (And.intro rfl (And.intro rfl (And.intro rfl (And.intro rfl (And.intro rfl trivial)))))))) ?_
                exact ih11 (x74 + 1) h63 (by omega) (by omega) (by have qq0 := esd69.symm; have qq1 := esd70.symm; have qq2 := esd71.symm; exact ⟨⟨by omega, by omega⟩, by omega⟩) k68 (by omega)
            · refine A_iload d_Parts_walkThrough_62 rfl ?_
              refine A_aload_n 0 d_Parts_walkThrough_64 rfl rfl ?_
              refine A_aload_n 1 d_Parts_walkThrough_65 rfl rfl ?_
              refine A_iload d_Parts_walkThrough_66 rfl ?_
              refine A_iload d_Parts_walkThrough_68 rfl ?_
              refine A_pc (pc' := 70) rfl ?_
              refine A_lload d_Parts_walkThrough_70 rfl ?_
              refine A_lload d_Parts_walkThrough_72 rfl ?_
              have zf76 := eh17.2.1
              have zf77 := ((eh17.1 _ _ (fun _ => by decide)).trans esd9.symm)
              have zf78 := ((eh17.1 _ _ (fun q => by omega)).trans esd10.symm)
              refine A_callV5 m_Parts_walkRepeat T_ok d_Parts_walkThrough_74 l_Parts_66 k_Parts_walkRepeat (xi_s k18.1 sf_9) rfl (by decide +kernel) (by decide) (Nat.le_of_ble_eq_true rfl) (s_Parts_walkRepeat_3 k18.1 ta1 (by omega) (by omega) (by omega) (by omega) (by omega) (by omega) (by omega) (by omega) (by have qq0 := eh17.2.1; have qq1 := ((eh17.1 _ _ (fun _ => by decide)).trans esd9.symm); have qq2 := ((eh17.1 _ _ (fun q => by omega)).trans esd10.symm); exact ⟨by omega, by omega⟩) (by have qq0 := eh17.2.1; have qq1 := ((eh17.1 _ _ (fun _ => by decide)).trans esd9.symm); omega)) (fun r h75 hq => ?_)
              obtain ⟨x80, rfl, ⟨_, _⟩, xx80, k79⟩ := hq
              have k81 := kF_t k18 k79 (fun _ q => q)
              obtain ⟨sd82, esd82⟩ : ∃ x, x = h75.2.1 9 8 := ⟨_, rfl⟩
              have rsd82 : 0 ≤ sd82 ∧ sd82 ≤ 100000 := (by rw [esd82]; exact xi_g k81.1 (by decide) rgf_9_8)
              obtain ⟨sd83, esd83⟩ : ∃ x, x = h75.2.1 9 10 := ⟨_, rfl⟩
              have rsd83 : 0 ≤ sd83 ∧ sd83 ≤ 100000 := (by rw [esd83]; exact xi_g k81.1 (by decide) rgf_9_10)
              obtain ⟨sd84, esd84⟩ : ∃ x, x = h75.2.1 a1 16 := ⟨_, rfl⟩
              have rsd84 : 0 ≤ sd84 ∧ sd84 ≤ 101 := (by rw [esd84]; exact xi_g k81.1 (lt1_V (tV_V hS ta1)) (rg_V_16 (tV_V hS ta1)))
              refine A_mmax d_Parts_walkThrough_77 lm_Parts_70 ma_max (by decide) (by decide) (Nat.le_of_ble_eq_true rfl) rfl ?_
              refine A_nrI (fun x85 ex85 _ _ => ?_)
              have bx85 := mmax_r ex85
              refine A_istore (L' := [some (av_R (some 9)), some (av_R (some a1)), some (av_I a2), some (av_I a3), some (av_I a4), some (av_L a5), none, some (av_L a6), none, some (av_I x85), some (av_I x20)]) d_Parts_walkThrough_80 (Nat.le_of_ble_eq_true rfl) rfl ?_
              refine A_goto (tgt := 212) d_Parts_walkThrough_82 (by decide) ?_
              refine A_iincv (z := (x85 + 1)) (L' := [some (av_R (some 9)), some (av_R (some a1)), some (av_I a2), some (av_I a3), some (av_I a4), some (av_L a5), none, some (av_L a6), none, some (av_I (x85 + 1)), some (av_I x20)]) d_Parts_walkThrough_212 rfl (w32_to (by omega) (by unfold i32; omega)) rfl ?_
              refine A_goto (tgt := 11) d_Parts_walkThrough_215 (by decide) ?_
              refine A_free (L' := [some (av_R (some 9)), some (av_R (some a1)), some (av_I a2), some (av_I a3), some (av_I a4), some (av_L a5), none, some (av_L a6), none, some (av_I (x85 + 1)), none]) (And.intro rfl (And.intro rfl (And.intro rfl (And.intro rfl (And.intro rfl (And.intro rfl (And.intro rfl (And.intro rfl trivial)))))))) ?_
              exact ih11 (x85 + 1) h75 (by omega) (by omega) (by have qq0 := esd82.symm; have qq1 := esd83.symm; have qq2 := esd84.symm; exact ⟨⟨by omega, by omega⟩, by omega⟩) k81 (by omega)
  exact lp11 _ a2 h (by omega) (by omega) (by have qq0 := esd1.symm; have qq1 := esd2.symm; have qq2 := esd3.symm; exact ⟨⟨by omega, by omega⟩, by omega⟩) k0 (Nat.lt_succ_self _)
theorem s_Parts_walkRepeat_2 {G : cx_T} {s : Nat} {h : ah_T} (hx : xi s h) {a1 : Nat} {a2 : Int} {a3 : Int} {a4 : Int} {a5 : Int} (ta1 : tV s a1) (la2 : 0 ≤ a2) (ua2 : a2 ≤ 1999) (la3 : 2 ≤ a3) (ua3 : a3 ≤ 2) (la4 : 1 ≤ a4) (ua4 : a4 ≤ 256) (la5 : 0 ≤ a5) (ua5 : a5 ≤ 256) (hJ : h.2.1 9 10 ≤ h.2.1 9 8 ∧ h.2.1 a1 16 ≤ h.2.1 9 10 + 1) (hS2 : h.2.1 9 8 ≤ 2001) : con G 15 0 0 m_Parts_walkRepeat [av_R (some 9), av_R (some a1), av_I a2, av_I a3, av_L a4, av_L a5] h (fun r h' => ∃ z, r = some (av_I z) ∧ (0 ≤ z ∧ z ≤ 1999) ∧ ((h'.2.1 9 10 ≤ h'.2.1 9 8 ∧ h'.2.1 a1 16 ≤ h'.2.1 9 10 + 1) ∧ h'.2.1 9 8 ≤ 14001) ∧ kF (FB s) s h h') := by
  refine con_of (L := [some (av_R (some 9)), some (av_R (some a1)), some (av_I a2), some (av_I a3), some (av_L a4), none, some (av_L a5), none, none, none, none]) (by decide +kernel) (Nat.le_of_ble_eq_true rfl) rfl ?_
  have hS : isS s := hx.2.1
  have hs0 : s = 17 ∨ s = 80 := hS
  have hs0b : 17 ≤ s ∧ s ≤ 80 := by omega
  have k0 : kF (FB s) s h h := kF_0 hx
  have ga1 : a1 = s + 7 ∨ a1 = s + 21 ∨ a1 = s + 35 ∨ a1 = s + 49 := ta1
  have ga1b : s + 7 ≤ a1 ∧ a1 ≤ s + 49 := by omega
  obtain ⟨sd1, esd1⟩ : ∃ x, x = h.2.1 9 8 := ⟨_, rfl⟩
  have rsd1 : 0 ≤ sd1 ∧ sd1 ≤ 100000 := (by rw [esd1]; exact xi_g k0.1 (by decide) rgf_9_8)
  obtain ⟨sd2, esd2⟩ : ∃ x, x = h.2.1 9 10 := ⟨_, rfl⟩
  have rsd2 : 0 ≤ sd2 ∧ sd2 ≤ 100000 := (by rw [esd2]; exact xi_g k0.1 (by decide) rgf_9_10)
  obtain ⟨sd3, esd3⟩ : ∃ x, x = h.2.1 a1 16 := ⟨_, rfl⟩
  have rsd3 : 0 ≤ sd3 ∧ sd3 ≤ 101 := (by rw [esd3]; exact xi_g k0.1 (lt1_V (tV_V hS ta1)) (rg_V_16 (tV_V hS ta1)))
  refine A_aload_n 0 d_Parts_walkRepeat_0 rfl rfl ?_
  refine A_getAv (z := some 11) T_ok d_Parts_walkRepeat_1 f_Parts_15 (xi_s k0.1 sf_9) (xi_r k0.1 rff_9_1) ?_
  refine A_iload_n 2 d_Parts_walkRepeat_4 rfl rfl ?_
  refine A_ialoadn (lo := 0) (hi := 1999) d_Parts_walkRepeat_5 (xi_s k0.1 sf_11) (by omega) (by omega) (xi_g k0.1 (by decide) (rgf_11 _)) (fun x5 ex5 _ _ => ?_)
  refine A_istore (L' := [some (av_R (some 9)), some (av_R (some a1)), some (av_I a2), some (av_I a3), some (av_L a4), none, some (av_L a5), none, some (av_I x5), none, none]) d_Parts_walkRepeat_6 (Nat.le_of_ble_eq_true rfl) rfl ?_
  refine A_pc (pc' := 8) rfl ?_
  refine A_aload_n 0 d_Parts_walkRepeat_8 rfl rfl ?_
  refine A_getAv (z := some 10) T_ok d_Parts_walkRepeat_9 f_Parts_9 (xi_s k0.1 sf_9) (xi_r k0.1 rff_9_0) ?_
  refine A_iload d_Parts_walkRepeat_12 rfl ?_
  refine A_ialoadf d_Parts_walkRepeat_14 (xi_s k0.1 sf_10) (by omega) (by omega) (fun x7 ex7 _ _ => ?_)
  refine A_bipush d_Parts_walkRepeat_15 rfl ?_
  refine A_icmp_eq (tgt := 77) d_Parts_walkRepeat_17 (by decide) (fun c8 => ?_) (fun c8 => ?_)
  · refine A_iload d_Parts_walkRepeat_77 rfl ?_
    refine A_istore (L' := [some (av_R (some 9)), some (av_R (some a1)), some (av_I a2), some (av_I a3), some (av_L a4), none, some (av_L a5), none, some (av_I x5), some (av_I x5), none]) d_Parts_walkRepeat_79 (Nat.le_of_ble_eq_true rfl) rfl ?_
    refine A_iconst d_Parts_walkRepeat_81 rfl ?_
    refine A_istore (L' := [some (av_R (some 9)), some (av_R (some a1)), some (av_I a2), some (av_I a3), some (av_L a4), none, some (av_L a5), none, some (av_I x5), some (av_I x5), some (av_I 0)]) d_Parts_walkRepeat_82 (Nat.le_of_ble_eq_true rfl) rfl ?_
    have lp84 : ∀ (n : Nat) (i9 i10 : Int) (h11 : ah_T) , 0 ≤ i9 → i9 ≤ 1999 → 0 ≤ i10 → i10 ≤ 2000 → (h11.2.1 9 10 ≤ h11.2.1 9 8 ∧ h11.2.1 a1 16 ≤ h11.2.1 9 10 + 1) ∧ h11.2.1 9 8 ≤ 12001 + i10 → kF (FB s) s h h11 → (2001 - i10).toNat < n → aw G (rm_R 15 0 0) m_Parts_walkRepeat 0 0 84 [some (av_R (some 9)), some (av_R (some a1)), some (av_I a2), some (av_I a3), some (av_L a4), none, some (av_L a5), none, some (av_I x5), some (av_I i9), some (av_I i10)] [] h11 (fun r h' => ∃ z, r = some (av_I z) ∧ (0 ≤ z ∧ z ≤ 1999) ∧ ((h'.2.1 9 10 ≤ h'.2.1 9 8 ∧ h'.2.1 a1 16 ≤ h'.2.1 9 10 + 1) ∧ h'.2.1 9 8 ≤ 14001) ∧ kF (FB s) s h h') := by
      intro n
      induction n with
      | zero => intro i9 i10 h11 _ _ _ _ _ _ hm; omega
      | succ n ih84 =>
        intro i9 i10 h11 hl0 hl1 hl2 hl3 hinv k12 hm
        obtain ⟨sd13, esd13⟩ : ∃ x, x = h11.2.1 9 8 := ⟨_, rfl⟩
        have rsd13 : 0 ≤ sd13 ∧ sd13 ≤ 100000 := (by rw [esd13]; exact xi_g k12.1 (by decide) rgf_9_8)
        obtain ⟨sd14, esd14⟩ : ∃ x, x = h11.2.1 9 10 := ⟨_, rfl⟩
        have rsd14 : 0 ≤ sd14 ∧ sd14 ≤ 100000 := (by rw [esd14]; exact xi_g k12.1 (by decide) rgf_9_10)
        obtain ⟨sd15, esd15⟩ : ∃ x, x = h11.2.1 a1 16 := ⟨_, rfl⟩
        have rsd15 : 0 ≤ sd15 ∧ sd15 ≤ 101 := (by rw [esd15]; exact xi_g k12.1 (lt1_V (tV_V hS ta1)) (rg_V_16 (tV_V hS ta1)))
        refine A_iload d_Parts_walkRepeat_84 rfl ?_
        refine A_sipush d_Parts_walkRepeat_86 rfl ?_
        refine A_icmp_ge (tgt := 169) d_Parts_walkRepeat_89 (by decide) (fun c16 => ?_) (fun c16 => ?_)
        · refine A_iload d_Parts_walkRepeat_169 rfl ?_
          exact A_iret d_Parts_walkRepeat_171 (by decide) rfl ⟨_, rfl, ⟨by omega, by omega⟩, (by have qq0 := esd13.symm; have qq1 := esd14.symm; have qq2 := esd15.symm; exact ⟨⟨by omega, by omega⟩, by omega⟩), k12⟩
        · refine A_aload_n 0 d_Parts_walkRepeat_92 rfl rfl ?_
          refine A_getAv (z := some 10) T_ok d_Parts_walkRepeat_93 f_Parts_9 (xi_s k12.1 sf_9) (xi_r k12.1 rff_9_0) ?_
          refine A_iload d_Parts_walkRepeat_96 rfl ?_
          refine A_ialoadf d_Parts_walkRepeat_98 (xi_s k12.1 sf_10) (by omega) (by omega) (fun x18 ex18 _ _ => ?_)
          refine A_bipush d_Parts_walkRepeat_99 rfl ?_
          refine A_pc (pc' := 101) rfl ?_
          refine A_icmp_ne (tgt := 169) d_Parts_walkRepeat_101 (by decide) (fun c19 => ?_) (fun c19 => ?_)
          · refine A_iload d_Parts_walkRepeat_169 rfl ?_
            exact A_iret d_Parts_walkRepeat_171 (by decide) rfl ⟨_, rfl, ⟨by omega, by omega⟩, (by have qq0 := esd13.symm; have qq1 := esd14.symm; have qq2 := esd15.symm; exact ⟨⟨by omega, by omega⟩, by omega⟩), k12⟩
          · refine A_aload_n 0 d_Parts_walkRepeat_104 rfl rfl ?_
            refine A_dupR d_Parts_walkRepeat_105 ?_
            refine A_getIv (z := sd13) T_ok d_Parts_walkRepeat_106 f_Parts_46 (xi_s k12.1 sf_9) esd13.symm ?_
            refine A_iconst d_Parts_walkRepeat_109 rfl ?_
            refine A_iaddv (z := (sd13 + 1)) d_Parts_walkRepeat_110 (w32_to (by omega) (by unfold i32; omega)) ?_
            refine A_pc (pc' := 111) rfl ?_
            refine A_putIk (KR := kF (FB s) s h) T_ok d_Parts_walkRepeat_111 f_Parts_46 (xi_s k12.1 sf_9) fin_f (kF_j k12 (by omega) (ns_b rfl) rgf_9_8 (by omega) (by omega)) (fun h21 k22 eh21 => ?_)
            refine A_aload_n 0 d_Parts_walkRepeat_114 rfl rfl ?_
            refine A_aload_n 1 d_Parts_walkRepeat_115 rfl rfl ?_
            refine A_iload_n 2 d_Parts_walkRepeat_116 rfl rfl ?_
            refine A_iconst d_Parts_walkRepeat_117 rfl ?_
            refine A_iaddv (z := (a2 + 1)) d_Parts_walkRepeat_118 (w32_to (by omega) (by unfold i32; omega)) ?_
            refine A_pc (pc' := 119) rfl ?_
            refine A_iload d_Parts_walkRepeat_119 rfl ?_
            refine A_iload_n 3 d_Parts_walkRepeat_121 rfl rfl ?_
            refine A_iconst d_Parts_walkRepeat_122 rfl ?_
            refine A_iaddv (z := (a3 + 1)) d_Parts_walkRepeat_123 (w32_to (by omega) (by unfold i32; omega)) ?_
            refine A_lload d_Parts_walkRepeat_124 rfl ?_
            refine A_lload d_Parts_walkRepeat_126 rfl ?_
            refine A_pc (pc' := 128) rfl ?_
            have zf24 := eh21.2.1
            have zf25 := ((eh21.1 _ _ (fun _ => by decide)).trans esd14.symm)
            have zf26 := ((eh21.1 _ _ (fun q => by omega)).trans esd15.symm)
            refine A_callV6 m_Parts_walkThrough T_ok d_Parts_walkRepeat_128 l_Parts_59 k_Parts_walkThrough (xi_s k22.1 sf_9) rfl (by decide +kernel) (by decide) (Nat.le_of_ble_eq_true rfl) (s_Parts_walkThrough_3 k22.1 ta1 (by omega) (by omega) (by omega) (by omega) (by omega) (by omega) (by omega) (by omega) (by omega) (by omega) (by have qq0 := eh21.2.1; have qq1 := ((eh21.1 _ _ (fun _ => by decide)).trans esd14.symm); have qq2 := ((eh21.1 _ _ (fun q => by omega)).trans esd15.symm); exact ⟨by omega, by omega⟩)) (fun r h23 hq => ?_)
            obtain ⟨rfl, xk27, k27⟩ := hq
            have k28 := kF_t k22 k27 (fun _ q => q)
            obtain ⟨sd29, esd29⟩ : ∃ x, x = h23.2.1 9 8 := ⟨_, rfl⟩
            have rsd29 : 0 ≤ sd29 ∧ sd29 ≤ 100000 := (by rw [esd29]; exact xi_g k28.1 (by decide) rgf_9_8)
            obtain ⟨sd30, esd30⟩ : ∃ x, x = h23.2.1 9 10 := ⟨_, rfl⟩
            have rsd30 : 0 ≤ sd30 ∧ sd30 ≤ 100000 := (by rw [esd30]; exact xi_g k28.1 (by decide) rgf_9_10)
            obtain ⟨sd31, esd31⟩ : ∃ x, x = h23.2.1 a1 16 := ⟨_, rfl⟩
            have rsd31 : 0 ≤ sd31 ∧ sd31 ≤ 101 := (by rw [esd31]; exact xi_g k28.1 (lt1_V (tV_V hS ta1)) (rg_V_16 (tV_V hS ta1)))
            refine A_aload_n 0 d_Parts_walkRepeat_131 rfl rfl ?_
            refine A_aload_n 1 d_Parts_walkRepeat_132 rfl rfl ?_
            refine A_iload d_Parts_walkRepeat_133 rfl ?_
            refine A_iconst d_Parts_walkRepeat_135 rfl ?_
            refine A_iaddv (z := (i9 + 1)) d_Parts_walkRepeat_136 (w32_to (by omega) (by unfold i32; omega)) ?_
            refine A_pc (pc' := 137) rfl ?_
            refine A_aload_n 0 d_Parts_walkRepeat_137 rfl rfl ?_
            refine A_getAv (z := some 11) T_ok d_Parts_walkRepeat_138 f_Parts_15 (xi_s k28.1 sf_9) (xi_r k28.1 rff_9_1) ?_
            refine A_iload d_Parts_walkRepeat_141 rfl ?_
            refine A_ialoadn (lo := 0) (hi := 1999) d_Parts_walkRepeat_143 (xi_s k28.1 sf_11) (by omega) (by omega) (xi_g k28.1 (by decide) (rgf_11 _)) (fun x33 ex33 _ _ => ?_)
            refine A_iload_n 3 d_Parts_walkRepeat_144 rfl rfl ?_
            refine A_iconst d_Parts_walkRepeat_145 rfl ?_
            refine A_pc (pc' := 146) rfl ?_
            refine A_iaddv (z := (a3 + 1)) d_Parts_walkRepeat_146 (w32_to (by omega) (by unfold i32; omega)) ?_
            refine A_lload d_Parts_walkRepeat_147 rfl ?_
            refine A_lload d_Parts_walkRepeat_149 rfl ?_
            have zf35 := esd29.symm
            have zf36 := esd30.symm
            have zf37 := esd31.symm
            refine A_callV6 m_Parts_walkThrough T_ok d_Parts_walkRepeat_151 l_Parts_59 k_Parts_walkThrough (xi_s k28.1 sf_9) rfl (by decide +kernel) (by decide) (Nat.le_of_ble_eq_true rfl) (s_Parts_walkThrough_3 k28.1 ta1 (by omega) (by omega) (by omega) (by omega) (by omega) (by omega) (by omega) (by omega) (by omega) (by omega) (by have qq0 := esd29.symm; have qq1 := esd30.symm; have qq2 := esd31.symm; exact ⟨by omega, by omega⟩)) (fun r h34 hq => ?_)
            obtain ⟨rfl, xk38, k38⟩ := hq
            have k39 := kF_t k28 k38 (fun _ q => q)
            obtain ⟨sd40, esd40⟩ : ∃ x, x = h34.2.1 9 8 := ⟨_, rfl⟩
            have rsd40 : 0 ≤ sd40 ∧ sd40 ≤ 100000 := (by rw [esd40]; exact xi_g k39.1 (by decide) rgf_9_8)
            obtain ⟨sd41, esd41⟩ : ∃ x, x = h34.2.1 9 10 := ⟨_, rfl⟩
            have rsd41 : 0 ≤ sd41 ∧ sd41 ≤ 100000 := (by rw [esd41]; exact xi_g k39.1 (by decide) rgf_9_10)
            obtain ⟨sd42, esd42⟩ : ∃ x, x = h34.2.1 a1 16 := ⟨_, rfl⟩
            have rsd42 : 0 ≤ sd42 ∧ sd42 ≤ 101 := (by rw [esd42]; exact xi_g k39.1 (lt1_V (tV_V hS ta1)) (rg_V_16 (tV_V hS ta1)))
            refine A_aload_n 0 d_Parts_walkRepeat_154 rfl rfl ?_
            refine A_getAv (z := some 11) T_ok d_Parts_walkRepeat_155 f_Parts_15 (xi_s k39.1 sf_9) (xi_r k39.1 rff_9_1) ?_
            refine A_iload d_Parts_walkRepeat_158 rfl ?_
            refine A_ialoadn (lo := 0) (hi := 1999) d_Parts_walkRepeat_160 (xi_s k39.1 sf_11) (by omega) (by omega) (xi_g k39.1 (by decide) (rgf_11 _)) (fun x44 ex44 _ _ => ?_)
            refine A_istore (L' := [some (av_R (some 9)), some (av_R (some a1)), some (av_I a2), some (av_I a3), some (av_L a4), none, some (av_L a5), none, some (av_I x5), some (av_I x44), some (av_I i10)]) d_Parts_walkRepeat_161 (Nat.le_of_ble_eq_true rfl) rfl ?_
            refine A_pc (pc' := 163) rfl ?_
            refine A_iincv (z := (i10 + 1)) (L' := [some (av_R (some 9)), some (av_R (some a1)), some (av_I a2), some (av_I a3), some (av_L a4), none, some (av_L a5), none, some (av_I x5), some (av_I x44), some (av_I (i10 + 1))]) d_Parts_walkRepeat_163 rfl (w32_to (by omega) (by unfold i32; omega)) rfl ?_
            refine A_goto (tgt := 84) d_Parts_walkRepeat_166 (by decide) ?_
            exact ih84 x44 (i10 + 1) h34 (by omega) (by omega) (by omega) (by omega) (by have qq0 := esd40.symm; have qq1 := esd41.symm; have qq2 := esd42.symm; exact ⟨⟨by omega, by omega⟩, by omega⟩) k39 (by omega)
    exact lp84 _ x5 0 h (by omega) (by omega) (by omega) (by omega) (by have qq0 := esd1.symm; have qq1 := esd2.symm; have qq2 := esd3.symm; exact ⟨⟨by omega, by omega⟩, by omega⟩) k0 (Nat.lt_succ_self _)
  · refine A_aload_n 0 d_Parts_walkRepeat_20 rfl rfl ?_
    refine A_dupR d_Parts_walkRepeat_21 ?_
    refine A_getIv (z := sd1) T_ok d_Parts_walkRepeat_22 f_Parts_46 (xi_s k0.1 sf_9) esd1.symm ?_
    refine A_iconst d_Parts_walkRepeat_25 rfl ?_
    refine A_iaddv (z := (sd1 + 1)) d_Parts_walkRepeat_26 (w32_to (by omega) (by unfold i32; omega)) ?_
    refine A_pc (pc' := 27) rfl ?_
    refine A_putIk (KR := kF (FB s) s h) T_ok d_Parts_walkRepeat_27 f_Parts_46 (xi_s k0.1 sf_9) fin_f (kF_j k0 (by omega) (ns_b rfl) rgf_9_8 (by omega) (by omega)) (fun h46 k47 eh46 => ?_)
    refine A_aload_n 0 d_Parts_walkRepeat_30 rfl rfl ?_
    refine A_aload_n 1 d_Parts_walkRepeat_31 rfl rfl ?_
    refine A_iload_n 2 d_Parts_walkRepeat_32 rfl rfl ?_
    refine A_iconst d_Parts_walkRepeat_33 rfl ?_
    refine A_iaddv (z := (a2 + 1)) d_Parts_walkRepeat_34 (w32_to (by omega) (by unfold i32; omega)) ?_
    refine A_pc (pc' := 35) rfl ?_
    refine A_iload d_Parts_walkRepeat_35 rfl ?_
    refine A_iload_n 3 d_Parts_walkRepeat_37 rfl rfl ?_
    refine A_iconst d_Parts_walkRepeat_38 rfl ?_
    refine A_iaddv (z := (a3 + 1)) d_Parts_walkRepeat_39 (w32_to (by omega) (by unfold i32; omega)) ?_
    refine A_lload d_Parts_walkRepeat_40 rfl ?_
    refine A_lload d_Parts_walkRepeat_42 rfl ?_
    refine A_pc (pc' := 44) rfl ?_
    have zf49 := eh46.2.1
    have zf50 := ((eh46.1 _ _ (fun _ => by decide)).trans esd2.symm)
    have zf51 := ((eh46.1 _ _ (fun q => by omega)).trans esd3.symm)
    refine A_callV6 m_Parts_walkThrough T_ok d_Parts_walkRepeat_44 l_Parts_59 k_Parts_walkThrough (xi_s k47.1 sf_9) rfl (by decide +kernel) (by decide) (Nat.le_of_ble_eq_true rfl) (s_Parts_walkThrough_3 k47.1 ta1 (by omega) (by omega) (by omega) (by omega) (by omega) (by omega) (by omega) (by omega) (by omega) (by omega) (by have qq0 := eh46.2.1; have qq1 := ((eh46.1 _ _ (fun _ => by decide)).trans esd2.symm); have qq2 := ((eh46.1 _ _ (fun q => by omega)).trans esd3.symm); exact ⟨by omega, by omega⟩)) (fun r h48 hq => ?_)
    obtain ⟨rfl, xk52, k52⟩ := hq
    have k53 := kF_t k47 k52 (fun _ q => q)
    obtain ⟨sd54, esd54⟩ : ∃ x, x = h48.2.1 9 8 := ⟨_, rfl⟩
    have rsd54 : 0 ≤ sd54 ∧ sd54 ≤ 100000 := (by rw [esd54]; exact xi_g k53.1 (by decide) rgf_9_8)
    obtain ⟨sd55, esd55⟩ : ∃ x, x = h48.2.1 9 10 := ⟨_, rfl⟩
    have rsd55 : 0 ≤ sd55 ∧ sd55 ≤ 100000 := (by rw [esd55]; exact xi_g k53.1 (by decide) rgf_9_10)
    obtain ⟨sd56, esd56⟩ : ∃ x, x = h48.2.1 a1 16 := ⟨_, rfl⟩
    have rsd56 : 0 ≤ sd56 ∧ sd56 ≤ 101 := (by rw [esd56]; exact xi_g k53.1 (lt1_V (tV_V hS ta1)) (rg_V_16 (tV_V hS ta1)))
    refine A_aload_n 0 d_Parts_walkRepeat_47 rfl rfl ?_
    refine A_dupR d_Parts_walkRepeat_48 ?_
    refine A_getIv (z := sd54) T_ok d_Parts_walkRepeat_49 f_Parts_46 (xi_s k53.1 sf_9) esd54.symm ?_
    refine A_iconst d_Parts_walkRepeat_52 rfl ?_
    refine A_iaddv (z := (sd54 + 1)) d_Parts_walkRepeat_53 (w32_to (by omega) (by unfold i32; omega)) ?_
    refine A_pc (pc' := 54) rfl ?_
    refine A_putIk (KR := kF (FB s) s h) T_ok d_Parts_walkRepeat_54 f_Parts_46 (xi_s k53.1 sf_9) fin_f (kF_j k53 (by omega) (ns_b rfl) rgf_9_8 (by omega) (by omega)) (fun h58 k59 eh58 => ?_)
    refine A_aload_n 0 d_Parts_walkRepeat_57 rfl rfl ?_
    refine A_aload_n 1 d_Parts_walkRepeat_58 rfl rfl ?_
    refine A_iload_n 2 d_Parts_walkRepeat_59 rfl rfl ?_
    refine A_iconst d_Parts_walkRepeat_60 rfl ?_
    refine A_iaddv (z := (a2 + 1)) d_Parts_walkRepeat_61 (w32_to (by omega) (by unfold i32; omega)) ?_
    refine A_pc (pc' := 62) rfl ?_
    refine A_iload d_Parts_walkRepeat_62 rfl ?_
    refine A_iload_n 3 d_Parts_walkRepeat_64 rfl rfl ?_
    refine A_iconst d_Parts_walkRepeat_65 rfl ?_
    refine A_iaddv (z := (a3 + 1)) d_Parts_walkRepeat_66 (w32_to (by omega) (by unfold i32; omega)) ?_
    refine A_lload d_Parts_walkRepeat_67 rfl ?_
    refine A_lload d_Parts_walkRepeat_69 rfl ?_
    refine A_pc (pc' := 71) rfl ?_
    have zf61 := eh58.2.1
    have zf62 := ((eh58.1 _ _ (fun _ => by decide)).trans esd55.symm)
    have zf63 := ((eh58.1 _ _ (fun q => by omega)).trans esd56.symm)
    refine A_callV6 m_Parts_walkThrough T_ok d_Parts_walkRepeat_71 l_Parts_59 k_Parts_walkThrough (xi_s k59.1 sf_9) rfl (by decide +kernel) (by decide) (Nat.le_of_ble_eq_true rfl) (s_Parts_walkThrough_3 k59.1 ta1 (by omega) (by omega) (by omega) (by omega) (by omega) (by omega) (by omega) (by omega) (by omega) (by omega) (by have qq0 := eh58.2.1; have qq1 := ((eh58.1 _ _ (fun _ => by decide)).trans esd55.symm); have qq2 := ((eh58.1 _ _ (fun q => by omega)).trans esd56.symm); exact ⟨by omega, by omega⟩)) (fun r h60 hq => ?_)
    obtain ⟨rfl, xk64, k64⟩ := hq
    have k65 := kF_t k59 k64 (fun _ q => q)
    obtain ⟨sd66, esd66⟩ : ∃ x, x = h60.2.1 9 8 := ⟨_, rfl⟩
    have rsd66 : 0 ≤ sd66 ∧ sd66 ≤ 100000 := (by rw [esd66]; exact xi_g k65.1 (by decide) rgf_9_8)
    obtain ⟨sd67, esd67⟩ : ∃ x, x = h60.2.1 9 10 := ⟨_, rfl⟩
    have rsd67 : 0 ≤ sd67 ∧ sd67 ≤ 100000 := (by rw [esd67]; exact xi_g k65.1 (by decide) rgf_9_10)
    obtain ⟨sd68, esd68⟩ : ∃ x, x = h60.2.1 a1 16 := ⟨_, rfl⟩
    have rsd68 : 0 ≤ sd68 ∧ sd68 ≤ 101 := (by rw [esd68]; exact xi_g k65.1 (lt1_V (tV_V hS ta1)) (rg_V_16 (tV_V hS ta1)))
    refine A_iload d_Parts_walkRepeat_74 rfl ?_
    exact A_iret d_Parts_walkRepeat_76 (by decide) rfl ⟨_, rfl, ⟨by omega, by omega⟩, (by have qq0 := esd66.symm; have qq1 := esd67.symm; have qq2 := esd68.symm; exact ⟨⟨by omega, by omega⟩, by omega⟩), k65⟩
theorem s_Parts_walkThrough_2 {G : cx_T} {s : Nat} {h : ah_T} (hx : xi s h) {a1 : Nat} {a2 : Int} {a3 : Int} {a4 : Int} {a5 : Int} {a6 : Int} (ta1 : tV s a1) (la2 : 0 ≤ a2) (ua2 : a2 ≤ 2000) (la3 : 0 ≤ a3) (ua3 : a3 ≤ 2000) (la4 : 2 ≤ a4) (ua4 : a4 ≤ 2) (la5 : 1 ≤ a5) (ua5 : a5 ≤ 256) (la6 : 0 ≤ a6) (ua6 : a6 ≤ 256) (hJ : h.2.1 9 10 ≤ h.2.1 9 8 ∧ h.2.1 a1 16 ≤ h.2.1 9 10 + 1) : con G 16 0 0 m_Parts_walkThrough [av_R (some 9), av_R (some a1), av_I a2, av_I a3, av_I a4, av_L a5, av_L a6] h (fun r h' => r = none ∧ ((h'.2.1 9 10 ≤ h'.2.1 9 8 ∧ h'.2.1 a1 16 ≤ h'.2.1 9 10 + 1) ∧ (h'.2.1 9 8 ≤ h.2.1 9 8 ∨ h'.2.1 9 8 ≤ 14001)) ∧ kF (FB s) s h h') := by
  refine con_of (L := [some (av_R (some 9)), some (av_R (some a1)), some (av_I a2), some (av_I a3), some (av_I a4), some (av_L a5), none, some (av_L a6), none, none, none]) (by decide +kernel) (Nat.le_of_ble_eq_true rfl) rfl ?_
  have hS : isS s := hx.2.1
  have hs0 : s = 17 ∨ s = 80 := hS
  have hs0b : 17 ≤ s ∧ s ≤ 80 := by omega
  have k0 : kF (FB s) s h h := kF_0 hx
  have ga1 : a1 = s + 7 ∨ a1 = s + 21 ∨ a1 = s + 35 ∨ a1 = s + 49 := ta1
  have ga1b : s + 7 ≤ a1 ∧ a1 ≤ s + 49 := by omega
  obtain ⟨sd1, esd1⟩ : ∃ x, x = h.2.1 9 8 := ⟨_, rfl⟩
  have rsd1 : 0 ≤ sd1 ∧ sd1 ≤ 100000 := (by rw [esd1]; exact xi_g k0.1 (by decide) rgf_9_8)
  obtain ⟨sd2, esd2⟩ : ∃ x, x = h.2.1 9 10 := ⟨_, rfl⟩
  have rsd2 : 0 ≤ sd2 ∧ sd2 ≤ 100000 := (by rw [esd2]; exact xi_g k0.1 (by decide) rgf_9_10)
  obtain ⟨sd3, esd3⟩ : ∃ x, x = h.2.1 a1 16 := ⟨_, rfl⟩
  have rsd3 : 0 ≤ sd3 ∧ sd3 ≤ 101 := (by rw [esd3]; exact xi_g k0.1 (lt1_V (tV_V hS ta1)) (rg_V_16 (tV_V hS ta1)))
  refine A_iload d_Parts_walkThrough_0 rfl ?_
  refine A_bipush d_Parts_walkThrough_2 rfl ?_
  refine A_icmp_le (tgt := 8) d_Parts_walkThrough_4 (by decide) (fun c4 => ?_) (fun c => False.elim (by omega))
  refine A_iload_n 2 d_Parts_walkThrough_8 rfl rfl ?_
  refine A_istore (L' := [some (av_R (some 9)), some (av_R (some a1)), some (av_I a2), some (av_I a3), some (av_I a4), some (av_L a5), none, some (av_L a6), none, some (av_I a2), none]) d_Parts_walkThrough_9 (Nat.le_of_ble_eq_true rfl) rfl ?_
  have lp11 : ∀ (n : Nat) (i5 : Int) (h6 : ah_T) , 0 ≤ i5 → i5 ≤ 2000 → (h6.2.1 9 10 ≤ h6.2.1 9 8 ∧ h6.2.1 a1 16 ≤ h6.2.1 9 10 + 1) ∧ (h6.2.1 9 8 ≤ h.2.1 9 8 ∨ h6.2.1 9 8 ≤ 14001) → kF (FB s) s h h6 → (2001 - i5).toNat < n → aw G (rm_R 16 0 0) m_Parts_walkThrough 0 0 11 [some (av_R (some 9)), some (av_R (some a1)), some (av_I a2), some (av_I a3), some (av_I a4), some (av_L a5), none, some (av_L a6), none, some (av_I i5), none] [] h6 (fun r h' => r = none ∧ ((h'.2.1 9 10 ≤ h'.2.1 9 8 ∧ h'.2.1 a1 16 ≤ h'.2.1 9 10 + 1) ∧ (h'.2.1 9 8 ≤ h.2.1 9 8 ∨ h'.2.1 9 8 ≤ 14001)) ∧ kF (FB s) s h h') := by
    intro n
    induction n with
    | zero => intro i5 h6 _ _ _ _ hm; omega
    | succ n ih11 =>
      intro i5 h6 hl0 hl1 hinv k7 hm
      obtain ⟨sd8, esd8⟩ : ∃ x, x = h6.2.1 9 8 := ⟨_, rfl⟩
      have rsd8 : 0 ≤ sd8 ∧ sd8 ≤ 100000 := (by rw [esd8]; exact xi_g k7.1 (by decide) rgf_9_8)
      obtain ⟨sd9, esd9⟩ : ∃ x, x = h6.2.1 9 10 := ⟨_, rfl⟩
      have rsd9 : 0 ≤ sd9 ∧ sd9 ≤ 100000 := (by rw [esd9]; exact xi_g k7.1 (by decide) rgf_9_10)
      obtain ⟨sd10, esd10⟩ : ∃ x, x = h6.2.1 a1 16 := ⟨_, rfl⟩
      have rsd10 : 0 ≤ sd10 ∧ sd10 ≤ 101 := (by rw [esd10]; exact xi_g k7.1 (lt1_V (tV_V hS ta1)) (rg_V_16 (tV_V hS ta1)))
      refine A_iload d_Parts_walkThrough_11 rfl ?_
      refine A_iload_n 3 d_Parts_walkThrough_13 rfl rfl ?_
      refine A_icmp_ge (tgt := 218) d_Parts_walkThrough_14 (by decide) (fun c11 => ?_) (fun c11 => ?_)
      · exact A_vret d_Parts_walkThrough_218 (by decide) rfl ⟨rfl, (by have qq0 := esd8.symm; have qq1 := esd9.symm; have qq2 := esd10.symm; exact ⟨⟨by omega, by omega⟩, by omega⟩), k7⟩
      · refine A_iload d_Parts_walkThrough_17 rfl ?_
        refine A_aload_n 0 d_Parts_walkThrough_19 rfl rfl ?_
        refine A_getIn (lo := 0) (hi := 2000) T_ok d_Parts_walkThrough_20 f_Parts_30 (xi_s k7.1 sf_9) (xi_g k7.1 (by decide) rgf_9_4) (fun x12 ex12 _ _ => ?_)
        refine A_icmp_ge (tgt := 218) d_Parts_walkThrough_23 (by decide) (fun c13 => ?_) (fun c13 => ?_)
        · exact A_vret d_Parts_walkThrough_218 (by decide) rfl ⟨rfl, (by have qq0 := esd8.symm; have qq1 := esd9.symm; have qq2 := esd10.symm; exact ⟨⟨by omega, by omega⟩, by omega⟩), k7⟩
        · refine A_aload_n 0 d_Parts_walkThrough_26 rfl rfl ?_
          refine A_getIv (z := sd8) T_ok d_Parts_walkThrough_27 f_Parts_46 (xi_s k7.1 sf_9) esd8.symm ?_
          refine A_sipush d_Parts_walkThrough_30 rfl ?_
          refine A_icmp_gt (tgt := 218) d_Parts_walkThrough_33 (by decide) (fun c15 => ?_) (fun c15 => ?_)
          · exact A_vret d_Parts_walkThrough_218 (by decide) rfl ⟨rfl, (by have qq0 := esd8.symm; have qq1 := esd9.symm; have qq2 := esd10.symm; exact ⟨⟨by omega, by omega⟩, by omega⟩), k7⟩
          · refine A_aload_n 0 d_Parts_walkThrough_36 rfl rfl ?_
            refine A_dupR d_Parts_walkThrough_37 ?_
            refine A_getIv (z := sd8) T_ok d_Parts_walkThrough_38 f_Parts_46 (xi_s k7.1 sf_9) esd8.symm ?_
            refine A_iconst d_Parts_walkThrough_41 rfl ?_
            refine A_iaddv (z := (sd8 + 1)) d_Parts_walkThrough_42 (w32_to (by omega) (by unfold i32; omega)) ?_
            refine A_pc (pc' := 43) rfl ?_
            refine A_putIk (KR := kF (FB s) s h) T_ok d_Parts_walkThrough_43 f_Parts_46 (xi_s k7.1 sf_9) fin_f (kF_j k7 (by omega) (ns_b rfl) rgf_9_8 (by omega) (by omega)) (fun h17 k18 eh17 => ?_)
            refine A_aload_n 0 d_Parts_walkThrough_46 rfl rfl ?_
            refine A_getAv (z := some 10) T_ok d_Parts_walkThrough_47 f_Parts_9 (xi_s k18.1 sf_9) (xi_r k18.1 rff_9_0) ?_
            refine A_iload d_Parts_walkThrough_50 rfl ?_
            refine A_ialoadf d_Parts_walkThrough_52 (xi_s k18.1 sf_10) (by omega) (by omega) (fun x20 ex20 _ _ => ?_)
            refine A_istore (L' := [some (av_R (some 9)), some (av_R (some a1)), some (av_I a2), some (av_I a3), some (av_I a4), some (av_L a5), none, some (av_L a6), none, some (av_I i5), some (av_I x20)]) d_Parts_walkThrough_53 (Nat.le_of_ble_eq_true rfl) rfl ?_
            refine A_pc (pc' := 55) rfl ?_
            refine A_iload d_Parts_walkThrough_55 rfl ?_
            refine A_bipush d_Parts_walkThrough_57 rfl ?_
            refine A_icmp_ne (tgt := 85) d_Parts_walkThrough_59 (by decide) (fun c21 => ?_) (fun c21 => ?_)
            · refine A_iload d_Parts_walkThrough_85 rfl ?_
              refine A_bipush d_Parts_walkThrough_87 rfl ?_
              refine A_icmp_ne (tgt := 151) d_Parts_walkThrough_89 (by decide) (fun c22 => ?_) (fun c22 => ?_)
              · refine A_iload d_Parts_walkThrough_151 rfl ?_
                refine A_bipush d_Parts_walkThrough_153 rfl ?_
                refine A_icmp_ne (tgt := 166) d_Parts_walkThrough_155 (by decide) (fun c23 => ?_) (fun c23 => ?_)
                · refine A_aload_n 0 d_Parts_walkThrough_166 rfl rfl ?_
                  refine A_dupR d_Parts_walkThrough_167 ?_
                  refine A_getIf T_ok d_Parts_walkThrough_168 f_Parts_49 (xi_s k18.1 sf_9) (fun x24 ex24 _ _ => ?_)
                  refine A_iconst d_Parts_walkThrough_171 rfl ?_
                  refine A_iaddw d_Parts_walkThrough_172 (fun x25 _ _ _ => ?_)
                  refine A_pc (pc' := 173) rfl ?_
                  refine A_putIk (KR := kF (FB s) s h) T_ok d_Parts_walkThrough_173 f_Parts_49 (xi_s k18.1 sf_9) fin_f (kF_j k18 (by omega) (ns_b rfl) rgf_9_9 (by omega) (by omega)) (fun h26 k27 eh26 => ?_)
                  refine A_aload_n 0 d_Parts_walkThrough_176 rfl rfl ?_
                  refine A_getIv (z := x25) T_ok d_Parts_walkThrough_177 f_Parts_49 (xi_s k27.1 sf_9) eh26.2.1 ?_
                  refine A_sipush d_Parts_walkThrough_180 rfl ?_
                  refine A_icmp_gt (tgt := 212) d_Parts_walkThrough_183 (by decide) (fun c29 => ?_) (fun c29 => ?_)
                  · refine A_iincv (z := (i5 + 1)) (L' := [some (av_R (some 9)), some (av_R (some a1)), some (av_I a2), some (av_I a3), some (av_I a4), some (av_L a5), none, some (av_L a6), none, some (av_I (i5 + 1)), some (av_I x20)]) d_Parts_walkThrough_212 rfl (w32_to (by omega) (by unfold i32; omega)) rfl ?_
                    refine A_goto (tgt := 11) d_Parts_walkThrough_215 (by decide) ?_
                    refine A_free (L' := [some (av_R (some 9)), some (av_R (some a1)), some (av_I a2), some (av_I a3), some (av_I a4), some (av_L a5), none, some (av_L a6), none, some (av_I (i5 + 1)), none]) (And.intro rfl (And.intro rfl (And.intro rfl (And.intro rfl (And.intro rfl (And.intro rfl (And.intro rfl (And.intro rfl trivial)))))))) ?_
                    exact ih11 (i5 + 1) h26 (by omega) (by omega) (by have qq0 := ((eh26.1 _ _ (fun _ => by decide)).trans eh17.2.1); have qq1 := ((eh26.1 _ _ (fun _ => by decide)).trans ((eh17.1 _ _ (fun _ => by decide)).trans esd9.symm)); have qq2 := ((eh26.1 _ _ (fun q => by omega)).trans ((eh17.1 _ _ (fun q => by omega)).trans esd10.symm)); exact ⟨⟨by omega, by omega⟩, by omega⟩) k27 (by omega)
                  · refine A_aload_n 0 d_Parts_walkThrough_186 rfl rfl ?_
                    refine A_getZn T_ok d_Parts_walkThrough_187 f_Parts_55 (xi_s k27.1 sf_9) (fun x30 ex30 bx30 => ?_)
                    refine A_if_eq (tgt := 212) d_Parts_walkThrough_190 (by decide) (fun c31 => ?_) (fun c31 => ?_)
                    · refine A_iincv (z := (i5 + 1)) (L' := [some (av_R (some 9)), some (av_R (some a1)), some (av_I a2), some (av_I a3), some (av_I a4), some (av_L a5), none, some (av_L a6), none, some (av_I (i5 + 1)), some (av_I x20)]) d_Parts_walkThrough_212 rfl (w32_to (by omega) (by unfold i32; omega)) rfl ?_
                      refine A_goto (tgt := 11) d_Parts_walkThrough_215 (by decide) ?_
                      refine A_free (L' := [some (av_R (some 9)), some (av_R (some a1)), some (av_I a2), some (av_I a3), some (av_I a4), some (av_L a5), none, some (av_L a6), none, some (av_I (i5 + 1)), none]) (And.intro rfl (And.intro rfl (And.intro rfl (And.intro rfl (And.intro rfl (And.intro rfl (And.intro rfl (And.intro rfl trivial)))))))) ?_
                      exact ih11 (i5 + 1) h26 (by omega) (by omega) (by have qq0 := ((eh26.1 _ _ (fun _ => by decide)).trans eh17.2.1); have qq1 := ((eh26.1 _ _ (fun _ => by decide)).trans ((eh17.1 _ _ (fun _ => by decide)).trans esd9.symm)); have qq2 := ((eh26.1 _ _ (fun q => by omega)).trans ((eh17.1 _ _ (fun q => by omega)).trans esd10.symm)); exact ⟨⟨by omega, by omega⟩, by omega⟩) k27 (by omega)
                    · refine A_aload_n 0 d_Parts_walkThrough_193 rfl rfl ?_
                      refine A_aload_n 1 d_Parts_walkThrough_194 rfl rfl ?_
                      refine A_aload_n 0 d_Parts_walkThrough_195 rfl rfl ?_
                      refine A_getAv (z := some 12) T_ok d_Parts_walkThrough_196 f_Parts_18 (xi_s k27.1 sf_9) (xi_r k27.1 rff_9_2) ?_
                      refine A_iload d_Parts_walkThrough_199 rfl ?_
                      refine A_pc (pc' := 201) rfl ?_
                      refine A_ialoadn (lo := 0) (hi := 300) d_Parts_walkThrough_201 (xi_s k27.1 sf_12) (by omega) (by omega) (xi_g k27.1 (by decide) (rgf_12 _)) (fun x33 ex33 _ _ => ?_)
                      refine A_lload d_Parts_walkThrough_202 rfl ?_
                      refine A_lload d_Parts_walkThrough_204 rfl ?_
                      have zf35 := ((eh26.1 _ _ (fun _ => by decide)).trans eh17.2.1)
                      have zf36 := ((eh26.1 _ _ (fun _ => by decide)).trans ((eh17.1 _ _ (fun _ => by decide)).trans esd9.symm))
                      have zf37 := ((eh26.1 _ _ (fun q => by omega)).trans ((eh17.1 _ _ (fun q => by omega)).trans esd10.symm))
                      refine A_callV3 m_Voice_addEvent T_ok d_Parts_walkThrough_206 l_Parts_80 k_Voice_addEvent (xs_V k27.1 (tV_V hS ta1)) rfl (by decide +kernel) (by decide) (Nat.le_of_ble_eq_true rfl) (s_Voice_addEvent k27.1 ta1 (by omega) (by omega) (by omega) (by omega)) (fun r h34 hq => ?_)
                      obtain ⟨x39, rfl, bx39, xx39, k38⟩ := hq
                      have k40 := kF_t k27 k38 (fun _ q => q)
                      obtain ⟨sd41, esd41⟩ : ∃ x, x = h34.2.1 9 8 := ⟨_, rfl⟩
                      have rsd41 : 0 ≤ sd41 ∧ sd41 ≤ 100000 := (by rw [esd41]; exact xi_g k40.1 (by decide) rgf_9_8)
                      obtain ⟨sd42, esd42⟩ : ∃ x, x = h34.2.1 9 10 := ⟨_, rfl⟩
                      have rsd42 : 0 ≤ sd42 ∧ sd42 ≤ 100000 := (by rw [esd42]; exact xi_g k40.1 (by decide) rgf_9_10)
                      obtain ⟨sd43, esd43⟩ : ∃ x, x = h34.2.1 a1 16 := ⟨_, rfl⟩
                      have rsd43 : 0 ≤ sd43 ∧ sd43 ≤ 101 := (by rw [esd43]; exact xi_g k40.1 (lt1_V (tV_V hS ta1)) (rg_V_16 (tV_V hS ta1)))
                      refine A_putZk (KR := kF (FB s) s h) T_ok d_Parts_walkThrough_209 f_Parts_55 (xi_s k40.1 sf_9) fin_f (by omega) (kF_j k40 (by omega) (ns_b rfl) rgf_9_11 (by omega) (by omega)) (fun h44 k45 eh44 => ?_)
                      refine A_iincv (z := (i5 + 1)) (L' := [some (av_R (some 9)), some (av_R (some a1)), some (av_I a2), some (av_I a3), some (av_I a4), some (av_L a5), none, some (av_L a6), none, some (av_I (i5 + 1)), some (av_I x20)]) d_Parts_walkThrough_212 rfl (w32_to (by omega) (by unfold i32; omega)) rfl ?_
                      refine A_goto (tgt := 11) d_Parts_walkThrough_215 (by decide) ?_
                      refine A_free (L' := [some (av_R (some 9)), some (av_R (some a1)), some (av_I a2), some (av_I a3), some (av_I a4), some (av_L a5), none, some (av_L a6), none, some (av_I (i5 + 1)), none]) (And.intro rfl (And.intro rfl (And.intro rfl (And.intro rfl (And.intro rfl (And.intro rfl (And.intro rfl (And.intro rfl trivial)))))))) ?_
                      exact ih11 (i5 + 1) h44 (by omega) (by omega) (by have qq0 := ((eh44.1 _ _ (fun _ => by decide)).trans esd41.symm); have qq1 := ((eh44.1 _ _ (fun _ => by decide)).trans esd42.symm); have qq2 := ((eh44.1 _ _ (fun q => by omega)).trans esd43.symm); exact ⟨⟨by omega, by omega⟩, by omega⟩) k45 (by omega)
                · refine A_aload_n 0 d_Parts_walkThrough_158 rfl rfl ?_
                  refine A_aload_n 1 d_Parts_walkThrough_159 rfl rfl ?_
                  have zf47 := eh17.2.1
                  have zf48 := ((eh17.1 _ _ (fun _ => by decide)).trans esd9.symm)
                  have zf49 := ((eh17.1 _ _ (fun q => by omega)).trans esd10.symm)
                  refine A_callV1 m_Parts_meetLine T_ok d_Parts_walkThrough_160 l_Parts_76 k_Parts_meetLine (xi_s k18.1 sf_9) rfl (by decide +kernel) (by decide) (Nat.le_of_ble_eq_true rfl) (s_Parts_meetLine k18.1 ta1 (by have qq0 := eh17.2.1; have qq1 := ((eh17.1 _ _ (fun _ => by decide)).trans esd9.symm); have qq2 := ((eh17.1 _ _ (fun q => by omega)).trans esd10.symm); exact ⟨by omega, by omega⟩)) (fun r h46 hq => ?_)
                  obtain ⟨rfl, xk50, k50⟩ := hq
                  have k51 := kF_t k18 k50 (fun _ q => q)
                  obtain ⟨sd52, esd52⟩ : ∃ x, x = h46.2.1 9 8 := ⟨_, rfl⟩
                  have rsd52 : 0 ≤ sd52 ∧ sd52 ≤ 100000 := (by rw [esd52]; exact xi_g k51.1 (by decide) rgf_9_8)
                  obtain ⟨sd53, esd53⟩ : ∃ x, x = h46.2.1 9 10 := ⟨_, rfl⟩
                  have rsd53 : 0 ≤ sd53 ∧ sd53 ≤ 100000 := (by rw [esd53]; exact xi_g k51.1 (by decide) rgf_9_10)
                  obtain ⟨sd54, esd54⟩ : ∃ x, x = h46.2.1 a1 16 := ⟨_, rfl⟩
                  have rsd54 : 0 ≤ sd54 ∧ sd54 ≤ 101 := (by rw [esd54]; exact xi_g k51.1 (lt1_V (tV_V hS ta1)) (rg_V_16 (tV_V hS ta1)))
                  refine A_goto (tgt := 212) d_Parts_walkThrough_163 (by decide) ?_
                  refine A_iincv (z := (i5 + 1)) (L' := [some (av_R (some 9)), some (av_R (some a1)), some (av_I a2), some (av_I a3), some (av_I a4), some (av_L a5), none, some (av_L a6), none, some (av_I (i5 + 1)), some (av_I x20)]) d_Parts_walkThrough_212 rfl (w32_to (by omega) (by unfold i32; omega)) rfl ?_
                  refine A_goto (tgt := 11) d_Parts_walkThrough_215 (by decide) ?_
                  refine A_free (L' := [some (av_R (some 9)), some (av_R (some a1)), some (av_I a2), some (av_I a3), some (av_I a4), some (av_L a5), none, some (av_L a6), none, some (av_I (i5 + 1)), none]) (And.intro rfl (And.intro rfl (And.intro rfl (And.intro rfl (And.intro rfl (And.intro rfl (And.intro rfl (And.intro rfl trivial)))))))) ?_
                  exact ih11 (i5 + 1) h46 (by omega) (by omega) (by have qq0 := esd52.symm; have qq1 := esd53.symm; have qq2 := esd54.symm; exact ⟨⟨by omega, by omega⟩, by omega⟩) k51 (by omega)
              · refine A_aload_n 0 d_Parts_walkThrough_92 rfl rfl ?_
                refine A_aload_n 1 d_Parts_walkThrough_93 rfl rfl ?_
                refine A_iload d_Parts_walkThrough_94 rfl ?_
                refine A_iconst d_Parts_walkThrough_96 rfl ?_
                refine A_iaddv (z := (i5 + 1)) d_Parts_walkThrough_97 (w32_to (by omega) (by unfold i32; omega)) ?_
                refine A_pc (pc' := 98) rfl ?_
                refine A_aload_n 0 d_Parts_walkThrough_98 rfl rfl ?_
                refine A_getAv (z := some 11) T_ok d_Parts_walkThrough_99 f_Parts_15 (xi_s k18.1 sf_9) (xi_r k18.1 rff_9_1) ?_
                refine A_iload d_Parts_walkThrough_102 rfl ?_
                refine A_ialoadn (lo := 0) (hi := 1999) d_Parts_walkThrough_104 (xi_s k18.1 sf_11) (by omega) (by omega) (xi_g k18.1 (by decide) (rgf_11 _)) (fun x56 ex56 _ _ => ?_)
                refine A_iload d_Parts_walkThrough_105 rfl ?_
                refine A_iconst d_Parts_walkThrough_107 rfl ?_
                refine A_pc (pc' := 108) rfl ?_
                refine A_iaddv (z := (a4 + 1)) d_Parts_walkThrough_108 (w32_to (by omega) (by unfold i32; omega)) ?_
                refine A_lload d_Parts_walkThrough_109 rfl ?_
                refine A_aload_n 0 d_Parts_walkThrough_111 rfl rfl ?_
                refine A_getAv (z := some 13) T_ok d_Parts_walkThrough_112 f_Parts_21 (xi_s k18.1 sf_9) (xi_r k18.1 rff_9_3) ?_
                refine A_iload d_Parts_walkThrough_115 rfl ?_
                refine A_ialoadn (lo := 0) (hi := 16) d_Parts_walkThrough_117 (xi_s k18.1 sf_13) (by omega) (by omega) (xi_g k18.1 (by decide) (rgf_13 _)) (fun x58 ex58 _ _ => ?_)
                have yx58 := sP_at (kF_sem k18).1 ex20.symm.symm (by omega) ((eh17.1 _ _ (fun _ => by decide)).trans ex12.symm) (by omega) (by omega)
                refine A_pc (pc' := 118) rfl ?_
                refine A_i2l d_Parts_walkThrough_118 ?_
                refine A_lmulw d_Parts_walkThrough_119 (fun x59 ex59 _ _ => ?_)
                have bx59 := mul_pp64 (ux := 256) (uy := 16) ex59 (by omega) (by omega) (by omega) (by omega) (by decide)
                refine A_lload d_Parts_walkThrough_120 rfl ?_
                refine A_aload_n 0 d_Parts_walkThrough_122 rfl rfl ?_
                refine A_getAv (z := some 12) T_ok d_Parts_walkThrough_123 f_Parts_18 (xi_s k18.1 sf_9) (xi_r k18.1 rff_9_2) ?_
                refine A_iload d_Parts_walkThrough_126 rfl ?_
                refine A_pc (pc' := 128) rfl ?_
                refine A_ialoadn (lo := 0) (hi := 300) d_Parts_walkThrough_128 (xi_s k18.1 sf_12) (by omega) (by omega) (xi_g k18.1 (by decide) (rgf_12 _)) (fun x61 ex61 _ _ => ?_)
                have yx61 := sP_at (kF_sem k18).1 ex20.symm.symm (by omega) ((eh17.1 _ _ (fun _ => by decide)).trans ex12.symm) (by omega) (by omega)
                refine A_i2l d_Parts_walkThrough_129 ?_
                refine A_lmulw d_Parts_walkThrough_130 (fun x62 ex62 _ _ => ?_)
                have bx62 := mul_nn64 (ux := 256) (uy := 16) ex62 (by omega) (by omega) (by omega) (by omega) (by decide)
                have zf64 := eh17.2.1
                have zf65 := ((eh17.1 _ _ (fun _ => by decide)).trans esd9.symm)
                have zf66 := ((eh17.1 _ _ (fun q => by omega)).trans esd10.symm)
                refine A_callV6 m_Parts_walkThrough T_ok d_Parts_walkThrough_131 l_Parts_59 k_Parts_walkThrough (xi_s k18.1 sf_9) rfl (by decide +kernel) (by decide) (Nat.le_of_ble_eq_true rfl) (s_Parts_walkThrough_3 k18.1 ta1 (by omega) (by omega) (by omega) (by omega) (by omega) (by omega) (by omega) (by omega) (by omega) (by omega) (by have qq0 := eh17.2.1; have qq1 := ((eh17.1 _ _ (fun _ => by decide)).trans esd9.symm); have qq2 := ((eh17.1 _ _ (fun q => by omega)).trans esd10.symm); exact ⟨by omega, by omega⟩)) (fun r h63 hq => ?_)
                obtain ⟨rfl, xk67, k67⟩ := hq
                have k68 := kF_t k18 k67 (fun _ q => q)
                obtain ⟨sd69, esd69⟩ : ∃ x, x = h63.2.1 9 8 := ⟨_, rfl⟩
                have rsd69 : 0 ≤ sd69 ∧ sd69 ≤ 100000 := (by rw [esd69]; exact xi_g k68.1 (by decide) rgf_9_8)
                obtain ⟨sd70, esd70⟩ : ∃ x, x = h63.2.1 9 10 := ⟨_, rfl⟩
                have rsd70 : 0 ≤ sd70 ∧ sd70 ≤ 100000 := (by rw [esd70]; exact xi_g k68.1 (by decide) rgf_9_10)
                obtain ⟨sd71, esd71⟩ : ∃ x, x = h63.2.1 a1 16 := ⟨_, rfl⟩
                have rsd71 : 0 ≤ sd71 ∧ sd71 ≤ 101 := (by rw [esd71]; exact xi_g k68.1 (lt1_V (tV_V hS ta1)) (rg_V_16 (tV_V hS ta1)))
                refine A_iload d_Parts_walkThrough_134 rfl ?_
                refine A_aload_n 0 d_Parts_walkThrough_136 rfl rfl ?_
                refine A_getAv (z := some 11) T_ok d_Parts_walkThrough_137 f_Parts_15 (xi_s k68.1 sf_9) (xi_r k68.1 rff_9_1) ?_
                refine A_iload d_Parts_walkThrough_140 rfl ?_
                refine A_ialoadn (lo := 0) (hi := 1999) d_Parts_walkThrough_142 (xi_s k68.1 sf_11) (by omega) (by omega) (xi_g k68.1 (by decide) (rgf_11 _)) (fun x73 ex73 _ _ => ?_)
                refine A_pc (pc' := 143) rfl ?_
                refine A_mmax d_Parts_walkThrough_143 lm_Parts_70 ma_max (by decide) (by decide) (Nat.le_of_ble_eq_true rfl) rfl ?_
                refine A_nrI (fun x74 ex74 _ _ => ?_)
                have bx74 := mmax_r ex74
                refine A_istore (L' := [some (av_R (some 9)), some (av_R (some a1)), some (av_I a2), some (av_I a3), some (av_I a4), some (av_L a5), none, some (av_L a6), none, some (av_I x74), some (av_I x20)]) d_Parts_walkThrough_146 (Nat.le_of_ble_eq_true rfl) rfl ?_
                refine A_goto (tgt := 212) d_Parts_walkThrough_148 (by decide) ?_
                refine A_iincv (z := (x74 + 1)) (L' := [some (av_R (some 9)), some (av_R (some a1)), some (av_I a2), some (av_I a3), some (av_I a4), some (av_L a5), none, some (av_L a6), none, some (av_I (x74 + 1)), some (av_I x20)]) d_Parts_walkThrough_212 rfl (w32_to (by omega) (by unfold i32; omega)) rfl ?_
                refine A_goto (tgt := 11) d_Parts_walkThrough_215 (by decide) ?_
                refine A_free (L' := [some (av_R (some 9)), some (av_R (some a1)), some (av_I a2), some (av_I a3), some (av_I a4), some (av_L a5), none, some (av_L a6), none, some (av_I (x74 + 1)), none]) (And.intro rfl (And.intro rfl (And.intro rfl (And.intro rfl (And.intro rfl (And.intro rfl (And.intro rfl (And.intro rfl trivial)))))))) ?_
                exact ih11 (x74 + 1) h63 (by omega) (by omega) (by have qq0 := esd69.symm; have qq1 := esd70.symm; have qq2 := esd71.symm; exact ⟨⟨by omega, by omega⟩, by omega⟩) k68 (by omega)
            · refine A_iload d_Parts_walkThrough_62 rfl ?_
              refine A_aload_n 0 d_Parts_walkThrough_64 rfl rfl ?_
              refine A_aload_n 1 d_Parts_walkThrough_65 rfl rfl ?_
              refine A_iload d_Parts_walkThrough_66 rfl ?_
              refine A_iload d_Parts_walkThrough_68 rfl ?_
              refine A_pc (pc' := 70) rfl ?_
              refine A_lload d_Parts_walkThrough_70 rfl ?_
              refine A_lload d_Parts_walkThrough_72 rfl ?_
              have zf76 := eh17.2.1
              have zf77 := ((eh17.1 _ _ (fun _ => by decide)).trans esd9.symm)
              have zf78 := ((eh17.1 _ _ (fun q => by omega)).trans esd10.symm)
              refine A_callV5 m_Parts_walkRepeat T_ok d_Parts_walkThrough_74 l_Parts_66 k_Parts_walkRepeat (xi_s k18.1 sf_9) rfl (by decide +kernel) (by decide) (Nat.le_of_ble_eq_true rfl) (s_Parts_walkRepeat_2 k18.1 ta1 (by omega) (by omega) (by omega) (by omega) (by omega) (by omega) (by omega) (by omega) (by have qq0 := eh17.2.1; have qq1 := ((eh17.1 _ _ (fun _ => by decide)).trans esd9.symm); have qq2 := ((eh17.1 _ _ (fun q => by omega)).trans esd10.symm); exact ⟨by omega, by omega⟩) (by have qq0 := eh17.2.1; have qq1 := ((eh17.1 _ _ (fun _ => by decide)).trans esd9.symm); omega)) (fun r h75 hq => ?_)
              obtain ⟨x80, rfl, ⟨_, _⟩, xx80, k79⟩ := hq
              have k81 := kF_t k18 k79 (fun _ q => q)
              obtain ⟨sd82, esd82⟩ : ∃ x, x = h75.2.1 9 8 := ⟨_, rfl⟩
              have rsd82 : 0 ≤ sd82 ∧ sd82 ≤ 100000 := (by rw [esd82]; exact xi_g k81.1 (by decide) rgf_9_8)
              obtain ⟨sd83, esd83⟩ : ∃ x, x = h75.2.1 9 10 := ⟨_, rfl⟩
              have rsd83 : 0 ≤ sd83 ∧ sd83 ≤ 100000 := (by rw [esd83]; exact xi_g k81.1 (by decide) rgf_9_10)
              obtain ⟨sd84, esd84⟩ : ∃ x, x = h75.2.1 a1 16 := ⟨_, rfl⟩
              have rsd84 : 0 ≤ sd84 ∧ sd84 ≤ 101 := (by rw [esd84]; exact xi_g k81.1 (lt1_V (tV_V hS ta1)) (rg_V_16 (tV_V hS ta1)))
              refine A_mmax d_Parts_walkThrough_77 lm_Parts_70 ma_max (by decide) (by decide) (Nat.le_of_ble_eq_true rfl) rfl ?_
              refine A_nrI (fun x85 ex85 _ _ => ?_)
              have bx85 := mmax_r ex85
              refine A_istore (L' := [some (av_R (some 9)), some (av_R (some a1)), some (av_I a2), some (av_I a3), some (av_I a4), some (av_L a5), none, some (av_L a6), none, some (av_I x85), some (av_I x20)]) d_Parts_walkThrough_80 (Nat.le_of_ble_eq_true rfl) rfl ?_
              refine A_goto (tgt := 212) d_Parts_walkThrough_82 (by decide) ?_
              refine A_iincv (z := (x85 + 1)) (L' := [some (av_R (some 9)), some (av_R (some a1)), some (av_I a2), some (av_I a3), some (av_I a4), some (av_L a5), none, some (av_L a6), none, some (av_I (x85 + 1)), some (av_I x20)]) d_Parts_walkThrough_212 rfl (w32_to (by omega) (by unfold i32; omega)) rfl ?_
              refine A_goto (tgt := 11) d_Parts_walkThrough_215 (by decide) ?_
              refine A_free (L' := [some (av_R (some 9)), some (av_R (some a1)), some (av_I a2), some (av_I a3), some (av_I a4), some (av_L a5), none, some (av_L a6), none, some (av_I (x85 + 1)), none]) (And.intro rfl (And.intro rfl (And.intro rfl (And.intro rfl (And.intro rfl (And.intro rfl (And.intro rfl (And.intro rfl trivial)))))))) ?_
              exact ih11 (x85 + 1) h75 (by omega) (by omega) (by have qq0 := esd82.symm; have qq1 := esd83.symm; have qq2 := esd84.symm; exact ⟨⟨by omega, by omega⟩, by omega⟩) k81 (by omega)
  exact lp11 _ a2 h (by omega) (by omega) (by have qq0 := esd1.symm; have qq1 := esd2.symm; have qq2 := esd3.symm; exact ⟨⟨by omega, by omega⟩, by omega⟩) k0 (Nat.lt_succ_self _)
theorem s_Parts_walkRepeat_1 {G : cx_T} {s : Nat} {h : ah_T} (hx : xi s h) {a1 : Nat} {a2 : Int} {a3 : Int} {a4 : Int} {a5 : Int} (ta1 : tV s a1) (la2 : 0 ≤ a2) (ua2 : a2 ≤ 1999) (la3 : 1 ≤ a3) (ua3 : a3 ≤ 1) (la4 : 1 ≤ a4) (ua4 : a4 ≤ 16) (la5 : 0 ≤ a5) (ua5 : a5 ≤ 16) (hJ : h.2.1 9 10 ≤ h.2.1 9 8 ∧ h.2.1 a1 16 ≤ h.2.1 9 10 + 1) (hS2 : h.2.1 9 8 ≤ 2001) : con G 17 0 0 m_Parts_walkRepeat [av_R (some 9), av_R (some a1), av_I a2, av_I a3, av_L a4, av_L a5] h (fun r h' => ∃ z, r = some (av_I z) ∧ (0 ≤ z ∧ z ≤ 1999) ∧ ((h'.2.1 9 10 ≤ h'.2.1 9 8 ∧ h'.2.1 a1 16 ≤ h'.2.1 9 10 + 1) ∧ h'.2.1 9 8 ≤ 16001) ∧ kF (FB s) s h h') := by
  refine con_of (L := [some (av_R (some 9)), some (av_R (some a1)), some (av_I a2), some (av_I a3), some (av_L a4), none, some (av_L a5), none, none, none, none]) (by decide +kernel) (Nat.le_of_ble_eq_true rfl) rfl ?_
  have hS : isS s := hx.2.1
  have hs0 : s = 17 ∨ s = 80 := hS
  have hs0b : 17 ≤ s ∧ s ≤ 80 := by omega
  have k0 : kF (FB s) s h h := kF_0 hx
  have ga1 : a1 = s + 7 ∨ a1 = s + 21 ∨ a1 = s + 35 ∨ a1 = s + 49 := ta1
  have ga1b : s + 7 ≤ a1 ∧ a1 ≤ s + 49 := by omega
  obtain ⟨sd1, esd1⟩ : ∃ x, x = h.2.1 9 8 := ⟨_, rfl⟩
  have rsd1 : 0 ≤ sd1 ∧ sd1 ≤ 100000 := (by rw [esd1]; exact xi_g k0.1 (by decide) rgf_9_8)
  obtain ⟨sd2, esd2⟩ : ∃ x, x = h.2.1 9 10 := ⟨_, rfl⟩
  have rsd2 : 0 ≤ sd2 ∧ sd2 ≤ 100000 := (by rw [esd2]; exact xi_g k0.1 (by decide) rgf_9_10)
  obtain ⟨sd3, esd3⟩ : ∃ x, x = h.2.1 a1 16 := ⟨_, rfl⟩
  have rsd3 : 0 ≤ sd3 ∧ sd3 ≤ 101 := (by rw [esd3]; exact xi_g k0.1 (lt1_V (tV_V hS ta1)) (rg_V_16 (tV_V hS ta1)))
  refine A_aload_n 0 d_Parts_walkRepeat_0 rfl rfl ?_
  refine A_getAv (z := some 11) T_ok d_Parts_walkRepeat_1 f_Parts_15 (xi_s k0.1 sf_9) (xi_r k0.1 rff_9_1) ?_
  refine A_iload_n 2 d_Parts_walkRepeat_4 rfl rfl ?_
  refine A_ialoadn (lo := 0) (hi := 1999) d_Parts_walkRepeat_5 (xi_s k0.1 sf_11) (by omega) (by omega) (xi_g k0.1 (by decide) (rgf_11 _)) (fun x5 ex5 _ _ => ?_)
  refine A_istore (L' := [some (av_R (some 9)), some (av_R (some a1)), some (av_I a2), some (av_I a3), some (av_L a4), none, some (av_L a5), none, some (av_I x5), none, none]) d_Parts_walkRepeat_6 (Nat.le_of_ble_eq_true rfl) rfl ?_
  refine A_pc (pc' := 8) rfl ?_
  refine A_aload_n 0 d_Parts_walkRepeat_8 rfl rfl ?_
  refine A_getAv (z := some 10) T_ok d_Parts_walkRepeat_9 f_Parts_9 (xi_s k0.1 sf_9) (xi_r k0.1 rff_9_0) ?_
  refine A_iload d_Parts_walkRepeat_12 rfl ?_
  refine A_ialoadf d_Parts_walkRepeat_14 (xi_s k0.1 sf_10) (by omega) (by omega) (fun x7 ex7 _ _ => ?_)
  refine A_bipush d_Parts_walkRepeat_15 rfl ?_
  refine A_icmp_eq (tgt := 77) d_Parts_walkRepeat_17 (by decide) (fun c8 => ?_) (fun c8 => ?_)
  · refine A_iload d_Parts_walkRepeat_77 rfl ?_
    refine A_istore (L' := [some (av_R (some 9)), some (av_R (some a1)), some (av_I a2), some (av_I a3), some (av_L a4), none, some (av_L a5), none, some (av_I x5), some (av_I x5), none]) d_Parts_walkRepeat_79 (Nat.le_of_ble_eq_true rfl) rfl ?_
    refine A_iconst d_Parts_walkRepeat_81 rfl ?_
    refine A_istore (L' := [some (av_R (some 9)), some (av_R (some a1)), some (av_I a2), some (av_I a3), some (av_L a4), none, some (av_L a5), none, some (av_I x5), some (av_I x5), some (av_I 0)]) d_Parts_walkRepeat_82 (Nat.le_of_ble_eq_true rfl) rfl ?_
    have lp84 : ∀ (n : Nat) (i9 i10 : Int) (h11 : ah_T) , 0 ≤ i9 → i9 ≤ 1999 → 0 ≤ i10 → i10 ≤ 2000 → (h11.2.1 9 10 ≤ h11.2.1 9 8 ∧ h11.2.1 a1 16 ≤ h11.2.1 9 10 + 1) ∧ h11.2.1 9 8 ≤ 14001 + i10 → kF (FB s) s h h11 → (2001 - i10).toNat < n → aw G (rm_R 17 0 0) m_Parts_walkRepeat 0 0 84 [some (av_R (some 9)), some (av_R (some a1)), some (av_I a2), some (av_I a3), some (av_L a4), none, some (av_L a5), none, some (av_I x5), some (av_I i9), some (av_I i10)] [] h11 (fun r h' => ∃ z, r = some (av_I z) ∧ (0 ≤ z ∧ z ≤ 1999) ∧ ((h'.2.1 9 10 ≤ h'.2.1 9 8 ∧ h'.2.1 a1 16 ≤ h'.2.1 9 10 + 1) ∧ h'.2.1 9 8 ≤ 16001) ∧ kF (FB s) s h h') := by
      intro n
      induction n with
      | zero => intro i9 i10 h11 _ _ _ _ _ _ hm; omega
      | succ n ih84 =>
        intro i9 i10 h11 hl0 hl1 hl2 hl3 hinv k12 hm
        obtain ⟨sd13, esd13⟩ : ∃ x, x = h11.2.1 9 8 := ⟨_, rfl⟩
        have rsd13 : 0 ≤ sd13 ∧ sd13 ≤ 100000 := (by rw [esd13]; exact xi_g k12.1 (by decide) rgf_9_8)
        obtain ⟨sd14, esd14⟩ : ∃ x, x = h11.2.1 9 10 := ⟨_, rfl⟩
        have rsd14 : 0 ≤ sd14 ∧ sd14 ≤ 100000 := (by rw [esd14]; exact xi_g k12.1 (by decide) rgf_9_10)
        obtain ⟨sd15, esd15⟩ : ∃ x, x = h11.2.1 a1 16 := ⟨_, rfl⟩
        have rsd15 : 0 ≤ sd15 ∧ sd15 ≤ 101 := (by rw [esd15]; exact xi_g k12.1 (lt1_V (tV_V hS ta1)) (rg_V_16 (tV_V hS ta1)))
        refine A_iload d_Parts_walkRepeat_84 rfl ?_
        refine A_sipush d_Parts_walkRepeat_86 rfl ?_
        refine A_icmp_ge (tgt := 169) d_Parts_walkRepeat_89 (by decide) (fun c16 => ?_) (fun c16 => ?_)
        · refine A_iload d_Parts_walkRepeat_169 rfl ?_
          exact A_iret d_Parts_walkRepeat_171 (by decide) rfl ⟨_, rfl, ⟨by omega, by omega⟩, (by have qq0 := esd13.symm; have qq1 := esd14.symm; have qq2 := esd15.symm; exact ⟨⟨by omega, by omega⟩, by omega⟩), k12⟩
        · refine A_aload_n 0 d_Parts_walkRepeat_92 rfl rfl ?_
          refine A_getAv (z := some 10) T_ok d_Parts_walkRepeat_93 f_Parts_9 (xi_s k12.1 sf_9) (xi_r k12.1 rff_9_0) ?_
          refine A_iload d_Parts_walkRepeat_96 rfl ?_
          refine A_ialoadf d_Parts_walkRepeat_98 (xi_s k12.1 sf_10) (by omega) (by omega) (fun x18 ex18 _ _ => ?_)
          refine A_bipush d_Parts_walkRepeat_99 rfl ?_
          refine A_pc (pc' := 101) rfl ?_
          refine A_icmp_ne (tgt := 169) d_Parts_walkRepeat_101 (by decide) (fun c19 => ?_) (fun c19 => ?_)
          · refine A_iload d_Parts_walkRepeat_169 rfl ?_
            exact A_iret d_Parts_walkRepeat_171 (by decide) rfl ⟨_, rfl, ⟨by omega, by omega⟩, (by have qq0 := esd13.symm; have qq1 := esd14.symm; have qq2 := esd15.symm; exact ⟨⟨by omega, by omega⟩, by omega⟩), k12⟩
          · refine A_aload_n 0 d_Parts_walkRepeat_104 rfl rfl ?_
            refine A_dupR d_Parts_walkRepeat_105 ?_
            refine A_getIv (z := sd13) T_ok d_Parts_walkRepeat_106 f_Parts_46 (xi_s k12.1 sf_9) esd13.symm ?_
            refine A_iconst d_Parts_walkRepeat_109 rfl ?_
            refine A_iaddv (z := (sd13 + 1)) d_Parts_walkRepeat_110 (w32_to (by omega) (by unfold i32; omega)) ?_
            refine A_pc (pc' := 111) rfl ?_
            refine A_putIk (KR := kF (FB s) s h) T_ok d_Parts_walkRepeat_111 f_Parts_46 (xi_s k12.1 sf_9) fin_f (kF_j k12 (by omega) (ns_b rfl) rgf_9_8 (by omega) (by omega)) (fun h21 k22 eh21 => ?_)
            refine A_aload_n 0 d_Parts_walkRepeat_114 rfl rfl ?_
            refine A_aload_n 1 d_Parts_walkRepeat_115 rfl rfl ?_
            refine A_iload_n 2 d_Parts_walkRepeat_116 rfl rfl ?_
            refine A_iconst d_Parts_walkRepeat_117 rfl ?_
            refine A_iaddv (z := (a2 + 1)) d_Parts_walkRepeat_118 (w32_to (by omega) (by unfold i32; omega)) ?_
            refine A_pc (pc' := 119) rfl ?_
            refine A_iload d_Parts_walkRepeat_119 rfl ?_
            refine A_iload_n 3 d_Parts_walkRepeat_121 rfl rfl ?_
            refine A_iconst d_Parts_walkRepeat_122 rfl ?_
            refine A_iaddv (z := (a3 + 1)) d_Parts_walkRepeat_123 (w32_to (by omega) (by unfold i32; omega)) ?_
            refine A_lload d_Parts_walkRepeat_124 rfl ?_
            refine A_lload d_Parts_walkRepeat_126 rfl ?_
            refine A_pc (pc' := 128) rfl ?_
            have zf24 := eh21.2.1
            have zf25 := ((eh21.1 _ _ (fun _ => by decide)).trans esd14.symm)
            have zf26 := ((eh21.1 _ _ (fun q => by omega)).trans esd15.symm)
            refine A_callV6 m_Parts_walkThrough T_ok d_Parts_walkRepeat_128 l_Parts_59 k_Parts_walkThrough (xi_s k22.1 sf_9) rfl (by decide +kernel) (by decide) (Nat.le_of_ble_eq_true rfl) (s_Parts_walkThrough_2 k22.1 ta1 (by omega) (by omega) (by omega) (by omega) (by omega) (by omega) (by omega) (by omega) (by omega) (by omega) (by have qq0 := eh21.2.1; have qq1 := ((eh21.1 _ _ (fun _ => by decide)).trans esd14.symm); have qq2 := ((eh21.1 _ _ (fun q => by omega)).trans esd15.symm); exact ⟨by omega, by omega⟩)) (fun r h23 hq => ?_)
            obtain ⟨rfl, xk27, k27⟩ := hq
            have k28 := kF_t k22 k27 (fun _ q => q)
            obtain ⟨sd29, esd29⟩ : ∃ x, x = h23.2.1 9 8 := ⟨_, rfl⟩
            have rsd29 : 0 ≤ sd29 ∧ sd29 ≤ 100000 := (by rw [esd29]; exact xi_g k28.1 (by decide) rgf_9_8)
            obtain ⟨sd30, esd30⟩ : ∃ x, x = h23.2.1 9 10 := ⟨_, rfl⟩
            have rsd30 : 0 ≤ sd30 ∧ sd30 ≤ 100000 := (by rw [esd30]; exact xi_g k28.1 (by decide) rgf_9_10)
            obtain ⟨sd31, esd31⟩ : ∃ x, x = h23.2.1 a1 16 := ⟨_, rfl⟩
            have rsd31 : 0 ≤ sd31 ∧ sd31 ≤ 101 := (by rw [esd31]; exact xi_g k28.1 (lt1_V (tV_V hS ta1)) (rg_V_16 (tV_V hS ta1)))
            refine A_aload_n 0 d_Parts_walkRepeat_131 rfl rfl ?_
            refine A_aload_n 1 d_Parts_walkRepeat_132 rfl rfl ?_
            refine A_iload d_Parts_walkRepeat_133 rfl ?_
            refine A_iconst d_Parts_walkRepeat_135 rfl ?_
            refine A_iaddv (z := (i9 + 1)) d_Parts_walkRepeat_136 (w32_to (by omega) (by unfold i32; omega)) ?_
            refine A_pc (pc' := 137) rfl ?_
            refine A_aload_n 0 d_Parts_walkRepeat_137 rfl rfl ?_
            refine A_getAv (z := some 11) T_ok d_Parts_walkRepeat_138 f_Parts_15 (xi_s k28.1 sf_9) (xi_r k28.1 rff_9_1) ?_
            refine A_iload d_Parts_walkRepeat_141 rfl ?_
            refine A_ialoadn (lo := 0) (hi := 1999) d_Parts_walkRepeat_143 (xi_s k28.1 sf_11) (by omega) (by omega) (xi_g k28.1 (by decide) (rgf_11 _)) (fun x33 ex33 _ _ => ?_)
            refine A_iload_n 3 d_Parts_walkRepeat_144 rfl rfl ?_
            refine A_iconst d_Parts_walkRepeat_145 rfl ?_
            refine A_pc (pc' := 146) rfl ?_
            refine A_iaddv (z := (a3 + 1)) d_Parts_walkRepeat_146 (w32_to (by omega) (by unfold i32; omega)) ?_
            refine A_lload d_Parts_walkRepeat_147 rfl ?_
            refine A_lload d_Parts_walkRepeat_149 rfl ?_
            have zf35 := esd29.symm
            have zf36 := esd30.symm
            have zf37 := esd31.symm
            refine A_callV6 m_Parts_walkThrough T_ok d_Parts_walkRepeat_151 l_Parts_59 k_Parts_walkThrough (xi_s k28.1 sf_9) rfl (by decide +kernel) (by decide) (Nat.le_of_ble_eq_true rfl) (s_Parts_walkThrough_2 k28.1 ta1 (by omega) (by omega) (by omega) (by omega) (by omega) (by omega) (by omega) (by omega) (by omega) (by omega) (by have qq0 := esd29.symm; have qq1 := esd30.symm; have qq2 := esd31.symm; exact ⟨by omega, by omega⟩)) (fun r h34 hq => ?_)
            obtain ⟨rfl, xk38, k38⟩ := hq
            have k39 := kF_t k28 k38 (fun _ q => q)
            obtain ⟨sd40, esd40⟩ : ∃ x, x = h34.2.1 9 8 := ⟨_, rfl⟩
            have rsd40 : 0 ≤ sd40 ∧ sd40 ≤ 100000 := (by rw [esd40]; exact xi_g k39.1 (by decide) rgf_9_8)
            obtain ⟨sd41, esd41⟩ : ∃ x, x = h34.2.1 9 10 := ⟨_, rfl⟩
            have rsd41 : 0 ≤ sd41 ∧ sd41 ≤ 100000 := (by rw [esd41]; exact xi_g k39.1 (by decide) rgf_9_10)
            obtain ⟨sd42, esd42⟩ : ∃ x, x = h34.2.1 a1 16 := ⟨_, rfl⟩
            have rsd42 : 0 ≤ sd42 ∧ sd42 ≤ 101 := (by rw [esd42]; exact xi_g k39.1 (lt1_V (tV_V hS ta1)) (rg_V_16 (tV_V hS ta1)))
            refine A_aload_n 0 d_Parts_walkRepeat_154 rfl rfl ?_
            refine A_getAv (z := some 11) T_ok d_Parts_walkRepeat_155 f_Parts_15 (xi_s k39.1 sf_9) (xi_r k39.1 rff_9_1) ?_
            refine A_iload d_Parts_walkRepeat_158 rfl ?_
            refine A_ialoadn (lo := 0) (hi := 1999) d_Parts_walkRepeat_160 (xi_s k39.1 sf_11) (by omega) (by omega) (xi_g k39.1 (by decide) (rgf_11 _)) (fun x44 ex44 _ _ => ?_)
            refine A_istore (L' := [some (av_R (some 9)), some (av_R (some a1)), some (av_I a2), some (av_I a3), some (av_L a4), none, some (av_L a5), none, some (av_I x5), some (av_I x44), some (av_I i10)]) d_Parts_walkRepeat_161 (Nat.le_of_ble_eq_true rfl) rfl ?_
            refine A_pc (pc' := 163) rfl ?_
            refine A_iincv (z := (i10 + 1)) (L' := [some (av_R (some 9)), some (av_R (some a1)), some (av_I a2), some (av_I a3), some (av_L a4), none, some (av_L a5), none, some (av_I x5), some (av_I x44), some (av_I (i10 + 1))]) d_Parts_walkRepeat_163 rfl (w32_to (by omega) (by unfold i32; omega)) rfl ?_
            refine A_goto (tgt := 84) d_Parts_walkRepeat_166 (by decide) ?_
            exact ih84 x44 (i10 + 1) h34 (by omega) (by omega) (by omega) (by omega) (by have qq0 := esd40.symm; have qq1 := esd41.symm; have qq2 := esd42.symm; exact ⟨⟨by omega, by omega⟩, by omega⟩) k39 (by omega)
    exact lp84 _ x5 0 h (by omega) (by omega) (by omega) (by omega) (by have qq0 := esd1.symm; have qq1 := esd2.symm; have qq2 := esd3.symm; exact ⟨⟨by omega, by omega⟩, by omega⟩) k0 (Nat.lt_succ_self _)
  · refine A_aload_n 0 d_Parts_walkRepeat_20 rfl rfl ?_
    refine A_dupR d_Parts_walkRepeat_21 ?_
    refine A_getIv (z := sd1) T_ok d_Parts_walkRepeat_22 f_Parts_46 (xi_s k0.1 sf_9) esd1.symm ?_
    refine A_iconst d_Parts_walkRepeat_25 rfl ?_
    refine A_iaddv (z := (sd1 + 1)) d_Parts_walkRepeat_26 (w32_to (by omega) (by unfold i32; omega)) ?_
    refine A_pc (pc' := 27) rfl ?_
    refine A_putIk (KR := kF (FB s) s h) T_ok d_Parts_walkRepeat_27 f_Parts_46 (xi_s k0.1 sf_9) fin_f (kF_j k0 (by omega) (ns_b rfl) rgf_9_8 (by omega) (by omega)) (fun h46 k47 eh46 => ?_)
    refine A_aload_n 0 d_Parts_walkRepeat_30 rfl rfl ?_
    refine A_aload_n 1 d_Parts_walkRepeat_31 rfl rfl ?_
    refine A_iload_n 2 d_Parts_walkRepeat_32 rfl rfl ?_
    refine A_iconst d_Parts_walkRepeat_33 rfl ?_
    refine A_iaddv (z := (a2 + 1)) d_Parts_walkRepeat_34 (w32_to (by omega) (by unfold i32; omega)) ?_
    refine A_pc (pc' := 35) rfl ?_
    refine A_iload d_Parts_walkRepeat_35 rfl ?_
    refine A_iload_n 3 d_Parts_walkRepeat_37 rfl rfl ?_
    refine A_iconst d_Parts_walkRepeat_38 rfl ?_
    refine A_iaddv (z := (a3 + 1)) d_Parts_walkRepeat_39 (w32_to (by omega) (by unfold i32; omega)) ?_
    refine A_lload d_Parts_walkRepeat_40 rfl ?_
    refine A_lload d_Parts_walkRepeat_42 rfl ?_
    refine A_pc (pc' := 44) rfl ?_
    have zf49 := eh46.2.1
    have zf50 := ((eh46.1 _ _ (fun _ => by decide)).trans esd2.symm)
    have zf51 := ((eh46.1 _ _ (fun q => by omega)).trans esd3.symm)
    refine A_callV6 m_Parts_walkThrough T_ok d_Parts_walkRepeat_44 l_Parts_59 k_Parts_walkThrough (xi_s k47.1 sf_9) rfl (by decide +kernel) (by decide) (Nat.le_of_ble_eq_true rfl) (s_Parts_walkThrough_2 k47.1 ta1 (by omega) (by omega) (by omega) (by omega) (by omega) (by omega) (by omega) (by omega) (by omega) (by omega) (by have qq0 := eh46.2.1; have qq1 := ((eh46.1 _ _ (fun _ => by decide)).trans esd2.symm); have qq2 := ((eh46.1 _ _ (fun q => by omega)).trans esd3.symm); exact ⟨by omega, by omega⟩)) (fun r h48 hq => ?_)
    obtain ⟨rfl, xk52, k52⟩ := hq
    have k53 := kF_t k47 k52 (fun _ q => q)
    obtain ⟨sd54, esd54⟩ : ∃ x, x = h48.2.1 9 8 := ⟨_, rfl⟩
    have rsd54 : 0 ≤ sd54 ∧ sd54 ≤ 100000 := (by rw [esd54]; exact xi_g k53.1 (by decide) rgf_9_8)
    obtain ⟨sd55, esd55⟩ : ∃ x, x = h48.2.1 9 10 := ⟨_, rfl⟩
    have rsd55 : 0 ≤ sd55 ∧ sd55 ≤ 100000 := (by rw [esd55]; exact xi_g k53.1 (by decide) rgf_9_10)
    obtain ⟨sd56, esd56⟩ : ∃ x, x = h48.2.1 a1 16 := ⟨_, rfl⟩
    have rsd56 : 0 ≤ sd56 ∧ sd56 ≤ 101 := (by rw [esd56]; exact xi_g k53.1 (lt1_V (tV_V hS ta1)) (rg_V_16 (tV_V hS ta1)))
    refine A_aload_n 0 d_Parts_walkRepeat_47 rfl rfl ?_
    refine A_dupR d_Parts_walkRepeat_48 ?_
    refine A_getIv (z := sd54) T_ok d_Parts_walkRepeat_49 f_Parts_46 (xi_s k53.1 sf_9) esd54.symm ?_
    refine A_iconst d_Parts_walkRepeat_52 rfl ?_
    refine A_iaddv (z := (sd54 + 1)) d_Parts_walkRepeat_53 (w32_to (by omega) (by unfold i32; omega)) ?_
    refine A_pc (pc' := 54) rfl ?_
    refine A_putIk (KR := kF (FB s) s h) T_ok d_Parts_walkRepeat_54 f_Parts_46 (xi_s k53.1 sf_9) fin_f (kF_j k53 (by omega) (ns_b rfl) rgf_9_8 (by omega) (by omega)) (fun h58 k59 eh58 => ?_)
    refine A_aload_n 0 d_Parts_walkRepeat_57 rfl rfl ?_
    refine A_aload_n 1 d_Parts_walkRepeat_58 rfl rfl ?_
    refine A_iload_n 2 d_Parts_walkRepeat_59 rfl rfl ?_
    refine A_iconst d_Parts_walkRepeat_60 rfl ?_
    refine A_iaddv (z := (a2 + 1)) d_Parts_walkRepeat_61 (w32_to (by omega) (by unfold i32; omega)) ?_
    refine A_pc (pc' := 62) rfl ?_
    refine A_iload d_Parts_walkRepeat_62 rfl ?_
    refine A_iload_n 3 d_Parts_walkRepeat_64 rfl rfl ?_
    refine A_iconst d_Parts_walkRepeat_65 rfl ?_
    refine A_iaddv (z := (a3 + 1)) d_Parts_walkRepeat_66 (w32_to (by omega) (by unfold i32; omega)) ?_
    refine A_lload d_Parts_walkRepeat_67 rfl ?_
    refine A_lload d_Parts_walkRepeat_69 rfl ?_
    refine A_pc (pc' := 71) rfl ?_
    have zf61 := eh58.2.1
    have zf62 := ((eh58.1 _ _ (fun _ => by decide)).trans esd55.symm)
    have zf63 := ((eh58.1 _ _ (fun q => by omega)).trans esd56.symm)
    refine A_callV6 m_Parts_walkThrough T_ok d_Parts_walkRepeat_71 l_Parts_59 k_Parts_walkThrough (xi_s k59.1 sf_9) rfl (by decide +kernel) (by decide) (Nat.le_of_ble_eq_true rfl) (s_Parts_walkThrough_2 k59.1 ta1 (by omega) (by omega) (by omega) (by omega) (by omega) (by omega) (by omega) (by omega) (by omega) (by omega) (by have qq0 := eh58.2.1; have qq1 := ((eh58.1 _ _ (fun _ => by decide)).trans esd55.symm); have qq2 := ((eh58.1 _ _ (fun q => by omega)).trans esd56.symm); exact ⟨by omega, by omega⟩)) (fun r h60 hq => ?_)
    obtain ⟨rfl, xk64, k64⟩ := hq
    have k65 := kF_t k59 k64 (fun _ q => q)
    obtain ⟨sd66, esd66⟩ : ∃ x, x = h60.2.1 9 8 := ⟨_, rfl⟩
    have rsd66 : 0 ≤ sd66 ∧ sd66 ≤ 100000 := (by rw [esd66]; exact xi_g k65.1 (by decide) rgf_9_8)
    obtain ⟨sd67, esd67⟩ : ∃ x, x = h60.2.1 9 10 := ⟨_, rfl⟩
    have rsd67 : 0 ≤ sd67 ∧ sd67 ≤ 100000 := (by rw [esd67]; exact xi_g k65.1 (by decide) rgf_9_10)
    obtain ⟨sd68, esd68⟩ : ∃ x, x = h60.2.1 a1 16 := ⟨_, rfl⟩
    have rsd68 : 0 ≤ sd68 ∧ sd68 ≤ 101 := (by rw [esd68]; exact xi_g k65.1 (lt1_V (tV_V hS ta1)) (rg_V_16 (tV_V hS ta1)))
    refine A_iload d_Parts_walkRepeat_74 rfl ?_
    exact A_iret d_Parts_walkRepeat_76 (by decide) rfl ⟨_, rfl, ⟨by omega, by omega⟩, (by have qq0 := esd66.symm; have qq1 := esd67.symm; have qq2 := esd68.symm; exact ⟨⟨by omega, by omega⟩, by omega⟩), k65⟩
theorem s_Parts_walkThrough_1 {G : cx_T} {s : Nat} {h : ah_T} (hx : xi s h) {a1 : Nat} {a2 : Int} {a3 : Int} {a4 : Int} {a5 : Int} {a6 : Int} (ta1 : tV s a1) (la2 : 0 ≤ a2) (ua2 : a2 ≤ 2000) (la3 : 0 ≤ a3) (ua3 : a3 ≤ 2000) (la4 : 1 ≤ a4) (ua4 : a4 ≤ 1) (la5 : 1 ≤ a5) (ua5 : a5 ≤ 16) (la6 : 0 ≤ a6) (ua6 : a6 ≤ 16) (hJ : h.2.1 9 10 ≤ h.2.1 9 8 ∧ h.2.1 a1 16 ≤ h.2.1 9 10 + 1) : con G 18 0 0 m_Parts_walkThrough [av_R (some 9), av_R (some a1), av_I a2, av_I a3, av_I a4, av_L a5, av_L a6] h (fun r h' => r = none ∧ ((h'.2.1 9 10 ≤ h'.2.1 9 8 ∧ h'.2.1 a1 16 ≤ h'.2.1 9 10 + 1) ∧ (h'.2.1 9 8 ≤ h.2.1 9 8 ∨ h'.2.1 9 8 ≤ 16001)) ∧ kF (FB s) s h h') := by
  refine con_of (L := [some (av_R (some 9)), some (av_R (some a1)), some (av_I a2), some (av_I a3), some (av_I a4), some (av_L a5), none, some (av_L a6), none, none, none]) (by decide +kernel) (Nat.le_of_ble_eq_true rfl) rfl ?_
  have hS : isS s := hx.2.1
  have hs0 : s = 17 ∨ s = 80 := hS
  have hs0b : 17 ≤ s ∧ s ≤ 80 := by omega
  have k0 : kF (FB s) s h h := kF_0 hx
  have ga1 : a1 = s + 7 ∨ a1 = s + 21 ∨ a1 = s + 35 ∨ a1 = s + 49 := ta1
  have ga1b : s + 7 ≤ a1 ∧ a1 ≤ s + 49 := by omega
  obtain ⟨sd1, esd1⟩ : ∃ x, x = h.2.1 9 8 := ⟨_, rfl⟩
  have rsd1 : 0 ≤ sd1 ∧ sd1 ≤ 100000 := (by rw [esd1]; exact xi_g k0.1 (by decide) rgf_9_8)
  obtain ⟨sd2, esd2⟩ : ∃ x, x = h.2.1 9 10 := ⟨_, rfl⟩
  have rsd2 : 0 ≤ sd2 ∧ sd2 ≤ 100000 := (by rw [esd2]; exact xi_g k0.1 (by decide) rgf_9_10)
  obtain ⟨sd3, esd3⟩ : ∃ x, x = h.2.1 a1 16 := ⟨_, rfl⟩
  have rsd3 : 0 ≤ sd3 ∧ sd3 ≤ 101 := (by rw [esd3]; exact xi_g k0.1 (lt1_V (tV_V hS ta1)) (rg_V_16 (tV_V hS ta1)))
  refine A_iload d_Parts_walkThrough_0 rfl ?_
  refine A_bipush d_Parts_walkThrough_2 rfl ?_
  refine A_icmp_le (tgt := 8) d_Parts_walkThrough_4 (by decide) (fun c4 => ?_) (fun c => False.elim (by omega))
  refine A_iload_n 2 d_Parts_walkThrough_8 rfl rfl ?_
  refine A_istore (L' := [some (av_R (some 9)), some (av_R (some a1)), some (av_I a2), some (av_I a3), some (av_I a4), some (av_L a5), none, some (av_L a6), none, some (av_I a2), none]) d_Parts_walkThrough_9 (Nat.le_of_ble_eq_true rfl) rfl ?_
  have lp11 : ∀ (n : Nat) (i5 : Int) (h6 : ah_T) , 0 ≤ i5 → i5 ≤ 2000 → (h6.2.1 9 10 ≤ h6.2.1 9 8 ∧ h6.2.1 a1 16 ≤ h6.2.1 9 10 + 1) ∧ (h6.2.1 9 8 ≤ h.2.1 9 8 ∨ h6.2.1 9 8 ≤ 16001) → kF (FB s) s h h6 → (2001 - i5).toNat < n → aw G (rm_R 18 0 0) m_Parts_walkThrough 0 0 11 [some (av_R (some 9)), some (av_R (some a1)), some (av_I a2), some (av_I a3), some (av_I a4), some (av_L a5), none, some (av_L a6), none, some (av_I i5), none] [] h6 (fun r h' => r = none ∧ ((h'.2.1 9 10 ≤ h'.2.1 9 8 ∧ h'.2.1 a1 16 ≤ h'.2.1 9 10 + 1) ∧ (h'.2.1 9 8 ≤ h.2.1 9 8 ∨ h'.2.1 9 8 ≤ 16001)) ∧ kF (FB s) s h h') := by
    intro n
    induction n with
    | zero => intro i5 h6 _ _ _ _ hm; omega
    | succ n ih11 =>
      intro i5 h6 hl0 hl1 hinv k7 hm
      obtain ⟨sd8, esd8⟩ : ∃ x, x = h6.2.1 9 8 := ⟨_, rfl⟩
      have rsd8 : 0 ≤ sd8 ∧ sd8 ≤ 100000 := (by rw [esd8]; exact xi_g k7.1 (by decide) rgf_9_8)
      obtain ⟨sd9, esd9⟩ : ∃ x, x = h6.2.1 9 10 := ⟨_, rfl⟩
      have rsd9 : 0 ≤ sd9 ∧ sd9 ≤ 100000 := (by rw [esd9]; exact xi_g k7.1 (by decide) rgf_9_10)
      obtain ⟨sd10, esd10⟩ : ∃ x, x = h6.2.1 a1 16 := ⟨_, rfl⟩
      have rsd10 : 0 ≤ sd10 ∧ sd10 ≤ 101 := (by rw [esd10]; exact xi_g k7.1 (lt1_V (tV_V hS ta1)) (rg_V_16 (tV_V hS ta1)))
      refine A_iload d_Parts_walkThrough_11 rfl ?_
      refine A_iload_n 3 d_Parts_walkThrough_13 rfl rfl ?_
      refine A_icmp_ge (tgt := 218) d_Parts_walkThrough_14 (by decide) (fun c11 => ?_) (fun c11 => ?_)
      · exact A_vret d_Parts_walkThrough_218 (by decide) rfl ⟨rfl, (by have qq0 := esd8.symm; have qq1 := esd9.symm; have qq2 := esd10.symm; exact ⟨⟨by omega, by omega⟩, by omega⟩), k7⟩
      · refine A_iload d_Parts_walkThrough_17 rfl ?_
        refine A_aload_n 0 d_Parts_walkThrough_19 rfl rfl ?_
        refine A_getIn (lo := 0) (hi := 2000) T_ok d_Parts_walkThrough_20 f_Parts_30 (xi_s k7.1 sf_9) (xi_g k7.1 (by decide) rgf_9_4) (fun x12 ex12 _ _ => ?_)
        refine A_icmp_ge (tgt := 218) d_Parts_walkThrough_23 (by decide) (fun c13 => ?_) (fun c13 => ?_)
        · exact A_vret d_Parts_walkThrough_218 (by decide) rfl ⟨rfl, (by have qq0 := esd8.symm; have qq1 := esd9.symm; have qq2 := esd10.symm; exact ⟨⟨by omega, by omega⟩, by omega⟩), k7⟩
        · refine A_aload_n 0 d_Parts_walkThrough_26 rfl rfl ?_
          refine A_getIv (z := sd8) T_ok d_Parts_walkThrough_27 f_Parts_46 (xi_s k7.1 sf_9) esd8.symm ?_
          refine A_sipush d_Parts_walkThrough_30 rfl ?_
          refine A_icmp_gt (tgt := 218) d_Parts_walkThrough_33 (by decide) (fun c15 => ?_) (fun c15 => ?_)
          · exact A_vret d_Parts_walkThrough_218 (by decide) rfl ⟨rfl, (by have qq0 := esd8.symm; have qq1 := esd9.symm; have qq2 := esd10.symm; exact ⟨⟨by omega, by omega⟩, by omega⟩), k7⟩
          · refine A_aload_n 0 d_Parts_walkThrough_36 rfl rfl ?_
            refine A_dupR d_Parts_walkThrough_37 ?_
            refine A_getIv (z := sd8) T_ok d_Parts_walkThrough_38 f_Parts_46 (xi_s k7.1 sf_9) esd8.symm ?_
            refine A_iconst d_Parts_walkThrough_41 rfl ?_
            refine A_iaddv (z := (sd8 + 1)) d_Parts_walkThrough_42 (w32_to (by omega) (by unfold i32; omega)) ?_
            refine A_pc (pc' := 43) rfl ?_
            refine A_putIk (KR := kF (FB s) s h) T_ok d_Parts_walkThrough_43 f_Parts_46 (xi_s k7.1 sf_9) fin_f (kF_j k7 (by omega) (ns_b rfl) rgf_9_8 (by omega) (by omega)) (fun h17 k18 eh17 => ?_)
            refine A_aload_n 0 d_Parts_walkThrough_46 rfl rfl ?_
            refine A_getAv (z := some 10) T_ok d_Parts_walkThrough_47 f_Parts_9 (xi_s k18.1 sf_9) (xi_r k18.1 rff_9_0) ?_
            refine A_iload d_Parts_walkThrough_50 rfl ?_
            refine A_ialoadf d_Parts_walkThrough_52 (xi_s k18.1 sf_10) (by omega) (by omega) (fun x20 ex20 _ _ => ?_)
            refine A_istore (L' := [some (av_R (some 9)), some (av_R (some a1)), some (av_I a2), some (av_I a3), some (av_I a4), some (av_L a5), none, some (av_L a6), none, some (av_I i5), some (av_I x20)]) d_Parts_walkThrough_53 (Nat.le_of_ble_eq_true rfl) rfl ?_
            refine A_pc (pc' := 55) rfl ?_
            refine A_iload d_Parts_walkThrough_55 rfl ?_
            refine A_bipush d_Parts_walkThrough_57 rfl ?_
            refine A_icmp_ne (tgt := 85) d_Parts_walkThrough_59 (by decide) (fun c21 => ?_) (fun c21 => ?_)
            · refine A_iload d_Parts_walkThrough_85 rfl ?_
              refine A_bipush d_Parts_walkThrough_87 rfl ?_
              refine A_icmp_ne (tgt := 151) d_Parts_walkThrough_89 (by decide) (fun c22 => ?_) (fun c22 => ?_)
              · refine A_iload d_Parts_walkThrough_151 rfl ?_
                refine A_bipush d_Parts_walkThrough_153 rfl ?_
                refine A_icmp_ne (tgt := 166) d_Parts_walkThrough_155 (by decide) (fun c23 => ?_) (fun c23 => ?_)
                · refine A_aload_n 0 d_Parts_walkThrough_166 rfl rfl ?_
                  refine A_dupR d_Parts_walkThrough_167 ?_
                  refine A_getIf T_ok d_Parts_walkThrough_168 f_Parts_49 (xi_s k18.1 sf_9) (fun x24 ex24 _ _ => ?_)
                  refine A_iconst d_Parts_walkThrough_171 rfl ?_
                  refine A_iaddw d_Parts_walkThrough_172 (fun x25 _ _ _ => ?_)
                  refine A_pc (pc' := 173) rfl ?_
                  refine A_putIk (KR := kF (FB s) s h) T_ok d_Parts_walkThrough_173 f_Parts_49 (xi_s k18.1 sf_9) fin_f (kF_j k18 (by omega) (ns_b rfl) rgf_9_9 (by omega) (by omega)) (fun h26 k27 eh26 => ?_)
                  refine A_aload_n 0 d_Parts_walkThrough_176 rfl rfl ?_
                  refine A_getIv (z := x25) T_ok d_Parts_walkThrough_177 f_Parts_49 (xi_s k27.1 sf_9) eh26.2.1 ?_
                  refine A_sipush d_Parts_walkThrough_180 rfl ?_
                  refine A_icmp_gt (tgt := 212) d_Parts_walkThrough_183 (by decide) (fun c29 => ?_) (fun c29 => ?_)
                  · refine A_iincv (z := (i5 + 1)) (L' := [some (av_R (some 9)), some (av_R (some a1)), some (av_I a2), some (av_I a3), some (av_I a4), some (av_L a5), none, some (av_L a6), none, some (av_I (i5 + 1)), some (av_I x20)]) d_Parts_walkThrough_212 rfl (w32_to (by omega) (by unfold i32; omega)) rfl ?_
                    refine A_goto (tgt := 11) d_Parts_walkThrough_215 (by decide) ?_
                    refine A_free (L' := [some (av_R (some 9)), some (av_R (some a1)), some (av_I a2), some (av_I a3), some (av_I a4), some (av_L a5), none, some (av_L a6), none, some (av_I (i5 + 1)), none]) (And.intro rfl (And.intro rfl (And.intro rfl (And.intro rfl (And.intro rfl (And.intro rfl (And.intro rfl (And.intro rfl trivial)))))))) ?_
                    exact ih11 (i5 + 1) h26 (by omega) (by omega) (by have qq0 := ((eh26.1 _ _ (fun _ => by decide)).trans eh17.2.1); have qq1 := ((eh26.1 _ _ (fun _ => by decide)).trans ((eh17.1 _ _ (fun _ => by decide)).trans esd9.symm)); have qq2 := ((eh26.1 _ _ (fun q => by omega)).trans ((eh17.1 _ _ (fun q => by omega)).trans esd10.symm)); exact ⟨⟨by omega, by omega⟩, by omega⟩) k27 (by omega)
                  · refine A_aload_n 0 d_Parts_walkThrough_186 rfl rfl ?_
                    refine A_getZn T_ok d_Parts_walkThrough_187 f_Parts_55 (xi_s k27.1 sf_9) (fun x30 ex30 bx30 => ?_)
                    refine A_if_eq (tgt := 212) d_Parts_walkThrough_190 (by decide) (fun c31 => ?_) (fun c31 => ?_)
                    · refine A_iincv (z := (i5 + 1)) (L' := [some (av_R (some 9)), some (av_R (some a1)), some (av_I a2), some (av_I a3), some (av_I a4), some (av_L a5), none, some (av_L a6), none, some (av_I (i5 + 1)), some (av_I x20)]) d_Parts_walkThrough_212 rfl (w32_to (by omega) (by unfold i32; omega)) rfl ?_
                      refine A_goto (tgt := 11) d_Parts_walkThrough_215 (by decide) ?_
                      refine A_free (L' := [some (av_R (some 9)), some (av_R (some a1)), some (av_I a2), some (av_I a3), some (av_I a4), some (av_L a5), none, some (av_L a6), none, some (av_I (i5 + 1)), none]) (And.intro rfl (And.intro rfl (And.intro rfl (And.intro rfl (And.intro rfl (And.intro rfl (And.intro rfl (And.intro rfl trivial)))))))) ?_
                      exact ih11 (i5 + 1) h26 (by omega) (by omega) (by have qq0 := ((eh26.1 _ _ (fun _ => by decide)).trans eh17.2.1); have qq1 := ((eh26.1 _ _ (fun _ => by decide)).trans ((eh17.1 _ _ (fun _ => by decide)).trans esd9.symm)); have qq2 := ((eh26.1 _ _ (fun q => by omega)).trans ((eh17.1 _ _ (fun q => by omega)).trans esd10.symm)); exact ⟨⟨by omega, by omega⟩, by omega⟩) k27 (by omega)
                    · refine A_aload_n 0 d_Parts_walkThrough_193 rfl rfl ?_
                      refine A_aload_n 1 d_Parts_walkThrough_194 rfl rfl ?_
                      refine A_aload_n 0 d_Parts_walkThrough_195 rfl rfl ?_
                      refine A_getAv (z := some 12) T_ok d_Parts_walkThrough_196 f_Parts_18 (xi_s k27.1 sf_9) (xi_r k27.1 rff_9_2) ?_
                      refine A_iload d_Parts_walkThrough_199 rfl ?_
                      refine A_pc (pc' := 201) rfl ?_
                      refine A_ialoadn (lo := 0) (hi := 300) d_Parts_walkThrough_201 (xi_s k27.1 sf_12) (by omega) (by omega) (xi_g k27.1 (by decide) (rgf_12 _)) (fun x33 ex33 _ _ => ?_)
                      refine A_lload d_Parts_walkThrough_202 rfl ?_
                      refine A_lload d_Parts_walkThrough_204 rfl ?_
                      have zf35 := ((eh26.1 _ _ (fun _ => by decide)).trans eh17.2.1)
                      have zf36 := ((eh26.1 _ _ (fun _ => by decide)).trans ((eh17.1 _ _ (fun _ => by decide)).trans esd9.symm))
                      have zf37 := ((eh26.1 _ _ (fun q => by omega)).trans ((eh17.1 _ _ (fun q => by omega)).trans esd10.symm))
                      refine A_callV3 m_Voice_addEvent T_ok d_Parts_walkThrough_206 l_Parts_80 k_Voice_addEvent (xs_V k27.1 (tV_V hS ta1)) rfl (by decide +kernel) (by decide) (Nat.le_of_ble_eq_true rfl) (s_Voice_addEvent k27.1 ta1 (by omega) (by omega) (by omega) (by omega)) (fun r h34 hq => ?_)
                      obtain ⟨x39, rfl, bx39, xx39, k38⟩ := hq
                      have k40 := kF_t k27 k38 (fun _ q => q)
                      obtain ⟨sd41, esd41⟩ : ∃ x, x = h34.2.1 9 8 := ⟨_, rfl⟩
                      have rsd41 : 0 ≤ sd41 ∧ sd41 ≤ 100000 := (by rw [esd41]; exact xi_g k40.1 (by decide) rgf_9_8)
                      obtain ⟨sd42, esd42⟩ : ∃ x, x = h34.2.1 9 10 := ⟨_, rfl⟩
                      have rsd42 : 0 ≤ sd42 ∧ sd42 ≤ 100000 := (by rw [esd42]; exact xi_g k40.1 (by decide) rgf_9_10)
                      obtain ⟨sd43, esd43⟩ : ∃ x, x = h34.2.1 a1 16 := ⟨_, rfl⟩
                      have rsd43 : 0 ≤ sd43 ∧ sd43 ≤ 101 := (by rw [esd43]; exact xi_g k40.1 (lt1_V (tV_V hS ta1)) (rg_V_16 (tV_V hS ta1)))
                      refine A_putZk (KR := kF (FB s) s h) T_ok d_Parts_walkThrough_209 f_Parts_55 (xi_s k40.1 sf_9) fin_f (by omega) (kF_j k40 (by omega) (ns_b rfl) rgf_9_11 (by omega) (by omega)) (fun h44 k45 eh44 => ?_)
                      refine A_iincv (z := (i5 + 1)) (L' := [some (av_R (some 9)), some (av_R (some a1)), some (av_I a2), some (av_I a3), some (av_I a4), some (av_L a5), none, some (av_L a6), none, some (av_I (i5 + 1)), some (av_I x20)]) d_Parts_walkThrough_212 rfl (w32_to (by omega) (by unfold i32; omega)) rfl ?_
                      refine A_goto (tgt := 11) d_Parts_walkThrough_215 (by decide) ?_
                      refine A_free (L' := [some (av_R (some 9)), some (av_R (some a1)), some (av_I a2), some (av_I a3), some (av_I a4), some (av_L a5), none, some (av_L a6), none, some (av_I (i5 + 1)), none]) (And.intro rfl (And.intro rfl (And.intro rfl (And.intro rfl (And.intro rfl (And.intro rfl (And.intro rfl (And.intro rfl trivial)))))))) ?_
                      exact ih11 (i5 + 1) h44 (by omega) (by omega) (by have qq0 := ((eh44.1 _ _ (fun _ => by decide)).trans esd41.symm); have qq1 := ((eh44.1 _ _ (fun _ => by decide)).trans esd42.symm); have qq2 := ((eh44.1 _ _ (fun q => by omega)).trans esd43.symm); exact ⟨⟨by omega, by omega⟩, by omega⟩) k45 (by omega)
                · refine A_aload_n 0 d_Parts_walkThrough_158 rfl rfl ?_
                  refine A_aload_n 1 d_Parts_walkThrough_159 rfl rfl ?_
                  have zf47 := eh17.2.1
                  have zf48 := ((eh17.1 _ _ (fun _ => by decide)).trans esd9.symm)
                  have zf49 := ((eh17.1 _ _ (fun q => by omega)).trans esd10.symm)
                  refine A_callV1 m_Parts_meetLine T_ok d_Parts_walkThrough_160 l_Parts_76 k_Parts_meetLine (xi_s k18.1 sf_9) rfl (by decide +kernel) (by decide) (Nat.le_of_ble_eq_true rfl) (s_Parts_meetLine k18.1 ta1 (by have qq0 := eh17.2.1; have qq1 := ((eh17.1 _ _ (fun _ => by decide)).trans esd9.symm); have qq2 := ((eh17.1 _ _ (fun q => by omega)).trans esd10.symm); exact ⟨by omega, by omega⟩)) (fun r h46 hq => ?_)
                  obtain ⟨rfl, xk50, k50⟩ := hq
                  have k51 := kF_t k18 k50 (fun _ q => q)
                  obtain ⟨sd52, esd52⟩ : ∃ x, x = h46.2.1 9 8 := ⟨_, rfl⟩
                  have rsd52 : 0 ≤ sd52 ∧ sd52 ≤ 100000 := (by rw [esd52]; exact xi_g k51.1 (by decide) rgf_9_8)
                  obtain ⟨sd53, esd53⟩ : ∃ x, x = h46.2.1 9 10 := ⟨_, rfl⟩
                  have rsd53 : 0 ≤ sd53 ∧ sd53 ≤ 100000 := (by rw [esd53]; exact xi_g k51.1 (by decide) rgf_9_10)
                  obtain ⟨sd54, esd54⟩ : ∃ x, x = h46.2.1 a1 16 := ⟨_, rfl⟩
                  have rsd54 : 0 ≤ sd54 ∧ sd54 ≤ 101 := (by rw [esd54]; exact xi_g k51.1 (lt1_V (tV_V hS ta1)) (rg_V_16 (tV_V hS ta1)))
                  refine A_goto (tgt := 212) d_Parts_walkThrough_163 (by decide) ?_
                  refine A_iincv (z := (i5 + 1)) (L' := [some (av_R (some 9)), some (av_R (some a1)), some (av_I a2), some (av_I a3), some (av_I a4), some (av_L a5), none, some (av_L a6), none, some (av_I (i5 + 1)), some (av_I x20)]) d_Parts_walkThrough_212 rfl (w32_to (by omega) (by unfold i32; omega)) rfl ?_
                  refine A_goto (tgt := 11) d_Parts_walkThrough_215 (by decide) ?_
                  refine A_free (L' := [some (av_R (some 9)), some (av_R (some a1)), some (av_I a2), some (av_I a3), some (av_I a4), some (av_L a5), none, some (av_L a6), none, some (av_I (i5 + 1)), none]) (And.intro rfl (And.intro rfl (And.intro rfl (And.intro rfl (And.intro rfl (And.intro rfl (And.intro rfl (And.intro rfl trivial)))))))) ?_
                  exact ih11 (i5 + 1) h46 (by omega) (by omega) (by have qq0 := esd52.symm; have qq1 := esd53.symm; have qq2 := esd54.symm; exact ⟨⟨by omega, by omega⟩, by omega⟩) k51 (by omega)
              · refine A_aload_n 0 d_Parts_walkThrough_92 rfl rfl ?_
                refine A_aload_n 1 d_Parts_walkThrough_93 rfl rfl ?_
                refine A_iload d_Parts_walkThrough_94 rfl ?_
                refine A_iconst d_Parts_walkThrough_96 rfl ?_
                refine A_iaddv (z := (i5 + 1)) d_Parts_walkThrough_97 (w32_to (by omega) (by unfold i32; omega)) ?_
                refine A_pc (pc' := 98) rfl ?_
                refine A_aload_n 0 d_Parts_walkThrough_98 rfl rfl ?_
                refine A_getAv (z := some 11) T_ok d_Parts_walkThrough_99 f_Parts_15 (xi_s k18.1 sf_9) (xi_r k18.1 rff_9_1) ?_
                refine A_iload d_Parts_walkThrough_102 rfl ?_
                refine A_ialoadn (lo := 0) (hi := 1999) d_Parts_walkThrough_104 (xi_s k18.1 sf_11) (by omega) (by omega) (xi_g k18.1 (by decide) (rgf_11 _)) (fun x56 ex56 _ _ => ?_)
                refine A_iload d_Parts_walkThrough_105 rfl ?_
                refine A_iconst d_Parts_walkThrough_107 rfl ?_
                refine A_pc (pc' := 108) rfl ?_
                refine A_iaddv (z := (a4 + 1)) d_Parts_walkThrough_108 (w32_to (by omega) (by unfold i32; omega)) ?_
                refine A_lload d_Parts_walkThrough_109 rfl ?_
                refine A_aload_n 0 d_Parts_walkThrough_111 rfl rfl ?_
                refine A_getAv (z := some 13) T_ok d_Parts_walkThrough_112 f_Parts_21 (xi_s k18.1 sf_9) (xi_r k18.1 rff_9_3) ?_
                refine A_iload d_Parts_walkThrough_115 rfl ?_
                refine A_ialoadn (lo := 0) (hi := 16) d_Parts_walkThrough_117 (xi_s k18.1 sf_13) (by omega) (by omega) (xi_g k18.1 (by decide) (rgf_13 _)) (fun x58 ex58 _ _ => ?_)
                have yx58 := sP_at (kF_sem k18).1 ex20.symm.symm (by omega) ((eh17.1 _ _ (fun _ => by decide)).trans ex12.symm) (by omega) (by omega)
                refine A_pc (pc' := 118) rfl ?_
                refine A_i2l d_Parts_walkThrough_118 ?_
                refine A_lmulw d_Parts_walkThrough_119 (fun x59 ex59 _ _ => ?_)
                have bx59 := mul_pp64 (ux := 16) (uy := 16) ex59 (by omega) (by omega) (by omega) (by omega) (by decide)
                refine A_lload d_Parts_walkThrough_120 rfl ?_
                refine A_aload_n 0 d_Parts_walkThrough_122 rfl rfl ?_
                refine A_getAv (z := some 12) T_ok d_Parts_walkThrough_123 f_Parts_18 (xi_s k18.1 sf_9) (xi_r k18.1 rff_9_2) ?_
                refine A_iload d_Parts_walkThrough_126 rfl ?_
                refine A_pc (pc' := 128) rfl ?_
                refine A_ialoadn (lo := 0) (hi := 300) d_Parts_walkThrough_128 (xi_s k18.1 sf_12) (by omega) (by omega) (xi_g k18.1 (by decide) (rgf_12 _)) (fun x61 ex61 _ _ => ?_)
                have yx61 := sP_at (kF_sem k18).1 ex20.symm.symm (by omega) ((eh17.1 _ _ (fun _ => by decide)).trans ex12.symm) (by omega) (by omega)
                refine A_i2l d_Parts_walkThrough_129 ?_
                refine A_lmulw d_Parts_walkThrough_130 (fun x62 ex62 _ _ => ?_)
                have bx62 := mul_nn64 (ux := 16) (uy := 16) ex62 (by omega) (by omega) (by omega) (by omega) (by decide)
                have zf64 := eh17.2.1
                have zf65 := ((eh17.1 _ _ (fun _ => by decide)).trans esd9.symm)
                have zf66 := ((eh17.1 _ _ (fun q => by omega)).trans esd10.symm)
                refine A_callV6 m_Parts_walkThrough T_ok d_Parts_walkThrough_131 l_Parts_59 k_Parts_walkThrough (xi_s k18.1 sf_9) rfl (by decide +kernel) (by decide) (Nat.le_of_ble_eq_true rfl) (s_Parts_walkThrough_2 k18.1 ta1 (by omega) (by omega) (by omega) (by omega) (by omega) (by omega) (by omega) (by omega) (by omega) (by omega) (by have qq0 := eh17.2.1; have qq1 := ((eh17.1 _ _ (fun _ => by decide)).trans esd9.symm); have qq2 := ((eh17.1 _ _ (fun q => by omega)).trans esd10.symm); exact ⟨by omega, by omega⟩)) (fun r h63 hq => ?_)
                obtain ⟨rfl, xk67, k67⟩ := hq
                have k68 := kF_t k18 k67 (fun _ q => q)
                obtain ⟨sd69, esd69⟩ : ∃ x, x = h63.2.1 9 8 := ⟨_, rfl⟩
                have rsd69 : 0 ≤ sd69 ∧ sd69 ≤ 100000 := (by rw [esd69]; exact xi_g k68.1 (by decide) rgf_9_8)
                obtain ⟨sd70, esd70⟩ : ∃ x, x = h63.2.1 9 10 := ⟨_, rfl⟩
                have rsd70 : 0 ≤ sd70 ∧ sd70 ≤ 100000 := (by rw [esd70]; exact xi_g k68.1 (by decide) rgf_9_10)
                obtain ⟨sd71, esd71⟩ : ∃ x, x = h63.2.1 a1 16 := ⟨_, rfl⟩
                have rsd71 : 0 ≤ sd71 ∧ sd71 ≤ 101 := (by rw [esd71]; exact xi_g k68.1 (lt1_V (tV_V hS ta1)) (rg_V_16 (tV_V hS ta1)))
                refine A_iload d_Parts_walkThrough_134 rfl ?_
                refine A_aload_n 0 d_Parts_walkThrough_136 rfl rfl ?_
                refine A_getAv (z := some 11) T_ok d_Parts_walkThrough_137 f_Parts_15 (xi_s k68.1 sf_9) (xi_r k68.1 rff_9_1) ?_
                refine A_iload d_Parts_walkThrough_140 rfl ?_
                refine A_ialoadn (lo := 0) (hi := 1999) d_Parts_walkThrough_142 (xi_s k68.1 sf_11) (by omega) (by omega) (xi_g k68.1 (by decide) (rgf_11 _)) (fun x73 ex73 _ _ => ?_)
                refine A_pc (pc' := 143) rfl ?_
                refine A_mmax d_Parts_walkThrough_143 lm_Parts_70 ma_max (by decide) (by decide) (Nat.le_of_ble_eq_true rfl) rfl ?_
                refine A_nrI (fun x74 ex74 _ _ => ?_)
                have bx74 := mmax_r ex74
                refine A_istore (L' := [some (av_R (some 9)), some (av_R (some a1)), some (av_I a2), some (av_I a3), some (av_I a4), some (av_L a5), none, some (av_L a6), none, some (av_I x74), some (av_I x20)]) d_Parts_walkThrough_146 (Nat.le_of_ble_eq_true rfl) rfl ?_
                refine A_goto (tgt := 212) d_Parts_walkThrough_148 (by decide) ?_
                refine A_iincv (z := (x74 + 1)) (L' := [some (av_R (some 9)), some (av_R (some a1)), some (av_I a2), some (av_I a3), some (av_I a4), some (av_L a5), none, some (av_L a6), none, some (av_I (x74 + 1)), some (av_I x20)]) d_Parts_walkThrough_212 rfl (w32_to (by omega) (by unfold i32; omega)) rfl ?_
                refine A_goto (tgt := 11) d_Parts_walkThrough_215 (by decide) ?_
                refine A_free (L' := [some (av_R (some 9)), some (av_R (some a1)), some (av_I a2), some (av_I a3), some (av_I a4), some (av_L a5), none, some (av_L a6), none, some (av_I (x74 + 1)), none]) (And.intro rfl (And.intro rfl (And.intro rfl (And.intro rfl (And.intro rfl (And.intro rfl (And.intro rfl (And.intro rfl trivial)))))))) ?_
                exact ih11 (x74 + 1) h63 (by omega) (by omega) (by have qq0 := esd69.symm; have qq1 := esd70.symm; have qq2 := esd71.symm; exact ⟨⟨by omega, by omega⟩, by omega⟩) k68 (by omega)
            · refine A_iload d_Parts_walkThrough_62 rfl ?_
              refine A_aload_n 0 d_Parts_walkThrough_64 rfl rfl ?_
              refine A_aload_n 1 d_Parts_walkThrough_65 rfl rfl ?_
              refine A_iload d_Parts_walkThrough_66 rfl ?_
              refine A_iload d_Parts_walkThrough_68 rfl ?_
              refine A_pc (pc' := 70) rfl ?_
              refine A_lload d_Parts_walkThrough_70 rfl ?_
              refine A_lload d_Parts_walkThrough_72 rfl ?_
              have zf76 := eh17.2.1
              have zf77 := ((eh17.1 _ _ (fun _ => by decide)).trans esd9.symm)
              have zf78 := ((eh17.1 _ _ (fun q => by omega)).trans esd10.symm)
              refine A_callV5 m_Parts_walkRepeat T_ok d_Parts_walkThrough_74 l_Parts_66 k_Parts_walkRepeat (xi_s k18.1 sf_9) rfl (by decide +kernel) (by decide) (Nat.le_of_ble_eq_true rfl) (s_Parts_walkRepeat_1 k18.1 ta1 (by omega) (by omega) (by omega) (by omega) (by omega) (by omega) (by omega) (by omega) (by have qq0 := eh17.2.1; have qq1 := ((eh17.1 _ _ (fun _ => by decide)).trans esd9.symm); have qq2 := ((eh17.1 _ _ (fun q => by omega)).trans esd10.symm); exact ⟨by omega, by omega⟩) (by have qq0 := eh17.2.1; have qq1 := ((eh17.1 _ _ (fun _ => by decide)).trans esd9.symm); omega)) (fun r h75 hq => ?_)
              obtain ⟨x80, rfl, ⟨_, _⟩, xx80, k79⟩ := hq
              have k81 := kF_t k18 k79 (fun _ q => q)
              obtain ⟨sd82, esd82⟩ : ∃ x, x = h75.2.1 9 8 := ⟨_, rfl⟩
              have rsd82 : 0 ≤ sd82 ∧ sd82 ≤ 100000 := (by rw [esd82]; exact xi_g k81.1 (by decide) rgf_9_8)
              obtain ⟨sd83, esd83⟩ : ∃ x, x = h75.2.1 9 10 := ⟨_, rfl⟩
              have rsd83 : 0 ≤ sd83 ∧ sd83 ≤ 100000 := (by rw [esd83]; exact xi_g k81.1 (by decide) rgf_9_10)
              obtain ⟨sd84, esd84⟩ : ∃ x, x = h75.2.1 a1 16 := ⟨_, rfl⟩
              have rsd84 : 0 ≤ sd84 ∧ sd84 ≤ 101 := (by rw [esd84]; exact xi_g k81.1 (lt1_V (tV_V hS ta1)) (rg_V_16 (tV_V hS ta1)))
              refine A_mmax d_Parts_walkThrough_77 lm_Parts_70 ma_max (by decide) (by decide) (Nat.le_of_ble_eq_true rfl) rfl ?_
              refine A_nrI (fun x85 ex85 _ _ => ?_)
              have bx85 := mmax_r ex85
              refine A_istore (L' := [some (av_R (some 9)), some (av_R (some a1)), some (av_I a2), some (av_I a3), some (av_I a4), some (av_L a5), none, some (av_L a6), none, some (av_I x85), some (av_I x20)]) d_Parts_walkThrough_80 (Nat.le_of_ble_eq_true rfl) rfl ?_
              refine A_goto (tgt := 212) d_Parts_walkThrough_82 (by decide) ?_
              refine A_iincv (z := (x85 + 1)) (L' := [some (av_R (some 9)), some (av_R (some a1)), some (av_I a2), some (av_I a3), some (av_I a4), some (av_L a5), none, some (av_L a6), none, some (av_I (x85 + 1)), some (av_I x20)]) d_Parts_walkThrough_212 rfl (w32_to (by omega) (by unfold i32; omega)) rfl ?_
              refine A_goto (tgt := 11) d_Parts_walkThrough_215 (by decide) ?_
              refine A_free (L' := [some (av_R (some 9)), some (av_R (some a1)), some (av_I a2), some (av_I a3), some (av_I a4), some (av_L a5), none, some (av_L a6), none, some (av_I (x85 + 1)), none]) (And.intro rfl (And.intro rfl (And.intro rfl (And.intro rfl (And.intro rfl (And.intro rfl (And.intro rfl (And.intro rfl trivial)))))))) ?_
              exact ih11 (x85 + 1) h75 (by omega) (by omega) (by have qq0 := esd82.symm; have qq1 := esd83.symm; have qq2 := esd84.symm; exact ⟨⟨by omega, by omega⟩, by omega⟩) k81 (by omega)
  exact lp11 _ a2 h (by omega) (by omega) (by have qq0 := esd1.symm; have qq1 := esd2.symm; have qq2 := esd3.symm; exact ⟨⟨by omega, by omega⟩, by omega⟩) k0 (Nat.lt_succ_self _)
theorem s_Parts_walkRepeat_0 {G : cx_T} {s : Nat} {h : ah_T} (hx : xi s h) {a1 : Nat} {a2 : Int} {a3 : Int} {a4 : Int} {a5 : Int} (ta1 : tV s a1) (la2 : 0 ≤ a2) (ua2 : a2 ≤ 1999) (la3 : 0 ≤ a3) (ua3 : a3 ≤ 0) (la4 : 1 ≤ a4) (ua4 : a4 ≤ 1) (la5 : 0 ≤ a5) (ua5 : a5 ≤ 1) (hJ : h.2.1 9 10 ≤ h.2.1 9 8 ∧ h.2.1 a1 16 ≤ h.2.1 9 10 + 1) (hS2 : h.2.1 9 8 ≤ 2001) : con G 19 0 0 m_Parts_walkRepeat [av_R (some 9), av_R (some a1), av_I a2, av_I a3, av_L a4, av_L a5] h (fun r h' => ∃ z, r = some (av_I z) ∧ (0 ≤ z ∧ z ≤ 1999) ∧ ((h'.2.1 9 10 ≤ h'.2.1 9 8 ∧ h'.2.1 a1 16 ≤ h'.2.1 9 10 + 1) ∧ h'.2.1 9 8 ≤ 18001) ∧ kF (FB s) s h h') := by
  refine con_of (L := [some (av_R (some 9)), some (av_R (some a1)), some (av_I a2), some (av_I a3), some (av_L a4), none, some (av_L a5), none, none, none, none]) (by decide +kernel) (Nat.le_of_ble_eq_true rfl) rfl ?_
  have hS : isS s := hx.2.1
  have hs0 : s = 17 ∨ s = 80 := hS
  have hs0b : 17 ≤ s ∧ s ≤ 80 := by omega
  have k0 : kF (FB s) s h h := kF_0 hx
  have ga1 : a1 = s + 7 ∨ a1 = s + 21 ∨ a1 = s + 35 ∨ a1 = s + 49 := ta1
  have ga1b : s + 7 ≤ a1 ∧ a1 ≤ s + 49 := by omega
  obtain ⟨sd1, esd1⟩ : ∃ x, x = h.2.1 9 8 := ⟨_, rfl⟩
  have rsd1 : 0 ≤ sd1 ∧ sd1 ≤ 100000 := (by rw [esd1]; exact xi_g k0.1 (by decide) rgf_9_8)
  obtain ⟨sd2, esd2⟩ : ∃ x, x = h.2.1 9 10 := ⟨_, rfl⟩
  have rsd2 : 0 ≤ sd2 ∧ sd2 ≤ 100000 := (by rw [esd2]; exact xi_g k0.1 (by decide) rgf_9_10)
  obtain ⟨sd3, esd3⟩ : ∃ x, x = h.2.1 a1 16 := ⟨_, rfl⟩
  have rsd3 : 0 ≤ sd3 ∧ sd3 ≤ 101 := (by rw [esd3]; exact xi_g k0.1 (lt1_V (tV_V hS ta1)) (rg_V_16 (tV_V hS ta1)))
  refine A_aload_n 0 d_Parts_walkRepeat_0 rfl rfl ?_
  refine A_getAv (z := some 11) T_ok d_Parts_walkRepeat_1 f_Parts_15 (xi_s k0.1 sf_9) (xi_r k0.1 rff_9_1) ?_
  refine A_iload_n 2 d_Parts_walkRepeat_4 rfl rfl ?_
  refine A_ialoadn (lo := 0) (hi := 1999) d_Parts_walkRepeat_5 (xi_s k0.1 sf_11) (by omega) (by omega) (xi_g k0.1 (by decide) (rgf_11 _)) (fun x5 ex5 _ _ => ?_)
  refine A_istore (L' := [some (av_R (some 9)), some (av_R (some a1)), some (av_I a2), some (av_I a3), some (av_L a4), none, some (av_L a5), none, some (av_I x5), none, none]) d_Parts_walkRepeat_6 (Nat.le_of_ble_eq_true rfl) rfl ?_
  refine A_pc (pc' := 8) rfl ?_
  refine A_aload_n 0 d_Parts_walkRepeat_8 rfl rfl ?_
  refine A_getAv (z := some 10) T_ok d_Parts_walkRepeat_9 f_Parts_9 (xi_s k0.1 sf_9) (xi_r k0.1 rff_9_0) ?_
  refine A_iload d_Parts_walkRepeat_12 rfl ?_
  refine A_ialoadf d_Parts_walkRepeat_14 (xi_s k0.1 sf_10) (by omega) (by omega) (fun x7 ex7 _ _ => ?_)
  refine A_bipush d_Parts_walkRepeat_15 rfl ?_
  refine A_icmp_eq (tgt := 77) d_Parts_walkRepeat_17 (by decide) (fun c8 => ?_) (fun c8 => ?_)
  · refine A_iload d_Parts_walkRepeat_77 rfl ?_
    refine A_istore (L' := [some (av_R (some 9)), some (av_R (some a1)), some (av_I a2), some (av_I a3), some (av_L a4), none, some (av_L a5), none, some (av_I x5), some (av_I x5), none]) d_Parts_walkRepeat_79 (Nat.le_of_ble_eq_true rfl) rfl ?_
    refine A_iconst d_Parts_walkRepeat_81 rfl ?_
    refine A_istore (L' := [some (av_R (some 9)), some (av_R (some a1)), some (av_I a2), some (av_I a3), some (av_L a4), none, some (av_L a5), none, some (av_I x5), some (av_I x5), some (av_I 0)]) d_Parts_walkRepeat_82 (Nat.le_of_ble_eq_true rfl) rfl ?_
    have lp84 : ∀ (n : Nat) (i9 i10 : Int) (h11 : ah_T) , 0 ≤ i9 → i9 ≤ 1999 → 0 ≤ i10 → i10 ≤ 2000 → (h11.2.1 9 10 ≤ h11.2.1 9 8 ∧ h11.2.1 a1 16 ≤ h11.2.1 9 10 + 1) ∧ h11.2.1 9 8 ≤ 16001 + i10 → kF (FB s) s h h11 → (2001 - i10).toNat < n → aw G (rm_R 19 0 0) m_Parts_walkRepeat 0 0 84 [some (av_R (some 9)), some (av_R (some a1)), some (av_I a2), some (av_I a3), some (av_L a4), none, some (av_L a5), none, some (av_I x5), some (av_I i9), some (av_I i10)] [] h11 (fun r h' => ∃ z, r = some (av_I z) ∧ (0 ≤ z ∧ z ≤ 1999) ∧ ((h'.2.1 9 10 ≤ h'.2.1 9 8 ∧ h'.2.1 a1 16 ≤ h'.2.1 9 10 + 1) ∧ h'.2.1 9 8 ≤ 18001) ∧ kF (FB s) s h h') := by
      intro n
      induction n with
      | zero => intro i9 i10 h11 _ _ _ _ _ _ hm; omega
      | succ n ih84 =>
        intro i9 i10 h11 hl0 hl1 hl2 hl3 hinv k12 hm
        obtain ⟨sd13, esd13⟩ : ∃ x, x = h11.2.1 9 8 := ⟨_, rfl⟩
        have rsd13 : 0 ≤ sd13 ∧ sd13 ≤ 100000 := (by rw [esd13]; exact xi_g k12.1 (by decide) rgf_9_8)
        obtain ⟨sd14, esd14⟩ : ∃ x, x = h11.2.1 9 10 := ⟨_, rfl⟩
        have rsd14 : 0 ≤ sd14 ∧ sd14 ≤ 100000 := (by rw [esd14]; exact xi_g k12.1 (by decide) rgf_9_10)
        obtain ⟨sd15, esd15⟩ : ∃ x, x = h11.2.1 a1 16 := ⟨_, rfl⟩
        have rsd15 : 0 ≤ sd15 ∧ sd15 ≤ 101 := (by rw [esd15]; exact xi_g k12.1 (lt1_V (tV_V hS ta1)) (rg_V_16 (tV_V hS ta1)))
        refine A_iload d_Parts_walkRepeat_84 rfl ?_
        refine A_sipush d_Parts_walkRepeat_86 rfl ?_
        refine A_icmp_ge (tgt := 169) d_Parts_walkRepeat_89 (by decide) (fun c16 => ?_) (fun c16 => ?_)
        · refine A_iload d_Parts_walkRepeat_169 rfl ?_
          exact A_iret d_Parts_walkRepeat_171 (by decide) rfl ⟨_, rfl, ⟨by omega, by omega⟩, (by have qq0 := esd13.symm; have qq1 := esd14.symm; have qq2 := esd15.symm; exact ⟨⟨by omega, by omega⟩, by omega⟩), k12⟩
        · refine A_aload_n 0 d_Parts_walkRepeat_92 rfl rfl ?_
          refine A_getAv (z := some 10) T_ok d_Parts_walkRepeat_93 f_Parts_9 (xi_s k12.1 sf_9) (xi_r k12.1 rff_9_0) ?_
          refine A_iload d_Parts_walkRepeat_96 rfl ?_
          refine A_ialoadf d_Parts_walkRepeat_98 (xi_s k12.1 sf_10) (by omega) (by omega) (fun x18 ex18 _ _ => ?_)
          refine A_bipush d_Parts_walkRepeat_99 rfl ?_
          refine A_pc (pc' := 101) rfl ?_
          refine A_icmp_ne (tgt := 169) d_Parts_walkRepeat_101 (by decide) (fun c19 => ?_) (fun c19 => ?_)
          · refine A_iload d_Parts_walkRepeat_169 rfl ?_
            exact A_iret d_Parts_walkRepeat_171 (by decide) rfl ⟨_, rfl, ⟨by omega, by omega⟩, (by have qq0 := esd13.symm; have qq1 := esd14.symm; have qq2 := esd15.symm; exact ⟨⟨by omega, by omega⟩, by omega⟩), k12⟩
          · refine A_aload_n 0 d_Parts_walkRepeat_104 rfl rfl ?_
            refine A_dupR d_Parts_walkRepeat_105 ?_
            refine A_getIv (z := sd13) T_ok d_Parts_walkRepeat_106 f_Parts_46 (xi_s k12.1 sf_9) esd13.symm ?_
            refine A_iconst d_Parts_walkRepeat_109 rfl ?_
            refine A_iaddv (z := (sd13 + 1)) d_Parts_walkRepeat_110 (w32_to (by omega) (by unfold i32; omega)) ?_
            refine A_pc (pc' := 111) rfl ?_
            refine A_putIk (KR := kF (FB s) s h) T_ok d_Parts_walkRepeat_111 f_Parts_46 (xi_s k12.1 sf_9) fin_f (kF_j k12 (by omega) (ns_b rfl) rgf_9_8 (by omega) (by omega)) (fun h21 k22 eh21 => ?_)
            refine A_aload_n 0 d_Parts_walkRepeat_114 rfl rfl ?_
            refine A_aload_n 1 d_Parts_walkRepeat_115 rfl rfl ?_
            refine A_iload_n 2 d_Parts_walkRepeat_116 rfl rfl ?_
            refine A_iconst d_Parts_walkRepeat_117 rfl ?_
            refine A_iaddv (z := (a2 + 1)) d_Parts_walkRepeat_118 (w32_to (by omega) (by unfold i32; omega)) ?_
            refine A_pc (pc' := 119) rfl ?_
            refine A_iload d_Parts_walkRepeat_119 rfl ?_
            refine A_iload_n 3 d_Parts_walkRepeat_121 rfl rfl ?_
            refine A_iconst d_Parts_walkRepeat_122 rfl ?_
            refine A_iaddv (z := (a3 + 1)) d_Parts_walkRepeat_123 (w32_to (by omega) (by unfold i32; omega)) ?_
            refine A_lload d_Parts_walkRepeat_124 rfl ?_
            refine A_lload d_Parts_walkRepeat_126 rfl ?_
            refine A_pc (pc' := 128) rfl ?_
            have zf24 := eh21.2.1
            have zf25 := ((eh21.1 _ _ (fun _ => by decide)).trans esd14.symm)
            have zf26 := ((eh21.1 _ _ (fun q => by omega)).trans esd15.symm)
            refine A_callV6 m_Parts_walkThrough T_ok d_Parts_walkRepeat_128 l_Parts_59 k_Parts_walkThrough (xi_s k22.1 sf_9) rfl (by decide +kernel) (by decide) (Nat.le_of_ble_eq_true rfl) (s_Parts_walkThrough_1 k22.1 ta1 (by omega) (by omega) (by omega) (by omega) (by omega) (by omega) (by omega) (by omega) (by omega) (by omega) (by have qq0 := eh21.2.1; have qq1 := ((eh21.1 _ _ (fun _ => by decide)).trans esd14.symm); have qq2 := ((eh21.1 _ _ (fun q => by omega)).trans esd15.symm); exact ⟨by omega, by omega⟩)) (fun r h23 hq => ?_)
            obtain ⟨rfl, xk27, k27⟩ := hq
            have k28 := kF_t k22 k27 (fun _ q => q)
            obtain ⟨sd29, esd29⟩ : ∃ x, x = h23.2.1 9 8 := ⟨_, rfl⟩
            have rsd29 : 0 ≤ sd29 ∧ sd29 ≤ 100000 := (by rw [esd29]; exact xi_g k28.1 (by decide) rgf_9_8)
            obtain ⟨sd30, esd30⟩ : ∃ x, x = h23.2.1 9 10 := ⟨_, rfl⟩
            have rsd30 : 0 ≤ sd30 ∧ sd30 ≤ 100000 := (by rw [esd30]; exact xi_g k28.1 (by decide) rgf_9_10)
            obtain ⟨sd31, esd31⟩ : ∃ x, x = h23.2.1 a1 16 := ⟨_, rfl⟩
            have rsd31 : 0 ≤ sd31 ∧ sd31 ≤ 101 := (by rw [esd31]; exact xi_g k28.1 (lt1_V (tV_V hS ta1)) (rg_V_16 (tV_V hS ta1)))
            refine A_aload_n 0 d_Parts_walkRepeat_131 rfl rfl ?_
            refine A_aload_n 1 d_Parts_walkRepeat_132 rfl rfl ?_
            refine A_iload d_Parts_walkRepeat_133 rfl ?_
            refine A_iconst d_Parts_walkRepeat_135 rfl ?_
            refine A_iaddv (z := (i9 + 1)) d_Parts_walkRepeat_136 (w32_to (by omega) (by unfold i32; omega)) ?_
            refine A_pc (pc' := 137) rfl ?_
            refine A_aload_n 0 d_Parts_walkRepeat_137 rfl rfl ?_
            refine A_getAv (z := some 11) T_ok d_Parts_walkRepeat_138 f_Parts_15 (xi_s k28.1 sf_9) (xi_r k28.1 rff_9_1) ?_
            refine A_iload d_Parts_walkRepeat_141 rfl ?_
            refine A_ialoadn (lo := 0) (hi := 1999) d_Parts_walkRepeat_143 (xi_s k28.1 sf_11) (by omega) (by omega) (xi_g k28.1 (by decide) (rgf_11 _)) (fun x33 ex33 _ _ => ?_)
            refine A_iload_n 3 d_Parts_walkRepeat_144 rfl rfl ?_
            refine A_iconst d_Parts_walkRepeat_145 rfl ?_
            refine A_pc (pc' := 146) rfl ?_
            refine A_iaddv (z := (a3 + 1)) d_Parts_walkRepeat_146 (w32_to (by omega) (by unfold i32; omega)) ?_
            refine A_lload d_Parts_walkRepeat_147 rfl ?_
            refine A_lload d_Parts_walkRepeat_149 rfl ?_
            have zf35 := esd29.symm
            have zf36 := esd30.symm
            have zf37 := esd31.symm
            refine A_callV6 m_Parts_walkThrough T_ok d_Parts_walkRepeat_151 l_Parts_59 k_Parts_walkThrough (xi_s k28.1 sf_9) rfl (by decide +kernel) (by decide) (Nat.le_of_ble_eq_true rfl) (s_Parts_walkThrough_1 k28.1 ta1 (by omega) (by omega) (by omega) (by omega) (by omega) (by omega) (by omega) (by omega) (by omega) (by omega) (by have qq0 := esd29.symm; have qq1 := esd30.symm; have qq2 := esd31.symm; exact ⟨by omega, by omega⟩)) (fun r h34 hq => ?_)
            obtain ⟨rfl, xk38, k38⟩ := hq
            have k39 := kF_t k28 k38 (fun _ q => q)
            obtain ⟨sd40, esd40⟩ : ∃ x, x = h34.2.1 9 8 := ⟨_, rfl⟩
            have rsd40 : 0 ≤ sd40 ∧ sd40 ≤ 100000 := (by rw [esd40]; exact xi_g k39.1 (by decide) rgf_9_8)
            obtain ⟨sd41, esd41⟩ : ∃ x, x = h34.2.1 9 10 := ⟨_, rfl⟩
            have rsd41 : 0 ≤ sd41 ∧ sd41 ≤ 100000 := (by rw [esd41]; exact xi_g k39.1 (by decide) rgf_9_10)
            obtain ⟨sd42, esd42⟩ : ∃ x, x = h34.2.1 a1 16 := ⟨_, rfl⟩
            have rsd42 : 0 ≤ sd42 ∧ sd42 ≤ 101 := (by rw [esd42]; exact xi_g k39.1 (lt1_V (tV_V hS ta1)) (rg_V_16 (tV_V hS ta1)))
            refine A_aload_n 0 d_Parts_walkRepeat_154 rfl rfl ?_
            refine A_getAv (z := some 11) T_ok d_Parts_walkRepeat_155 f_Parts_15 (xi_s k39.1 sf_9) (xi_r k39.1 rff_9_1) ?_
            refine A_iload d_Parts_walkRepeat_158 rfl ?_
            refine A_ialoadn (lo := 0) (hi := 1999) d_Parts_walkRepeat_160 (xi_s k39.1 sf_11) (by omega) (by omega) (xi_g k39.1 (by decide) (rgf_11 _)) (fun x44 ex44 _ _ => ?_)
            refine A_istore (L' := [some (av_R (some 9)), some (av_R (some a1)), some (av_I a2), some (av_I a3), some (av_L a4), none, some (av_L a5), none, some (av_I x5), some (av_I x44), some (av_I i10)]) d_Parts_walkRepeat_161 (Nat.le_of_ble_eq_true rfl) rfl ?_
            refine A_pc (pc' := 163) rfl ?_
            refine A_iincv (z := (i10 + 1)) (L' := [some (av_R (some 9)), some (av_R (some a1)), some (av_I a2), some (av_I a3), some (av_L a4), none, some (av_L a5), none, some (av_I x5), some (av_I x44), some (av_I (i10 + 1))]) d_Parts_walkRepeat_163 rfl (w32_to (by omega) (by unfold i32; omega)) rfl ?_
            refine A_goto (tgt := 84) d_Parts_walkRepeat_166 (by decide) ?_
            exact ih84 x44 (i10 + 1) h34 (by omega) (by omega) (by omega) (by omega) (by have qq0 := esd40.symm; have qq1 := esd41.symm; have qq2 := esd42.symm; exact ⟨⟨by omega, by omega⟩, by omega⟩) k39 (by omega)
    exact lp84 _ x5 0 h (by omega) (by omega) (by omega) (by omega) (by have qq0 := esd1.symm; have qq1 := esd2.symm; have qq2 := esd3.symm; exact ⟨⟨by omega, by omega⟩, by omega⟩) k0 (Nat.lt_succ_self _)
  · refine A_aload_n 0 d_Parts_walkRepeat_20 rfl rfl ?_
    refine A_dupR d_Parts_walkRepeat_21 ?_
    refine A_getIv (z := sd1) T_ok d_Parts_walkRepeat_22 f_Parts_46 (xi_s k0.1 sf_9) esd1.symm ?_
    refine A_iconst d_Parts_walkRepeat_25 rfl ?_
    refine A_iaddv (z := (sd1 + 1)) d_Parts_walkRepeat_26 (w32_to (by omega) (by unfold i32; omega)) ?_
    refine A_pc (pc' := 27) rfl ?_
    refine A_putIk (KR := kF (FB s) s h) T_ok d_Parts_walkRepeat_27 f_Parts_46 (xi_s k0.1 sf_9) fin_f (kF_j k0 (by omega) (ns_b rfl) rgf_9_8 (by omega) (by omega)) (fun h46 k47 eh46 => ?_)
    refine A_aload_n 0 d_Parts_walkRepeat_30 rfl rfl ?_
    refine A_aload_n 1 d_Parts_walkRepeat_31 rfl rfl ?_
    refine A_iload_n 2 d_Parts_walkRepeat_32 rfl rfl ?_
    refine A_iconst d_Parts_walkRepeat_33 rfl ?_
    refine A_iaddv (z := (a2 + 1)) d_Parts_walkRepeat_34 (w32_to (by omega) (by unfold i32; omega)) ?_
    refine A_pc (pc' := 35) rfl ?_
    refine A_iload d_Parts_walkRepeat_35 rfl ?_
    refine A_iload_n 3 d_Parts_walkRepeat_37 rfl rfl ?_
    refine A_iconst d_Parts_walkRepeat_38 rfl ?_
    refine A_iaddv (z := (a3 + 1)) d_Parts_walkRepeat_39 (w32_to (by omega) (by unfold i32; omega)) ?_
    refine A_lload d_Parts_walkRepeat_40 rfl ?_
    refine A_lload d_Parts_walkRepeat_42 rfl ?_
    refine A_pc (pc' := 44) rfl ?_
    have zf49 := eh46.2.1
    have zf50 := ((eh46.1 _ _ (fun _ => by decide)).trans esd2.symm)
    have zf51 := ((eh46.1 _ _ (fun q => by omega)).trans esd3.symm)
    refine A_callV6 m_Parts_walkThrough T_ok d_Parts_walkRepeat_44 l_Parts_59 k_Parts_walkThrough (xi_s k47.1 sf_9) rfl (by decide +kernel) (by decide) (Nat.le_of_ble_eq_true rfl) (s_Parts_walkThrough_1 k47.1 ta1 (by omega) (by omega) (by omega) (by omega) (by omega) (by omega) (by omega) (by omega) (by omega) (by omega) (by have qq0 := eh46.2.1; have qq1 := ((eh46.1 _ _ (fun _ => by decide)).trans esd2.symm); have qq2 := ((eh46.1 _ _ (fun q => by omega)).trans esd3.symm); exact ⟨by omega, by omega⟩)) (fun r h48 hq => ?_)
    obtain ⟨rfl, xk52, k52⟩ := hq
    have k53 := kF_t k47 k52 (fun _ q => q)
    obtain ⟨sd54, esd54⟩ : ∃ x, x = h48.2.1 9 8 := ⟨_, rfl⟩
    have rsd54 : 0 ≤ sd54 ∧ sd54 ≤ 100000 := (by rw [esd54]; exact xi_g k53.1 (by decide) rgf_9_8)
    obtain ⟨sd55, esd55⟩ : ∃ x, x = h48.2.1 9 10 := ⟨_, rfl⟩
    have rsd55 : 0 ≤ sd55 ∧ sd55 ≤ 100000 := (by rw [esd55]; exact xi_g k53.1 (by decide) rgf_9_10)
    obtain ⟨sd56, esd56⟩ : ∃ x, x = h48.2.1 a1 16 := ⟨_, rfl⟩
    have rsd56 : 0 ≤ sd56 ∧ sd56 ≤ 101 := (by rw [esd56]; exact xi_g k53.1 (lt1_V (tV_V hS ta1)) (rg_V_16 (tV_V hS ta1)))
    refine A_aload_n 0 d_Parts_walkRepeat_47 rfl rfl ?_
    refine A_dupR d_Parts_walkRepeat_48 ?_
    refine A_getIv (z := sd54) T_ok d_Parts_walkRepeat_49 f_Parts_46 (xi_s k53.1 sf_9) esd54.symm ?_
    refine A_iconst d_Parts_walkRepeat_52 rfl ?_
    refine A_iaddv (z := (sd54 + 1)) d_Parts_walkRepeat_53 (w32_to (by omega) (by unfold i32; omega)) ?_
    refine A_pc (pc' := 54) rfl ?_
    refine A_putIk (KR := kF (FB s) s h) T_ok d_Parts_walkRepeat_54 f_Parts_46 (xi_s k53.1 sf_9) fin_f (kF_j k53 (by omega) (ns_b rfl) rgf_9_8 (by omega) (by omega)) (fun h58 k59 eh58 => ?_)
    refine A_aload_n 0 d_Parts_walkRepeat_57 rfl rfl ?_
    refine A_aload_n 1 d_Parts_walkRepeat_58 rfl rfl ?_
    refine A_iload_n 2 d_Parts_walkRepeat_59 rfl rfl ?_
    refine A_iconst d_Parts_walkRepeat_60 rfl ?_
    refine A_iaddv (z := (a2 + 1)) d_Parts_walkRepeat_61 (w32_to (by omega) (by unfold i32; omega)) ?_
    refine A_pc (pc' := 62) rfl ?_
    refine A_iload d_Parts_walkRepeat_62 rfl ?_
    refine A_iload_n 3 d_Parts_walkRepeat_64 rfl rfl ?_
    refine A_iconst d_Parts_walkRepeat_65 rfl ?_
    refine A_iaddv (z := (a3 + 1)) d_Parts_walkRepeat_66 (w32_to (by omega) (by unfold i32; omega)) ?_
    refine A_lload d_Parts_walkRepeat_67 rfl ?_
    refine A_lload d_Parts_walkRepeat_69 rfl ?_
    refine A_pc (pc' := 71) rfl ?_
    have zf61 := eh58.2.1
    have zf62 := ((eh58.1 _ _ (fun _ => by decide)).trans esd55.symm)
    have zf63 := ((eh58.1 _ _ (fun q => by omega)).trans esd56.symm)
    refine A_callV6 m_Parts_walkThrough T_ok d_Parts_walkRepeat_71 l_Parts_59 k_Parts_walkThrough (xi_s k59.1 sf_9) rfl (by decide +kernel) (by decide) (Nat.le_of_ble_eq_true rfl) (s_Parts_walkThrough_1 k59.1 ta1 (by omega) (by omega) (by omega) (by omega) (by omega) (by omega) (by omega) (by omega) (by omega) (by omega) (by have qq0 := eh58.2.1; have qq1 := ((eh58.1 _ _ (fun _ => by decide)).trans esd55.symm); have qq2 := ((eh58.1 _ _ (fun q => by omega)).trans esd56.symm); exact ⟨by omega, by omega⟩)) (fun r h60 hq => ?_)
    obtain ⟨rfl, xk64, k64⟩ := hq
    have k65 := kF_t k59 k64 (fun _ q => q)
    obtain ⟨sd66, esd66⟩ : ∃ x, x = h60.2.1 9 8 := ⟨_, rfl⟩
    have rsd66 : 0 ≤ sd66 ∧ sd66 ≤ 100000 := (by rw [esd66]; exact xi_g k65.1 (by decide) rgf_9_8)
    obtain ⟨sd67, esd67⟩ : ∃ x, x = h60.2.1 9 10 := ⟨_, rfl⟩
    have rsd67 : 0 ≤ sd67 ∧ sd67 ≤ 100000 := (by rw [esd67]; exact xi_g k65.1 (by decide) rgf_9_10)
    obtain ⟨sd68, esd68⟩ : ∃ x, x = h60.2.1 a1 16 := ⟨_, rfl⟩
    have rsd68 : 0 ≤ sd68 ∧ sd68 ≤ 101 := (by rw [esd68]; exact xi_g k65.1 (lt1_V (tV_V hS ta1)) (rg_V_16 (tV_V hS ta1)))
    refine A_iload d_Parts_walkRepeat_74 rfl ?_
    exact A_iret d_Parts_walkRepeat_76 (by decide) rfl ⟨_, rfl, ⟨by omega, by omega⟩, (by have qq0 := esd66.symm; have qq1 := esd67.symm; have qq2 := esd68.symm; exact ⟨⟨by omega, by omega⟩, by omega⟩), k65⟩
theorem s_Parts_walkThrough_0 {G : cx_T} {s : Nat} {h : ah_T} (hx : xi s h) {a1 : Nat} {a2 : Int} {a3 : Int} {a4 : Int} {a5 : Int} {a6 : Int} (ta1 : tV s a1) (la2 : 0 ≤ a2) (ua2 : a2 ≤ 2000) (la3 : 0 ≤ a3) (ua3 : a3 ≤ 2000) (la4 : 0 ≤ a4) (ua4 : a4 ≤ 0) (la5 : 1 ≤ a5) (ua5 : a5 ≤ 1) (la6 : 0 ≤ a6) (ua6 : a6 ≤ 1) (hJ : h.2.1 9 10 ≤ h.2.1 9 8 ∧ h.2.1 a1 16 ≤ h.2.1 9 10 + 1) : con G 20 0 0 m_Parts_walkThrough [av_R (some 9), av_R (some a1), av_I a2, av_I a3, av_I a4, av_L a5, av_L a6] h (fun r h' => r = none ∧ ((h'.2.1 9 10 ≤ h'.2.1 9 8 ∧ h'.2.1 a1 16 ≤ h'.2.1 9 10 + 1) ∧ (h'.2.1 9 8 ≤ h.2.1 9 8 ∨ h'.2.1 9 8 ≤ 18001)) ∧ kF (FB s) s h h') := by
  refine con_of (L := [some (av_R (some 9)), some (av_R (some a1)), some (av_I a2), some (av_I a3), some (av_I a4), some (av_L a5), none, some (av_L a6), none, none, none]) (by decide +kernel) (Nat.le_of_ble_eq_true rfl) rfl ?_
  have hS : isS s := hx.2.1
  have hs0 : s = 17 ∨ s = 80 := hS
  have hs0b : 17 ≤ s ∧ s ≤ 80 := by omega
  have k0 : kF (FB s) s h h := kF_0 hx
  have ga1 : a1 = s + 7 ∨ a1 = s + 21 ∨ a1 = s + 35 ∨ a1 = s + 49 := ta1
  have ga1b : s + 7 ≤ a1 ∧ a1 ≤ s + 49 := by omega
  obtain ⟨sd1, esd1⟩ : ∃ x, x = h.2.1 9 8 := ⟨_, rfl⟩
  have rsd1 : 0 ≤ sd1 ∧ sd1 ≤ 100000 := (by rw [esd1]; exact xi_g k0.1 (by decide) rgf_9_8)
  obtain ⟨sd2, esd2⟩ : ∃ x, x = h.2.1 9 10 := ⟨_, rfl⟩
  have rsd2 : 0 ≤ sd2 ∧ sd2 ≤ 100000 := (by rw [esd2]; exact xi_g k0.1 (by decide) rgf_9_10)
  obtain ⟨sd3, esd3⟩ : ∃ x, x = h.2.1 a1 16 := ⟨_, rfl⟩
  have rsd3 : 0 ≤ sd3 ∧ sd3 ≤ 101 := (by rw [esd3]; exact xi_g k0.1 (lt1_V (tV_V hS ta1)) (rg_V_16 (tV_V hS ta1)))
  refine A_iload d_Parts_walkThrough_0 rfl ?_
  refine A_bipush d_Parts_walkThrough_2 rfl ?_
  refine A_icmp_le (tgt := 8) d_Parts_walkThrough_4 (by decide) (fun c4 => ?_) (fun c => False.elim (by omega))
  refine A_iload_n 2 d_Parts_walkThrough_8 rfl rfl ?_
  refine A_istore (L' := [some (av_R (some 9)), some (av_R (some a1)), some (av_I a2), some (av_I a3), some (av_I a4), some (av_L a5), none, some (av_L a6), none, some (av_I a2), none]) d_Parts_walkThrough_9 (Nat.le_of_ble_eq_true rfl) rfl ?_
  have lp11 : ∀ (n : Nat) (i5 : Int) (h6 : ah_T) , 0 ≤ i5 → i5 ≤ 2000 → (h6.2.1 9 10 ≤ h6.2.1 9 8 ∧ h6.2.1 a1 16 ≤ h6.2.1 9 10 + 1) ∧ (h6.2.1 9 8 ≤ h.2.1 9 8 ∨ h6.2.1 9 8 ≤ 18001) → kF (FB s) s h h6 → (2001 - i5).toNat < n → aw G (rm_R 20 0 0) m_Parts_walkThrough 0 0 11 [some (av_R (some 9)), some (av_R (some a1)), some (av_I a2), some (av_I a3), some (av_I a4), some (av_L a5), none, some (av_L a6), none, some (av_I i5), none] [] h6 (fun r h' => r = none ∧ ((h'.2.1 9 10 ≤ h'.2.1 9 8 ∧ h'.2.1 a1 16 ≤ h'.2.1 9 10 + 1) ∧ (h'.2.1 9 8 ≤ h.2.1 9 8 ∨ h'.2.1 9 8 ≤ 18001)) ∧ kF (FB s) s h h') := by
    intro n
    induction n with
    | zero => intro i5 h6 _ _ _ _ hm; omega
    | succ n ih11 =>
      intro i5 h6 hl0 hl1 hinv k7 hm
      obtain ⟨sd8, esd8⟩ : ∃ x, x = h6.2.1 9 8 := ⟨_, rfl⟩
      have rsd8 : 0 ≤ sd8 ∧ sd8 ≤ 100000 := (by rw [esd8]; exact xi_g k7.1 (by decide) rgf_9_8)
      obtain ⟨sd9, esd9⟩ : ∃ x, x = h6.2.1 9 10 := ⟨_, rfl⟩
      have rsd9 : 0 ≤ sd9 ∧ sd9 ≤ 100000 := (by rw [esd9]; exact xi_g k7.1 (by decide) rgf_9_10)
      obtain ⟨sd10, esd10⟩ : ∃ x, x = h6.2.1 a1 16 := ⟨_, rfl⟩
      have rsd10 : 0 ≤ sd10 ∧ sd10 ≤ 101 := (by rw [esd10]; exact xi_g k7.1 (lt1_V (tV_V hS ta1)) (rg_V_16 (tV_V hS ta1)))
      refine A_iload d_Parts_walkThrough_11 rfl ?_
      refine A_iload_n 3 d_Parts_walkThrough_13 rfl rfl ?_
      refine A_icmp_ge (tgt := 218) d_Parts_walkThrough_14 (by decide) (fun c11 => ?_) (fun c11 => ?_)
      · exact A_vret d_Parts_walkThrough_218 (by decide) rfl ⟨rfl, (by have qq0 := esd8.symm; have qq1 := esd9.symm; have qq2 := esd10.symm; exact ⟨⟨by omega, by omega⟩, by omega⟩), k7⟩
      · refine A_iload d_Parts_walkThrough_17 rfl ?_
        refine A_aload_n 0 d_Parts_walkThrough_19 rfl rfl ?_
        refine A_getIn (lo := 0) (hi := 2000) T_ok d_Parts_walkThrough_20 f_Parts_30 (xi_s k7.1 sf_9) (xi_g k7.1 (by decide) rgf_9_4) (fun x12 ex12 _ _ => ?_)
        refine A_icmp_ge (tgt := 218) d_Parts_walkThrough_23 (by decide) (fun c13 => ?_) (fun c13 => ?_)
        · exact A_vret d_Parts_walkThrough_218 (by decide) rfl ⟨rfl, (by have qq0 := esd8.symm; have qq1 := esd9.symm; have qq2 := esd10.symm; exact ⟨⟨by omega, by omega⟩, by omega⟩), k7⟩
        · refine A_aload_n 0 d_Parts_walkThrough_26 rfl rfl ?_
          refine A_getIv (z := sd8) T_ok d_Parts_walkThrough_27 f_Parts_46 (xi_s k7.1 sf_9) esd8.symm ?_
          refine A_sipush d_Parts_walkThrough_30 rfl ?_
          refine A_icmp_gt (tgt := 218) d_Parts_walkThrough_33 (by decide) (fun c15 => ?_) (fun c15 => ?_)
          · exact A_vret d_Parts_walkThrough_218 (by decide) rfl ⟨rfl, (by have qq0 := esd8.symm; have qq1 := esd9.symm; have qq2 := esd10.symm; exact ⟨⟨by omega, by omega⟩, by omega⟩), k7⟩
          · refine A_aload_n 0 d_Parts_walkThrough_36 rfl rfl ?_
            refine A_dupR d_Parts_walkThrough_37 ?_
            refine A_getIv (z := sd8) T_ok d_Parts_walkThrough_38 f_Parts_46 (xi_s k7.1 sf_9) esd8.symm ?_
            refine A_iconst d_Parts_walkThrough_41 rfl ?_
            refine A_iaddv (z := (sd8 + 1)) d_Parts_walkThrough_42 (w32_to (by omega) (by unfold i32; omega)) ?_
            refine A_pc (pc' := 43) rfl ?_
            refine A_putIk (KR := kF (FB s) s h) T_ok d_Parts_walkThrough_43 f_Parts_46 (xi_s k7.1 sf_9) fin_f (kF_j k7 (by omega) (ns_b rfl) rgf_9_8 (by omega) (by omega)) (fun h17 k18 eh17 => ?_)
            refine A_aload_n 0 d_Parts_walkThrough_46 rfl rfl ?_
            refine A_getAv (z := some 10) T_ok d_Parts_walkThrough_47 f_Parts_9 (xi_s k18.1 sf_9) (xi_r k18.1 rff_9_0) ?_
            refine A_iload d_Parts_walkThrough_50 rfl ?_
            refine A_ialoadf d_Parts_walkThrough_52 (xi_s k18.1 sf_10) (by omega) (by omega) (fun x20 ex20 _ _ => ?_)
            refine A_istore (L' := [some (av_R (some 9)), some (av_R (some a1)), some (av_I a2), some (av_I a3), some (av_I a4), some (av_L a5), none, some (av_L a6), none, some (av_I i5), some (av_I x20)]) d_Parts_walkThrough_53 (Nat.le_of_ble_eq_true rfl) rfl ?_
            refine A_pc (pc' := 55) rfl ?_
            refine A_iload d_Parts_walkThrough_55 rfl ?_
            refine A_bipush d_Parts_walkThrough_57 rfl ?_
            refine A_icmp_ne (tgt := 85) d_Parts_walkThrough_59 (by decide) (fun c21 => ?_) (fun c21 => ?_)
            · refine A_iload d_Parts_walkThrough_85 rfl ?_
              refine A_bipush d_Parts_walkThrough_87 rfl ?_
              refine A_icmp_ne (tgt := 151) d_Parts_walkThrough_89 (by decide) (fun c22 => ?_) (fun c22 => ?_)
              · refine A_iload d_Parts_walkThrough_151 rfl ?_
                refine A_bipush d_Parts_walkThrough_153 rfl ?_
                refine A_icmp_ne (tgt := 166) d_Parts_walkThrough_155 (by decide) (fun c23 => ?_) (fun c23 => ?_)
                · refine A_aload_n 0 d_Parts_walkThrough_166 rfl rfl ?_
                  refine A_dupR d_Parts_walkThrough_167 ?_
                  refine A_getIf T_ok d_Parts_walkThrough_168 f_Parts_49 (xi_s k18.1 sf_9) (fun x24 ex24 _ _ => ?_)
                  refine A_iconst d_Parts_walkThrough_171 rfl ?_
                  refine A_iaddw d_Parts_walkThrough_172 (fun x25 _ _ _ => ?_)
                  refine A_pc (pc' := 173) rfl ?_
                  refine A_putIk (KR := kF (FB s) s h) T_ok d_Parts_walkThrough_173 f_Parts_49 (xi_s k18.1 sf_9) fin_f (kF_j k18 (by omega) (ns_b rfl) rgf_9_9 (by omega) (by omega)) (fun h26 k27 eh26 => ?_)
                  refine A_aload_n 0 d_Parts_walkThrough_176 rfl rfl ?_
                  refine A_getIv (z := x25) T_ok d_Parts_walkThrough_177 f_Parts_49 (xi_s k27.1 sf_9) eh26.2.1 ?_
                  refine A_sipush d_Parts_walkThrough_180 rfl ?_
                  refine A_icmp_gt (tgt := 212) d_Parts_walkThrough_183 (by decide) (fun c29 => ?_) (fun c29 => ?_)
                  · refine A_iincv (z := (i5 + 1)) (L' := [some (av_R (some 9)), some (av_R (some a1)), some (av_I a2), some (av_I a3), some (av_I a4), some (av_L a5), none, some (av_L a6), none, some (av_I (i5 + 1)), some (av_I x20)]) d_Parts_walkThrough_212 rfl (w32_to (by omega) (by unfold i32; omega)) rfl ?_
                    refine A_goto (tgt := 11) d_Parts_walkThrough_215 (by decide) ?_
                    refine A_free (L' := [some (av_R (some 9)), some (av_R (some a1)), some (av_I a2), some (av_I a3), some (av_I a4), some (av_L a5), none, some (av_L a6), none, some (av_I (i5 + 1)), none]) (And.intro rfl (And.intro rfl (And.intro rfl (And.intro rfl (And.intro rfl (And.intro rfl (And.intro rfl (And.intro rfl trivial)))))))) ?_
                    exact ih11 (i5 + 1) h26 (by omega) (by omega) (by have qq0 := ((eh26.1 _ _ (fun _ => by decide)).trans eh17.2.1); have qq1 := ((eh26.1 _ _ (fun _ => by decide)).trans ((eh17.1 _ _ (fun _ => by decide)).trans esd9.symm)); have qq2 := ((eh26.1 _ _ (fun q => by omega)).trans ((eh17.1 _ _ (fun q => by omega)).trans esd10.symm)); exact ⟨⟨by omega, by omega⟩, by omega⟩) k27 (by omega)
                  · refine A_aload_n 0 d_Parts_walkThrough_186 rfl rfl ?_
                    refine A_getZn T_ok d_Parts_walkThrough_187 f_Parts_55 (xi_s k27.1 sf_9) (fun x30 ex30 bx30 => ?_)
                    refine A_if_eq (tgt := 212) d_Parts_walkThrough_190 (by decide) (fun c31 => ?_) (fun c31 => ?_)
                    · refine A_iincv (z := (i5 + 1)) (L' := [some (av_R (some 9)), some (av_R (some a1)), some (av_I a2), some (av_I a3), some (av_I a4), some (av_L a5), none, some (av_L a6), none, some (av_I (i5 + 1)), some (av_I x20)]) d_Parts_walkThrough_212 rfl (w32_to (by omega) (by unfold i32; omega)) rfl ?_
                      refine A_goto (tgt := 11) d_Parts_walkThrough_215 (by decide) ?_
                      refine A_free (L' := [some (av_R (some 9)), some (av_R (some a1)), some (av_I a2), some (av_I a3), some (av_I a4), some (av_L a5), none, some (av_L a6), none, some (av_I (i5 + 1)), none]) (And.intro rfl (And.intro rfl (And.intro rfl (And.intro rfl (And.intro rfl (And.intro rfl (And.intro rfl (And.intro rfl trivial)))))))) ?_
                      exact ih11 (i5 + 1) h26 (by omega) (by omega) (by have qq0 := ((eh26.1 _ _ (fun _ => by decide)).trans eh17.2.1); have qq1 := ((eh26.1 _ _ (fun _ => by decide)).trans ((eh17.1 _ _ (fun _ => by decide)).trans esd9.symm)); have qq2 := ((eh26.1 _ _ (fun q => by omega)).trans ((eh17.1 _ _ (fun q => by omega)).trans esd10.symm)); exact ⟨⟨by omega, by omega⟩, by omega⟩) k27 (by omega)
                    · refine A_aload_n 0 d_Parts_walkThrough_193 rfl rfl ?_
                      refine A_aload_n 1 d_Parts_walkThrough_194 rfl rfl ?_
                      refine A_aload_n 0 d_Parts_walkThrough_195 rfl rfl ?_
                      refine A_getAv (z := some 12) T_ok d_Parts_walkThrough_196 f_Parts_18 (xi_s k27.1 sf_9) (xi_r k27.1 rff_9_2) ?_
                      refine A_iload d_Parts_walkThrough_199 rfl ?_
                      refine A_pc (pc' := 201) rfl ?_
                      refine A_ialoadn (lo := 0) (hi := 300) d_Parts_walkThrough_201 (xi_s k27.1 sf_12) (by omega) (by omega) (xi_g k27.1 (by decide) (rgf_12 _)) (fun x33 ex33 _ _ => ?_)
                      refine A_lload d_Parts_walkThrough_202 rfl ?_
                      refine A_lload d_Parts_walkThrough_204 rfl ?_
                      have zf35 := ((eh26.1 _ _ (fun _ => by decide)).trans eh17.2.1)
                      have zf36 := ((eh26.1 _ _ (fun _ => by decide)).trans ((eh17.1 _ _ (fun _ => by decide)).trans esd9.symm))
                      have zf37 := ((eh26.1 _ _ (fun q => by omega)).trans ((eh17.1 _ _ (fun q => by omega)).trans esd10.symm))
                      refine A_callV3 m_Voice_addEvent T_ok d_Parts_walkThrough_206 l_Parts_80 k_Voice_addEvent (xs_V k27.1 (tV_V hS ta1)) rfl (by decide +kernel) (by decide) (Nat.le_of_ble_eq_true rfl) (s_Voice_addEvent k27.1 ta1 (by omega) (by omega) (by omega) (by omega)) (fun r h34 hq => ?_)
                      obtain ⟨x39, rfl, bx39, xx39, k38⟩ := hq
                      have k40 := kF_t k27 k38 (fun _ q => q)
                      obtain ⟨sd41, esd41⟩ : ∃ x, x = h34.2.1 9 8 := ⟨_, rfl⟩
                      have rsd41 : 0 ≤ sd41 ∧ sd41 ≤ 100000 := (by rw [esd41]; exact xi_g k40.1 (by decide) rgf_9_8)
                      obtain ⟨sd42, esd42⟩ : ∃ x, x = h34.2.1 9 10 := ⟨_, rfl⟩
                      have rsd42 : 0 ≤ sd42 ∧ sd42 ≤ 100000 := (by rw [esd42]; exact xi_g k40.1 (by decide) rgf_9_10)
                      obtain ⟨sd43, esd43⟩ : ∃ x, x = h34.2.1 a1 16 := ⟨_, rfl⟩
                      have rsd43 : 0 ≤ sd43 ∧ sd43 ≤ 101 := (by rw [esd43]; exact xi_g k40.1 (lt1_V (tV_V hS ta1)) (rg_V_16 (tV_V hS ta1)))
                      refine A_putZk (KR := kF (FB s) s h) T_ok d_Parts_walkThrough_209 f_Parts_55 (xi_s k40.1 sf_9) fin_f (by omega) (kF_j k40 (by omega) (ns_b rfl) rgf_9_11 (by omega) (by omega)) (fun h44 k45 eh44 => ?_)
                      refine A_iincv (z := (i5 + 1)) (L' := [some (av_R (some 9)), some (av_R (some a1)), some (av_I a2), some (av_I a3), some (av_I a4), some (av_L a5), none, some (av_L a6), none, some (av_I (i5 + 1)), some (av_I x20)]) d_Parts_walkThrough_212 rfl (w32_to (by omega) (by unfold i32; omega)) rfl ?_
                      refine A_goto (tgt := 11) d_Parts_walkThrough_215 (by decide) ?_
                      refine A_free (L' := [some (av_R (some 9)), some (av_R (some a1)), some (av_I a2), some (av_I a3), some (av_I a4), some (av_L a5), none, some (av_L a6), none, some (av_I (i5 + 1)), none]) (And.intro rfl (And.intro rfl (And.intro rfl (And.intro rfl (And.intro rfl (And.intro rfl (And.intro rfl (And.intro rfl trivial)))))))) ?_
                      exact ih11 (i5 + 1) h44 (by omega) (by omega) (by have qq0 := ((eh44.1 _ _ (fun _ => by decide)).trans esd41.symm); have qq1 := ((eh44.1 _ _ (fun _ => by decide)).trans esd42.symm); have qq2 := ((eh44.1 _ _ (fun q => by omega)).trans esd43.symm); exact ⟨⟨by omega, by omega⟩, by omega⟩) k45 (by omega)
                · refine A_aload_n 0 d_Parts_walkThrough_158 rfl rfl ?_
                  refine A_aload_n 1 d_Parts_walkThrough_159 rfl rfl ?_
                  have zf47 := eh17.2.1
                  have zf48 := ((eh17.1 _ _ (fun _ => by decide)).trans esd9.symm)
                  have zf49 := ((eh17.1 _ _ (fun q => by omega)).trans esd10.symm)
                  refine A_callV1 m_Parts_meetLine T_ok d_Parts_walkThrough_160 l_Parts_76 k_Parts_meetLine (xi_s k18.1 sf_9) rfl (by decide +kernel) (by decide) (Nat.le_of_ble_eq_true rfl) (s_Parts_meetLine k18.1 ta1 (by have qq0 := eh17.2.1; have qq1 := ((eh17.1 _ _ (fun _ => by decide)).trans esd9.symm); have qq2 := ((eh17.1 _ _ (fun q => by omega)).trans esd10.symm); exact ⟨by omega, by omega⟩)) (fun r h46 hq => ?_)
                  obtain ⟨rfl, xk50, k50⟩ := hq
                  have k51 := kF_t k18 k50 (fun _ q => q)
                  obtain ⟨sd52, esd52⟩ : ∃ x, x = h46.2.1 9 8 := ⟨_, rfl⟩
                  have rsd52 : 0 ≤ sd52 ∧ sd52 ≤ 100000 := (by rw [esd52]; exact xi_g k51.1 (by decide) rgf_9_8)
                  obtain ⟨sd53, esd53⟩ : ∃ x, x = h46.2.1 9 10 := ⟨_, rfl⟩
                  have rsd53 : 0 ≤ sd53 ∧ sd53 ≤ 100000 := (by rw [esd53]; exact xi_g k51.1 (by decide) rgf_9_10)
                  obtain ⟨sd54, esd54⟩ : ∃ x, x = h46.2.1 a1 16 := ⟨_, rfl⟩
                  have rsd54 : 0 ≤ sd54 ∧ sd54 ≤ 101 := (by rw [esd54]; exact xi_g k51.1 (lt1_V (tV_V hS ta1)) (rg_V_16 (tV_V hS ta1)))
                  refine A_goto (tgt := 212) d_Parts_walkThrough_163 (by decide) ?_
                  refine A_iincv (z := (i5 + 1)) (L' := [some (av_R (some 9)), some (av_R (some a1)), some (av_I a2), some (av_I a3), some (av_I a4), some (av_L a5), none, some (av_L a6), none, some (av_I (i5 + 1)), some (av_I x20)]) d_Parts_walkThrough_212 rfl (w32_to (by omega) (by unfold i32; omega)) rfl ?_
                  refine A_goto (tgt := 11) d_Parts_walkThrough_215 (by decide) ?_
                  refine A_free (L' := [some (av_R (some 9)), some (av_R (some a1)), some (av_I a2), some (av_I a3), some (av_I a4), some (av_L a5), none, some (av_L a6), none, some (av_I (i5 + 1)), none]) (And.intro rfl (And.intro rfl (And.intro rfl (And.intro rfl (And.intro rfl (And.intro rfl (And.intro rfl (And.intro rfl trivial)))))))) ?_
                  exact ih11 (i5 + 1) h46 (by omega) (by omega) (by have qq0 := esd52.symm; have qq1 := esd53.symm; have qq2 := esd54.symm; exact ⟨⟨by omega, by omega⟩, by omega⟩) k51 (by omega)
              · refine A_aload_n 0 d_Parts_walkThrough_92 rfl rfl ?_
                refine A_aload_n 1 d_Parts_walkThrough_93 rfl rfl ?_
                refine A_iload d_Parts_walkThrough_94 rfl ?_
                refine A_iconst d_Parts_walkThrough_96 rfl ?_
                refine A_iaddv (z := (i5 + 1)) d_Parts_walkThrough_97 (w32_to (by omega) (by unfold i32; omega)) ?_
                refine A_pc (pc' := 98) rfl ?_
                refine A_aload_n 0 d_Parts_walkThrough_98 rfl rfl ?_
                refine A_getAv (z := some 11) T_ok d_Parts_walkThrough_99 f_Parts_15 (xi_s k18.1 sf_9) (xi_r k18.1 rff_9_1) ?_
                refine A_iload d_Parts_walkThrough_102 rfl ?_
                refine A_ialoadn (lo := 0) (hi := 1999) d_Parts_walkThrough_104 (xi_s k18.1 sf_11) (by omega) (by omega) (xi_g k18.1 (by decide) (rgf_11 _)) (fun x56 ex56 _ _ => ?_)
                refine A_iload d_Parts_walkThrough_105 rfl ?_
                refine A_iconst d_Parts_walkThrough_107 rfl ?_
                refine A_pc (pc' := 108) rfl ?_
                refine A_iaddv (z := (a4 + 1)) d_Parts_walkThrough_108 (w32_to (by omega) (by unfold i32; omega)) ?_
                refine A_lload d_Parts_walkThrough_109 rfl ?_
                refine A_aload_n 0 d_Parts_walkThrough_111 rfl rfl ?_
                refine A_getAv (z := some 13) T_ok d_Parts_walkThrough_112 f_Parts_21 (xi_s k18.1 sf_9) (xi_r k18.1 rff_9_3) ?_
                refine A_iload d_Parts_walkThrough_115 rfl ?_
                refine A_ialoadn (lo := 0) (hi := 16) d_Parts_walkThrough_117 (xi_s k18.1 sf_13) (by omega) (by omega) (xi_g k18.1 (by decide) (rgf_13 _)) (fun x58 ex58 _ _ => ?_)
                have yx58 := sP_at (kF_sem k18).1 ex20.symm.symm (by omega) ((eh17.1 _ _ (fun _ => by decide)).trans ex12.symm) (by omega) (by omega)
                refine A_pc (pc' := 118) rfl ?_
                refine A_i2l d_Parts_walkThrough_118 ?_
                refine A_lmulw d_Parts_walkThrough_119 (fun x59 ex59 _ _ => ?_)
                have bx59 := mul_pp64 (ux := 1) (uy := 16) ex59 (by omega) (by omega) (by omega) (by omega) (by decide)
                refine A_lload d_Parts_walkThrough_120 rfl ?_
                refine A_aload_n 0 d_Parts_walkThrough_122 rfl rfl ?_
                refine A_getAv (z := some 12) T_ok d_Parts_walkThrough_123 f_Parts_18 (xi_s k18.1 sf_9) (xi_r k18.1 rff_9_2) ?_
                refine A_iload d_Parts_walkThrough_126 rfl ?_
                refine A_pc (pc' := 128) rfl ?_
                refine A_ialoadn (lo := 0) (hi := 300) d_Parts_walkThrough_128 (xi_s k18.1 sf_12) (by omega) (by omega) (xi_g k18.1 (by decide) (rgf_12 _)) (fun x61 ex61 _ _ => ?_)
                have yx61 := sP_at (kF_sem k18).1 ex20.symm.symm (by omega) ((eh17.1 _ _ (fun _ => by decide)).trans ex12.symm) (by omega) (by omega)
                refine A_i2l d_Parts_walkThrough_129 ?_
                refine A_lmulw d_Parts_walkThrough_130 (fun x62 ex62 _ _ => ?_)
                have bx62 := mul_nn64 (ux := 1) (uy := 16) ex62 (by omega) (by omega) (by omega) (by omega) (by decide)
                have zf64 := eh17.2.1
                have zf65 := ((eh17.1 _ _ (fun _ => by decide)).trans esd9.symm)
                have zf66 := ((eh17.1 _ _ (fun q => by omega)).trans esd10.symm)
                refine A_callV6 m_Parts_walkThrough T_ok d_Parts_walkThrough_131 l_Parts_59 k_Parts_walkThrough (xi_s k18.1 sf_9) rfl (by decide +kernel) (by decide) (Nat.le_of_ble_eq_true rfl) (s_Parts_walkThrough_1 k18.1 ta1 (by omega) (by omega) (by omega) (by omega) (by omega) (by omega) (by omega) (by omega) (by omega) (by omega) (by have qq0 := eh17.2.1; have qq1 := ((eh17.1 _ _ (fun _ => by decide)).trans esd9.symm); have qq2 := ((eh17.1 _ _ (fun q => by omega)).trans esd10.symm); exact ⟨by omega, by omega⟩)) (fun r h63 hq => ?_)
                obtain ⟨rfl, xk67, k67⟩ := hq
                have k68 := kF_t k18 k67 (fun _ q => q)
                obtain ⟨sd69, esd69⟩ : ∃ x, x = h63.2.1 9 8 := ⟨_, rfl⟩
                have rsd69 : 0 ≤ sd69 ∧ sd69 ≤ 100000 := (by rw [esd69]; exact xi_g k68.1 (by decide) rgf_9_8)
                obtain ⟨sd70, esd70⟩ : ∃ x, x = h63.2.1 9 10 := ⟨_, rfl⟩
                have rsd70 : 0 ≤ sd70 ∧ sd70 ≤ 100000 := (by rw [esd70]; exact xi_g k68.1 (by decide) rgf_9_10)
                obtain ⟨sd71, esd71⟩ : ∃ x, x = h63.2.1 a1 16 := ⟨_, rfl⟩
                have rsd71 : 0 ≤ sd71 ∧ sd71 ≤ 101 := (by rw [esd71]; exact xi_g k68.1 (lt1_V (tV_V hS ta1)) (rg_V_16 (tV_V hS ta1)))
                refine A_iload d_Parts_walkThrough_134 rfl ?_
                refine A_aload_n 0 d_Parts_walkThrough_136 rfl rfl ?_
                refine A_getAv (z := some 11) T_ok d_Parts_walkThrough_137 f_Parts_15 (xi_s k68.1 sf_9) (xi_r k68.1 rff_9_1) ?_
                refine A_iload d_Parts_walkThrough_140 rfl ?_
                refine A_ialoadn (lo := 0) (hi := 1999) d_Parts_walkThrough_142 (xi_s k68.1 sf_11) (by omega) (by omega) (xi_g k68.1 (by decide) (rgf_11 _)) (fun x73 ex73 _ _ => ?_)
                refine A_pc (pc' := 143) rfl ?_
                refine A_mmax d_Parts_walkThrough_143 lm_Parts_70 ma_max (by decide) (by decide) (Nat.le_of_ble_eq_true rfl) rfl ?_
                refine A_nrI (fun x74 ex74 _ _ => ?_)
                have bx74 := mmax_r ex74
                refine A_istore (L' := [some (av_R (some 9)), some (av_R (some a1)), some (av_I a2), some (av_I a3), some (av_I a4), some (av_L a5), none, some (av_L a6), none, some (av_I x74), some (av_I x20)]) d_Parts_walkThrough_146 (Nat.le_of_ble_eq_true rfl) rfl ?_
                refine A_goto (tgt := 212) d_Parts_walkThrough_148 (by decide) ?_
                refine A_iincv (z := (x74 + 1)) (L' := [some (av_R (some 9)), some (av_R (some a1)), some (av_I a2), some (av_I a3), some (av_I a4), some (av_L a5), none, some (av_L a6), none, some (av_I (x74 + 1)), some (av_I x20)]) d_Parts_walkThrough_212 rfl (w32_to (by omega) (by unfold i32; omega)) rfl ?_
                refine A_goto (tgt := 11) d_Parts_walkThrough_215 (by decide) ?_
                refine A_free (L' := [some (av_R (some 9)), some (av_R (some a1)), some (av_I a2), some (av_I a3), some (av_I a4), some (av_L a5), none, some (av_L a6), none, some (av_I (x74 + 1)), none]) (And.intro rfl (And.intro rfl (And.intro rfl (And.intro rfl (And.intro rfl (And.intro rfl (And.intro rfl (And.intro rfl trivial)))))))) ?_
                exact ih11 (x74 + 1) h63 (by omega) (by omega) (by have qq0 := esd69.symm; have qq1 := esd70.symm; have qq2 := esd71.symm; exact ⟨⟨by omega, by omega⟩, by omega⟩) k68 (by omega)
            · refine A_iload d_Parts_walkThrough_62 rfl ?_
              refine A_aload_n 0 d_Parts_walkThrough_64 rfl rfl ?_
              refine A_aload_n 1 d_Parts_walkThrough_65 rfl rfl ?_
              refine A_iload d_Parts_walkThrough_66 rfl ?_
              refine A_iload d_Parts_walkThrough_68 rfl ?_
              refine A_pc (pc' := 70) rfl ?_
              refine A_lload d_Parts_walkThrough_70 rfl ?_
              refine A_lload d_Parts_walkThrough_72 rfl ?_
              have zf76 := eh17.2.1
              have zf77 := ((eh17.1 _ _ (fun _ => by decide)).trans esd9.symm)
              have zf78 := ((eh17.1 _ _ (fun q => by omega)).trans esd10.symm)
              refine A_callV5 m_Parts_walkRepeat T_ok d_Parts_walkThrough_74 l_Parts_66 k_Parts_walkRepeat (xi_s k18.1 sf_9) rfl (by decide +kernel) (by decide) (Nat.le_of_ble_eq_true rfl) (s_Parts_walkRepeat_0 k18.1 ta1 (by omega) (by omega) (by omega) (by omega) (by omega) (by omega) (by omega) (by omega) (by have qq0 := eh17.2.1; have qq1 := ((eh17.1 _ _ (fun _ => by decide)).trans esd9.symm); have qq2 := ((eh17.1 _ _ (fun q => by omega)).trans esd10.symm); exact ⟨by omega, by omega⟩) (by have qq0 := eh17.2.1; have qq1 := ((eh17.1 _ _ (fun _ => by decide)).trans esd9.symm); omega)) (fun r h75 hq => ?_)
              obtain ⟨x80, rfl, ⟨_, _⟩, xx80, k79⟩ := hq
              have k81 := kF_t k18 k79 (fun _ q => q)
              obtain ⟨sd82, esd82⟩ : ∃ x, x = h75.2.1 9 8 := ⟨_, rfl⟩
              have rsd82 : 0 ≤ sd82 ∧ sd82 ≤ 100000 := (by rw [esd82]; exact xi_g k81.1 (by decide) rgf_9_8)
              obtain ⟨sd83, esd83⟩ : ∃ x, x = h75.2.1 9 10 := ⟨_, rfl⟩
              have rsd83 : 0 ≤ sd83 ∧ sd83 ≤ 100000 := (by rw [esd83]; exact xi_g k81.1 (by decide) rgf_9_10)
              obtain ⟨sd84, esd84⟩ : ∃ x, x = h75.2.1 a1 16 := ⟨_, rfl⟩
              have rsd84 : 0 ≤ sd84 ∧ sd84 ≤ 101 := (by rw [esd84]; exact xi_g k81.1 (lt1_V (tV_V hS ta1)) (rg_V_16 (tV_V hS ta1)))
              refine A_mmax d_Parts_walkThrough_77 lm_Parts_70 ma_max (by decide) (by decide) (Nat.le_of_ble_eq_true rfl) rfl ?_
              refine A_nrI (fun x85 ex85 _ _ => ?_)
              have bx85 := mmax_r ex85
              refine A_istore (L' := [some (av_R (some 9)), some (av_R (some a1)), some (av_I a2), some (av_I a3), some (av_I a4), some (av_L a5), none, some (av_L a6), none, some (av_I x85), some (av_I x20)]) d_Parts_walkThrough_80 (Nat.le_of_ble_eq_true rfl) rfl ?_
              refine A_goto (tgt := 212) d_Parts_walkThrough_82 (by decide) ?_
              refine A_iincv (z := (x85 + 1)) (L' := [some (av_R (some 9)), some (av_R (some a1)), some (av_I a2), some (av_I a3), some (av_I a4), some (av_L a5), none, some (av_L a6), none, some (av_I (x85 + 1)), some (av_I x20)]) d_Parts_walkThrough_212 rfl (w32_to (by omega) (by unfold i32; omega)) rfl ?_
              refine A_goto (tgt := 11) d_Parts_walkThrough_215 (by decide) ?_
              refine A_free (L' := [some (av_R (some 9)), some (av_R (some a1)), some (av_I a2), some (av_I a3), some (av_I a4), some (av_L a5), none, some (av_L a6), none, some (av_I (x85 + 1)), none]) (And.intro rfl (And.intro rfl (And.intro rfl (And.intro rfl (And.intro rfl (And.intro rfl (And.intro rfl (And.intro rfl trivial)))))))) ?_
              exact ih11 (x85 + 1) h75 (by omega) (by omega) (by have qq0 := esd82.symm; have qq1 := esd83.symm; have qq2 := esd84.symm; exact ⟨⟨by omega, by omega⟩, by omega⟩) k81 (by omega)
  exact lp11 _ a2 h (by omega) (by omega) (by have qq0 := esd1.symm; have qq1 := esd2.symm; have qq2 := esd3.symm; exact ⟨⟨by omega, by omega⟩, by omega⟩) k0 (Nat.lt_succ_self _)
theorem s_Parts_walkInto {G : cx_T} {s : Nat} {h : ah_T} (hx : xi s h) {a1 : Nat} (ta1 : tV s a1) : con G 21 0 0 m_Parts_walkInto [av_R (some 9), av_R (some a1)] h (fun r h' => ∃ z, r = some (av_I z) ∧ (0 ≤ z ∧ z ≤ 6) ∧ kF (FB s) s h h') := by
  refine con_of (L := [some (av_R (some 9)), some (av_R (some a1))]) (by decide +kernel) (Nat.le_of_ble_eq_true rfl) rfl ?_
  have hS : isS s := hx.2.1
  have hs0 : s = 17 ∨ s = 80 := hS
  have hs0b : 17 ≤ s ∧ s ≤ 80 := by omega
  have k0 : kF (FB s) s h h := kF_0 hx
  have ga1 : a1 = s + 7 ∨ a1 = s + 21 ∨ a1 = s + 35 ∨ a1 = s + 49 := ta1
  have ga1b : s + 7 ≤ a1 ∧ a1 ≤ s + 49 := by omega
  obtain ⟨sd1, esd1⟩ : ∃ x, x = h.2.1 9 8 := ⟨_, rfl⟩
  have rsd1 : 0 ≤ sd1 ∧ sd1 ≤ 100000 := (by rw [esd1]; exact xi_g k0.1 (by decide) rgf_9_8)
  obtain ⟨sd2, esd2⟩ : ∃ x, x = h.2.1 9 10 := ⟨_, rfl⟩
  have rsd2 : 0 ≤ sd2 ∧ sd2 ≤ 100000 := (by rw [esd2]; exact xi_g k0.1 (by decide) rgf_9_10)
  obtain ⟨sd3, esd3⟩ : ∃ x, x = h.2.1 a1 16 := ⟨_, rfl⟩
  have rsd3 : 0 ≤ sd3 ∧ sd3 ≤ 101 := (by rw [esd3]; exact xi_g k0.1 (lt1_V (tV_V hS ta1)) (rg_V_16 (tV_V hS ta1)))
  refine A_aload_n 1 d_Parts_walkInto_0 rfl rfl ?_
  have zf5 := esd1.symm
  have zf6 := esd2.symm
  have zf7 := esd3.symm
  refine A_callV0 m_Voice_beginWalk T_ok d_Parts_walkInto_1 l_Parts_41 k_Voice_beginWalk (xs_V k0.1 (tV_V hS ta1)) rfl (by decide +kernel) (by decide) (Nat.le_of_ble_eq_true rfl) (s_Voice_beginWalk k0.1 ta1) (fun r h4 hq => ?_)
  obtain ⟨rfl, xk8, k8⟩ := hq
  have k9 := kF_t k0 k8 (fun _ q => q)
  obtain ⟨sd10, esd10⟩ : ∃ x, x = h4.2.1 9 8 := ⟨_, rfl⟩
  have rsd10 : 0 ≤ sd10 ∧ sd10 ≤ 100000 := (by rw [esd10]; exact xi_g k9.1 (by decide) rgf_9_8)
  obtain ⟨sd11, esd11⟩ : ∃ x, x = h4.2.1 9 10 := ⟨_, rfl⟩
  have rsd11 : 0 ≤ sd11 ∧ sd11 ≤ 100000 := (by rw [esd11]; exact xi_g k9.1 (by decide) rgf_9_10)
  obtain ⟨sd12, esd12⟩ : ∃ x, x = h4.2.1 a1 16 := ⟨_, rfl⟩
  have rsd12 : 0 ≤ sd12 ∧ sd12 ≤ 101 := (by rw [esd12]; exact xi_g k9.1 (lt1_V (tV_V hS ta1)) (rg_V_16 (tV_V hS ta1)))
  refine A_aload_n 0 d_Parts_walkInto_4 rfl rfl ?_
  refine A_iconst d_Parts_walkInto_5 rfl ?_
  refine A_putIk (KR := kF (FB s) s h) T_ok d_Parts_walkInto_6 f_Parts_46 (xi_s k9.1 sf_9) fin_f (kF_j k9 (by omega) (ns_b rfl) rgf_9_8 (by omega) (by omega)) (fun h13 k14 eh13 => ?_)
  refine A_aload_n 0 d_Parts_walkInto_9 rfl rfl ?_
  refine A_iconst d_Parts_walkInto_10 rfl ?_
  refine A_pc (pc' := 11) rfl ?_
  refine A_putIk (KR := kF (FB s) s h) T_ok d_Parts_walkInto_11 f_Parts_49 (xi_s k14.1 sf_9) fin_f (kF_j k14 (by omega) (ns_b rfl) rgf_9_9 (by omega) (by omega)) (fun h15 k16 eh15 => ?_)
  refine A_aload_n 0 d_Parts_walkInto_14 rfl rfl ?_
  refine A_iconst d_Parts_walkInto_15 rfl ?_
  refine A_putIk (KR := kF (FB s) s h) T_ok d_Parts_walkInto_16 f_Parts_52 (xi_s k16.1 sf_9) fin_f (kF_j k16 (by omega) (ns_b rfl) rgf_9_10 (by omega) (by omega)) (fun h17 k18 eh17 => ?_)
  refine A_aload_n 0 d_Parts_walkInto_19 rfl rfl ?_
  refine A_iconst d_Parts_walkInto_20 rfl ?_
  refine A_pc (pc' := 21) rfl ?_
  refine A_putZk (KR := kF (FB s) s h) T_ok d_Parts_walkInto_21 f_Parts_55 (xi_s k18.1 sf_9) fin_f (by omega) (kF_j k18 (by omega) (ns_b rfl) rgf_9_11 (by omega) (by omega)) (fun h19 k20 eh19 => ?_)
  refine A_aload_n 0 d_Parts_walkInto_24 rfl rfl ?_
  refine A_aload_n 1 d_Parts_walkInto_25 rfl rfl ?_
  refine A_iconst d_Parts_walkInto_26 rfl ?_
  refine A_aload_n 0 d_Parts_walkInto_27 rfl rfl ?_
  refine A_getIn (lo := 0) (hi := 2000) T_ok d_Parts_walkInto_28 f_Parts_30 (xi_s k20.1 sf_9) (xi_g k20.1 (by decide) rgf_9_4) (fun x21 ex21 _ _ => ?_)
  refine A_pc (pc' := 31) rfl ?_
  refine A_iconst d_Parts_walkInto_31 rfl ?_
  refine A_lconst_1 d_Parts_walkInto_32 ?_
  refine A_lconst_1 d_Parts_walkInto_33 ?_
  have zf23 := ((eh19.1 _ _ (fun _ => by decide)).trans ((eh17.1 _ _ (fun _ => by decide)).trans ((eh15.1 _ _ (fun _ => by decide)).trans eh13.2.1)))
  have zf24 := ((eh19.1 _ _ (fun _ => by decide)).trans eh17.2.1)
  have zf25 := ((eh19.1 _ _ (fun q => by omega)).trans ((eh17.1 _ _ (fun q => by omega)).trans ((eh15.1 _ _ (fun q => by omega)).trans ((eh13.1 _ _ (fun q => by omega)).trans esd12.symm))))
  refine A_callV6 m_Parts_walkThrough T_ok d_Parts_walkInto_34 l_Parts_59 k_Parts_walkThrough (xi_s k20.1 sf_9) rfl (by decide +kernel) (by decide) (Nat.le_of_ble_eq_true rfl) (s_Parts_walkThrough_0 k20.1 ta1 (by omega) (by omega) (by omega) (by omega) (by omega) (by omega) (by omega) (by omega) (by omega) (by omega) (by have qq0 := ((eh19.1 _ _ (fun _ => by decide)).trans ((eh17.1 _ _ (fun _ => by decide)).trans ((eh15.1 _ _ (fun _ => by decide)).trans eh13.2.1))); have qq1 := ((eh19.1 _ _ (fun _ => by decide)).trans eh17.2.1); have qq2 := ((eh19.1 _ _ (fun q => by omega)).trans ((eh17.1 _ _ (fun q => by omega)).trans ((eh15.1 _ _ (fun q => by omega)).trans ((eh13.1 _ _ (fun q => by omega)).trans esd12.symm)))); exact ⟨by omega, by omega⟩)) (fun r h22 hq => ?_)
  obtain ⟨rfl, xk26, k26⟩ := hq
  have k27 := kF_t k20 k26 (fun _ q => q)
  obtain ⟨sd28, esd28⟩ : ∃ x, x = h22.2.1 9 8 := ⟨_, rfl⟩
  have rsd28 : 0 ≤ sd28 ∧ sd28 ≤ 100000 := (by rw [esd28]; exact xi_g k27.1 (by decide) rgf_9_8)
  obtain ⟨sd29, esd29⟩ : ∃ x, x = h22.2.1 9 10 := ⟨_, rfl⟩
  have rsd29 : 0 ≤ sd29 ∧ sd29 ≤ 100000 := (by rw [esd29]; exact xi_g k27.1 (by decide) rgf_9_10)
  obtain ⟨sd30, esd30⟩ : ∃ x, x = h22.2.1 a1 16 := ⟨_, rfl⟩
  have rsd30 : 0 ≤ sd30 ∧ sd30 ≤ 101 := (by rw [esd30]; exact xi_g k27.1 (lt1_V (tV_V hS ta1)) (rg_V_16 (tV_V hS ta1)))
  refine A_aload_n 1 d_Parts_walkInto_37 rfl rfl ?_
  have zf32 := esd28.symm
  have zf33 := esd29.symm
  have zf34 := esd30.symm
  refine A_callV0 m_Voice_endWalk T_ok d_Parts_walkInto_38 l_Parts_63 k_Voice_endWalk (xs_V k27.1 (tV_V hS ta1)) rfl (by decide +kernel) (by decide) (Nat.le_of_ble_eq_true rfl) (s_Voice_endWalk k27.1 ta1) (fun r h31 hq => ?_)
  obtain ⟨rfl, k35⟩ := hq
  have k36 := kF_t k27 k35 (fun _ q => q)
  obtain ⟨sd37, esd37⟩ : ∃ x, x = h31.2.1 9 8 := ⟨_, rfl⟩
  have rsd37 : 0 ≤ sd37 ∧ sd37 ≤ 100000 := (by rw [esd37]; exact xi_g k36.1 (by decide) rgf_9_8)
  obtain ⟨sd38, esd38⟩ : ∃ x, x = h31.2.1 9 10 := ⟨_, rfl⟩
  have rsd38 : 0 ≤ sd38 ∧ sd38 ≤ 100000 := (by rw [esd38]; exact xi_g k36.1 (by decide) rgf_9_10)
  obtain ⟨sd39, esd39⟩ : ∃ x, x = h31.2.1 a1 16 := ⟨_, rfl⟩
  have rsd39 : 0 ≤ sd39 ∧ sd39 ≤ 101 := (by rw [esd39]; exact xi_g k36.1 (lt1_V (tV_V hS ta1)) (rg_V_16 (tV_V hS ta1)))
  refine A_aload_n 0 d_Parts_walkInto_41 rfl rfl ?_
  refine A_getIv (z := sd37) T_ok d_Parts_walkInto_42 f_Parts_46 (xi_s k36.1 sf_9) esd37.symm ?_
  refine A_sipush d_Parts_walkInto_45 rfl ?_
  refine A_icmp_gt (tgt := 70) d_Parts_walkInto_48 (by decide) (fun c41 => ?_) (fun c41 => ?_)
  · refine A_iconst d_Parts_walkInto_70 rfl ?_
    exact A_iret d_Parts_walkInto_71 (by decide) rfl ⟨_, rfl, ⟨by omega, by omega⟩, k36⟩
  · refine A_aload_n 0 d_Parts_walkInto_51 rfl rfl ?_
    refine A_getIf T_ok d_Parts_walkInto_52 f_Parts_49 (xi_s k36.1 sf_9) (fun x42 ex42 _ _ => ?_)
    refine A_sipush d_Parts_walkInto_55 rfl ?_
    refine A_icmp_gt (tgt := 70) d_Parts_walkInto_58 (by decide) (fun c43 => ?_) (fun c43 => ?_)
    · refine A_iconst d_Parts_walkInto_70 rfl ?_
      exact A_iret d_Parts_walkInto_71 (by decide) rfl ⟨_, rfl, ⟨by omega, by omega⟩, k36⟩
    · refine A_aload_n 0 d_Parts_walkInto_61 rfl rfl ?_
      refine A_getIv (z := sd38) T_ok d_Parts_walkInto_62 f_Parts_52 (xi_s k36.1 sf_9) esd38.symm ?_
      refine A_bipush d_Parts_walkInto_65 rfl ?_
      refine A_icmp_le (tgt := 72) d_Parts_walkInto_67 (by decide) (fun c45 => ?_) (fun c45 => ?_)
      · refine A_aload_n 0 d_Parts_walkInto_72 rfl rfl ?_
        refine A_getZn T_ok d_Parts_walkInto_73 f_Parts_55 (xi_s k36.1 sf_9) (fun x46 ex46 bx46 => ?_)
        refine A_if_eq (tgt := 83) d_Parts_walkInto_76 (by decide) (fun c47 => ?_) (fun c47 => ?_)
        · refine A_bipush d_Parts_walkInto_83 rfl ?_
          exact A_iret d_Parts_walkInto_85 (by decide) rfl ⟨_, rfl, ⟨by omega, by omega⟩, k36⟩
        · refine A_iconst d_Parts_walkInto_79 rfl ?_
          refine A_goto (tgt := 85) d_Parts_walkInto_80 (by decide) ?_
          exact A_iret d_Parts_walkInto_85 (by decide) rfl ⟨_, rfl, ⟨by omega, by omega⟩, k36⟩
      · refine A_iconst d_Parts_walkInto_70 rfl ?_
        exact A_iret d_Parts_walkInto_71 (by decide) rfl ⟨_, rfl, ⟨by omega, by omega⟩, k36⟩
