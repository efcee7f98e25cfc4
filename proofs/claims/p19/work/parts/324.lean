/-! ===== the reference's methods, 324 ===== -/
def m_MD_want : mr_T := (⟨"PlainMusicModel", "want", "(I)Z"⟩, prog_14_method_17_code, 2, some .boolean)
theorem d_MD_want_0 : decode prog_14_method_17_code 0 = .ok (.aload_n 0, 1) := by decide +kernel
theorem d_MD_want_1 : decode prog_14_method_17_code 1 = .ok (.iload_n 1, 1) := by decide +kernel
theorem d_MD_want_2 : decode prog_14_method_17_code 2 = .ok (.invokevirtual 306, 3) := by decide +kernel
theorem k_MD_isSign : mt_OK m_MD_isSign 1 1 := ⟨gwi_1897, gwi_146, ⟨by decide +kernel, by decide +kernel, by decide +kernel⟩, fun h => absurd h (by decide), fun _ => ⟨gwi_1896, gwi_74⟩, fun h => absurd h (by decide)⟩
theorem l_MD_306 : ml_OK "PlainMusicModel" 306 ⟨"PlainMusicModel", "isSign", "(I)Z"⟩ := Or.inl gwi_1894
theorem d_MD_want_5 : decode prog_14_method_17_code 5 = .ok (.ifCond .eq 10, 3) := by decide +kernel
theorem d_MD_want_15 : decode prog_14_method_17_code 15 = .ok (.aload_n 0, 1) := by decide +kernel
theorem d_MD_want_16 : decode prog_14_method_17_code 16 = .ok (.invokevirtual 313, 3) := by decide +kernel
theorem k_MD_cant : mt_OK m_MD_cant 0 1 := ⟨gwi_1889, gwi_146, ⟨by decide +kernel, by decide +kernel, by decide +kernel⟩, fun h => absurd h (by decide), fun _ => ⟨gwi_1888, gwi_72⟩, fun h => absurd h (by decide)⟩
theorem l_MD_313 : ml_OK "PlainMusicModel" 313 ⟨"PlainMusicModel", "cant", "()Z"⟩ := Or.inl gwi_1886
theorem d_MD_want_19 : decode prog_14_method_17_code 19 = .ok (.ireturn, 1) := by decide +kernel
theorem d_MD_want_8 : decode prog_14_method_17_code 8 = .ok (.aload_n 0, 1) := by decide +kernel
theorem d_MD_want_9 : decode prog_14_method_17_code 9 = .ok (.invokevirtual 309, 3) := by decide +kernel
theorem k_MD_next : mt_OK m_MD_next 0 1 := ⟨gwi_1839, gwi_146, ⟨by decide +kernel, by decide +kernel, by decide +kernel⟩, fun h => absurd h (by decide), fun _ => ⟨gwi_1838, gwi_61⟩, fun h => absurd h (by decide)⟩
theorem l_MD_309 : ml_OK "PlainMusicModel" 309 ⟨"PlainMusicModel", "next", "()Z"⟩ := Or.inl gwi_1836
theorem d_MD_want_12 : decode prog_14_method_17_code 12 = .ok (.goto 7, 3) := by decide +kernel
def m_MD_isPower : mr_T := (⟨"PlainMusicModel", "isPower", "(II)Z"⟩, prog_14_method_18_code, 3, some .boolean)
theorem d_MD_isPower_0 : decode prog_14_method_18_code 0 = .ok (.iload_n 1, 1) := by decide +kernel
theorem d_MD_isPower_1 : decode prog_14_method_18_code 1 = .ok (.iconst 1, 1) := by decide +kernel
theorem d_MD_isPower_2 : decode prog_14_method_18_code 2 = .ok (.if_icmp .lt 20, 3) := by decide +kernel
theorem d_MD_isPower_22 : decode prog_14_method_18_code 22 = .ok (.iconst 0, 1) := by decide +kernel
theorem d_MD_isPower_23 : decode prog_14_method_18_code 23 = .ok (.ireturn, 1) := by decide +kernel
theorem d_MD_isPower_5 : decode prog_14_method_18_code 5 = .ok (.iload_n 1, 1) := by decide +kernel
theorem d_MD_isPower_6 : decode prog_14_method_18_code 6 = .ok (.iload_n 2, 1) := by decide +kernel
theorem d_MD_isPower_7 : decode prog_14_method_18_code 7 = .ok (.if_icmp .gt 15, 3) := by decide +kernel
theorem d_MD_isPower_10 : decode prog_14_method_18_code 10 = .ok (.iload_n 1, 1) := by decide +kernel
theorem d_MD_isPower_11 : decode prog_14_method_18_code 11 = .ok (.iload_n 1, 1) := by decide +kernel
theorem d_MD_isPower_12 : decode prog_14_method_18_code 12 = .ok (.iconst 1, 1) := by decide +kernel
theorem d_MD_isPower_13 : decode prog_14_method_18_code 13 = .ok (.isub, 1) := by decide +kernel
theorem d_MD_isPower_14 : decode prog_14_method_18_code 14 = .ok (.iand, 1) := by decide +kernel
theorem d_MD_isPower_15 : decode prog_14_method_18_code 15 = .ok (.ifCond .ne 7, 3) := by decide +kernel
theorem d_MD_isPower_18 : decode prog_14_method_18_code 18 = .ok (.iconst 1, 1) := by decide +kernel
theorem d_MD_isPower_19 : decode prog_14_method_18_code 19 = .ok (.goto 4, 3) := by decide +kernel
def m_MD_timeItem : mr_T := (⟨"PlainMusicModel", "timeItem", "()Z"⟩, prog_14_method_20_code, 1, some .boolean)
theorem d_MD_timeItem_0 : decode prog_14_method_20_code 0 = .ok (.aload_n 0, 1) := by decide +kernel
theorem d_MD_timeItem_1 : decode prog_14_method_20_code 1 = .ok (.getfield 316, 3) := by decide +kernel
theorem f_MD_316 : fl_OK "PlainMusicModel" 316 12 59 .boolean false := ⟨_, rfl, by decide, gwi_1541, rfl, rfl⟩
theorem d_MD_timeItem_4 : decode prog_14_method_20_code 4 = .ok (.ifCond .eq 13, 3) := by decide +kernel
theorem d_MD_timeItem_17 : decode prog_14_method_20_code 17 = .ok (.aload_n 0, 1) := by decide +kernel
theorem d_MD_timeItem_18 : decode prog_14_method_20_code 18 = .ok (.iconst 1, 1) := by decide +kernel
theorem d_MD_timeItem_19 : decode prog_14_method_20_code 19 = .ok (.putfield 316, 3) := by decide +kernel
theorem mr_170_59 : mr 170 59 = ((-2147483648), 2147483647) := by decide +kernel
theorem d_MD_timeItem_22 : decode prog_14_method_20_code 22 = .ok (.aload_n 0, 1) := by decide +kernel
theorem d_MD_timeItem_23 : decode prog_14_method_20_code 23 = .ok (.invokevirtual 309, 3) := by decide +kernel
theorem d_MD_timeItem_26 : decode prog_14_method_20_code 26 = .ok (.pop, 1) := by decide +kernel
theorem d_MD_timeItem_27 : decode prog_14_method_20_code 27 = .ok (.aload_n 0, 1) := by decide +kernel
theorem d_MD_timeItem_28 : decode prog_14_method_20_code 28 = .ok (.getfield 239, 3) := by decide +kernel
theorem d_MD_timeItem_31 : decode prog_14_method_20_code 31 = .ok (.iconst 3, 1) := by decide +kernel
theorem d_MD_timeItem_32 : decode prog_14_method_20_code 32 = .ok (.if_icmp .eq 8, 3) := by decide +kernel
theorem d_MD_timeItem_40 : decode prog_14_method_20_code 40 = .ok (.aload_n 0, 1) := by decide +kernel
theorem d_MD_timeItem_41 : decode prog_14_method_20_code 41 = .ok (.getfield 271, 3) := by decide +kernel
theorem d_MD_timeItem_44 : decode prog_14_method_20_code 44 = .ok (.iconst 1, 1) := by decide +kernel
theorem d_MD_timeItem_45 : decode prog_14_method_20_code 45 = .ok (.if_icmp .lt 12, 3) := by decide +kernel
theorem d_MD_timeItem_57 : decode prog_14_method_20_code 57 = .ok (.aload_n 0, 1) := by decide +kernel
theorem d_MD_timeItem_58 : decode prog_14_method_20_code 58 = .ok (.iconst 5, 1) := by decide +kernel
theorem d_MD_timeItem_59 : decode prog_14_method_20_code 59 = .ok (.aload_n 0, 1) := by decide +kernel
theorem d_MD_timeItem_60 : decode prog_14_method_20_code 60 = .ok (.getfield 242, 3) := by decide +kernel
theorem d_MD_timeItem_63 : decode prog_14_method_20_code 63 = .ok (.invokevirtual 245, 3) := by decide +kernel
theorem d_MD_timeItem_66 : decode prog_14_method_20_code 66 = .ok (.ireturn, 1) := by decide +kernel
theorem d_MD_timeItem_48 : decode prog_14_method_20_code 48 = .ok (.aload_n 0, 1) := by decide +kernel
theorem d_MD_timeItem_49 : decode prog_14_method_20_code 49 = .ok (.getfield 271, 3) := by decide +kernel
theorem d_MD_timeItem_52 : decode prog_14_method_20_code 52 = .ok (.bipush 32, 2) := by decide +kernel
theorem d_MD_timeItem_54 : decode prog_14_method_20_code 54 = .ok (.if_icmp .le 13, 3) := by decide +kernel
theorem d_MD_timeItem_67 : decode prog_14_method_20_code 67 = .ok (.aload_n 0, 1) := by decide +kernel
theorem d_MD_timeItem_68 : decode prog_14_method_20_code 68 = .ok (.getfield 20, 3) := by decide +kernel
theorem rfm_15 : (15, 173) ∈ mf_L := by decide +kernel
theorem d_MD_timeItem_71 : decode prog_14_method_20_code 71 = .ok (.iconst 1, 1) := by decide +kernel
theorem d_MD_timeItem_72 : decode prog_14_method_20_code 72 = .ok (.aload_n 0, 1) := by decide +kernel
theorem d_MD_timeItem_73 : decode prog_14_method_20_code 73 = .ok (.getfield 271, 3) := by decide +kernel
theorem d_MD_timeItem_76 : decode prog_14_method_20_code 76 = .ok (.iastore, 1) := by decide +kernel
theorem sf_173 : sh_L[173]? = some (0, 2) := by decide +kernel
theorem mr_173 (k : Nat) : mr 173 k = (0, 32) := rfl
theorem d_MD_timeItem_77 : decode prog_14_method_20_code 77 = .ok (.aload_n 0, 1) := by decide +kernel
theorem d_MD_timeItem_78 : decode prog_14_method_20_code 78 = .ok (.invokevirtual 309, 3) := by decide +kernel
theorem d_MD_timeItem_81 : decode prog_14_method_20_code 81 = .ok (.pop, 1) := by decide +kernel
theorem d_MD_timeItem_82 : decode prog_14_method_20_code 82 = .ok (.aload_n 0, 1) := by decide +kernel
theorem d_MD_timeItem_83 : decode prog_14_method_20_code 83 = .ok (.bipush 47, 2) := by decide +kernel
theorem d_MD_timeItem_85 : decode prog_14_method_20_code 85 = .ok (.invokevirtual 344, 3) := by decide +kernel
theorem k_MD_want : mt_OK m_MD_want 1 1 := ⟨gwi_1893, gwi_146, ⟨by decide +kernel, by decide +kernel, by decide +kernel⟩, fun h => absurd h (by decide), fun _ => ⟨gwi_1892, gwi_73⟩, fun h => absurd h (by decide)⟩
theorem l_MD_344 : ml_OK "PlainMusicModel" 344 ⟨"PlainMusicModel", "want", "(I)Z"⟩ := Or.inl gwi_1890
theorem d_MD_timeItem_88 : decode prog_14_method_20_code 88 = .ok (.ifCond .ne 5, 3) := by decide +kernel
theorem d_MD_timeItem_93 : decode prog_14_method_20_code 93 = .ok (.aload_n 0, 1) := by decide +kernel
theorem d_MD_timeItem_94 : decode prog_14_method_20_code 94 = .ok (.getfield 239, 3) := by decide +kernel
theorem d_MD_timeItem_97 : decode prog_14_method_20_code 97 = .ok (.iconst 3, 1) := by decide +kernel
theorem d_MD_timeItem_98 : decode prog_14_method_20_code 98 = .ok (.if_icmp .eq 8, 3) := by decide +kernel
theorem d_MD_timeItem_106 : decode prog_14_method_20_code 106 = .ok (.aload_n 0, 1) := by decide +kernel
theorem d_MD_timeItem_107 : decode prog_14_method_20_code 107 = .ok (.aload_n 0, 1) := by decide +kernel
theorem d_MD_timeItem_108 : decode prog_14_method_20_code 108 = .ok (.getfield 271, 3) := by decide +kernel
theorem d_MD_timeItem_111 : decode prog_14_method_20_code 111 = .ok (.bipush 32, 2) := by decide +kernel
theorem d_MD_timeItem_113 : decode prog_14_method_20_code 113 = .ok (.invokevirtual 347, 3) := by decide +kernel
theorem k_MD_isPower : mt_OK m_MD_isPower 2 1 := ⟨gwi_1901, gwi_146, ⟨by decide +kernel, by decide +kernel, by decide +kernel⟩, fun h => absurd h (by decide), fun _ => ⟨gwi_1900, gwi_75⟩, fun h => absurd h (by decide)⟩
theorem l_MD_347 : ml_OK "PlainMusicModel" 347 ⟨"PlainMusicModel", "isPower", "(II)Z"⟩ := Or.inl gwi_1898
theorem d_MD_timeItem_116 : decode prog_14_method_20_code 116 = .ok (.ifCond .ne 13, 3) := by decide +kernel
theorem d_MD_timeItem_129 : decode prog_14_method_20_code 129 = .ok (.aload_n 0, 1) := by decide +kernel
theorem d_MD_timeItem_130 : decode prog_14_method_20_code 130 = .ok (.getfield 23, 3) := by decide +kernel
theorem rfm_16 : (16, 174) ∈ mf_L := by decide +kernel
theorem d_MD_timeItem_133 : decode prog_14_method_20_code 133 = .ok (.iconst 1, 1) := by decide +kernel
theorem d_MD_timeItem_134 : decode prog_14_method_20_code 134 = .ok (.aload_n 0, 1) := by decide +kernel
theorem d_MD_timeItem_135 : decode prog_14_method_20_code 135 = .ok (.getfield 271, 3) := by decide +kernel
theorem d_MD_timeItem_138 : decode prog_14_method_20_code 138 = .ok (.iastore, 1) := by decide +kernel
theorem sf_174 : sh_L[174]? = some (0, 2) := by decide +kernel
theorem mr_174 (k : Nat) : mr 174 k = (0, 32) := rfl
theorem d_MD_timeItem_139 : decode prog_14_method_20_code 139 = .ok (.aload_n 0, 1) := by decide +kernel
theorem d_MD_timeItem_140 : decode prog_14_method_20_code 140 = .ok (.invokevirtual 309, 3) := by decide +kernel
theorem d_MD_timeItem_143 : decode prog_14_method_20_code 143 = .ok (.pop, 1) := by decide +kernel
theorem d_MD_timeItem_144 : decode prog_14_method_20_code 144 = .ok (.aload_n 0, 1) := by decide +kernel
theorem d_MD_timeItem_145 : decode prog_14_method_20_code 145 = .ok (.bipush 59, 2) := by decide +kernel
theorem d_MD_timeItem_147 : decode prog_14_method_20_code 147 = .ok (.invokevirtual 344, 3) := by decide +kernel
theorem d_MD_timeItem_150 : decode prog_14_method_20_code 150 = .ok (.ireturn, 1) := by decide +kernel
theorem d_MD_timeItem_119 : decode prog_14_method_20_code 119 = .ok (.aload_n 0, 1) := by decide +kernel
theorem d_MD_timeItem_120 : decode prog_14_method_20_code 120 = .ok (.iconst 5, 1) := by decide +kernel
theorem d_MD_timeItem_121 : decode prog_14_method_20_code 121 = .ok (.aload_n 0, 1) := by decide +kernel
theorem d_MD_timeItem_122 : decode prog_14_method_20_code 122 = .ok (.getfield 242, 3) := by decide +kernel
theorem d_MD_timeItem_125 : decode prog_14_method_20_code 125 = .ok (.invokevirtual 245, 3) := by decide +kernel
theorem d_MD_timeItem_128 : decode prog_14_method_20_code 128 = .ok (.ireturn, 1) := by decide +kernel
theorem d_MD_timeItem_101 : decode prog_14_method_20_code 101 = .ok (.aload_n 0, 1) := by decide +kernel
theorem d_MD_timeItem_102 : decode prog_14_method_20_code 102 = .ok (.invokevirtual 313, 3) := by decide +kernel
theorem d_MD_timeItem_105 : decode prog_14_method_20_code 105 = .ok (.ireturn, 1) := by decide +kernel
theorem d_MD_timeItem_91 : decode prog_14_method_20_code 91 = .ok (.iconst 0, 1) := by decide +kernel
theorem d_MD_timeItem_92 : decode prog_14_method_20_code 92 = .ok (.ireturn, 1) := by decide +kernel
theorem d_MD_timeItem_35 : decode prog_14_method_20_code 35 = .ok (.aload_n 0, 1) := by decide +kernel
theorem d_MD_timeItem_36 : decode prog_14_method_20_code 36 = .ok (.invokevirtual 313, 3) := by decide +kernel
theorem d_MD_timeItem_39 : decode prog_14_method_20_code 39 = .ok (.ireturn, 1) := by decide +kernel
theorem d_MD_timeItem_7 : decode prog_14_method_20_code 7 = .ok (.aload_n 0, 1) := by decide +kernel
theorem d_MD_timeItem_8 : decode prog_14_method_20_code 8 = .ok (.iconst 4, 1) := by decide +kernel
theorem d_MD_timeItem_9 : decode prog_14_method_20_code 9 = .ok (.aload_n 0, 1) := by decide +kernel
theorem d_MD_timeItem_10 : decode prog_14_method_20_code 10 = .ok (.getfield 242, 3) := by decide +kernel
theorem d_MD_timeItem_13 : decode prog_14_method_20_code 13 = .ok (.invokevirtual 245, 3) := by decide +kernel
theorem d_MD_timeItem_16 : decode prog_14_method_20_code 16 = .ok (.ireturn, 1) := by decide +kernel
def m_MD_lineItem : mr_T := (⟨"PlainMusicModel", "lineItem", "()Z"⟩, prog_14_method_21_code, 1, some .boolean)
theorem d_MD_lineItem_0 : decode prog_14_method_21_code 0 = .ok (.aload_n 0, 1) := by decide +kernel
theorem d_MD_lineItem_1 : decode prog_14_method_21_code 1 = .ok (.getfield 320, 3) := by decide +kernel
theorem f_MD_320 : fl_OK "PlainMusicModel" 320 12 60 .boolean false := ⟨_, rfl, by decide, gwi_1542, rfl, rfl⟩
theorem d_MD_lineItem_4 : decode prog_14_method_21_code 4 = .ok (.ifCond .eq 13, 3) := by decide +kernel
theorem d_MD_lineItem_17 : decode prog_14_method_21_code 17 = .ok (.aload_n 0, 1) := by decide +kernel
theorem d_MD_lineItem_18 : decode prog_14_method_21_code 18 = .ok (.iconst 1, 1) := by decide +kernel
theorem d_MD_lineItem_19 : decode prog_14_method_21_code 19 = .ok (.putfield 320, 3) := by decide +kernel
theorem mr_170_60 : mr 170 60 = ((-2147483648), 2147483647) := by decide +kernel
theorem d_MD_lineItem_22 : decode prog_14_method_21_code 22 = .ok (.aload_n 0, 1) := by decide +kernel
theorem d_MD_lineItem_23 : decode prog_14_method_21_code 23 = .ok (.invokevirtual 309, 3) := by decide +kernel
theorem d_MD_lineItem_26 : decode prog_14_method_21_code 26 = .ok (.pop, 1) := by decide +kernel
theorem d_MD_lineItem_27 : decode prog_14_method_21_code 27 = .ok (.aload_n 0, 1) := by decide +kernel
theorem d_MD_lineItem_28 : decode prog_14_method_21_code 28 = .ok (.getfield 239, 3) := by decide +kernel
theorem d_MD_lineItem_31 : decode prog_14_method_21_code 31 = .ok (.iconst 1, 1) := by decide +kernel
theorem d_MD_lineItem_32 : decode prog_14_method_21_code 32 = .ok (.if_icmp .eq 8, 3) := by decide +kernel
theorem d_MD_lineItem_40 : decode prog_14_method_21_code 40 = .ok (.aload_n 0, 1) := by decide +kernel
theorem d_MD_lineItem_41 : decode prog_14_method_21_code 41 = .ok (.getfield 26, 3) := by decide +kernel
theorem rfm_17 : (17, 175) ∈ mf_L := by decide +kernel
theorem d_MD_lineItem_44 : decode prog_14_method_21_code 44 = .ok (.iconst 1, 1) := by decide +kernel
theorem d_MD_lineItem_45 : decode prog_14_method_21_code 45 = .ok (.iaload, 1) := by decide +kernel
theorem sf_175 : sh_L[175]? = some (0, 2) := by decide +kernel
theorem mr_175 (k : Nat) : mr 175 k = (0, 8) := rfl
theorem d_MD_lineItem_46 : decode prog_14_method_21_code 46 = .ok (.bipush 8, 2) := by decide +kernel
theorem d_MD_lineItem_48 : decode prog_14_method_21_code 48 = .ok (.if_icmp .ne 13, 3) := by decide +kernel
theorem d_MD_lineItem_61 : decode prog_14_method_21_code 61 = .ok (.aload_n 0, 1) := by decide +kernel
theorem d_MD_lineItem_62 : decode prog_14_method_21_code 62 = .ok (.getfield 29, 3) := by decide +kernel
theorem rfm_18 : (18, 176) ∈ mf_L := by decide +kernel
theorem d_MD_lineItem_65 : decode prog_14_method_21_code 65 = .ok (.bipush 8, 2) := by decide +kernel
theorem d_MD_lineItem_67 : decode prog_14_method_21_code 67 = .ok (.aload_n 0, 1) := by decide +kernel
theorem d_MD_lineItem_68 : decode prog_14_method_21_code 68 = .ok (.getfield 26, 3) := by decide +kernel
theorem d_MD_lineItem_71 : decode prog_14_method_21_code 71 = .ok (.iconst 1, 1) := by decide +kernel
theorem d_MD_lineItem_72 : decode prog_14_method_21_code 72 = .ok (.iaload, 1) := by decide +kernel
theorem d_MD_lineItem_73 : decode prog_14_method_21_code 73 = .ok (.iadd, 1) := by decide +kernel
theorem d_MD_lineItem_74 : decode prog_14_method_21_code 74 = .ok (.aload_n 0, 1) := by decide +kernel
theorem d_MD_lineItem_75 : decode prog_14_method_21_code 75 = .ok (.getfield 284, 3) := by decide +kernel
theorem d_MD_lineItem_78 : decode prog_14_method_21_code 78 = .ok (.iastore, 1) := by decide +kernel
theorem sf_176 : sh_L[176]? = some (0, 16) := by decide +kernel
theorem mr_176 (k : Nat) : mr 176 k = ((-2), 109) := rfl
theorem d_MD_lineItem_79 : decode prog_14_method_21_code 79 = .ok (.aload_n 0, 1) := by decide +kernel
theorem d_MD_lineItem_80 : decode prog_14_method_21_code 80 = .ok (.getfield 26, 3) := by decide +kernel
theorem d_MD_lineItem_83 : decode prog_14_method_21_code 83 = .ok (.iconst 1, 1) := by decide +kernel
theorem d_MD_lineItem_84 : decode prog_14_method_21_code 84 = .ok (.dup2, 1) := by decide +kernel
theorem d_MD_lineItem_85 : decode prog_14_method_21_code 85 = .ok (.iaload, 1) := by decide +kernel
theorem d_MD_lineItem_86 : decode prog_14_method_21_code 86 = .ok (.iconst 1, 1) := by decide +kernel
theorem d_MD_lineItem_87 : decode prog_14_method_21_code 87 = .ok (.iadd, 1) := by decide +kernel
theorem d_MD_lineItem_88 : decode prog_14_method_21_code 88 = .ok (.iastore, 1) := by decide +kernel
theorem d_MD_lineItem_89 : decode prog_14_method_21_code 89 = .ok (.aload_n 0, 1) := by decide +kernel
theorem d_MD_lineItem_90 : decode prog_14_method_21_code 90 = .ok (.invokevirtual 309, 3) := by decide +kernel
theorem d_MD_lineItem_93 : decode prog_14_method_21_code 93 = .ok (.pop, 1) := by decide +kernel
theorem d_MD_lineItem_94 : decode prog_14_method_21_code 94 = .ok (.aload_n 0, 1) := by decide +kernel
theorem d_MD_lineItem_95 : decode prog_14_method_21_code 95 = .ok (.bipush 59, 2) := by decide +kernel
theorem d_MD_lineItem_97 : decode prog_14_method_21_code 97 = .ok (.invokevirtual 306, 3) := by decide +kernel
theorem d_MD_lineItem_100 : decode prog_14_method_21_code 100 = .ok (.ifCond .eq (-73), 3) := by decide +kernel
theorem d_MD_lineItem_103 : decode prog_14_method_21_code 103 = .ok (.aload_n 0, 1) := by decide +kernel
theorem d_MD_lineItem_104 : decode prog_14_method_21_code 104 = .ok (.invokevirtual 309, 3) := by decide +kernel
theorem d_MD_lineItem_107 : decode prog_14_method_21_code 107 = .ok (.ireturn, 1) := by decide +kernel
theorem d_MD_lineItem_51 : decode prog_14_method_21_code 51 = .ok (.aload_n 0, 1) := by decide +kernel
theorem d_MD_lineItem_52 : decode prog_14_method_21_code 52 = .ok (.iconst 3, 1) := by decide +kernel
theorem d_MD_lineItem_53 : decode prog_14_method_21_code 53 = .ok (.aload_n 0, 1) := by decide +kernel
theorem d_MD_lineItem_54 : decode prog_14_method_21_code 54 = .ok (.getfield 242, 3) := by decide +kernel
theorem d_MD_lineItem_57 : decode prog_14_method_21_code 57 = .ok (.invokevirtual 245, 3) := by decide +kernel
theorem d_MD_lineItem_60 : decode prog_14_method_21_code 60 = .ok (.ireturn, 1) := by decide +kernel
theorem d_MD_lineItem_35 : decode prog_14_method_21_code 35 = .ok (.aload_n 0, 1) := by decide +kernel
theorem d_MD_lineItem_36 : decode prog_14_method_21_code 36 = .ok (.invokevirtual 313, 3) := by decide +kernel
theorem d_MD_lineItem_39 : decode prog_14_method_21_code 39 = .ok (.ireturn, 1) := by decide +kernel
theorem d_MD_lineItem_7 : decode prog_14_method_21_code 7 = .ok (.aload_n 0, 1) := by decide +kernel
theorem d_MD_lineItem_8 : decode prog_14_method_21_code 8 = .ok (.iconst 4, 1) := by decide +kernel
theorem d_MD_lineItem_9 : decode prog_14_method_21_code 9 = .ok (.aload_n 0, 1) := by decide +kernel
theorem d_MD_lineItem_10 : decode prog_14_method_21_code 10 = .ok (.getfield 242, 3) := by decide +kernel
theorem d_MD_lineItem_13 : decode prog_14_method_21_code 13 = .ok (.invokevirtual 245, 3) := by decide +kernel
theorem d_MD_lineItem_16 : decode prog_14_method_21_code 16 = .ok (.ireturn, 1) := by decide +kernel
def m_MD_nameNumber : mr_T := (⟨"PlainMusicModel", "nameNumber", "()I"⟩, prog_14_method_22_code, 2, some .int)
theorem d_MD_nameNumber_0 : decode prog_14_method_22_code 0 = .ok (.iconst 0, 1) := by decide +kernel
theorem d_MD_nameNumber_1 : decode prog_14_method_22_code 1 = .ok (.istore_n 1, 1) := by decide +kernel
theorem d_MD_nameNumber_2 : decode prog_14_method_22_code 2 = .ok (.iload_n 1, 1) := by decide +kernel
theorem d_MD_nameNumber_3 : decode prog_14_method_22_code 3 = .ok (.aload_n 0, 1) := by decide +kernel
theorem d_MD_nameNumber_4 : decode prog_14_method_22_code 4 = .ok (.getfield 50, 3) := by decide +kernel
theorem rfm_25 : (25, 183) ∈ mf_L := by decide +kernel
theorem d_MD_nameNumber_7 : decode prog_14_method_22_code 7 = .ok (.iconst 1, 1) := by decide +kernel
theorem d_MD_nameNumber_8 : decode prog_14_method_22_code 8 = .ok (.iaload, 1) := by decide +kernel
theorem sf_183 : sh_L[183]? = some (0, 2) := by decide +kernel
theorem mr_183 (k : Nat) : mr 183 k = (0, 16) := rfl
theorem d_MD_nameNumber_9 : decode prog_14_method_22_code 9 = .ok (.if_icmp .ge 28, 3) := by decide +kernel
theorem d_MD_nameNumber_37 : decode prog_14_method_22_code 37 = .ok (.aload_n 0, 1) := by decide +kernel
theorem d_MD_nameNumber_38 : decode prog_14_method_22_code 38 = .ok (.getfield 50, 3) := by decide +kernel
theorem d_MD_nameNumber_41 : decode prog_14_method_22_code 41 = .ok (.iconst 1, 1) := by decide +kernel
theorem d_MD_nameNumber_42 : decode prog_14_method_22_code 42 = .ok (.iaload, 1) := by decide +kernel
theorem d_MD_nameNumber_43 : decode prog_14_method_22_code 43 = .ok (.bipush 16, 2) := by decide +kernel
theorem d_MD_nameNumber_45 : decode prog_14_method_22_code 45 = .ok (.if_icmp .ne 16, 3) := by decide +kernel
theorem d_MD_nameNumber_61 : decode prog_14_method_22_code 61 = .ok (.aload_n 0, 1) := by decide +kernel
theorem d_MD_nameNumber_62 : decode prog_14_method_22_code 62 = .ok (.getfield 53, 3) := by decide +kernel
theorem rfm_26 : (26, 184) ∈ mf_L := by decide +kernel
theorem d_MD_nameNumber_65 : decode prog_14_method_22_code 65 = .ok (.bipush 16, 2) := by decide +kernel
theorem d_MD_nameNumber_67 : decode prog_14_method_22_code 67 = .ok (.aload_n 0, 1) := by decide +kernel
theorem d_MD_nameNumber_68 : decode prog_14_method_22_code 68 = .ok (.getfield 50, 3) := by decide +kernel
theorem d_MD_nameNumber_71 : decode prog_14_method_22_code 71 = .ok (.iconst 1, 1) := by decide +kernel
theorem d_MD_nameNumber_72 : decode prog_14_method_22_code 72 = .ok (.iaload, 1) := by decide +kernel
theorem d_MD_nameNumber_73 : decode prog_14_method_22_code 73 = .ok (.iadd, 1) := by decide +kernel
theorem d_MD_nameNumber_74 : decode prog_14_method_22_code 74 = .ok (.aload_n 0, 1) := by decide +kernel
theorem d_MD_nameNumber_75 : decode prog_14_method_22_code 75 = .ok (.getfield 290, 3) := by decide +kernel
theorem d_MD_nameNumber_78 : decode prog_14_method_22_code 78 = .ok (.lastore, 1) := by decide +kernel
theorem sf_184 : sh_L[184]? = some (1, 32) := by decide +kernel
theorem mq_184 (k : Nat) : mq 184 k = ((-9223372036854775808), 9223372036854775807) := rfl
theorem d_MD_nameNumber_79 : decode prog_14_method_22_code 79 = .ok (.aload_n 0, 1) := by decide +kernel
theorem d_MD_nameNumber_80 : decode prog_14_method_22_code 80 = .ok (.getfield 50, 3) := by decide +kernel
theorem d_MD_nameNumber_83 : decode prog_14_method_22_code 83 = .ok (.iconst 1, 1) := by decide +kernel
theorem d_MD_nameNumber_84 : decode prog_14_method_22_code 84 = .ok (.dup2, 1) := by decide +kernel
theorem d_MD_nameNumber_85 : decode prog_14_method_22_code 85 = .ok (.iaload, 1) := by decide +kernel
theorem d_MD_nameNumber_86 : decode prog_14_method_22_code 86 = .ok (.iconst 1, 1) := by decide +kernel
theorem d_MD_nameNumber_87 : decode prog_14_method_22_code 87 = .ok (.iadd, 1) := by decide +kernel
theorem d_MD_nameNumber_88 : decode prog_14_method_22_code 88 = .ok (.iastore, 1) := by decide +kernel
theorem d_MD_nameNumber_89 : decode prog_14_method_22_code 89 = .ok (.aload_n 0, 1) := by decide +kernel
theorem d_MD_nameNumber_90 : decode prog_14_method_22_code 90 = .ok (.getfield 50, 3) := by decide +kernel
theorem d_MD_nameNumber_93 : decode prog_14_method_22_code 93 = .ok (.iconst 1, 1) := by decide +kernel
theorem d_MD_nameNumber_94 : decode prog_14_method_22_code 94 = .ok (.iaload, 1) := by decide +kernel
theorem d_MD_nameNumber_95 : decode prog_14_method_22_code 95 = .ok (.iconst 1, 1) := by decide +kernel
theorem d_MD_nameNumber_96 : decode prog_14_method_22_code 96 = .ok (.isub, 1) := by decide +kernel
theorem d_MD_nameNumber_97 : decode prog_14_method_22_code 97 = .ok (.ireturn, 1) := by decide +kernel
theorem d_MD_nameNumber_12 : decode prog_14_method_22_code 12 = .ok (.aload_n 0, 1) := by decide +kernel
theorem d_MD_nameNumber_13 : decode prog_14_method_22_code 13 = .ok (.getfield 53, 3) := by decide +kernel
theorem d_MD_nameNumber_16 : decode prog_14_method_22_code 16 = .ok (.bipush 16, 2) := by decide +kernel
theorem d_MD_nameNumber_18 : decode prog_14_method_22_code 18 = .ok (.iload_n 1, 1) := by decide +kernel
theorem d_MD_nameNumber_19 : decode prog_14_method_22_code 19 = .ok (.iadd, 1) := by decide +kernel
theorem d_MD_nameNumber_20 : decode prog_14_method_22_code 20 = .ok (.laload, 1) := by decide +kernel
theorem d_MD_nameNumber_21 : decode prog_14_method_22_code 21 = .ok (.aload_n 0, 1) := by decide +kernel
theorem d_MD_nameNumber_22 : decode prog_14_method_22_code 22 = .ok (.getfield 290, 3) := by decide +kernel
theorem d_MD_nameNumber_25 : decode prog_14_method_22_code 25 = .ok (.lcmp, 1) := by decide +kernel
theorem d_MD_nameNumber_26 : decode prog_14_method_22_code 26 = .ok (.ifCond .ne 5, 3) := by decide +kernel
theorem d_MD_nameNumber_31 : decode prog_14_method_22_code 31 = .ok (.iinc 1 1, 3) := by decide +kernel
theorem d_MD_nameNumber_34 : decode prog_14_method_22_code 34 = .ok (.goto (-32), 3) := by decide +kernel
theorem d_MD_nameNumber_29 : decode prog_14_method_22_code 29 = .ok (.iload_n 1, 1) := by decide +kernel
theorem d_MD_nameNumber_30 : decode prog_14_method_22_code 30 = .ok (.ireturn, 1) := by decide +kernel
theorem d_MD_nameNumber_48 : decode prog_14_method_22_code 48 = .ok (.aload_n 0, 1) := by decide +kernel
theorem d_MD_nameNumber_49 : decode prog_14_method_22_code 49 = .ok (.iconst 3, 1) := by decide +kernel
theorem d_MD_nameNumber_50 : decode prog_14_method_22_code 50 = .ok (.aload_n 0, 1) := by decide +kernel
theorem d_MD_nameNumber_51 : decode prog_14_method_22_code 51 = .ok (.getfield 242, 3) := by decide +kernel
theorem d_MD_nameNumber_54 : decode prog_14_method_22_code 54 = .ok (.invokevirtual 245, 3) := by decide +kernel
theorem d_MD_nameNumber_57 : decode prog_14_method_22_code 57 = .ok (.pop, 1) := by decide +kernel
theorem d_MD_nameNumber_58 : decode prog_14_method_22_code 58 = .ok (.bipush (-2), 2) := by decide +kernel
theorem d_MD_nameNumber_60 : decode prog_14_method_22_code 60 = .ok (.ireturn, 1) := by decide +kernel
def m_MD_ruleItem : mr_T := (⟨"PlainMusicModel", "ruleItem", "()Z"⟩, prog_14_method_23_code, 2, some .boolean)
theorem d_MD_ruleItem_0 : decode prog_14_method_23_code 0 = .ok (.aload_n 0, 1) := by decide +kernel
theorem d_MD_ruleItem_1 : decode prog_14_method_23_code 1 = .ok (.getfield 32, 3) := by decide +kernel
theorem rfm_19 : (19, 177) ∈ mf_L := by decide +kernel
theorem d_MD_ruleItem_4 : decode prog_14_method_23_code 4 = .ok (.iconst 1, 1) := by decide +kernel
theorem d_MD_ruleItem_5 : decode prog_14_method_23_code 5 = .ok (.iaload, 1) := by decide +kernel
theorem sf_177 : sh_L[177]? = some (0, 2) := by decide +kernel
theorem mr_177 (k : Nat) : mr 177 k = (0, 24) := rfl
theorem d_MD_ruleItem_6 : decode prog_14_method_23_code 6 = .ok (.bipush 24, 2) := by decide +kernel
theorem d_MD_ruleItem_8 : decode prog_14_method_23_code 8 = .ok (.if_icmp .ne 13, 3) := by decide +kernel
theorem d_MD_ruleItem_21 : decode prog_14_method_23_code 21 = .ok (.bipush 24, 2) := by decide +kernel
theorem d_MD_ruleItem_23 : decode prog_14_method_23_code 23 = .ok (.aload_n 0, 1) := by decide +kernel
theorem d_MD_ruleItem_24 : decode prog_14_method_23_code 24 = .ok (.getfield 32, 3) := by decide +kernel
theorem d_MD_ruleItem_27 : decode prog_14_method_23_code 27 = .ok (.iconst 1, 1) := by decide +kernel
theorem d_MD_ruleItem_28 : decode prog_14_method_23_code 28 = .ok (.iaload, 1) := by decide +kernel
theorem d_MD_ruleItem_29 : decode prog_14_method_23_code 29 = .ok (.iadd, 1) := by decide +kernel
theorem d_MD_ruleItem_30 : decode prog_14_method_23_code 30 = .ok (.istore_n 1, 1) := by decide +kernel
theorem d_MD_ruleItem_31 : decode prog_14_method_23_code 31 = .ok (.aload_n 0, 1) := by decide +kernel
theorem d_MD_ruleItem_32 : decode prog_14_method_23_code 32 = .ok (.invokevirtual 309, 3) := by decide +kernel
theorem d_MD_ruleItem_35 : decode prog_14_method_23_code 35 = .ok (.pop, 1) := by decide +kernel
theorem d_MD_ruleItem_36 : decode prog_14_method_23_code 36 = .ok (.aload_n 0, 1) := by decide +kernel
theorem d_MD_ruleItem_37 : decode prog_14_method_23_code 37 = .ok (.getfield 239, 3) := by decide +kernel
theorem d_MD_ruleItem_40 : decode prog_14_method_23_code 40 = .ok (.iconst 2, 1) := by decide +kernel
theorem d_MD_ruleItem_41 : decode prog_14_method_23_code 41 = .ok (.if_icmp .eq 8, 3) := by decide +kernel
theorem d_MD_ruleItem_49 : decode prog_14_method_23_code 49 = .ok (.aload_n 0, 1) := by decide +kernel
theorem d_MD_ruleItem_50 : decode prog_14_method_23_code 50 = .ok (.getfield 35, 3) := by decide +kernel
theorem rfm_20 : (20, 178) ∈ mf_L := by decide +kernel
theorem d_MD_ruleItem_53 : decode prog_14_method_23_code 53 = .ok (.iload_n 1, 1) := by decide +kernel
theorem d_MD_ruleItem_54 : decode prog_14_method_23_code 54 = .ok (.aload_n 0, 1) := by decide +kernel
theorem d_MD_ruleItem_55 : decode prog_14_method_23_code 55 = .ok (.invokevirtual 350, 3) := by decide +kernel
theorem k_MD_nameNumber : mt_OK m_MD_nameNumber 0 1 := ⟨gwi_1992, gwi_146, ⟨by decide +kernel, by decide +kernel, by decide +kernel⟩, fun h => absurd h (by decide), fun _ => ⟨gwi_1991, gwi_97⟩, fun h => absurd h (by decide)⟩
theorem l_MD_350 : ml_OK "PlainMusicModel" 350 ⟨"PlainMusicModel", "nameNumber", "()I"⟩ := Or.inl gwi_1989
theorem d_MD_ruleItem_58 : decode prog_14_method_23_code 58 = .ok (.iastore, 1) := by decide +kernel
theorem sf_178 : sh_L[178]? = some (0, 48) := by decide +kernel
theorem mr_178 (k : Nat) : mr 178 k = ((-2), 15) := rfl
theorem d_MD_ruleItem_59 : decode prog_14_method_23_code 59 = .ok (.aload_n 0, 1) := by decide +kernel
theorem d_MD_ruleItem_60 : decode prog_14_method_23_code 60 = .ok (.getfield 35, 3) := by decide +kernel
theorem d_MD_ruleItem_63 : decode prog_14_method_23_code 63 = .ok (.iload_n 1, 1) := by decide +kernel
theorem d_MD_ruleItem_64 : decode prog_14_method_23_code 64 = .ok (.iaload, 1) := by decide +kernel
theorem d_MD_ruleItem_65 : decode prog_14_method_23_code 65 = .ok (.ifCond .ge 5, 3) := by decide +kernel
theorem d_MD_ruleItem_70 : decode prog_14_method_23_code 70 = .ok (.aload_n 0, 1) := by decide +kernel
theorem d_MD_ruleItem_71 : decode prog_14_method_23_code 71 = .ok (.invokevirtual 309, 3) := by decide +kernel
theorem d_MD_ruleItem_74 : decode prog_14_method_23_code 74 = .ok (.pop, 1) := by decide +kernel
theorem d_MD_ruleItem_75 : decode prog_14_method_23_code 75 = .ok (.aload_n 0, 1) := by decide +kernel
theorem d_MD_ruleItem_76 : decode prog_14_method_23_code 76 = .ok (.bipush 61, 2) := by decide +kernel
theorem d_MD_ruleItem_78 : decode prog_14_method_23_code 78 = .ok (.invokevirtual 344, 3) := by decide +kernel
theorem d_MD_ruleItem_81 : decode prog_14_method_23_code 81 = .ok (.ifCond .ne 5, 3) := by decide +kernel
theorem d_MD_ruleItem_86 : decode prog_14_method_23_code 86 = .ok (.aload_n 0, 1) := by decide +kernel
theorem d_MD_ruleItem_87 : decode prog_14_method_23_code 87 = .ok (.getfield 239, 3) := by decide +kernel
theorem d_MD_ruleItem_90 : decode prog_14_method_23_code 90 = .ok (.iconst 2, 1) := by decide +kernel
theorem d_MD_ruleItem_91 : decode prog_14_method_23_code 91 = .ok (.if_icmp .eq 8, 3) := by decide +kernel
theorem d_MD_ruleItem_99 : decode prog_14_method_23_code 99 = .ok (.aload_n 0, 1) := by decide +kernel
theorem d_MD_ruleItem_100 : decode prog_14_method_23_code 100 = .ok (.getfield 38, 3) := by decide +kernel
theorem rfm_21 : (21, 179) ∈ mf_L := by decide +kernel
theorem d_MD_ruleItem_103 : decode prog_14_method_23_code 103 = .ok (.iload_n 1, 1) := by decide +kernel
theorem d_MD_ruleItem_104 : decode prog_14_method_23_code 104 = .ok (.aload_n 0, 1) := by decide +kernel
theorem d_MD_ruleItem_105 : decode prog_14_method_23_code 105 = .ok (.invokevirtual 350, 3) := by decide +kernel
theorem d_MD_ruleItem_108 : decode prog_14_method_23_code 108 = .ok (.iastore, 1) := by decide +kernel
theorem sf_179 : sh_L[179]? = some (0, 48) := by decide +kernel
theorem mr_179 (k : Nat) : mr 179 k = ((-2), 15) := rfl
theorem d_MD_ruleItem_109 : decode prog_14_method_23_code 109 = .ok (.aload_n 0, 1) := by decide +kernel
theorem d_MD_ruleItem_110 : decode prog_14_method_23_code 110 = .ok (.getfield 38, 3) := by decide +kernel
theorem d_MD_ruleItem_113 : decode prog_14_method_23_code 113 = .ok (.iload_n 1, 1) := by decide +kernel
theorem d_MD_ruleItem_114 : decode prog_14_method_23_code 114 = .ok (.iaload, 1) := by decide +kernel
theorem d_MD_ruleItem_115 : decode prog_14_method_23_code 115 = .ok (.ifCond .ge 5, 3) := by decide +kernel
theorem d_MD_ruleItem_120 : decode prog_14_method_23_code 120 = .ok (.aload_n 0, 1) := by decide +kernel
theorem d_MD_ruleItem_121 : decode prog_14_method_23_code 121 = .ok (.getfield 41, 3) := by decide +kernel
theorem rfm_22 : (22, 180) ∈ mf_L := by decide +kernel
theorem d_MD_ruleItem_124 : decode prog_14_method_23_code 124 = .ok (.iload_n 1, 1) := by decide +kernel
theorem d_MD_ruleItem_125 : decode prog_14_method_23_code 125 = .ok (.bipush (-2), 2) := by decide +kernel
theorem d_MD_ruleItem_127 : decode prog_14_method_23_code 127 = .ok (.iastore, 1) := by decide +kernel
theorem sf_180 : sh_L[180]? = some (0, 48) := by decide +kernel
theorem mr_180 (k : Nat) : mr 180 k = ((-2), 15) := rfl
theorem d_MD_ruleItem_128 : decode prog_14_method_23_code 128 = .ok (.aload_n 0, 1) := by decide +kernel
theorem d_MD_ruleItem_129 : decode prog_14_method_23_code 129 = .ok (.invokevirtual 309, 3) := by decide +kernel
theorem d_MD_ruleItem_132 : decode prog_14_method_23_code 132 = .ok (.pop, 1) := by decide +kernel
theorem d_MD_ruleItem_133 : decode prog_14_method_23_code 133 = .ok (.aload_n 0, 1) := by decide +kernel
theorem d_MD_ruleItem_134 : decode prog_14_method_23_code 134 = .ok (.getfield 239, 3) := by decide +kernel
theorem d_MD_ruleItem_137 : decode prog_14_method_23_code 137 = .ok (.iconst 2, 1) := by decide +kernel
theorem d_MD_ruleItem_138 : decode prog_14_method_23_code 138 = .ok (.if_icmp .ne 29, 3) := by decide +kernel
theorem d_MD_ruleItem_167 : decode prog_14_method_23_code 167 = .ok (.aload_n 0, 1) := by decide +kernel
theorem d_MD_ruleItem_168 : decode prog_14_method_23_code 168 = .ok (.getfield 32, 3) := by decide +kernel
theorem d_MD_ruleItem_171 : decode prog_14_method_23_code 171 = .ok (.iconst 1, 1) := by decide +kernel
theorem d_MD_ruleItem_172 : decode prog_14_method_23_code 172 = .ok (.dup2, 1) := by decide +kernel
theorem d_MD_ruleItem_173 : decode prog_14_method_23_code 173 = .ok (.iaload, 1) := by decide +kernel
theorem d_MD_ruleItem_174 : decode prog_14_method_23_code 174 = .ok (.iconst 1, 1) := by decide +kernel
theorem d_MD_ruleItem_175 : decode prog_14_method_23_code 175 = .ok (.iadd, 1) := by decide +kernel
theorem d_MD_ruleItem_176 : decode prog_14_method_23_code 176 = .ok (.iastore, 1) := by decide +kernel
theorem d_MD_ruleItem_177 : decode prog_14_method_23_code 177 = .ok (.aload_n 0, 1) := by decide +kernel
theorem d_MD_ruleItem_178 : decode prog_14_method_23_code 178 = .ok (.bipush 59, 2) := by decide +kernel
theorem d_MD_ruleItem_180 : decode prog_14_method_23_code 180 = .ok (.invokevirtual 344, 3) := by decide +kernel
theorem d_MD_ruleItem_183 : decode prog_14_method_23_code 183 = .ok (.ireturn, 1) := by decide +kernel
theorem d_MD_ruleItem_141 : decode prog_14_method_23_code 141 = .ok (.aload_n 0, 1) := by decide +kernel
theorem d_MD_ruleItem_142 : decode prog_14_method_23_code 142 = .ok (.getfield 41, 3) := by decide +kernel
theorem d_MD_ruleItem_145 : decode prog_14_method_23_code 145 = .ok (.iload_n 1, 1) := by decide +kernel
theorem d_MD_ruleItem_146 : decode prog_14_method_23_code 146 = .ok (.aload_n 0, 1) := by decide +kernel
theorem d_MD_ruleItem_147 : decode prog_14_method_23_code 147 = .ok (.invokevirtual 350, 3) := by decide +kernel
theorem d_MD_ruleItem_150 : decode prog_14_method_23_code 150 = .ok (.iastore, 1) := by decide +kernel
theorem d_MD_ruleItem_151 : decode prog_14_method_23_code 151 = .ok (.aload_n 0, 1) := by decide +kernel
theorem d_MD_ruleItem_152 : decode prog_14_method_23_code 152 = .ok (.getfield 41, 3) := by decide +kernel
theorem d_MD_ruleItem_155 : decode prog_14_method_23_code 155 = .ok (.iload_n 1, 1) := by decide +kernel
theorem d_MD_ruleItem_156 : decode prog_14_method_23_code 156 = .ok (.iaload, 1) := by decide +kernel
theorem d_MD_ruleItem_157 : decode prog_14_method_23_code 157 = .ok (.ifCond .ge 5, 3) := by decide +kernel
theorem d_MD_ruleItem_162 : decode prog_14_method_23_code 162 = .ok (.aload_n 0, 1) := by decide +kernel
theorem d_MD_ruleItem_163 : decode prog_14_method_23_code 163 = .ok (.invokevirtual 309, 3) := by decide +kernel
theorem d_MD_ruleItem_166 : decode prog_14_method_23_code 166 = .ok (.pop, 1) := by decide +kernel
theorem d_MD_ruleItem_160 : decode prog_14_method_23_code 160 = .ok (.iconst 0, 1) := by decide +kernel
theorem d_MD_ruleItem_161 : decode prog_14_method_23_code 161 = .ok (.ireturn, 1) := by decide +kernel
theorem d_MD_ruleItem_118 : decode prog_14_method_23_code 118 = .ok (.iconst 0, 1) := by decide +kernel
theorem d_MD_ruleItem_119 : decode prog_14_method_23_code 119 = .ok (.ireturn, 1) := by decide +kernel
theorem d_MD_ruleItem_94 : decode prog_14_method_23_code 94 = .ok (.aload_n 0, 1) := by decide +kernel
theorem d_MD_ruleItem_95 : decode prog_14_method_23_code 95 = .ok (.invokevirtual 313, 3) := by decide +kernel
theorem d_MD_ruleItem_98 : decode prog_14_method_23_code 98 = .ok (.ireturn, 1) := by decide +kernel
theorem d_MD_ruleItem_84 : decode prog_14_method_23_code 84 = .ok (.iconst 0, 1) := by decide +kernel
theorem d_MD_ruleItem_85 : decode prog_14_method_23_code 85 = .ok (.ireturn, 1) := by decide +kernel
theorem d_MD_ruleItem_68 : decode prog_14_method_23_code 68 = .ok (.iconst 0, 1) := by decide +kernel
theorem d_MD_ruleItem_69 : decode prog_14_method_23_code 69 = .ok (.ireturn, 1) := by decide +kernel
theorem d_MD_ruleItem_44 : decode prog_14_method_23_code 44 = .ok (.aload_n 0, 1) := by decide +kernel
theorem d_MD_ruleItem_45 : decode prog_14_method_23_code 45 = .ok (.invokevirtual 313, 3) := by decide +kernel
theorem d_MD_ruleItem_48 : decode prog_14_method_23_code 48 = .ok (.ireturn, 1) := by decide +kernel
theorem d_MD_ruleItem_11 : decode prog_14_method_23_code 11 = .ok (.aload_n 0, 1) := by decide +kernel
theorem d_MD_ruleItem_12 : decode prog_14_method_23_code 12 = .ok (.iconst 3, 1) := by decide +kernel
theorem d_MD_ruleItem_13 : decode prog_14_method_23_code 13 = .ok (.aload_n 0, 1) := by decide +kernel
theorem d_MD_ruleItem_14 : decode prog_14_method_23_code 14 = .ok (.getfield 242, 3) := by decide +kernel
theorem d_MD_ruleItem_17 : decode prog_14_method_23_code 17 = .ok (.invokevirtual 245, 3) := by decide +kernel
theorem d_MD_ruleItem_20 : decode prog_14_method_23_code 20 = .ok (.ireturn, 1) := by decide +kernel
def m_MD_rowItem : mr_T := (⟨"PlainMusicModel", "rowItem", "()Z"⟩, prog_14_method_24_code, 2, some .boolean)
theorem d_MD_rowItem_0 : decode prog_14_method_24_code 0 = .ok (.aload_n 0, 1) := by decide +kernel
theorem d_MD_rowItem_1 : decode prog_14_method_24_code 1 = .ok (.getfield 323, 3) := by decide +kernel
theorem f_MD_323 : fl_OK "PlainMusicModel" 323 12 61 .boolean false := ⟨_, rfl, by decide, gwi_1543, rfl, rfl⟩
theorem d_MD_rowItem_4 : decode prog_14_method_24_code 4 = .ok (.ifCond .eq 13, 3) := by decide +kernel
theorem d_MD_rowItem_17 : decode prog_14_method_24_code 17 = .ok (.aload_n 0, 1) := by decide +kernel
theorem d_MD_rowItem_18 : decode prog_14_method_24_code 18 = .ok (.iconst 1, 1) := by decide +kernel
theorem d_MD_rowItem_19 : decode prog_14_method_24_code 19 = .ok (.putfield 323, 3) := by decide +kernel
theorem mr_170_61 : mr 170 61 = ((-2147483648), 2147483647) := by decide +kernel
theorem d_MD_rowItem_22 : decode prog_14_method_24_code 22 = .ok (.aload_n 0, 1) := by decide +kernel
theorem d_MD_rowItem_23 : decode prog_14_method_24_code 23 = .ok (.invokevirtual 309, 3) := by decide +kernel
theorem d_MD_rowItem_26 : decode prog_14_method_24_code 26 = .ok (.pop, 1) := by decide +kernel
theorem d_MD_rowItem_27 : decode prog_14_method_24_code 27 = .ok (.aload_n 0, 1) := by decide +kernel
theorem d_MD_rowItem_28 : decode prog_14_method_24_code 28 = .ok (.getfield 239, 3) := by decide +kernel
theorem d_MD_rowItem_31 : decode prog_14_method_24_code 31 = .ok (.iconst 2, 1) := by decide +kernel
theorem d_MD_rowItem_32 : decode prog_14_method_24_code 32 = .ok (.if_icmp .eq 8, 3) := by decide +kernel
theorem d_MD_rowItem_40 : decode prog_14_method_24_code 40 = .ok (.aload_n 0, 1) := by decide +kernel
theorem d_MD_rowItem_41 : decode prog_14_method_24_code 41 = .ok (.getfield 44, 3) := by decide +kernel
theorem rfm_23 : (23, 181) ∈ mf_L := by decide +kernel
theorem d_MD_rowItem_44 : decode prog_14_method_24_code 44 = .ok (.iconst 1, 1) := by decide +kernel
theorem d_MD_rowItem_45 : decode prog_14_method_24_code 45 = .ok (.iaload, 1) := by decide +kernel
theorem sf_181 : sh_L[181]? = some (0, 2) := by decide +kernel
theorem mr_181 (k : Nat) : mr 181 k = (0, 12) := rfl
theorem d_MD_rowItem_46 : decode prog_14_method_24_code 46 = .ok (.bipush 12, 2) := by decide +kernel
theorem d_MD_rowItem_48 : decode prog_14_method_24_code 48 = .ok (.if_icmp .ne 13, 3) := by decide +kernel
theorem d_MD_rowItem_61 : decode prog_14_method_24_code 61 = .ok (.aload_n 0, 1) := by decide +kernel
theorem d_MD_rowItem_62 : decode prog_14_method_24_code 62 = .ok (.invokevirtual 350, 3) := by decide +kernel
theorem d_MD_rowItem_65 : decode prog_14_method_24_code 65 = .ok (.istore_n 1, 1) := by decide +kernel
theorem d_MD_rowItem_66 : decode prog_14_method_24_code 66 = .ok (.iload_n 1, 1) := by decide +kernel
theorem d_MD_rowItem_67 : decode prog_14_method_24_code 67 = .ok (.ifCond .ge 5, 3) := by decide +kernel
theorem d_MD_rowItem_72 : decode prog_14_method_24_code 72 = .ok (.aload_n 0, 1) := by decide +kernel
theorem d_MD_rowItem_73 : decode prog_14_method_24_code 73 = .ok (.getfield 47, 3) := by decide +kernel
theorem rfm_24 : (24, 182) ∈ mf_L := by decide +kernel
theorem d_MD_rowItem_76 : decode prog_14_method_24_code 76 = .ok (.bipush 12, 2) := by decide +kernel
theorem d_MD_rowItem_78 : decode prog_14_method_24_code 78 = .ok (.aload_n 0, 1) := by decide +kernel
theorem d_MD_rowItem_79 : decode prog_14_method_24_code 79 = .ok (.getfield 44, 3) := by decide +kernel
theorem d_MD_rowItem_82 : decode prog_14_method_24_code 82 = .ok (.iconst 1, 1) := by decide +kernel
theorem d_MD_rowItem_83 : decode prog_14_method_24_code 83 = .ok (.iaload, 1) := by decide +kernel
theorem d_MD_rowItem_84 : decode prog_14_method_24_code 84 = .ok (.iadd, 1) := by decide +kernel
theorem d_MD_rowItem_85 : decode prog_14_method_24_code 85 = .ok (.iload_n 1, 1) := by decide +kernel
theorem d_MD_rowItem_86 : decode prog_14_method_24_code 86 = .ok (.iastore, 1) := by decide +kernel
theorem sf_182 : sh_L[182]? = some (0, 24) := by decide +kernel
theorem mr_182 (k : Nat) : mr 182 k = (0, 15) := rfl
theorem d_MD_rowItem_87 : decode prog_14_method_24_code 87 = .ok (.aload_n 0, 1) := by decide +kernel
theorem d_MD_rowItem_88 : decode prog_14_method_24_code 88 = .ok (.getfield 44, 3) := by decide +kernel
theorem d_MD_rowItem_91 : decode prog_14_method_24_code 91 = .ok (.iconst 1, 1) := by decide +kernel
theorem d_MD_rowItem_92 : decode prog_14_method_24_code 92 = .ok (.dup2, 1) := by decide +kernel
theorem d_MD_rowItem_93 : decode prog_14_method_24_code 93 = .ok (.iaload, 1) := by decide +kernel
theorem d_MD_rowItem_94 : decode prog_14_method_24_code 94 = .ok (.iconst 1, 1) := by decide +kernel
theorem d_MD_rowItem_95 : decode prog_14_method_24_code 95 = .ok (.iadd, 1) := by decide +kernel
theorem d_MD_rowItem_96 : decode prog_14_method_24_code 96 = .ok (.iastore, 1) := by decide +kernel
theorem d_MD_rowItem_97 : decode prog_14_method_24_code 97 = .ok (.aload_n 0, 1) := by decide +kernel
theorem d_MD_rowItem_98 : decode prog_14_method_24_code 98 = .ok (.invokevirtual 309, 3) := by decide +kernel
theorem d_MD_rowItem_101 : decode prog_14_method_24_code 101 = .ok (.pop, 1) := by decide +kernel
theorem d_MD_rowItem_102 : decode prog_14_method_24_code 102 = .ok (.aload_n 0, 1) := by decide +kernel
theorem d_MD_rowItem_103 : decode prog_14_method_24_code 103 = .ok (.bipush 59, 2) := by decide +kernel
theorem d_MD_rowItem_105 : decode prog_14_method_24_code 105 = .ok (.invokevirtual 306, 3) := by decide +kernel
theorem d_MD_rowItem_108 : decode prog_14_method_24_code 108 = .ok (.ifCond .eq (-81), 3) := by decide +kernel
theorem d_MD_rowItem_111 : decode prog_14_method_24_code 111 = .ok (.aload_n 0, 1) := by decide +kernel
theorem d_MD_rowItem_112 : decode prog_14_method_24_code 112 = .ok (.invokevirtual 309, 3) := by decide +kernel
theorem d_MD_rowItem_115 : decode prog_14_method_24_code 115 = .ok (.ireturn, 1) := by decide +kernel
theorem d_MD_rowItem_70 : decode prog_14_method_24_code 70 = .ok (.iconst 0, 1) := by decide +kernel
theorem d_MD_rowItem_71 : decode prog_14_method_24_code 71 = .ok (.ireturn, 1) := by decide +kernel
theorem d_MD_rowItem_51 : decode prog_14_method_24_code 51 = .ok (.aload_n 0, 1) := by decide +kernel
theorem d_MD_rowItem_52 : decode prog_14_method_24_code 52 = .ok (.iconst 3, 1) := by decide +kernel
theorem d_MD_rowItem_53 : decode prog_14_method_24_code 53 = .ok (.aload_n 0, 1) := by decide +kernel
theorem d_MD_rowItem_54 : decode prog_14_method_24_code 54 = .ok (.getfield 242, 3) := by decide +kernel
theorem d_MD_rowItem_57 : decode prog_14_method_24_code 57 = .ok (.invokevirtual 245, 3) := by decide +kernel
theorem d_MD_rowItem_60 : decode prog_14_method_24_code 60 = .ok (.ireturn, 1) := by decide +kernel
theorem d_MD_rowItem_35 : decode prog_14_method_24_code 35 = .ok (.aload_n 0, 1) := by decide +kernel
theorem d_MD_rowItem_36 : decode prog_14_method_24_code 36 = .ok (.invokevirtual 313, 3) := by decide +kernel
theorem d_MD_rowItem_39 : decode prog_14_method_24_code 39 = .ok (.ireturn, 1) := by decide +kernel
theorem d_MD_rowItem_7 : decode prog_14_method_24_code 7 = .ok (.aload_n 0, 1) := by decide +kernel
theorem d_MD_rowItem_8 : decode prog_14_method_24_code 8 = .ok (.iconst 4, 1) := by decide +kernel
theorem d_MD_rowItem_9 : decode prog_14_method_24_code 9 = .ok (.aload_n 0, 1) := by decide +kernel
theorem d_MD_rowItem_10 : decode prog_14_method_24_code 10 = .ok (.getfield 242, 3) := by decide +kernel
theorem d_MD_rowItem_13 : decode prog_14_method_24_code 13 = .ok (.invokevirtual 245, 3) := by decide +kernel
theorem d_MD_rowItem_16 : decode prog_14_method_24_code 16 = .ok (.ireturn, 1) := by decide +kernel
theorem s_MD_want {G : cx_T} {h : ah_T} (hx : mi h) {a1 : Int} (hse : h.2.1 170 3 ≤ h.2.1 170 2) : con G 3 0 0 m_MD_want [av_R (some 170), av_I a1] h (fun r h' => ∃ z, r = some (av_I z) ∧ (z = 0 ∨ z = 1) ∧ (z = 1 → h.2.1 170 3 ≤ h'.2.1 170 3 ∧ h'.2.1 170 3 ≤ h.2.1 170 2 ∧ (h'.2.1 170 4 ≠ 0 → h'.2.1 170 4 ≠ 6 → h.2.1 170 3 < h'.2.1 170 3) ∧ (h'.2.1 170 4 = 0 → h'.2.1 170 3 = h.2.1 170 2)) ∧ kM (pm [3, 4, 5, 6, 7, 8, 9, 10, 11, 12] []) h h') := by
  refine con_of (L := [some (av_R (some 170)), some (av_I a1)]) (by decide +kernel) (Nat.le_of_ble_eq_true rfl) rfl ?_
  have k0 : kM (pm [3, 4, 5, 6, 7, 8, 9, 10, 11, 12] []) h h := kM_0 hx
  obtain ⟨sd1, esd1⟩ : ∃ x, x = h.2.1 170 3 := ⟨_, rfl⟩
  have rsd1 : 0 ≤ sd1 ∧ sd1 ≤ 2000 := (by rw [esd1]; exact mi_g k0.1 (by decide) mr_170_3)
  obtain ⟨sd2, esd2⟩ : ∃ x, x = h.2.1 170 2 := ⟨_, rfl⟩
  have rsd2 : 0 ≤ sd2 ∧ sd2 ≤ 2000 := (by rw [esd2]; exact mi_g k0.1 (by decide) mr_170_2)
  refine A_locI 1 rfl (fun ra => ?_)
  obtain ⟨_, _⟩ := ra
  refine A_aload_n 0 d_MD_want_0 rfl rfl ?_
  refine A_iload_n 1 d_MD_want_1 rfl rfl ?_
  have zf4 := esd1.symm
  have zf5 := esd2.symm
  refine A_callV1 m_MD_isSign T_ok d_MD_want_2 l_MD_306 k_MD_isSign (mi_s k0.1 sf_170) rfl (by decide +kernel) (by decide) (Nat.le_of_ble_eq_true rfl) (s_MD_isSign k0.1 ) (fun r h3 hq => ?_)
  obtain ⟨x7, rfl, bx7, xx7, rfl⟩ := hq
  refine A_if_eq (tgt := 15) d_MD_want_5 (by decide) (fun c8 => ?_) (fun c8 => ?_)
  · refine A_aload_n 0 d_MD_want_15 rfl rfl ?_
    have zf10 := esd1.symm
    have zf11 := esd2.symm
    refine A_callV0 m_MD_cant T_ok d_MD_want_16 l_MD_313 k_MD_cant (mi_s k0.1 sf_170) rfl (by decide +kernel) (by decide) (Nat.le_of_ble_eq_true rfl) (s_MD_cant k0.1 ) (fun r h9 hq => ?_)
    obtain ⟨x13, rfl, ⟨_, _⟩, k12⟩ := hq
    have k14 := kM_t k0 k12 (pm_s (by decide) (by decide))
    obtain rfl : x13 = 0 := by omega
    exact A_zret d_MD_want_19 (by decide) rfl (by omega) ⟨_, rfl, by omega, (fun _ => by have qq0 := ((k12.2.2.1 _ _ rfl).trans esd1.symm); have qq1 := ((k12.2.2.1 _ _ rfl).trans esd2.symm); exact ⟨by omega, by omega, by omega, by omega⟩), k14⟩
  · refine A_aload_n 0 d_MD_want_8 rfl rfl ?_
    have zf16 := esd1.symm
    have zf17 := esd2.symm
    refine A_callV0 m_MD_next T_ok d_MD_want_9 l_MD_309 k_MD_next (mi_s k0.1 sf_170) rfl (by decide +kernel) (by decide) (Nat.le_of_ble_eq_true rfl) (s_MD_next k0.1 (by have qq0 := esd1.symm; have qq1 := esd2.symm; omega)) (fun r h15 hq => ?_)
    obtain ⟨x19, rfl, ⟨_, _⟩, xx19, k18⟩ := hq
    have xa19 := xx19.1
    have xb19 := xx19.2.1
    have k20 := kM_t k0 k18 (pm_s (by decide) (by decide))
    obtain ⟨sd21, esd21⟩ : ∃ x, x = h15.2.1 170 3 := ⟨_, rfl⟩
    have rsd21 : 0 ≤ sd21 ∧ sd21 ≤ 2000 := (by rw [esd21]; exact mi_g k20.1 (by decide) mr_170_3)
    refine A_goto (tgt := 19) d_MD_want_12 (by decide) ?_
    exact A_zret d_MD_want_19 (by decide) rfl (by omega) ⟨_, rfl, by omega, (fun _ => by have qq0 := esd21.symm; have qq1 := ((k18.2.2.1 _ _ rfl).trans esd2.symm); exact ⟨by omega, by omega, by omega, by omega⟩), k20⟩
theorem s_MD_isPower {G : cx_T} {h : ah_T} {a1 : Int} {a2 : Int}  : con G 0 0 0 m_MD_isPower [av_R (some 170), av_I a1, av_I a2] h (fun r h' => ∃ z, r = some (av_I z) ∧ (z = 0 ∨ z = 1) ∧ (z = 1 → 1 ≤ a1 ∧ a1 ≤ a2) ∧ h = h') := by
  refine con_of (L := [some (av_R (some 170)), some (av_I a1), some (av_I a2)]) (by decide +kernel) (Nat.le_of_ble_eq_true rfl) rfl ?_
  refine A_locI 1 rfl (fun ra => ?_)
  obtain ⟨_, _⟩ := ra
  refine A_locI 2 rfl (fun ra => ?_)
  obtain ⟨_, _⟩ := ra
  refine A_iload_n 1 d_MD_isPower_0 rfl rfl ?_
  refine A_iconst d_MD_isPower_1 rfl ?_
  refine A_icmp_lt (tgt := 22) d_MD_isPower_2 (by decide) (fun c1 => ?_) (fun c1 => ?_)
  · refine A_iconst d_MD_isPower_22 rfl ?_
    exact A_zret d_MD_isPower_23 (by decide) rfl (by omega) ⟨_, rfl, by omega, (fun _ => by omega), rfl⟩
  · refine A_iload_n 1 d_MD_isPower_5 rfl rfl ?_
    refine A_iload_n 2 d_MD_isPower_6 rfl rfl ?_
    refine A_icmp_gt (tgt := 22) d_MD_isPower_7 (by decide) (fun c2 => ?_) (fun c2 => ?_)
    · refine A_iconst d_MD_isPower_22 rfl ?_
      exact A_zret d_MD_isPower_23 (by decide) rfl (by omega) ⟨_, rfl, by omega, (fun _ => by omega), rfl⟩
    · refine A_iload_n 1 d_MD_isPower_10 rfl rfl ?_
      refine A_iload_n 1 d_MD_isPower_11 rfl rfl ?_
      refine A_iconst d_MD_isPower_12 rfl ?_
      refine A_isubv (z := (a1 - 1)) d_MD_isPower_13 (w32_to (by omega) (by unfold i32; omega)) ?_
      refine A_iand d_MD_isPower_14 ?_
      refine A_nrI (fun x3 ex3 _ _ => ?_)
      refine A_pc (pc' := 15) rfl ?_
      refine A_if_ne (tgt := 22) d_MD_isPower_15 (by decide) (fun c4 => ?_) (fun c4 => ?_)
      · refine A_iconst d_MD_isPower_22 rfl ?_
        exact A_zret d_MD_isPower_23 (by decide) rfl (by omega) ⟨_, rfl, by omega, (fun _ => by omega), rfl⟩
      · refine A_iconst d_MD_isPower_18 rfl ?_
        refine A_goto (tgt := 23) d_MD_isPower_19 (by decide) ?_
        exact A_zret d_MD_isPower_23 (by decide) rfl (by omega) ⟨_, rfl, by omega, (fun _ => by omega), rfl⟩
theorem s_MD_timeItem {G : cx_T} {h : ah_T} (hx : mi h)  (hse : h.2.1 170 3 ≤ h.2.1 170 2) : con G 4 0 0 m_MD_timeItem [av_R (some 170)] h (fun r h' => ∃ z, r = some (av_I z) ∧ (z = 0 ∨ z = 1) ∧ (z = 1 → h.2.1 170 3 ≤ h'.2.1 170 3 ∧ h'.2.1 170 3 ≤ h.2.1 170 2 ∧ (h'.2.1 170 4 ≠ 0 → h'.2.1 170 4 ≠ 6 → h.2.1 170 3 < h'.2.1 170 3) ∧ (h'.2.1 170 4 = 0 → h'.2.1 170 3 = h.2.1 170 2)) ∧ kM (pm [3, 4, 5, 6, 7, 8, 9, 10, 11, 12, 59] [173, 174]) h h') := by
  refine con_of (L := [some (av_R (some 170))]) (by decide +kernel) (Nat.le_of_ble_eq_true rfl) rfl ?_
  have k0 : kM (pm [3, 4, 5, 6, 7, 8, 9, 10, 11, 12, 59] [173, 174]) h h := kM_0 hx
  obtain ⟨sd1, esd1⟩ : ∃ x, x = h.2.1 170 3 := ⟨_, rfl⟩
  have rsd1 : 0 ≤ sd1 ∧ sd1 ≤ 2000 := (by rw [esd1]; exact mi_g k0.1 (by decide) mr_170_3)
  obtain ⟨sd2, esd2⟩ : ∃ x, x = h.2.1 170 2 := ⟨_, rfl⟩
  have rsd2 : 0 ≤ sd2 ∧ sd2 ≤ 2000 := (by rw [esd2]; exact mi_g k0.1 (by decide) mr_170_2)
  refine A_aload_n 0 d_MD_timeItem_0 rfl rfl ?_
  refine A_getZn T_ok d_MD_timeItem_1 f_MD_316 (mi_s k0.1 sf_170) (fun x3 ex3 bx3 => ?_)
  refine A_if_eq (tgt := 17) d_MD_timeItem_4 (by decide) (fun c4 => ?_) (fun c4 => ?_)
  · refine A_aload_n 0 d_MD_timeItem_17 rfl rfl ?_
    refine A_iconst d_MD_timeItem_18 rfl ?_
    refine A_putZk (KR := kM (pm [3, 4, 5, 6, 7, 8, 9, 10, 11, 12, 59] [173, 174]) h) T_ok d_MD_timeItem_19 f_MD_316 (mi_s k0.1 sf_170) fin_f (by omega) (kM_i k0 (by decide) (by decide) mr_170_59 (by omega) (by omega)) (fun h5 k6 eh5 => ?_)
    refine A_aload_n 0 d_MD_timeItem_22 rfl rfl ?_
    have zf8 := ((eh5.1 _ _ (fun _ => by decide)).trans esd1.symm)
    have zf9 := ((eh5.1 _ _ (fun _ => by decide)).trans esd2.symm)
    refine A_callV0 m_MD_next T_ok d_MD_timeItem_23 l_MD_309 k_MD_next (mi_s k6.1 sf_170) rfl (by decide +kernel) (by decide) (Nat.le_of_ble_eq_true rfl) (s_MD_next k6.1 (by have qq0 := ((eh5.1 _ _ (fun _ => by decide)).trans esd1.symm); have qq1 := ((eh5.1 _ _ (fun _ => by decide)).trans esd2.symm); omega)) (fun r h7 hq => ?_)
    obtain ⟨x11, rfl, ⟨_, _⟩, xx11, k10⟩ := hq
    have xa11 := xx11.1
    have xb11 := xx11.2.1
    have k12 := kM_t k6 k10 (pm_s (by decide) (by decide))
    obtain ⟨sd13, esd13⟩ : ∃ x, x = h7.2.1 170 3 := ⟨_, rfl⟩
    have rsd13 : 0 ≤ sd13 ∧ sd13 ≤ 2000 := (by rw [esd13]; exact mi_g k12.1 (by decide) mr_170_3)
    refine A_popI d_MD_timeItem_26 ?_
    refine A_aload_n 0 d_MD_timeItem_27 rfl rfl ?_
    refine A_getIn (lo := 0) (hi := 6) T_ok d_MD_timeItem_28 f_MD_239 (mi_s k12.1 sf_170) (mi_g k12.1 (by decide) mr_170_4) (fun x14 ex14 _ _ => ?_)
    refine A_iconst d_MD_timeItem_31 rfl ?_
    refine A_icmp_eq (tgt := 40) d_MD_timeItem_32 (by decide) (fun c15 => ?_) (fun c15 => ?_)
    · refine A_aload_n 0 d_MD_timeItem_40 rfl rfl ?_
      refine A_getIn (lo := 0) (hi := 9999) T_ok d_MD_timeItem_41 f_MD_271 (mi_s k12.1 sf_170) (mi_g k12.1 (by decide) mr_170_6) (fun x16 ex16 _ _ => ?_)
      refine A_iconst d_MD_timeItem_44 rfl ?_
      refine A_icmp_lt (tgt := 57) d_MD_timeItem_45 (by decide) (fun c17 => ?_) (fun c17 => ?_)
      · refine A_aload_n 0 d_MD_timeItem_57 rfl rfl ?_
        refine A_iconst d_MD_timeItem_58 rfl ?_
        refine A_aload_n 0 d_MD_timeItem_59 rfl rfl ?_
        refine A_getIn (lo := 0) (hi := 2000) T_ok d_MD_timeItem_60 f_MD_242 (mi_s k12.1 sf_170) (mi_g k12.1 (by decide) mr_170_5) (fun x18 ex18 _ _ => ?_)
        have zf20 := esd13.symm
        have zf21 := ((k10.2.2.1 _ _ rfl).trans ((eh5.1 _ _ (fun _ => by decide)).trans esd2.symm))
        refine A_callV2 m_MD_wrong T_ok d_MD_timeItem_63 l_MD_245 k_MD_wrong (mi_s k12.1 sf_170) rfl (by decide +kernel) (by decide) (Nat.le_of_ble_eq_true rfl) (s_MD_wrong k12.1 (by omega) (by omega) (by omega) (by omega)) (fun r h19 hq => ?_)
        obtain ⟨x23, rfl, ⟨_, _⟩, k22⟩ := hq
        have k24 := kM_t k12 k22 (pm_s (by decide) (by decide))
        obtain rfl : x23 = 0 := by omega
        exact A_zret d_MD_timeItem_66 (by decide) rfl (by omega) ⟨_, rfl, by omega, (fun _ => by have qq0 := ((k22.2.2.1 _ _ rfl).trans esd13.symm); have qq1 := ((k22.2.2.1 _ _ rfl).trans ((k10.2.2.1 _ _ rfl).trans ((eh5.1 _ _ (fun _ => by decide)).trans esd2.symm))); have qq2 := ((k22.2.2.1 _ _ rfl).trans ex14.symm); exact ⟨by omega, by omega, by omega, by omega⟩), k24⟩
      · refine A_aload_n 0 d_MD_timeItem_48 rfl rfl ?_
        refine A_getIv (z := x16) T_ok d_MD_timeItem_49 f_MD_271 (mi_s k12.1 sf_170) ex16.symm ?_
        refine A_bipush d_MD_timeItem_52 rfl ?_
        refine A_icmp_le (tgt := 67) d_MD_timeItem_54 (by decide) (fun c26 => ?_) (fun c26 => ?_)
        · refine A_aload_n 0 d_MD_timeItem_67 rfl rfl ?_
          refine A_getAv (z := some 173) T_ok d_MD_timeItem_68 f_MD_20 (mi_s k12.1 sf_170) (mi_r k12.1 rfm_15) ?_
          refine A_iconst d_MD_timeItem_71 rfl ?_
          refine A_aload_n 0 d_MD_timeItem_72 rfl rfl ?_
          refine A_getIv (z := x16) T_ok d_MD_timeItem_73 f_MD_271 (mi_s k12.1 sf_170) ex16.symm ?_
          refine A_pc (pc' := 76) rfl ?_
          refine A_iastorek (KR := kM (pm [3, 4, 5, 6, 7, 8, 9, 10, 11, 12, 59] [173, 174]) h) d_MD_timeItem_76 (mi_s k12.1 sf_173) (by decide) (by decide) (kM_i k12 (by decide) rfl (mr_173 _) (by omega) (by omega)) (fun h29 k30 eh29 => ?_)
          refine A_aload_n 0 d_MD_timeItem_77 rfl rfl ?_
          have zf32 := ((eh29.1 _ _ (fun q => absurd q (by decide))).trans esd13.symm)
          have zf33 := ((eh29.1 _ _ (fun q => absurd q (by decide))).trans ((k10.2.2.1 _ _ rfl).trans ((eh5.1 _ _ (fun _ => by decide)).trans esd2.symm)))
          refine A_callV0 m_MD_next T_ok d_MD_timeItem_78 l_MD_309 k_MD_next (mi_s k30.1 sf_170) rfl (by decide +kernel) (by decide) (Nat.le_of_ble_eq_true rfl) (s_MD_next k30.1 (by have qq0 := ((eh29.1 _ _ (fun q => absurd q (by decide))).trans esd13.symm); have qq1 := ((eh29.1 _ _ (fun q => absurd q (by decide))).trans ((k10.2.2.1 _ _ rfl).trans ((eh5.1 _ _ (fun _ => by decide)).trans esd2.symm))); omega)) (fun r h31 hq => ?_)
          obtain ⟨x35, rfl, ⟨_, _⟩, xx35, k34⟩ := hq
          have xa35 := xx35.1
          have xb35 := xx35.2.1
          have k36 := kM_t k30 k34 (pm_s (by decide) (by decide))
          obtain ⟨sd37, esd37⟩ : ∃ x, x = h31.2.1 170 3 := ⟨_, rfl⟩
          have rsd37 : 0 ≤ sd37 ∧ sd37 ≤ 2000 := (by rw [esd37]; exact mi_g k36.1 (by decide) mr_170_3)
          refine A_popI d_MD_timeItem_81 ?_
          refine A_aload_n 0 d_MD_timeItem_82 rfl rfl ?_
          refine A_bipush d_MD_timeItem_83 rfl ?_
          have zf39 := esd37.symm
          have zf40 := ((k34.2.2.1 _ _ rfl).trans ((eh29.1 _ _ (fun q => absurd q (by decide))).trans ((k10.2.2.1 _ _ rfl).trans ((eh5.1 _ _ (fun _ => by decide)).trans esd2.symm))))
          refine A_callV1 m_MD_want T_ok d_MD_timeItem_85 l_MD_344 k_MD_want (mi_s k36.1 sf_170) rfl (by decide +kernel) (by decide) (Nat.le_of_ble_eq_true rfl) (s_MD_want k36.1 (by have qq0 := esd37.symm; have qq1 := ((k34.2.2.1 _ _ rfl).trans ((eh29.1 _ _ (fun q => absurd q (by decide))).trans ((k10.2.2.1 _ _ rfl).trans ((eh5.1 _ _ (fun _ => by decide)).trans esd2.symm)))); first | (clear xx11; omega) | omega)) (fun r h38 hq => ?_)
          obtain ⟨x42, rfl, bx42, xx42, k41⟩ := hq
          have k43 := kM_t k36 k41 (pm_s (by decide) (by decide))
          obtain ⟨sd44, esd44⟩ : ∃ x, x = h38.2.1 170 3 := ⟨_, rfl⟩
          have rsd44 : 0 ≤ sd44 ∧ sd44 ≤ 2000 := (by rw [esd44]; exact mi_g k43.1 (by decide) mr_170_3)
          refine A_if_ne (tgt := 93) d_MD_timeItem_88 (by decide) (fun c45 => ?_) (fun c45 => ?_)
          · have xw42 := xx42 (bx42.resolve_left c45)
            have xa42 := xw42.1
            have xb42 := xw42.2.1
            refine A_aload_n 0 d_MD_timeItem_93 rfl rfl ?_
            refine A_getIn (lo := 0) (hi := 6) T_ok d_MD_timeItem_94 f_MD_239 (mi_s k43.1 sf_170) (mi_g k43.1 (by decide) mr_170_4) (fun x46 ex46 _ _ => ?_)
            refine A_iconst d_MD_timeItem_97 rfl ?_
            refine A_icmp_eq (tgt := 106) d_MD_timeItem_98 (by decide) (fun c47 => ?_) (fun c47 => ?_)
            · refine A_aload_n 0 d_MD_timeItem_106 rfl rfl ?_
              refine A_aload_n 0 d_MD_timeItem_107 rfl rfl ?_
              refine A_getIn (lo := 0) (hi := 9999) T_ok d_MD_timeItem_108 f_MD_271 (mi_s k43.1 sf_170) (mi_g k43.1 (by decide) mr_170_6) (fun x48 ex48 _ _ => ?_)
              refine A_bipush d_MD_timeItem_111 rfl ?_
              refine A_callV2 m_MD_isPower T_ok d_MD_timeItem_113 l_MD_347 k_MD_isPower (mi_s k43.1 sf_170) rfl (by decide +kernel) (by decide) (Nat.le_of_ble_eq_true rfl) (s_MD_isPower  ) (fun r h49 hq => ?_)
              obtain ⟨x51, rfl, bx51, xx51, rfl⟩ := hq
              refine A_if_ne (tgt := 129) d_MD_timeItem_116 (by decide) (fun c52 => ?_) (fun c52 => ?_)
              · refine A_aload_n 0 d_MD_timeItem_129 rfl rfl ?_
                refine A_getAv (z := some 174) T_ok d_MD_timeItem_130 f_MD_23 (mi_s k43.1 sf_170) (mi_r k43.1 rfm_16) ?_
                refine A_iconst d_MD_timeItem_133 rfl ?_
                refine A_aload_n 0 d_MD_timeItem_134 rfl rfl ?_
                refine A_getIv (z := x48) T_ok d_MD_timeItem_135 f_MD_271 (mi_s k43.1 sf_170) ex48.symm ?_
                refine A_pc (pc' := 138) rfl ?_
                refine A_iastorek (KR := kM (pm [3, 4, 5, 6, 7, 8, 9, 10, 11, 12, 59] [173, 174]) h) d_MD_timeItem_138 (mi_s k43.1 sf_174) (by decide) (by decide) (kM_i k43 (by decide) rfl (mr_174 _) (by first | (clear xx11 xx35 xx42; omega) | omega) (by first | (clear xx11 xx35 xx42; omega) | omega)) (fun h55 k56 eh55 => ?_)
                refine A_aload_n 0 d_MD_timeItem_139 rfl rfl ?_
                have zf58 := ((eh55.1 _ _ (fun q => absurd q (by decide))).trans esd44.symm)
                have zf59 := ((eh55.1 _ _ (fun q => absurd q (by decide))).trans ((k41.2.2.1 _ _ rfl).trans ((k34.2.2.1 _ _ rfl).trans ((eh29.1 _ _ (fun q => absurd q (by decide))).trans ((k10.2.2.1 _ _ rfl).trans ((eh5.1 _ _ (fun _ => by decide)).trans esd2.symm))))))
                refine A_callV0 m_MD_next T_ok d_MD_timeItem_140 l_MD_309 k_MD_next (mi_s k56.1 sf_170) rfl (by decide +kernel) (by decide) (Nat.le_of_ble_eq_true rfl) (s_MD_next k56.1 (by have qq0 := ((eh55.1 _ _ (fun q => absurd q (by decide))).trans esd44.symm); have qq1 := ((eh55.1 _ _ (fun q => absurd q (by decide))).trans ((k41.2.2.1 _ _ rfl).trans ((k34.2.2.1 _ _ rfl).trans ((eh29.1 _ _ (fun q => absurd q (by decide))).trans ((k10.2.2.1 _ _ rfl).trans ((eh5.1 _ _ (fun _ => by decide)).trans esd2.symm)))))); first | (clear xx11 xx35 xx42; omega) | omega)) (fun r h57 hq => ?_)
                obtain ⟨x61, rfl, ⟨_, _⟩, xx61, k60⟩ := hq
                have xa61 := xx61.1
                have xb61 := xx61.2.1
                have k62 := kM_t k56 k60 (pm_s (by decide) (by decide))
                obtain ⟨sd63, esd63⟩ : ∃ x, x = h57.2.1 170 3 := ⟨_, rfl⟩
                have rsd63 : 0 ≤ sd63 ∧ sd63 ≤ 2000 := (by rw [esd63]; exact mi_g k62.1 (by decide) mr_170_3)
                refine A_popI d_MD_timeItem_143 ?_
                refine A_aload_n 0 d_MD_timeItem_144 rfl rfl ?_
                refine A_bipush d_MD_timeItem_145 rfl ?_
                have zf65 := esd63.symm
                have zf66 := ((k60.2.2.1 _ _ rfl).trans ((eh55.1 _ _ (fun q => absurd q (by decide))).trans ((k41.2.2.1 _ _ rfl).trans ((k34.2.2.1 _ _ rfl).trans ((eh29.1 _ _ (fun q => absurd q (by decide))).trans ((k10.2.2.1 _ _ rfl).trans ((eh5.1 _ _ (fun _ => by decide)).trans esd2.symm)))))))
                refine A_callV1 m_MD_want T_ok d_MD_timeItem_147 l_MD_344 k_MD_want (mi_s k62.1 sf_170) rfl (by decide +kernel) (by decide) (Nat.le_of_ble_eq_true rfl) (s_MD_want k62.1 (by have qq0 := esd63.symm; have qq1 := ((k60.2.2.1 _ _ rfl).trans ((eh55.1 _ _ (fun q => absurd q (by decide))).trans ((k41.2.2.1 _ _ rfl).trans ((k34.2.2.1 _ _ rfl).trans ((eh29.1 _ _ (fun q => absurd q (by decide))).trans ((k10.2.2.1 _ _ rfl).trans ((eh5.1 _ _ (fun _ => by decide)).trans esd2.symm))))))); first | (clear xx11 xx35 xx42 xw42; omega) | omega)) (fun r h64 hq => ?_)
                obtain ⟨x68, rfl, bx68, xx68, k67⟩ := hq
                have k69 := kM_t k62 k67 (pm_s (by decide) (by decide))
                obtain ⟨sd70, esd70⟩ : ∃ x, x = h64.2.1 170 3 := ⟨_, rfl⟩
                have rsd70 : 0 ≤ sd70 ∧ sd70 ≤ 2000 := (by rw [esd70]; exact mi_g k69.1 (by decide) mr_170_3)
                exact A_zret d_MD_timeItem_150 (by decide) rfl (by first | (clear xx11 xx35 xx42 xw42 xx61; omega) | omega) ⟨_, rfl, by first | (clear xx11 xx35 xx42 xw42 xx61; omega) | omega, (fun _ => by have qq0 := esd70.symm; have qq1 := ((k67.2.2.1 _ _ rfl).trans ((k60.2.2.1 _ _ rfl).trans ((eh55.1 _ _ (fun q => absurd q (by decide))).trans ((k41.2.2.1 _ _ rfl).trans ((k34.2.2.1 _ _ rfl).trans ((eh29.1 _ _ (fun q => absurd q (by decide))).trans ((k10.2.2.1 _ _ rfl).trans ((eh5.1 _ _ (fun _ => by decide)).trans esd2.symm)))))))); exact ⟨by first | (clear xx11 xx35 xx42 xw42 xx61; omega) | omega, by first | (clear xx11 xx35 xx42 xw42 xx61; omega) | omega, by first | (clear xx11 xx35 xx42 xw42 xx61; omega) | omega, by first | (clear xx11 xx35 xx42 xw42 xx61; omega) | omega⟩), k69⟩
              · refine A_aload_n 0 d_MD_timeItem_119 rfl rfl ?_
                refine A_iconst d_MD_timeItem_120 rfl ?_
                refine A_aload_n 0 d_MD_timeItem_121 rfl rfl ?_
                refine A_getIn (lo := 0) (hi := 2000) T_ok d_MD_timeItem_122 f_MD_242 (mi_s k43.1 sf_170) (mi_g k43.1 (by decide) mr_170_5) (fun x71 ex71 _ _ => ?_)
                have zf73 := esd44.symm
                have zf74 := ((k41.2.2.1 _ _ rfl).trans ((k34.2.2.1 _ _ rfl).trans ((eh29.1 _ _ (fun q => absurd q (by decide))).trans ((k10.2.2.1 _ _ rfl).trans ((eh5.1 _ _ (fun _ => by decide)).trans esd2.symm)))))
                refine A_callV2 m_MD_wrong T_ok d_MD_timeItem_125 l_MD_245 k_MD_wrong (mi_s k43.1 sf_170) rfl (by decide +kernel) (by decide) (Nat.le_of_ble_eq_true rfl) (s_MD_wrong k43.1 (by first | (clear xx11 xx35 xx42; omega) | omega) (by first | (clear xx11 xx35 xx42; omega) | omega) (by first | (clear xx11 xx35 xx42; omega) | omega) (by first | (clear xx11 xx35 xx42; omega) | omega)) (fun r h72 hq => ?_)
                obtain ⟨x76, rfl, ⟨_, _⟩, k75⟩ := hq
                have k77 := kM_t k43 k75 (pm_s (by decide) (by decide))
                obtain rfl : x76 = 0 := by first | (clear xx11 xx35 xx42; omega) | omega
                exact A_zret d_MD_timeItem_128 (by decide) rfl (by first | (clear xx11 xx35 xx42; omega) | omega) ⟨_, rfl, by first | (clear xx11 xx35 xx42; omega) | omega, (fun _ => by have qq0 := ((k75.2.2.1 _ _ rfl).trans esd44.symm); have qq1 := ((k75.2.2.1 _ _ rfl).trans ((k41.2.2.1 _ _ rfl).trans ((k34.2.2.1 _ _ rfl).trans ((eh29.1 _ _ (fun q => absurd q (by decide))).trans ((k10.2.2.1 _ _ rfl).trans ((eh5.1 _ _ (fun _ => by decide)).trans esd2.symm)))))); have qq2 := ((k75.2.2.1 _ _ rfl).trans ex46.symm); exact ⟨by first | (clear xx11 xx35 xx42; omega) | omega, by first | (clear xx11 xx35 xx42; omega) | omega, by first | (clear xx11 xx35 xx42; omega) | omega, by first | (clear xx11 xx35 xx42; omega) | omega⟩), k77⟩
            · refine A_aload_n 0 d_MD_timeItem_101 rfl rfl ?_
              have zf79 := esd44.symm
              have zf80 := ((k41.2.2.1 _ _ rfl).trans ((k34.2.2.1 _ _ rfl).trans ((eh29.1 _ _ (fun q => absurd q (by decide))).trans ((k10.2.2.1 _ _ rfl).trans ((eh5.1 _ _ (fun _ => by decide)).trans esd2.symm)))))
              refine A_callV0 m_MD_cant T_ok d_MD_timeItem_102 l_MD_313 k_MD_cant (mi_s k43.1 sf_170) rfl (by decide +kernel) (by decide) (Nat.le_of_ble_eq_true rfl) (s_MD_cant k43.1 ) (fun r h78 hq => ?_)
              obtain ⟨x82, rfl, ⟨_, _⟩, k81⟩ := hq
              have k83 := kM_t k43 k81 (pm_s (by decide) (by decide))
              obtain rfl : x82 = 0 := by first | (clear xx11 xx35 xx42; omega) | omega
              exact A_zret d_MD_timeItem_105 (by decide) rfl (by first | (clear xx11 xx35 xx42; omega) | omega) ⟨_, rfl, by first | (clear xx11 xx35 xx42; omega) | omega, (fun _ => by have qq0 := ((k81.2.2.1 _ _ rfl).trans esd44.symm); have qq1 := ((k81.2.2.1 _ _ rfl).trans ((k41.2.2.1 _ _ rfl).trans ((k34.2.2.1 _ _ rfl).trans ((eh29.1 _ _ (fun q => absurd q (by decide))).trans ((k10.2.2.1 _ _ rfl).trans ((eh5.1 _ _ (fun _ => by decide)).trans esd2.symm)))))); have qq2 := ((k81.2.2.1 _ _ rfl).trans ex46.symm); exact ⟨by first | (clear xx11 xx35 xx42; omega) | omega, by first | (clear xx11 xx35 xx42; omega) | omega, by first | (clear xx11 xx35 xx42; omega) | omega, by first | (clear xx11 xx35 xx42; omega) | omega⟩), k83⟩
          · refine A_iconst d_MD_timeItem_91 rfl ?_
            exact A_zret d_MD_timeItem_92 (by decide) rfl (by first | (clear xx11 xx35; omega) | omega) ⟨_, rfl, by first | (clear xx11 xx35; omega) | omega, (fun _ => by have qq0 := esd44.symm; have qq1 := ((k41.2.2.1 _ _ rfl).trans ((k34.2.2.1 _ _ rfl).trans ((eh29.1 _ _ (fun q => absurd q (by decide))).trans ((k10.2.2.1 _ _ rfl).trans ((eh5.1 _ _ (fun _ => by decide)).trans esd2.symm))))); exact ⟨by first | (clear xx11 xx35; omega) | omega, by first | (clear xx11 xx35; omega) | omega, by first | (clear xx11 xx35; omega) | omega, by first | (clear xx11 xx35; omega) | omega⟩), k43⟩
        · refine A_aload_n 0 d_MD_timeItem_57 rfl rfl ?_
          refine A_iconst d_MD_timeItem_58 rfl ?_
          refine A_aload_n 0 d_MD_timeItem_59 rfl rfl ?_
          refine A_getIn (lo := 0) (hi := 2000) T_ok d_MD_timeItem_60 f_MD_242 (mi_s k12.1 sf_170) (mi_g k12.1 (by decide) mr_170_5) (fun x84 ex84 _ _ => ?_)
          have zf86 := esd13.symm
          have zf87 := ((k10.2.2.1 _ _ rfl).trans ((eh5.1 _ _ (fun _ => by decide)).trans esd2.symm))
          refine A_callV2 m_MD_wrong T_ok d_MD_timeItem_63 l_MD_245 k_MD_wrong (mi_s k12.1 sf_170) rfl (by decide +kernel) (by decide) (Nat.le_of_ble_eq_true rfl) (s_MD_wrong k12.1 (by omega) (by omega) (by omega) (by omega)) (fun r h85 hq => ?_)
          obtain ⟨x89, rfl, ⟨_, _⟩, k88⟩ := hq
          have k90 := kM_t k12 k88 (pm_s (by decide) (by decide))
          obtain rfl : x89 = 0 := by omega
          exact A_zret d_MD_timeItem_66 (by decide) rfl (by omega) ⟨_, rfl, by omega, (fun _ => by have qq0 := ((k88.2.2.1 _ _ rfl).trans esd13.symm); have qq1 := ((k88.2.2.1 _ _ rfl).trans ((k10.2.2.1 _ _ rfl).trans ((eh5.1 _ _ (fun _ => by decide)).trans esd2.symm))); have qq2 := ((k88.2.2.1 _ _ rfl).trans ex14.symm); exact ⟨by omega, by omega, by omega, by omega⟩), k90⟩
    · refine A_aload_n 0 d_MD_timeItem_35 rfl rfl ?_
      have zf92 := esd13.symm
      have zf93 := ((k10.2.2.1 _ _ rfl).trans ((eh5.1 _ _ (fun _ => by decide)).trans esd2.symm))
      refine A_callV0 m_MD_cant T_ok d_MD_timeItem_36 l_MD_313 k_MD_cant (mi_s k12.1 sf_170) rfl (by decide +kernel) (by decide) (Nat.le_of_ble_eq_true rfl) (s_MD_cant k12.1 ) (fun r h91 hq => ?_)
      obtain ⟨x95, rfl, ⟨_, _⟩, k94⟩ := hq
      have k96 := kM_t k12 k94 (pm_s (by decide) (by decide))
      obtain rfl : x95 = 0 := by omega
      exact A_zret d_MD_timeItem_39 (by decide) rfl (by omega) ⟨_, rfl, by omega, (fun _ => by have qq0 := ((k94.2.2.1 _ _ rfl).trans esd13.symm); have qq1 := ((k94.2.2.1 _ _ rfl).trans ((k10.2.2.1 _ _ rfl).trans ((eh5.1 _ _ (fun _ => by decide)).trans esd2.symm))); have qq2 := ((k94.2.2.1 _ _ rfl).trans ex14.symm); exact ⟨by omega, by omega, by omega, by omega⟩), k96⟩
  · refine A_aload_n 0 d_MD_timeItem_7 rfl rfl ?_
    refine A_iconst d_MD_timeItem_8 rfl ?_
    refine A_aload_n 0 d_MD_timeItem_9 rfl rfl ?_
    refine A_getIn (lo := 0) (hi := 2000) T_ok d_MD_timeItem_10 f_MD_242 (mi_s k0.1 sf_170) (mi_g k0.1 (by decide) mr_170_5) (fun x97 ex97 _ _ => ?_)
    have zf99 := esd1.symm
    have zf100 := esd2.symm
    refine A_callV2 m_MD_wrong T_ok d_MD_timeItem_13 l_MD_245 k_MD_wrong (mi_s k0.1 sf_170) rfl (by decide +kernel) (by decide) (Nat.le_of_ble_eq_true rfl) (s_MD_wrong k0.1 (by omega) (by omega) (by omega) (by omega)) (fun r h98 hq => ?_)
    obtain ⟨x102, rfl, ⟨_, _⟩, k101⟩ := hq
    have k103 := kM_t k0 k101 (pm_s (by decide) (by decide))
    obtain rfl : x102 = 0 := by omega
    exact A_zret d_MD_timeItem_16 (by decide) rfl (by omega) ⟨_, rfl, by omega, (fun _ => by have qq0 := ((k101.2.2.1 _ _ rfl).trans esd1.symm); have qq1 := ((k101.2.2.1 _ _ rfl).trans esd2.symm); exact ⟨by omega, by omega, by omega, by omega⟩), k103⟩
theorem s_MD_lineItem {G : cx_T} {h : ah_T} (hx : mi h)  (hse : h.2.1 170 3 ≤ h.2.1 170 2) : con G 3 0 0 m_MD_lineItem [av_R (some 170)] h (fun r h' => ∃ z, r = some (av_I z) ∧ (z = 0 ∨ z = 1) ∧ (z = 1 → h.2.1 170 3 ≤ h'.2.1 170 3 ∧ h'.2.1 170 3 ≤ h.2.1 170 2 ∧ (h'.2.1 170 4 ≠ 0 → h'.2.1 170 4 ≠ 6 → h.2.1 170 3 < h'.2.1 170 3) ∧ (h'.2.1 170 4 = 0 → h'.2.1 170 3 = h.2.1 170 2)) ∧ kM (pm [3, 4, 5, 6, 7, 8, 9, 10, 11, 12, 60] [175, 176]) h h') := by
  refine con_of (L := [some (av_R (some 170))]) (by decide +kernel) (Nat.le_of_ble_eq_true rfl) rfl ?_
  have k0 : kM (pm [3, 4, 5, 6, 7, 8, 9, 10, 11, 12, 60] [175, 176]) h h := kM_0 hx
  obtain ⟨sd1, esd1⟩ : ∃ x, x = h.2.1 170 3 := ⟨_, rfl⟩
  have rsd1 : 0 ≤ sd1 ∧ sd1 ≤ 2000 := (by rw [esd1]; exact mi_g k0.1 (by decide) mr_170_3)
  obtain ⟨sd2, esd2⟩ : ∃ x, x = h.2.1 170 2 := ⟨_, rfl⟩
  have rsd2 : 0 ≤ sd2 ∧ sd2 ≤ 2000 := (by rw [esd2]; exact mi_g k0.1 (by decide) mr_170_2)
  refine A_aload_n 0 d_MD_lineItem_0 rfl rfl ?_
  refine A_getZn T_ok d_MD_lineItem_1 f_MD_320 (mi_s k0.1 sf_170) (fun x3 ex3 bx3 => ?_)
  refine A_if_eq (tgt := 17) d_MD_lineItem_4 (by decide) (fun c4 => ?_) (fun c4 => ?_)
  · refine A_aload_n 0 d_MD_lineItem_17 rfl rfl ?_
    refine A_iconst d_MD_lineItem_18 rfl ?_
    refine A_putZk (KR := kM (pm [3, 4, 5, 6, 7, 8, 9, 10, 11, 12, 60] [175, 176]) h) T_ok d_MD_lineItem_19 f_MD_320 (mi_s k0.1 sf_170) fin_f (by omega) (kM_i k0 (by decide) (by decide) mr_170_60 (by omega) (by omega)) (fun h5 k6 eh5 => ?_)
    refine A_aload_n 0 d_MD_lineItem_22 rfl rfl ?_
    have zf8 := ((eh5.1 _ _ (fun _ => by decide)).trans esd1.symm)
    have zf9 := ((eh5.1 _ _ (fun _ => by decide)).trans esd2.symm)
    refine A_callV0 m_MD_next T_ok d_MD_lineItem_23 l_MD_309 k_MD_next (mi_s k6.1 sf_170) rfl (by decide +kernel) (by decide) (Nat.le_of_ble_eq_true rfl) (s_MD_next k6.1 (by have qq0 := ((eh5.1 _ _ (fun _ => by decide)).trans esd1.symm); have qq1 := ((eh5.1 _ _ (fun _ => by decide)).trans esd2.symm); omega)) (fun r h7 hq => ?_)
    obtain ⟨x11, rfl, ⟨_, _⟩, xx11, k10⟩ := hq
    have xa11 := xx11.1
    have xb11 := xx11.2.1
    have k12 := kM_t k6 k10 (pm_s (by decide) (by decide))
    obtain ⟨sd13, esd13⟩ : ∃ x, x = h7.2.1 170 3 := ⟨_, rfl⟩
    have rsd13 : 0 ≤ sd13 ∧ sd13 ≤ 2000 := (by rw [esd13]; exact mi_g k12.1 (by decide) mr_170_3)
    refine A_popI d_MD_lineItem_26 ?_
    have lp27 : ∀ (n : Nat) (h14 : ah_T) , h.2.1 170 3 ≤ h14.2.1 170 3 ∧ h14.2.1 170 3 ≤ h.2.1 170 2 ∧ (h14.2.1 170 4 ≠ 0 → h14.2.1 170 4 ≠ 6 → h.2.1 170 3 < h14.2.1 170 3) ∧ (h14.2.1 170 4 = 0 → h14.2.1 170 3 = h.2.1 170 2) → kM (pm [3, 4, 5, 6, 7, 8, 9, 10, 11, 12, 60] [175, 176]) h h14 → (mu h14).toNat < n → aw G (rm_R 3 0 0) m_MD_lineItem 0 0 27 [some (av_R (some 170))] [] h14 (fun r h' => ∃ z, r = some (av_I z) ∧ (z = 0 ∨ z = 1) ∧ (z = 1 → h.2.1 170 3 ≤ h'.2.1 170 3 ∧ h'.2.1 170 3 ≤ h.2.1 170 2 ∧ (h'.2.1 170 4 ≠ 0 → h'.2.1 170 4 ≠ 6 → h.2.1 170 3 < h'.2.1 170 3) ∧ (h'.2.1 170 4 = 0 → h'.2.1 170 3 = h.2.1 170 2)) ∧ kM (pm [3, 4, 5, 6, 7, 8, 9, 10, 11, 12, 60] [175, 176]) h h') := by
      intro n
      induction n with
      | zero => intro h14 _ _ hm; omega
      | succ n ih27 =>
        intro h14  hinv k15 hm
        obtain ⟨sd16, esd16⟩ : ∃ x, x = h14.2.1 170 3 := ⟨_, rfl⟩
        have rsd16 : 0 ≤ sd16 ∧ sd16 ≤ 2000 := (by rw [esd16]; exact mi_g k15.1 (by decide) mr_170_3)
        refine A_aload_n 0 d_MD_lineItem_27 rfl rfl ?_
        refine A_getIn (lo := 0) (hi := 6) T_ok d_MD_lineItem_28 f_MD_239 (mi_s k15.1 sf_170) (mi_g k15.1 (by decide) mr_170_4) (fun x17 ex17 _ _ => ?_)
        refine A_iconst d_MD_lineItem_31 rfl ?_
        refine A_icmp_eq (tgt := 40) d_MD_lineItem_32 (by decide) (fun c18 => ?_) (fun c18 => ?_)
        · refine A_aload_n 0 d_MD_lineItem_40 rfl rfl ?_
          refine A_getAv (z := some 175) T_ok d_MD_lineItem_41 f_MD_26 (mi_s k15.1 sf_170) (mi_r k15.1 rfm_17) ?_
          refine A_iconst d_MD_lineItem_44 rfl ?_
          refine A_ialoadn (lo := 0) (hi := 8) d_MD_lineItem_45 (mi_s k15.1 sf_175) (by decide) (by decide) (mi_g k15.1 (by decide) (mr_175 _)) (fun x20 ex20 _ _ => ?_)
          refine A_bipush d_MD_lineItem_46 rfl ?_
          refine A_pc (pc' := 48) rfl ?_
          refine A_icmp_ne (tgt := 61) d_MD_lineItem_48 (by decide) (fun c21 => ?_) (fun c21 => ?_)
          · refine A_aload_n 0 d_MD_lineItem_61 rfl rfl ?_
            refine A_getAv (z := some 176) T_ok d_MD_lineItem_62 f_MD_29 (mi_s k15.1 sf_170) (mi_r k15.1 rfm_18) ?_
            refine A_bipush d_MD_lineItem_65 rfl ?_
            refine A_aload_n 0 d_MD_lineItem_67 rfl rfl ?_
            refine A_getAv (z := some 175) T_ok d_MD_lineItem_68 f_MD_26 (mi_s k15.1 sf_170) (mi_r k15.1 rfm_17) ?_
            refine A_pc (pc' := 71) rfl ?_
            refine A_iconst d_MD_lineItem_71 rfl ?_
            refine A_ialoadv (z := x20) d_MD_lineItem_72 (mi_s k15.1 sf_175) (by decide) (by decide) ex20.symm ?_
            refine A_iaddv (z := (x20 + 8)) d_MD_lineItem_73 (w32_to (by omega) (by unfold i32; omega)) ?_
            refine A_aload_n 0 d_MD_lineItem_74 rfl rfl ?_
            refine A_getIn (lo := (-2)) (hi := 109) T_ok d_MD_lineItem_75 f_MD_284 (mi_s k15.1 sf_170) (mi_g k15.1 (by decide) mr_170_8) (fun x25 ex25 _ _ => ?_)
            refine A_iastorek (KR := kM (pm [3, 4, 5, 6, 7, 8, 9, 10, 11, 12, 60] [175, 176]) h) d_MD_lineItem_78 (mi_s k15.1 sf_176) (by omega) (by omega) (kM_i k15 (by decide) rfl (mr_176 _) (by omega) (by omega)) (fun h26 k27 eh26 => ?_)
            refine A_pc (pc' := 79) rfl ?_
            refine A_aload_n 0 d_MD_lineItem_79 rfl rfl ?_
            refine A_getAv (z := some 175) T_ok d_MD_lineItem_80 f_MD_26 (mi_s k27.1 sf_170) (mi_r k27.1 rfm_17) ?_
            refine A_iconst d_MD_lineItem_83 rfl ?_
            refine A_dup2RI d_MD_lineItem_84 ?_
            refine A_ialoadv (z := x20) d_MD_lineItem_85 (mi_s k27.1 sf_175) (by decide) (by decide) ((eh26.1 _ _ (fun q => absurd q (by decide))).trans ex20.symm) ?_
            refine A_iconst d_MD_lineItem_86 rfl ?_
            refine A_pc (pc' := 87) rfl ?_
            refine A_iaddv (z := (x20 + 1)) d_MD_lineItem_87 (w32_to (by omega) (by unfold i32; omega)) ?_
            refine A_iastorek (KR := kM (pm [3, 4, 5, 6, 7, 8, 9, 10, 11, 12, 60] [175, 176]) h) d_MD_lineItem_88 (mi_s k27.1 sf_175) (by decide) (by decide) (kM_i k27 (by decide) rfl (mr_175 _) (by omega) (by omega)) (fun h30 k31 eh30 => ?_)
            refine A_aload_n 0 d_MD_lineItem_89 rfl rfl ?_
            have zf33 := ((eh30.1 _ _ (fun q => absurd q (by decide))).trans ((eh26.1 _ _ (fun q => absurd q (by decide))).trans esd16.symm))
            have zf34 := ((eh30.1 _ _ (fun q => absurd q (by decide))).trans ((eh26.1 _ _ (fun q => absurd q (by decide))).trans ((k15.2.2.1 _ _ rfl).trans esd2.symm)))
            refine A_callV0 m_MD_next T_ok d_MD_lineItem_90 l_MD_309 k_MD_next (mi_s k31.1 sf_170) rfl (by decide +kernel) (by decide) (Nat.le_of_ble_eq_true rfl) (s_MD_next k31.1 (by have qq0 := ((eh30.1 _ _ (fun q => absurd q (by decide))).trans ((eh26.1 _ _ (fun q => absurd q (by decide))).trans esd16.symm)); have qq1 := ((eh30.1 _ _ (fun q => absurd q (by decide))).trans ((eh26.1 _ _ (fun q => absurd q (by decide))).trans ((k15.2.2.1 _ _ rfl).trans esd2.symm))); omega)) (fun r h32 hq => ?_)
            obtain ⟨x36, rfl, ⟨_, _⟩, xx36, k35⟩ := hq
            have xa36 := xx36.1
            have xb36 := xx36.2.1
            have k37 := kM_t k31 k35 (pm_s (by decide) (by decide))
            obtain ⟨sd38, esd38⟩ : ∃ x, x = h32.2.1 170 3 := ⟨_, rfl⟩
            have rsd38 : 0 ≤ sd38 ∧ sd38 ≤ 2000 := (by rw [esd38]; exact mi_g k37.1 (by decide) mr_170_3)
            refine A_popI d_MD_lineItem_93 ?_
            refine A_aload_n 0 d_MD_lineItem_94 rfl rfl ?_
            refine A_bipush d_MD_lineItem_95 rfl ?_
            have zf40 := esd38.symm
            have zf41 := ((k35.2.2.1 _ _ rfl).trans ((eh30.1 _ _ (fun q => absurd q (by decide))).trans ((eh26.1 _ _ (fun q => absurd q (by decide))).trans ((k15.2.2.1 _ _ rfl).trans esd2.symm))))
            refine A_callV1 m_MD_isSign T_ok d_MD_lineItem_97 l_MD_306 k_MD_isSign (mi_s k37.1 sf_170) rfl (by decide +kernel) (by decide) (Nat.le_of_ble_eq_true rfl) (s_MD_isSign k37.1 ) (fun r h39 hq => ?_)
            obtain ⟨x43, rfl, bx43, xx43, rfl⟩ := hq
            refine A_if_eq (tgt := 27) d_MD_lineItem_100 (by decide) (fun c44 => ?_) (fun c44 => ?_)
            · exact ih27 h32 (by have qq0 := esd38.symm; have qq1 := ((k35.2.2.1 _ _ rfl).trans ((eh30.1 _ _ (fun q => absurd q (by decide))).trans ((eh26.1 _ _ (fun q => absurd q (by decide))).trans ((k15.2.2.1 _ _ rfl).trans esd2.symm)))); exact ⟨by first | (clear xx11; omega) | omega, by first | (clear xx11; omega) | omega, by first | (clear xx11; omega) | omega, by first | (clear xx11; omega) | omega⟩) k37 (by have qq0 := esd38.symm; have qh0 := ((k15.2.2.1 _ _ rfl).trans esd2.symm); have qh1 := esd16.symm; have qe0 := ((k35.2.2.1 _ _ rfl).trans ((eh30.1 _ _ (fun q => absurd q (by decide))).trans ((eh26.1 _ _ (fun q => absurd q (by decide))).trans ((k15.2.2.1 _ _ rfl).trans esd2.symm)))); first | exact mu_dec (h0 := h14) (h1 := h32) hm (by first | (clear xx11; omega) | omega) (by first | (clear xx11; omega) | omega) (by first | (clear xx11; omega) | omega) (by first | (clear xx11; omega) | omega) (by first | (clear xx11; omega) | omega) (fun _ _ => by first | (clear xx11; omega) | omega) | (have mm0 := mu_f h14; have mm1 := mu_f h32; first | (clear xx11; omega) | omega))
            · refine A_aload_n 0 d_MD_lineItem_103 rfl rfl ?_
              have zf46 := esd38.symm
              have zf47 := ((k35.2.2.1 _ _ rfl).trans ((eh30.1 _ _ (fun q => absurd q (by decide))).trans ((eh26.1 _ _ (fun q => absurd q (by decide))).trans ((k15.2.2.1 _ _ rfl).trans esd2.symm))))
              refine A_callV0 m_MD_next T_ok d_MD_lineItem_104 l_MD_309 k_MD_next (mi_s k37.1 sf_170) rfl (by decide +kernel) (by decide) (Nat.le_of_ble_eq_true rfl) (s_MD_next k37.1 (by have qq0 := esd38.symm; have qq1 := ((k35.2.2.1 _ _ rfl).trans ((eh30.1 _ _ (fun q => absurd q (by decide))).trans ((eh26.1 _ _ (fun q => absurd q (by decide))).trans ((k15.2.2.1 _ _ rfl).trans esd2.symm)))); first | (clear xx11; omega) | omega)) (fun r h45 hq => ?_)
              obtain ⟨x49, rfl, ⟨_, _⟩, xx49, k48⟩ := hq
              have xa49 := xx49.1
              have xb49 := xx49.2.1
              have k50 := kM_t k37 k48 (pm_s (by decide) (by decide))
              obtain ⟨sd51, esd51⟩ : ∃ x, x = h45.2.1 170 3 := ⟨_, rfl⟩
              have rsd51 : 0 ≤ sd51 ∧ sd51 ≤ 2000 := (by rw [esd51]; exact mi_g k50.1 (by decide) mr_170_3)
              exact A_zret d_MD_lineItem_107 (by decide) rfl (by first | (clear xx11 xx36; omega) | omega) ⟨_, rfl, by first | (clear xx11 xx36; omega) | omega, (fun _ => by have qq0 := esd51.symm; have qq1 := ((k48.2.2.1 _ _ rfl).trans ((k35.2.2.1 _ _ rfl).trans ((eh30.1 _ _ (fun q => absurd q (by decide))).trans ((eh26.1 _ _ (fun q => absurd q (by decide))).trans ((k15.2.2.1 _ _ rfl).trans esd2.symm))))); exact ⟨by first | (clear xx11 xx36; omega) | omega, by first | (clear xx11 xx36; omega) | omega, by first | (clear xx11 xx36; omega) | omega, by first | (clear xx11 xx36; omega) | omega⟩), k50⟩
          · refine A_aload_n 0 d_MD_lineItem_51 rfl rfl ?_
            refine A_iconst d_MD_lineItem_52 rfl ?_
            refine A_aload_n 0 d_MD_lineItem_53 rfl rfl ?_
            refine A_getIn (lo := 0) (hi := 2000) T_ok d_MD_lineItem_54 f_MD_242 (mi_s k15.1 sf_170) (mi_g k15.1 (by decide) mr_170_5) (fun x52 ex52 _ _ => ?_)
            have zf54 := esd16.symm
            have zf55 := ((k15.2.2.1 _ _ rfl).trans esd2.symm)
            refine A_callV2 m_MD_wrong T_ok d_MD_lineItem_57 l_MD_245 k_MD_wrong (mi_s k15.1 sf_170) rfl (by decide +kernel) (by decide) (Nat.le_of_ble_eq_true rfl) (s_MD_wrong k15.1 (by omega) (by omega) (by omega) (by omega)) (fun r h53 hq => ?_)
            obtain ⟨x57, rfl, ⟨_, _⟩, k56⟩ := hq
            have k58 := kM_t k15 k56 (pm_s (by decide) (by decide))
            obtain rfl : x57 = 0 := by omega
            exact A_zret d_MD_lineItem_60 (by decide) rfl (by omega) ⟨_, rfl, by omega, (fun _ => by have qq0 := ((k56.2.2.1 _ _ rfl).trans esd16.symm); have qq1 := ((k56.2.2.1 _ _ rfl).trans ((k15.2.2.1 _ _ rfl).trans esd2.symm)); have qq2 := ((k56.2.2.1 _ _ rfl).trans ex17.symm); exact ⟨by omega, by omega, by omega, by omega⟩), k58⟩
        · refine A_aload_n 0 d_MD_lineItem_35 rfl rfl ?_
          have zf60 := esd16.symm
          have zf61 := ((k15.2.2.1 _ _ rfl).trans esd2.symm)
          refine A_callV0 m_MD_cant T_ok d_MD_lineItem_36 l_MD_313 k_MD_cant (mi_s k15.1 sf_170) rfl (by decide +kernel) (by decide) (Nat.le_of_ble_eq_true rfl) (s_MD_cant k15.1 ) (fun r h59 hq => ?_)
          obtain ⟨x63, rfl, ⟨_, _⟩, k62⟩ := hq
          have k64 := kM_t k15 k62 (pm_s (by decide) (by decide))
          obtain rfl : x63 = 0 := by omega
          exact A_zret d_MD_lineItem_39 (by decide) rfl (by omega) ⟨_, rfl, by omega, (fun _ => by have qq0 := ((k62.2.2.1 _ _ rfl).trans esd16.symm); have qq1 := ((k62.2.2.1 _ _ rfl).trans ((k15.2.2.1 _ _ rfl).trans esd2.symm)); have qq2 := ((k62.2.2.1 _ _ rfl).trans ex17.symm); exact ⟨by omega, by omega, by omega, by omega⟩), k64⟩
    exact lp27 _ h7 (by have qq0 := esd13.symm; have qq1 := ((k10.2.2.1 _ _ rfl).trans ((eh5.1 _ _ (fun _ => by decide)).trans esd2.symm)); exact ⟨by omega, by omega, by omega, by omega⟩) k12 (Nat.lt_succ_self _)
  · refine A_aload_n 0 d_MD_lineItem_7 rfl rfl ?_
    refine A_iconst d_MD_lineItem_8 rfl ?_
    refine A_aload_n 0 d_MD_lineItem_9 rfl rfl ?_
    refine A_getIn (lo := 0) (hi := 2000) T_ok d_MD_lineItem_10 f_MD_242 (mi_s k0.1 sf_170) (mi_g k0.1 (by decide) mr_170_5) (fun x65 ex65 _ _ => ?_)
    have zf67 := esd1.symm
    have zf68 := esd2.symm
    refine A_callV2 m_MD_wrong T_ok d_MD_lineItem_13 l_MD_245 k_MD_wrong (mi_s k0.1 sf_170) rfl (by decide +kernel) (by decide) (Nat.le_of_ble_eq_true rfl) (s_MD_wrong k0.1 (by omega) (by omega) (by omega) (by omega)) (fun r h66 hq => ?_)
    obtain ⟨x70, rfl, ⟨_, _⟩, k69⟩ := hq
    have k71 := kM_t k0 k69 (pm_s (by decide) (by decide))
    obtain rfl : x70 = 0 := by omega
    exact A_zret d_MD_lineItem_16 (by decide) rfl (by omega) ⟨_, rfl, by omega, (fun _ => by have qq0 := ((k69.2.2.1 _ _ rfl).trans esd1.symm); have qq1 := ((k69.2.2.1 _ _ rfl).trans esd2.symm); exact ⟨by omega, by omega, by omega, by omega⟩), k71⟩
theorem s_MD_nameNumber {G : cx_T} {h : ah_T} (hx : mi h)   : con G 1 0 0 m_MD_nameNumber [av_R (some 170)] h (fun r h' => ∃ z, r = some (av_I z) ∧ ((-2) ≤ z ∧ z ≤ 15) ∧ kM (pm [11, 12] [183, 184]) h h') := by
  refine con_of (L := [some (av_R (some 170)), none]) (by decide +kernel) (Nat.le_of_ble_eq_true rfl) rfl ?_
  have k0 : kM (pm [11, 12] [183, 184]) h h := kM_0 hx
  refine A_iconst d_MD_nameNumber_0 rfl ?_
  refine A_istore_n 1 (L' := [some (av_R (some 170)), some (av_I 0)]) d_MD_nameNumber_1 rfl (Nat.le_of_ble_eq_true rfl) rfl ?_
  have lp2 : ∀ (n : Nat) (i1 : Int) , 0 ≤ i1 → i1 ≤ 16 → (17 - i1).toNat < n → aw G (rm_R 1 0 0) m_MD_nameNumber 0 0 2 [some (av_R (some 170)), some (av_I i1)] [] h (fun r h' => ∃ z, r = some (av_I z) ∧ ((-2) ≤ z ∧ z ≤ 15) ∧ kM (pm [11, 12] [183, 184]) h h') := by
    intro n
    induction n with
    | zero => intro i1 _ _ hm; omega
    | succ n ih2 =>
      intro i1 hl0 hl1 hm
      refine A_iload_n 1 d_MD_nameNumber_2 rfl rfl ?_
      refine A_aload_n 0 d_MD_nameNumber_3 rfl rfl ?_
      refine A_getAv (z := some 183) T_ok d_MD_nameNumber_4 f_MD_50 (mi_s k0.1 sf_170) (mi_r k0.1 rfm_25) ?_
      refine A_iconst d_MD_nameNumber_7 rfl ?_
      refine A_ialoadn (lo := 0) (hi := 16) d_MD_nameNumber_8 (mi_s k0.1 sf_183) (by decide) (by decide) (mi_g k0.1 (by decide) (mr_183 _)) (fun x3 ex3 _ _ => ?_)
      refine A_pc (pc' := 9) rfl ?_
      refine A_icmp_ge (tgt := 37) d_MD_nameNumber_9 (by decide) (fun c4 => ?_) (fun c4 => ?_)
      · refine A_aload_n 0 d_MD_nameNumber_37 rfl rfl ?_
        refine A_getAv (z := some 183) T_ok d_MD_nameNumber_38 f_MD_50 (mi_s k0.1 sf_170) (mi_r k0.1 rfm_25) ?_
        refine A_iconst d_MD_nameNumber_41 rfl ?_
        refine A_ialoadv (z := x3) d_MD_nameNumber_42 (mi_s k0.1 sf_183) (by decide) (by decide) ex3.symm ?_
        refine A_bipush d_MD_nameNumber_43 rfl ?_
        refine A_pc (pc' := 45) rfl ?_
        refine A_icmp_ne (tgt := 61) d_MD_nameNumber_45 (by decide) (fun c7 => ?_) (fun c7 => ?_)
        · refine A_aload_n 0 d_MD_nameNumber_61 rfl rfl ?_
          refine A_getAv (z := some 184) T_ok d_MD_nameNumber_62 f_MD_53 (mi_s k0.1 sf_170) (mi_r k0.1 rfm_26) ?_
          refine A_bipush d_MD_nameNumber_65 rfl ?_
          refine A_aload_n 0 d_MD_nameNumber_67 rfl rfl ?_
          refine A_getAv (z := some 183) T_ok d_MD_nameNumber_68 f_MD_50 (mi_s k0.1 sf_170) (mi_r k0.1 rfm_25) ?_
          refine A_pc (pc' := 71) rfl ?_
          refine A_iconst d_MD_nameNumber_71 rfl ?_
          refine A_ialoadv (z := x3) d_MD_nameNumber_72 (mi_s k0.1 sf_183) (by decide) (by decide) ex3.symm ?_
          refine A_iaddv (z := (x3 + 16)) d_MD_nameNumber_73 (w32_to (by omega) (by unfold i32; omega)) ?_
          refine A_aload_n 0 d_MD_nameNumber_74 rfl rfl ?_
          refine A_getLf T_ok d_MD_nameNumber_75 f_MD_290 (mi_s k0.1 sf_170) (fun x11 ex11 _ _ => ?_)
          refine A_lastorek (KR := kM (pm [11, 12] [183, 184]) h) d_MD_nameNumber_78 (mi_s k0.1 sf_184) (by omega) (by omega) (kM_l k0 (by decide) rfl (mq_184 _) (by omega) (by omega)) (fun h12 k13 eh12 => ?_)
          refine A_pc (pc' := 79) rfl ?_
          refine A_aload_n 0 d_MD_nameNumber_79 rfl rfl ?_
          refine A_getAv (z := some 183) T_ok d_MD_nameNumber_80 f_MD_50 (mi_s k13.1 sf_170) (mi_r k13.1 rfm_25) ?_
          refine A_iconst d_MD_nameNumber_83 rfl ?_
          refine A_dup2RI d_MD_nameNumber_84 ?_
          refine A_ialoadv (z := x3) d_MD_nameNumber_85 (mi_s k13.1 sf_183) (by decide) (by decide) ((congrFun (congrFun eh12.1 _) _).trans ex3.symm) ?_
          refine A_iconst d_MD_nameNumber_86 rfl ?_
          refine A_pc (pc' := 87) rfl ?_
          refine A_iaddv (z := (x3 + 1)) d_MD_nameNumber_87 (w32_to (by omega) (by unfold i32; omega)) ?_
          refine A_iastorek (KR := kM (pm [11, 12] [183, 184]) h) d_MD_nameNumber_88 (mi_s k13.1 sf_183) (by decide) (by decide) (kM_i k13 (by decide) rfl (mr_183 _) (by omega) (by omega)) (fun h16 k17 eh16 => ?_)
          refine A_aload_n 0 d_MD_nameNumber_89 rfl rfl ?_
          refine A_getAv (z := some 183) T_ok d_MD_nameNumber_90 f_MD_50 (mi_s k17.1 sf_170) (mi_r k17.1 rfm_25) ?_
          refine A_iconst d_MD_nameNumber_93 rfl ?_
          refine A_ialoadv (z := (x3 + 1)) d_MD_nameNumber_94 (mi_s k17.1 sf_183) (by decide) (by decide) eh16.2.1 ?_
          refine A_pc (pc' := 95) rfl ?_
          refine A_iconst d_MD_nameNumber_95 rfl ?_
          refine A_isubv (z := x3) d_MD_nameNumber_96 (w32_to (by omega) (by unfold i32; omega)) ?_
          exact A_iret d_MD_nameNumber_97 (by decide) rfl ⟨_, rfl, ⟨by omega, by omega⟩, k17⟩
        · refine A_aload_n 0 d_MD_nameNumber_48 rfl rfl ?_
          refine A_iconst d_MD_nameNumber_49 rfl ?_
          refine A_aload_n 0 d_MD_nameNumber_50 rfl rfl ?_
          refine A_getIn (lo := 0) (hi := 2000) T_ok d_MD_nameNumber_51 f_MD_242 (mi_s k0.1 sf_170) (mi_g k0.1 (by decide) mr_170_5) (fun x20 ex20 _ _ => ?_)
          refine A_callV2 m_MD_wrong T_ok d_MD_nameNumber_54 l_MD_245 k_MD_wrong (mi_s k0.1 sf_170) rfl (by decide +kernel) (by decide) (Nat.le_of_ble_eq_true rfl) (s_MD_wrong k0.1 (by omega) (by omega) (by omega) (by omega)) (fun r h21 hq => ?_)
          obtain ⟨x23, rfl, ⟨_, _⟩, k22⟩ := hq
          have k24 := kM_t k0 k22 (pm_s (by decide) (by decide))
          obtain rfl : x23 = 0 := by omega
          refine A_popI d_MD_nameNumber_57 ?_
          refine A_bipush d_MD_nameNumber_58 rfl ?_
          exact A_iret d_MD_nameNumber_60 (by decide) rfl ⟨_, rfl, ⟨by omega, by omega⟩, k24⟩
      · refine A_aload_n 0 d_MD_nameNumber_12 rfl rfl ?_
        refine A_getAv (z := some 184) T_ok d_MD_nameNumber_13 f_MD_53 (mi_s k0.1 sf_170) (mi_r k0.1 rfm_26) ?_
        refine A_bipush d_MD_nameNumber_16 rfl ?_
        refine A_iload_n 1 d_MD_nameNumber_18 rfl rfl ?_
        refine A_iaddv (z := (i1 + 16)) d_MD_nameNumber_19 (w32_to (by omega) (by unfold i32; omega)) ?_
        refine A_pc (pc' := 20) rfl ?_
        refine A_laloadf d_MD_nameNumber_20 (mi_s k0.1 sf_184) (by omega) (by omega) (fun x26 ex26 _ _ => ?_)
        refine A_aload_n 0 d_MD_nameNumber_21 rfl rfl ?_
        refine A_getLf T_ok d_MD_nameNumber_22 f_MD_290 (mi_s k0.1 sf_170) (fun x27 ex27 _ _ => ?_)
        refine A_lcmpn d_MD_nameNumber_25 (fun x28 lx28 ex28 gx28 _ _ => ?_)
        refine A_if_ne (tgt := 31) d_MD_nameNumber_26 (by decide) (fun c29 => ?_) (fun c29 => ?_)
        · have mc29 : (x26 - x27) ≠ 0 := by omega
          refine A_iincv (z := (i1 + 1)) (L' := [some (av_R (some 170)), some (av_I (i1 + 1))]) d_MD_nameNumber_31 rfl (w32_to (by omega) (by unfold i32; omega)) rfl ?_
          refine A_goto (tgt := 2) d_MD_nameNumber_34 (by decide) ?_
          exact ih2 (i1 + 1) (by omega) (by omega) (by omega)
        · have mc29 : (x26 - x27) = 0 := by omega
          refine A_iload_n 1 d_MD_nameNumber_29 rfl rfl ?_
          exact A_iret d_MD_nameNumber_30 (by decide) rfl ⟨_, rfl, ⟨by omega, by omega⟩, k0⟩
  exact lp2 _ 0 (by omega) (by omega) (Nat.lt_succ_self _)
theorem s_MD_ruleItem {G : cx_T} {h : ah_T} (hx : mi h)  (hse : h.2.1 170 3 ≤ h.2.1 170 2) : con G 4 0 0 m_MD_ruleItem [av_R (some 170)] h (fun r h' => ∃ z, r = some (av_I z) ∧ (z = 0 ∨ z = 1) ∧ ((z = 1 → h.2.1 170 3 ≤ h'.2.1 170 3 ∧ h'.2.1 170 3 ≤ h.2.1 170 2 ∧ (h'.2.1 170 4 ≠ 0 → h'.2.1 170 4 ≠ 6 → h.2.1 170 3 < h'.2.1 170 3) ∧ (h'.2.1 170 4 = 0 → h'.2.1 170 3 = h.2.1 170 2)) ∧ (∀ k : Nat, k ≠ (24 + h.2.1 177 1).toNat → h'.2.1 178 k = h.2.1 178 k ∧ h'.2.1 179 k = h.2.1 179 k ∧ h'.2.1 180 k = h.2.1 180 k) ∧ h'.2.1 177 0 = h.2.1 177 0 ∧ (z = 1 → h'.2.1 177 1 = h.2.1 177 1 + 1 ∧ 0 ≤ h'.2.1 178 (24 + h.2.1 177 1).toNat ∧ 0 ≤ h'.2.1 179 (24 + h.2.1 177 1).toNat)) ∧ kM (pm [3, 4, 5, 6, 7, 8, 9, 10, 11, 12] [177, 178, 179, 180, 183, 184]) h h') := by
  refine con_of (L := [some (av_R (some 170)), none]) (by decide +kernel) (Nat.le_of_ble_eq_true rfl) rfl ?_
  have k0 : kM (pm [3, 4, 5, 6, 7, 8, 9, 10, 11, 12] [177, 178, 179, 180, 183, 184]) h h := kM_0 hx
  obtain ⟨sd1, esd1⟩ : ∃ x, x = h.2.1 170 3 := ⟨_, rfl⟩
  have rsd1 : 0 ≤ sd1 ∧ sd1 ≤ 2000 := (by rw [esd1]; exact mi_g k0.1 (by decide) mr_170_3)
  obtain ⟨sd2, esd2⟩ : ∃ x, x = h.2.1 170 2 := ⟨_, rfl⟩
  have rsd2 : 0 ≤ sd2 ∧ sd2 ≤ 2000 := (by rw [esd2]; exact mi_g k0.1 (by decide) mr_170_2)
  refine A_aload_n 0 d_MD_ruleItem_0 rfl rfl ?_
  refine A_getAv (z := some 177) T_ok d_MD_ruleItem_1 f_MD_32 (mi_s k0.1 sf_170) (mi_r k0.1 rfm_19) ?_
  refine A_iconst d_MD_ruleItem_4 rfl ?_
  refine A_ialoadn (lo := 0) (hi := 24) d_MD_ruleItem_5 (mi_s k0.1 sf_177) (by decide) (by decide) (mi_g k0.1 (by decide) (mr_177 _)) (fun x4 ex4 _ _ => ?_)
  replace ex4 : x4 = h.2.1 177 1 := ex4
  refine A_bipush d_MD_ruleItem_6 rfl ?_
  refine A_pc (pc' := 8) rfl ?_
  refine A_icmp_ne (tgt := 21) d_MD_ruleItem_8 (by decide) (fun c5 => ?_) (fun c5 => ?_)
  · refine A_bipush d_MD_ruleItem_21 rfl ?_
    refine A_aload_n 0 d_MD_ruleItem_23 rfl rfl ?_
    refine A_getAv (z := some 177) T_ok d_MD_ruleItem_24 f_MD_32 (mi_s k0.1 sf_170) (mi_r k0.1 rfm_19) ?_
    refine A_iconst d_MD_ruleItem_27 rfl ?_
    refine A_ialoadv (z := x4) d_MD_ruleItem_28 (mi_s k0.1 sf_177) (by decide) (by decide) ex4.symm ?_
    refine A_pc (pc' := 29) rfl ?_
    refine A_iaddv (z := (x4 + 24)) d_MD_ruleItem_29 (w32_to (by omega) (by unfold i32; omega)) ?_
    refine A_istore_n 1 (L' := [some (av_R (some 170)), some (av_I (x4 + 24))]) d_MD_ruleItem_30 rfl (Nat.le_of_ble_eq_true rfl) rfl ?_
    refine A_aload_n 0 d_MD_ruleItem_31 rfl rfl ?_
    have zf9 := esd1.symm
    have zf10 := esd2.symm
    refine A_callV0 m_MD_next T_ok d_MD_ruleItem_32 l_MD_309 k_MD_next (mi_s k0.1 sf_170) rfl (by decide +kernel) (by decide) (Nat.le_of_ble_eq_true rfl) (s_MD_next k0.1 (by have qq0 := esd1.symm; have qq1 := esd2.symm; omega)) (fun r h8 hq => ?_)
    obtain ⟨x12, rfl, ⟨_, _⟩, xx12, k11⟩ := hq
    have xa12 := xx12.1
    have xb12 := xx12.2.1
    have k13 := kM_t k0 k11 (pm_s (by decide) (by decide))
    obtain ⟨sd14, esd14⟩ : ∃ x, x = h8.2.1 170 3 := ⟨_, rfl⟩
    have rsd14 : 0 ≤ sd14 ∧ sd14 ≤ 2000 := (by rw [esd14]; exact mi_g k13.1 (by decide) mr_170_3)
    refine A_popI d_MD_ruleItem_35 ?_
    refine A_aload_n 0 d_MD_ruleItem_36 rfl rfl ?_
    refine A_getIn (lo := 0) (hi := 6) T_ok d_MD_ruleItem_37 f_MD_239 (mi_s k13.1 sf_170) (mi_g k13.1 (by decide) mr_170_4) (fun x15 ex15 _ _ => ?_)
    refine A_iconst d_MD_ruleItem_40 rfl ?_
    refine A_icmp_eq (tgt := 49) d_MD_ruleItem_41 (by decide) (fun c16 => ?_) (fun c16 => ?_)
    · refine A_aload_n 0 d_MD_ruleItem_49 rfl rfl ?_
      refine A_getAv (z := some 178) T_ok d_MD_ruleItem_50 f_MD_35 (mi_s k13.1 sf_170) (mi_r k13.1 rfm_20) ?_
      refine A_iload_n 1 d_MD_ruleItem_53 rfl rfl ?_
      refine A_aload_n 0 d_MD_ruleItem_54 rfl rfl ?_
      have zf19 := esd14.symm
      have zf20 := ((k11.2.2.1 _ _ rfl).trans esd2.symm)
      refine A_callV0 m_MD_nameNumber T_ok d_MD_ruleItem_55 l_MD_350 k_MD_nameNumber (mi_s k13.1 sf_170) rfl (by decide +kernel) (by decide) (Nat.le_of_ble_eq_true rfl) (s_MD_nameNumber k13.1 ) (fun r h18 hq => ?_)
      obtain ⟨x22, rfl, ⟨_, _⟩, k21⟩ := hq
      have k23 := kM_t k13 k21 (pm_s (by decide) (by decide))
      refine A_iastorek (KR := kM (pm [3, 4, 5, 6, 7, 8, 9, 10, 11, 12] [177, 178, 179, 180, 183, 184]) h) d_MD_ruleItem_58 (mi_s k23.1 sf_178) (by omega) (by omega) (kM_i k23 (by decide) rfl (mr_178 _) (by omega) (by omega)) (fun h24 k25 eh24 => ?_)
      refine A_aload_n 0 d_MD_ruleItem_59 rfl rfl ?_
      refine A_getAv (z := some 178) T_ok d_MD_ruleItem_60 f_MD_35 (mi_s k25.1 sf_170) (mi_r k25.1 rfm_20) ?_
      refine A_iload_n 1 d_MD_ruleItem_63 rfl rfl ?_
      refine A_ialoadv (z := x22) d_MD_ruleItem_64 (mi_s k25.1 sf_178) (by omega) (by omega) eh24.2.1 ?_
      refine A_pc (pc' := 65) rfl ?_
      refine A_if_ge (tgt := 70) d_MD_ruleItem_65 (by decide) (fun c28 => ?_) (fun c28 => ?_)
      · refine A_aload_n 0 d_MD_ruleItem_70 rfl rfl ?_
        have zf30 := ((eh24.1 _ _ (fun q => absurd q (by decide))).trans ((k21.2.2.1 _ _ rfl).trans esd14.symm))
        have zf31 := ((eh24.1 _ _ (fun q => absurd q (by decide))).trans ((k21.2.2.1 _ _ rfl).trans ((k11.2.2.1 _ _ rfl).trans esd2.symm)))
        refine A_callV0 m_MD_next T_ok d_MD_ruleItem_71 l_MD_309 k_MD_next (mi_s k25.1 sf_170) rfl (by decide +kernel) (by decide) (Nat.le_of_ble_eq_true rfl) (s_MD_next k25.1 (by have qq0 := ((eh24.1 _ _ (fun q => absurd q (by decide))).trans ((k21.2.2.1 _ _ rfl).trans esd14.symm)); have qq1 := ((eh24.1 _ _ (fun q => absurd q (by decide))).trans ((k21.2.2.1 _ _ rfl).trans ((k11.2.2.1 _ _ rfl).trans esd2.symm))); omega)) (fun r h29 hq => ?_)
        obtain ⟨x33, rfl, ⟨_, _⟩, xx33, k32⟩ := hq
        have xa33 := xx33.1
        have xb33 := xx33.2.1
        have k34 := kM_t k25 k32 (pm_s (by decide) (by decide))
        obtain ⟨sd35, esd35⟩ : ∃ x, x = h29.2.1 170 3 := ⟨_, rfl⟩
        have rsd35 : 0 ≤ sd35 ∧ sd35 ≤ 2000 := (by rw [esd35]; exact mi_g k34.1 (by decide) mr_170_3)
        refine A_popI d_MD_ruleItem_74 ?_
        refine A_aload_n 0 d_MD_ruleItem_75 rfl rfl ?_
        refine A_bipush d_MD_ruleItem_76 rfl ?_
        have zf37 := esd35.symm
        have zf38 := ((k32.2.2.1 _ _ rfl).trans ((eh24.1 _ _ (fun q => absurd q (by decide))).trans ((k21.2.2.1 _ _ rfl).trans ((k11.2.2.1 _ _ rfl).trans esd2.symm))))
        refine A_callV1 m_MD_want T_ok d_MD_ruleItem_78 l_MD_344 k_MD_want (mi_s k34.1 sf_170) rfl (by decide +kernel) (by decide) (Nat.le_of_ble_eq_true rfl) (s_MD_want k34.1 (by have qq0 := esd35.symm; have qq1 := ((k32.2.2.1 _ _ rfl).trans ((eh24.1 _ _ (fun q => absurd q (by decide))).trans ((k21.2.2.1 _ _ rfl).trans ((k11.2.2.1 _ _ rfl).trans esd2.symm)))); first | (clear xx12; omega) | omega)) (fun r h36 hq => ?_)
        obtain ⟨x40, rfl, bx40, xx40, k39⟩ := hq
        have k41 := kM_t k34 k39 (pm_s (by decide) (by decide))
        obtain ⟨sd42, esd42⟩ : ∃ x, x = h36.2.1 170 3 := ⟨_, rfl⟩
        have rsd42 : 0 ≤ sd42 ∧ sd42 ≤ 2000 := (by rw [esd42]; exact mi_g k41.1 (by decide) mr_170_3)
        refine A_if_ne (tgt := 86) d_MD_ruleItem_81 (by decide) (fun c43 => ?_) (fun c43 => ?_)
        · have xw40 := xx40 (bx40.resolve_left c43)
          have xa40 := xw40.1
          have xb40 := xw40.2.1
          refine A_aload_n 0 d_MD_ruleItem_86 rfl rfl ?_
          refine A_getIn (lo := 0) (hi := 6) T_ok d_MD_ruleItem_87 f_MD_239 (mi_s k41.1 sf_170) (mi_g k41.1 (by decide) mr_170_4) (fun x44 ex44 _ _ => ?_)
          refine A_iconst d_MD_ruleItem_90 rfl ?_
          refine A_icmp_eq (tgt := 99) d_MD_ruleItem_91 (by decide) (fun c45 => ?_) (fun c45 => ?_)
          · refine A_aload_n 0 d_MD_ruleItem_99 rfl rfl ?_
            refine A_getAv (z := some 179) T_ok d_MD_ruleItem_100 f_MD_38 (mi_s k41.1 sf_170) (mi_r k41.1 rfm_21) ?_
            refine A_iload_n 1 d_MD_ruleItem_103 rfl rfl ?_
            refine A_aload_n 0 d_MD_ruleItem_104 rfl rfl ?_
            have zf48 := esd42.symm
            have zf49 := ((k39.2.2.1 _ _ rfl).trans ((k32.2.2.1 _ _ rfl).trans ((eh24.1 _ _ (fun q => absurd q (by decide))).trans ((k21.2.2.1 _ _ rfl).trans ((k11.2.2.1 _ _ rfl).trans esd2.symm)))))
            refine A_callV0 m_MD_nameNumber T_ok d_MD_ruleItem_105 l_MD_350 k_MD_nameNumber (mi_s k41.1 sf_170) rfl (by decide +kernel) (by decide) (Nat.le_of_ble_eq_true rfl) (s_MD_nameNumber k41.1 ) (fun r h47 hq => ?_)
            obtain ⟨x51, rfl, ⟨_, _⟩, k50⟩ := hq
            have k52 := kM_t k41 k50 (pm_s (by decide) (by decide))
            refine A_iastorek (KR := kM (pm [3, 4, 5, 6, 7, 8, 9, 10, 11, 12] [177, 178, 179, 180, 183, 184]) h) d_MD_ruleItem_108 (mi_s k52.1 sf_179) (by first | (clear xx12 xx33 xx40; omega) | omega) (by first | (clear xx12 xx33 xx40; omega) | omega) (kM_i k52 (by decide) rfl (mr_179 _) (by first | (clear xx12 xx33 xx40; omega) | omega) (by first | (clear xx12 xx33 xx40; omega) | omega)) (fun h53 k54 eh53 => ?_)
            refine A_aload_n 0 d_MD_ruleItem_109 rfl rfl ?_
            refine A_getAv (z := some 179) T_ok d_MD_ruleItem_110 f_MD_38 (mi_s k54.1 sf_170) (mi_r k54.1 rfm_21) ?_
            refine A_iload_n 1 d_MD_ruleItem_113 rfl rfl ?_
            refine A_ialoadv (z := x51) d_MD_ruleItem_114 (mi_s k54.1 sf_179) (by first | (clear xx12 xx33 xx40; omega) | omega) (by first | (clear xx12 xx33 xx40; omega) | omega) eh53.2.1 ?_
            refine A_pc (pc' := 115) rfl ?_
            refine A_if_ge (tgt := 120) d_MD_ruleItem_115 (by decide) (fun c57 => ?_) (fun c57 => ?_)
            · refine A_aload_n 0 d_MD_ruleItem_120 rfl rfl ?_
              refine A_getAv (z := some 180) T_ok d_MD_ruleItem_121 f_MD_41 (mi_s k54.1 sf_170) (mi_r k54.1 rfm_22) ?_
              refine A_iload_n 1 d_MD_ruleItem_124 rfl rfl ?_
              refine A_bipush d_MD_ruleItem_125 rfl ?_
              refine A_iastorek (KR := kM (pm [3, 4, 5, 6, 7, 8, 9, 10, 11, 12] [177, 178, 179, 180, 183, 184]) h) d_MD_ruleItem_127 (mi_s k54.1 sf_180) (by first | (clear xx12 xx33 xx40; omega) | omega) (by first | (clear xx12 xx33 xx40; omega) | omega) (kM_i k54 (by decide) rfl (mr_180 _) (by first | (clear xx12 xx33 xx40; omega) | omega) (by first | (clear xx12 xx33 xx40; omega) | omega)) (fun h59 k60 eh59 => ?_)
              refine A_pc (pc' := 128) rfl ?_
              refine A_aload_n 0 d_MD_ruleItem_128 rfl rfl ?_
              have zf62 := ((eh59.1 _ _ (fun q => absurd q (by decide))).trans ((eh53.1 _ _ (fun q => absurd q (by decide))).trans ((k50.2.2.1 _ _ rfl).trans esd42.symm)))
              have zf63 := ((eh59.1 _ _ (fun q => absurd q (by decide))).trans ((eh53.1 _ _ (fun q => absurd q (by decide))).trans ((k50.2.2.1 _ _ rfl).trans ((k39.2.2.1 _ _ rfl).trans ((k32.2.2.1 _ _ rfl).trans ((eh24.1 _ _ (fun q => absurd q (by decide))).trans ((k21.2.2.1 _ _ rfl).trans ((k11.2.2.1 _ _ rfl).trans esd2.symm))))))))
              refine A_callV0 m_MD_next T_ok d_MD_ruleItem_129 l_MD_309 k_MD_next (mi_s k60.1 sf_170) rfl (by decide +kernel) (by decide) (Nat.le_of_ble_eq_true rfl) (s_MD_next k60.1 (by have qq0 := ((eh59.1 _ _ (fun q => absurd q (by decide))).trans ((eh53.1 _ _ (fun q => absurd q (by decide))).trans ((k50.2.2.1 _ _ rfl).trans esd42.symm))); have qq1 := ((eh59.1 _ _ (fun q => absurd q (by decide))).trans ((eh53.1 _ _ (fun q => absurd q (by decide))).trans ((k50.2.2.1 _ _ rfl).trans ((k39.2.2.1 _ _ rfl).trans ((k32.2.2.1 _ _ rfl).trans ((eh24.1 _ _ (fun q => absurd q (by decide))).trans ((k21.2.2.1 _ _ rfl).trans ((k11.2.2.1 _ _ rfl).trans esd2.symm)))))))); first | (clear xx12 xx33 xx40; omega) | omega)) (fun r h61 hq => ?_)
              obtain ⟨x65, rfl, ⟨_, _⟩, xx65, k64⟩ := hq
              have xa65 := xx65.1
              have xb65 := xx65.2.1
              have k66 := kM_t k60 k64 (pm_s (by decide) (by decide))
              obtain ⟨sd67, esd67⟩ : ∃ x, x = h61.2.1 170 3 := ⟨_, rfl⟩
              have rsd67 : 0 ≤ sd67 ∧ sd67 ≤ 2000 := (by rw [esd67]; exact mi_g k66.1 (by decide) mr_170_3)
              refine A_popI d_MD_ruleItem_132 ?_
              refine A_aload_n 0 d_MD_ruleItem_133 rfl rfl ?_
              refine A_getIn (lo := 0) (hi := 6) T_ok d_MD_ruleItem_134 f_MD_239 (mi_s k66.1 sf_170) (mi_g k66.1 (by decide) mr_170_4) (fun x68 ex68 _ _ => ?_)
              refine A_iconst d_MD_ruleItem_137 rfl ?_
              refine A_icmp_ne (tgt := 167) d_MD_ruleItem_138 (by decide) (fun c69 => ?_) (fun c69 => ?_)
              · refine A_aload_n 0 d_MD_ruleItem_167 rfl rfl ?_
                refine A_getAv (z := some 177) T_ok d_MD_ruleItem_168 f_MD_32 (mi_s k66.1 sf_170) (mi_r k66.1 rfm_19) ?_
                refine A_iconst d_MD_ruleItem_171 rfl ?_
                refine A_dup2RI d_MD_ruleItem_172 ?_
                refine A_ialoadv (z := x4) d_MD_ruleItem_173 (mi_s k66.1 sf_177) (by decide) (by decide) ((k64.2.2.1 _ _ rfl).trans ((eh59.1 _ _ (fun q => absurd q (by decide))).trans ((eh53.1 _ _ (fun q => absurd q (by decide))).trans ((k50.2.2.1 _ _ rfl).trans ((k39.2.2.1 _ _ rfl).trans ((k32.2.2.1 _ _ rfl).trans ((eh24.1 _ _ (fun q => absurd q (by decide))).trans ((k21.2.2.1 _ _ rfl).trans ((k11.2.2.1 _ _ rfl).trans ex4.symm))))))))) ?_
                refine A_pc (pc' := 174) rfl ?_
                refine A_iconst d_MD_ruleItem_174 rfl ?_
                refine A_iaddv (z := (x4 + 1)) d_MD_ruleItem_175 (w32_to (by first | (clear xx12 xx33 xx40 xw40; omega) | omega) (by unfold i32; first | (clear xx12 xx33 xx40 xw40; omega) | omega)) ?_
                refine A_iastorek (KR := kM (pm [3, 4, 5, 6, 7, 8, 9, 10, 11, 12] [177, 178, 179, 180, 183, 184]) h) d_MD_ruleItem_176 (mi_s k66.1 sf_177) (by decide) (by decide) (kM_i k66 (by decide) rfl (mr_177 _) (by first | (clear xx12 xx33 xx40 xw40; omega) | omega) (by first | (clear xx12 xx33 xx40 xw40; omega) | omega)) (fun h72 k73 eh72 => ?_)
                refine A_aload_n 0 d_MD_ruleItem_177 rfl rfl ?_
                refine A_bipush d_MD_ruleItem_178 rfl ?_
                have zf75 := ((eh72.1 _ _ (fun q => absurd q (by decide))).trans esd67.symm)
                have zf76 := ((eh72.1 _ _ (fun q => absurd q (by decide))).trans ((k64.2.2.1 _ _ rfl).trans ((eh59.1 _ _ (fun q => absurd q (by decide))).trans ((eh53.1 _ _ (fun q => absurd q (by decide))).trans ((k50.2.2.1 _ _ rfl).trans ((k39.2.2.1 _ _ rfl).trans ((k32.2.2.1 _ _ rfl).trans ((eh24.1 _ _ (fun q => absurd q (by decide))).trans ((k21.2.2.1 _ _ rfl).trans ((k11.2.2.1 _ _ rfl).trans esd2.symm))))))))))
                refine A_callV1 m_MD_want T_ok d_MD_ruleItem_180 l_MD_344 k_MD_want (mi_s k73.1 sf_170) rfl (by decide +kernel) (by decide) (Nat.le_of_ble_eq_true rfl) (s_MD_want k73.1 (by have qq0 := ((eh72.1 _ _ (fun q => absurd q (by decide))).trans esd67.symm); have qq1 := ((eh72.1 _ _ (fun q => absurd q (by decide))).trans ((k64.2.2.1 _ _ rfl).trans ((eh59.1 _ _ (fun q => absurd q (by decide))).trans ((eh53.1 _ _ (fun q => absurd q (by decide))).trans ((k50.2.2.1 _ _ rfl).trans ((k39.2.2.1 _ _ rfl).trans ((k32.2.2.1 _ _ rfl).trans ((eh24.1 _ _ (fun q => absurd q (by decide))).trans ((k21.2.2.1 _ _ rfl).trans ((k11.2.2.1 _ _ rfl).trans esd2.symm)))))))))); first | (clear xx12 xx33 xx40 xw40; omega) | omega)) (fun r h74 hq => ?_)
                obtain ⟨x78, rfl, bx78, xx78, k77⟩ := hq
                have k79 := kM_t k73 k77 (pm_s (by decide) (by decide))
                obtain ⟨sd80, esd80⟩ : ∃ x, x = h74.2.1 170 3 := ⟨_, rfl⟩
                have rsd80 : 0 ≤ sd80 ∧ sd80 ≤ 2000 := (by rw [esd80]; exact mi_g k79.1 (by decide) mr_170_3)
                exact A_zret d_MD_ruleItem_183 (by decide) rfl (by first | (clear xx12 xx33 xx40 xw40 xx65; omega) | omega) ⟨_, rfl, by first | (clear xx12 xx33 xx40 xw40 xx65; omega) | omega, ⟨(fun _ => by have qq0 := esd80.symm; have qq1 := ((k77.2.2.1 _ _ rfl).trans ((eh72.1 _ _ (fun q => absurd q (by decide))).trans ((k64.2.2.1 _ _ rfl).trans ((eh59.1 _ _ (fun q => absurd q (by decide))).trans ((eh53.1 _ _ (fun q => absurd q (by decide))).trans ((k50.2.2.1 _ _ rfl).trans ((k39.2.2.1 _ _ rfl).trans ((k32.2.2.1 _ _ rfl).trans ((eh24.1 _ _ (fun q => absurd q (by decide))).trans ((k21.2.2.1 _ _ rfl).trans ((k11.2.2.1 _ _ rfl).trans esd2.symm))))))))))); exact ⟨by first | (clear xx12 xx33 xx40 xw40 xx65; omega) | omega, by first | (clear xx12 xx33 xx40 xw40 xx65; omega) | omega, by first | (clear xx12 xx33 xx40 xw40 xx65; omega) | omega, by first | (clear xx12 xx33 xx40 xw40 xx65; omega) | omega⟩), (fun k hk => ⟨((k77.2.2.1 178 k rfl).trans ((eh72.1 178 k (fun q => absurd q (by decide))).trans ((k64.2.2.1 178 k rfl).trans ((eh59.1 178 k (fun q => absurd q (by decide))).trans ((eh53.1 178 k (fun q => absurd q (by decide))).trans ((k50.2.2.1 178 k rfl).trans ((k39.2.2.1 178 k rfl).trans ((k32.2.2.1 178 k rfl).trans ((eh24.1 178 k (fun _ => (by first | (clear xx12 xx33 xx40 xw40 xx65; omega) | omega))).trans ((k21.2.2.1 178 k rfl).trans (k11.2.2.1 178 k rfl))))))))))), ((k77.2.2.1 179 k rfl).trans ((eh72.1 179 k (fun q => absurd q (by decide))).trans ((k64.2.2.1 179 k rfl).trans ((eh59.1 179 k (fun q => absurd q (by decide))).trans ((eh53.1 179 k (fun _ => (by first | (clear xx12 xx33 xx40 xw40 xx65; omega) | omega))).trans ((k50.2.2.1 179 k rfl).trans ((k39.2.2.1 179 k rfl).trans ((k32.2.2.1 179 k rfl).trans ((eh24.1 179 k (fun q => absurd q (by decide))).trans ((k21.2.2.1 179 k rfl).trans (k11.2.2.1 179 k rfl))))))))))), ((k77.2.2.1 180 k rfl).trans ((eh72.1 180 k (fun q => absurd q (by decide))).trans ((k64.2.2.1 180 k rfl).trans ((eh59.1 180 k (fun _ => (by first | (clear xx12 xx33 xx40 xw40 xx65; omega) | omega))).trans ((eh53.1 180 k (fun q => absurd q (by decide))).trans ((k50.2.2.1 180 k rfl).trans ((k39.2.2.1 180 k rfl).trans ((k32.2.2.1 180 k rfl).trans ((eh24.1 180 k (fun q => absurd q (by decide))).trans ((k21.2.2.1 180 k rfl).trans (k11.2.2.1 180 k rfl)))))))))))⟩), ((k77.2.2.1 177 0 rfl).trans ((eh72.1 177 0 (fun _ => (by decide))).trans ((k64.2.2.1 177 0 rfl).trans ((eh59.1 177 0 (fun q => absurd q (by decide))).trans ((eh53.1 177 0 (fun q => absurd q (by decide))).trans ((k50.2.2.1 177 0 rfl).trans ((k39.2.2.1 177 0 rfl).trans ((k32.2.2.1 177 0 rfl).trans ((eh24.1 177 0 (fun q => absurd q (by decide))).trans ((k21.2.2.1 177 0 rfl).trans (k11.2.2.1 177 0 rfl))))))))))), (fun _ => ⟨by have q1 := (((k77.2.2.1 _ _ rfl).trans eh72.2.1) : h74.2.1 177 1 = (x4 + 1)); rw [← ex4]; omega, (by have q1 := ((k77.2.2.1 _ _ rfl).trans ((eh72.1 _ _ (fun q => absurd q (by decide))).trans ((k64.2.2.1 _ _ rfl).trans ((eh59.1 _ _ (fun q => absurd q (by decide))).trans ((eh53.1 _ _ (fun q => absurd q (by decide))).trans ((k50.2.2.1 _ _ rfl).trans ((k39.2.2.1 _ _ rfl).trans ((k32.2.2.1 _ _ rfl).trans eh24.2.1)))))))); have q0 : ((x4 + 24)).toNat = (24 + h.2.1 177 1).toNat := (by rw [← ex4]; first | (clear xx12 xx33 xx40 xw40 xx65; omega) | omega); rw [q0] at q1; first | (clear xx12 xx33 xx40 xw40 xx65; omega) | omega), (by have q1 := ((k77.2.2.1 _ _ rfl).trans ((eh72.1 _ _ (fun q => absurd q (by decide))).trans ((k64.2.2.1 _ _ rfl).trans ((eh59.1 _ _ (fun q => absurd q (by decide))).trans eh53.2.1)))); have q0 : ((x4 + 24)).toNat = (24 + h.2.1 177 1).toNat := (by rw [← ex4]; first | (clear xx12 xx33 xx40 xw40 xx65; omega) | omega); rw [q0] at q1; first | (clear xx12 xx33 xx40 xw40 xx65; omega) | omega)⟩)⟩, k79⟩
              · refine A_aload_n 0 d_MD_ruleItem_141 rfl rfl ?_
                refine A_getAv (z := some 180) T_ok d_MD_ruleItem_142 f_MD_41 (mi_s k66.1 sf_170) (mi_r k66.1 rfm_22) ?_
                refine A_iload_n 1 d_MD_ruleItem_145 rfl rfl ?_
                refine A_aload_n 0 d_MD_ruleItem_146 rfl rfl ?_
                have zf83 := esd67.symm
                have zf84 := ((k64.2.2.1 _ _ rfl).trans ((eh59.1 _ _ (fun q => absurd q (by decide))).trans ((eh53.1 _ _ (fun q => absurd q (by decide))).trans ((k50.2.2.1 _ _ rfl).trans ((k39.2.2.1 _ _ rfl).trans ((k32.2.2.1 _ _ rfl).trans ((eh24.1 _ _ (fun q => absurd q (by decide))).trans ((k21.2.2.1 _ _ rfl).trans ((k11.2.2.1 _ _ rfl).trans esd2.symm)))))))))
                refine A_callV0 m_MD_nameNumber T_ok d_MD_ruleItem_147 l_MD_350 k_MD_nameNumber (mi_s k66.1 sf_170) rfl (by decide +kernel) (by decide) (Nat.le_of_ble_eq_true rfl) (s_MD_nameNumber k66.1 ) (fun r h82 hq => ?_)
                obtain ⟨x86, rfl, ⟨_, _⟩, k85⟩ := hq
                have k87 := kM_t k66 k85 (pm_s (by decide) (by decide))
                refine A_iastorek (KR := kM (pm [3, 4, 5, 6, 7, 8, 9, 10, 11, 12] [177, 178, 179, 180, 183, 184]) h) d_MD_ruleItem_150 (mi_s k87.1 sf_180) (by first | (clear xx12 xx33 xx40 xw40; omega) | omega) (by first | (clear xx12 xx33 xx40 xw40; omega) | omega) (kM_i k87 (by decide) rfl (mr_180 _) (by first | (clear xx12 xx33 xx40 xw40; omega) | omega) (by first | (clear xx12 xx33 xx40 xw40; omega) | omega)) (fun h88 k89 eh88 => ?_)
                refine A_aload_n 0 d_MD_ruleItem_151 rfl rfl ?_
                refine A_getAv (z := some 180) T_ok d_MD_ruleItem_152 f_MD_41 (mi_s k89.1 sf_170) (mi_r k89.1 rfm_22) ?_
                refine A_iload_n 1 d_MD_ruleItem_155 rfl rfl ?_
                refine A_ialoadv (z := x86) d_MD_ruleItem_156 (mi_s k89.1 sf_180) (by first | (clear xx12 xx33 xx40 xw40; omega) | omega) (by first | (clear xx12 xx33 xx40 xw40; omega) | omega) eh88.2.1 ?_
                refine A_pc (pc' := 157) rfl ?_
                refine A_if_ge (tgt := 162) d_MD_ruleItem_157 (by decide) (fun c92 => ?_) (fun c92 => ?_)
                · refine A_aload_n 0 d_MD_ruleItem_162 rfl rfl ?_
                  have zf94 := ((eh88.1 _ _ (fun q => absurd q (by decide))).trans ((k85.2.2.1 _ _ rfl).trans esd67.symm))
                  have zf95 := ((eh88.1 _ _ (fun q => absurd q (by decide))).trans ((k85.2.2.1 _ _ rfl).trans ((k64.2.2.1 _ _ rfl).trans ((eh59.1 _ _ (fun q => absurd q (by decide))).trans ((eh53.1 _ _ (fun q => absurd q (by decide))).trans ((k50.2.2.1 _ _ rfl).trans ((k39.2.2.1 _ _ rfl).trans ((k32.2.2.1 _ _ rfl).trans ((eh24.1 _ _ (fun q => absurd q (by decide))).trans ((k21.2.2.1 _ _ rfl).trans ((k11.2.2.1 _ _ rfl).trans esd2.symm)))))))))))
                  refine A_callV0 m_MD_next T_ok d_MD_ruleItem_163 l_MD_309 k_MD_next (mi_s k89.1 sf_170) rfl (by decide +kernel) (by decide) (Nat.le_of_ble_eq_true rfl) (s_MD_next k89.1 (by have qq0 := ((eh88.1 _ _ (fun q => absurd q (by decide))).trans ((k85.2.2.1 _ _ rfl).trans esd67.symm)); have qq1 := ((eh88.1 _ _ (fun q => absurd q (by decide))).trans ((k85.2.2.1 _ _ rfl).trans ((k64.2.2.1 _ _ rfl).trans ((eh59.1 _ _ (fun q => absurd q (by decide))).trans ((eh53.1 _ _ (fun q => absurd q (by decide))).trans ((k50.2.2.1 _ _ rfl).trans ((k39.2.2.1 _ _ rfl).trans ((k32.2.2.1 _ _ rfl).trans ((eh24.1 _ _ (fun q => absurd q (by decide))).trans ((k21.2.2.1 _ _ rfl).trans ((k11.2.2.1 _ _ rfl).trans esd2.symm))))))))))); first | (clear xx12 xx33 xx40 xw40; omega) | omega)) (fun r h93 hq => ?_)
                  obtain ⟨x97, rfl, ⟨_, _⟩, xx97, k96⟩ := hq
                  have xa97 := xx97.1
                  have xb97 := xx97.2.1
                  have k98 := kM_t k89 k96 (pm_s (by decide) (by decide))
                  obtain ⟨sd99, esd99⟩ : ∃ x, x = h93.2.1 170 3 := ⟨_, rfl⟩
                  have rsd99 : 0 ≤ sd99 ∧ sd99 ≤ 2000 := (by rw [esd99]; exact mi_g k98.1 (by decide) mr_170_3)
                  refine A_popI d_MD_ruleItem_166 ?_
                  refine A_aload_n 0 d_MD_ruleItem_167 rfl rfl ?_
                  refine A_getAv (z := some 177) T_ok d_MD_ruleItem_168 f_MD_32 (mi_s k98.1 sf_170) (mi_r k98.1 rfm_19) ?_
                  refine A_iconst d_MD_ruleItem_171 rfl ?_
                  refine A_dup2RI d_MD_ruleItem_172 ?_
                  refine A_pc (pc' := 173) rfl ?_
                  refine A_ialoadv (z := x4) d_MD_ruleItem_173 (mi_s k98.1 sf_177) (by decide) (by decide) ((k96.2.2.1 _ _ rfl).trans ((eh88.1 _ _ (fun q => absurd q (by decide))).trans ((k85.2.2.1 _ _ rfl).trans ((k64.2.2.1 _ _ rfl).trans ((eh59.1 _ _ (fun q => absurd q (by decide))).trans ((eh53.1 _ _ (fun q => absurd q (by decide))).trans ((k50.2.2.1 _ _ rfl).trans ((k39.2.2.1 _ _ rfl).trans ((k32.2.2.1 _ _ rfl).trans ((eh24.1 _ _ (fun q => absurd q (by decide))).trans ((k21.2.2.1 _ _ rfl).trans ((k11.2.2.1 _ _ rfl).trans ex4.symm)))))))))))) ?_
                  refine A_iconst d_MD_ruleItem_174 rfl ?_
                  refine A_iaddv (z := (x4 + 1)) d_MD_ruleItem_175 (w32_to (by first | (clear xx12 xx33 xx40 xw40 xx65; omega) | omega) (by unfold i32; first | (clear xx12 xx33 xx40 xw40 xx65; omega) | omega)) ?_
                  refine A_iastorek (KR := kM (pm [3, 4, 5, 6, 7, 8, 9, 10, 11, 12] [177, 178, 179, 180, 183, 184]) h) d_MD_ruleItem_176 (mi_s k98.1 sf_177) (by decide) (by decide) (kM_i k98 (by decide) rfl (mr_177 _) (by first | (clear xx12 xx33 xx40 xw40 xx65; omega) | omega) (by first | (clear xx12 xx33 xx40 xw40 xx65; omega) | omega)) (fun h102 k103 eh102 => ?_)
                  refine A_aload_n 0 d_MD_ruleItem_177 rfl rfl ?_
                  refine A_bipush d_MD_ruleItem_178 rfl ?_
                  refine A_pc (pc' := 180) rfl ?_
                  have zf105 := ((eh102.1 _ _ (fun q => absurd q (by decide))).trans esd99.symm)
                  have zf106 := ((eh102.1 _ _ (fun q => absurd q (by decide))).trans ((k96.2.2.1 _ _ rfl).trans ((eh88.1 _ _ (fun q => absurd q (by decide))).trans ((k85.2.2.1 _ _ rfl).trans ((k64.2.2.1 _ _ rfl).trans ((eh59.1 _ _ (fun q => absurd q (by decide))).trans ((eh53.1 _ _ (fun q => absurd q (by decide))).trans ((k50.2.2.1 _ _ rfl).trans ((k39.2.2.1 _ _ rfl).trans ((k32.2.2.1 _ _ rfl).trans ((eh24.1 _ _ (fun q => absurd q (by decide))).trans ((k21.2.2.1 _ _ rfl).trans ((k11.2.2.1 _ _ rfl).trans esd2.symm)))))))))))))
                  refine A_callV1 m_MD_want T_ok d_MD_ruleItem_180 l_MD_344 k_MD_want (mi_s k103.1 sf_170) rfl (by decide +kernel) (by decide) (Nat.le_of_ble_eq_true rfl) (s_MD_want k103.1 (by have qq0 := ((eh102.1 _ _ (fun q => absurd q (by decide))).trans esd99.symm); have qq1 := ((eh102.1 _ _ (fun q => absurd q (by decide))).trans ((k96.2.2.1 _ _ rfl).trans ((eh88.1 _ _ (fun q => absurd q (by decide))).trans ((k85.2.2.1 _ _ rfl).trans ((k64.2.2.1 _ _ rfl).trans ((eh59.1 _ _ (fun q => absurd q (by decide))).trans ((eh53.1 _ _ (fun q => absurd q (by decide))).trans ((k50.2.2.1 _ _ rfl).trans ((k39.2.2.1 _ _ rfl).trans ((k32.2.2.1 _ _ rfl).trans ((eh24.1 _ _ (fun q => absurd q (by decide))).trans ((k21.2.2.1 _ _ rfl).trans ((k11.2.2.1 _ _ rfl).trans esd2.symm))))))))))))); first | (clear xx12 xx33 xx40 xw40 xx65; omega) | omega)) (fun r h104 hq => ?_)
                  obtain ⟨x108, rfl, bx108, xx108, k107⟩ := hq
                  have k109 := kM_t k103 k107 (pm_s (by decide) (by decide))
                  obtain ⟨sd110, esd110⟩ : ∃ x, x = h104.2.1 170 3 := ⟨_, rfl⟩
                  have rsd110 : 0 ≤ sd110 ∧ sd110 ≤ 2000 := (by rw [esd110]; exact mi_g k109.1 (by decide) mr_170_3)
                  exact A_zret d_MD_ruleItem_183 (by decide) rfl (by first | (clear xx12 xx33 xx40 xw40 xx65 xx97; omega) | omega) ⟨_, rfl, by first | (clear xx12 xx33 xx40 xw40 xx65 xx97; omega) | omega, ⟨(fun _ => by have qq0 := esd110.symm; have qq1 := ((k107.2.2.1 _ _ rfl).trans ((eh102.1 _ _ (fun q => absurd q (by decide))).trans ((k96.2.2.1 _ _ rfl).trans ((eh88.1 _ _ (fun q => absurd q (by decide))).trans ((k85.2.2.1 _ _ rfl).trans ((k64.2.2.1 _ _ rfl).trans ((eh59.1 _ _ (fun q => absurd q (by decide))).trans ((eh53.1 _ _ (fun q => absurd q (by decide))).trans ((k50.2.2.1 _ _ rfl).trans ((k39.2.2.1 _ _ rfl).trans ((k32.2.2.1 _ _ rfl).trans ((eh24.1 _ _ (fun q => absurd q (by decide))).trans ((k21.2.2.1 _ _ rfl).trans ((k11.2.2.1 _ _ rfl).trans esd2.symm)))))))))))))); exact ⟨by first | (clear xx12 xx33 xx40 xw40 xx65 xx97; omega) | omega, by first | (clear xx12 xx33 xx40 xw40 xx65 xx97; omega) | omega, by first | (clear xx12 xx33 xx40 xw40 xx65 xx97; omega) | omega, by first | (clear xx12 xx33 xx40 xw40 xx65 xx97; omega) | omega⟩), (fun k hk => ⟨((k107.2.2.1 178 k rfl).trans ((eh102.1 178 k (fun q => absurd q (by decide))).trans ((k96.2.2.1 178 k rfl).trans ((eh88.1 178 k (fun q => absurd q (by decide))).trans ((k85.2.2.1 178 k rfl).trans ((k64.2.2.1 178 k rfl).trans ((eh59.1 178 k (fun q => absurd q (by decide))).trans ((eh53.1 178 k (fun q => absurd q (by decide))).trans ((k50.2.2.1 178 k rfl).trans ((k39.2.2.1 178 k rfl).trans ((k32.2.2.1 178 k rfl).trans ((eh24.1 178 k (fun _ => (by first | (clear xx12 xx33 xx40 xw40 xx65 xx97; omega) | omega))).trans ((k21.2.2.1 178 k rfl).trans (k11.2.2.1 178 k rfl)))))))))))))), ((k107.2.2.1 179 k rfl).trans ((eh102.1 179 k (fun q => absurd q (by decide))).trans ((k96.2.2.1 179 k rfl).trans ((eh88.1 179 k (fun q => absurd q (by decide))).trans ((k85.2.2.1 179 k rfl).trans ((k64.2.2.1 179 k rfl).trans ((eh59.1 179 k (fun q => absurd q (by decide))).trans ((eh53.1 179 k (fun _ => (by first | (clear xx12 xx33 xx40 xw40 xx65 xx97; omega) | omega))).trans ((k50.2.2.1 179 k rfl).trans ((k39.2.2.1 179 k rfl).trans ((k32.2.2.1 179 k rfl).trans ((eh24.1 179 k (fun q => absurd q (by decide))).trans ((k21.2.2.1 179 k rfl).trans (k11.2.2.1 179 k rfl)))))))))))))), ((k107.2.2.1 180 k rfl).trans ((eh102.1 180 k (fun q => absurd q (by decide))).trans ((k96.2.2.1 180 k rfl).trans ((eh88.1 180 k (fun _ => (by first | (clear xx12 xx33 xx40 xw40 xx65 xx97; omega) | omega))).trans ((k85.2.2.1 180 k rfl).trans ((k64.2.2.1 180 k rfl).trans ((eh59.1 180 k (fun _ => (by first | (clear xx12 xx33 xx40 xw40 xx65 xx97; omega) | omega))).trans ((eh53.1 180 k (fun q => absurd q (by decide))).trans ((k50.2.2.1 180 k rfl).trans ((k39.2.2.1 180 k rfl).trans ((k32.2.2.1 180 k rfl).trans ((eh24.1 180 k (fun q => absurd q (by decide))).trans ((k21.2.2.1 180 k rfl).trans (k11.2.2.1 180 k rfl))))))))))))))⟩), ((k107.2.2.1 177 0 rfl).trans ((eh102.1 177 0 (fun _ => (by decide))).trans ((k96.2.2.1 177 0 rfl).trans ((eh88.1 177 0 (fun q => absurd q (by decide))).trans ((k85.2.2.1 177 0 rfl).trans ((k64.2.2.1 177 0 rfl).trans ((eh59.1 177 0 (fun q => absurd q (by decide))).trans ((eh53.1 177 0 (fun q => absurd q (by decide))).trans ((k50.2.2.1 177 0 rfl).trans ((k39.2.2.1 177 0 rfl).trans ((k32.2.2.1 177 0 rfl).trans ((eh24.1 177 0 (fun q => absurd q (by decide))).trans ((k21.2.2.1 177 0 rfl).trans (k11.2.2.1 177 0 rfl)))))))))))))), (fun _ => ⟨by have q1 := (((k107.2.2.1 _ _ rfl).trans eh102.2.1) : h104.2.1 177 1 = (x4 + 1)); rw [← ex4]; omega, (by have q1 := ((k107.2.2.1 _ _ rfl).trans ((eh102.1 _ _ (fun q => absurd q (by decide))).trans ((k96.2.2.1 _ _ rfl).trans ((eh88.1 _ _ (fun q => absurd q (by decide))).trans ((k85.2.2.1 _ _ rfl).trans ((k64.2.2.1 _ _ rfl).trans ((eh59.1 _ _ (fun q => absurd q (by decide))).trans ((eh53.1 _ _ (fun q => absurd q (by decide))).trans ((k50.2.2.1 _ _ rfl).trans ((k39.2.2.1 _ _ rfl).trans ((k32.2.2.1 _ _ rfl).trans eh24.2.1))))))))))); have q0 : ((x4 + 24)).toNat = (24 + h.2.1 177 1).toNat := (by rw [← ex4]; first | (clear xx12 xx33 xx40 xw40 xx65 xx97; omega) | omega); rw [q0] at q1; first | (clear xx12 xx33 xx40 xw40 xx65 xx97; omega) | omega), (by have q1 := ((k107.2.2.1 _ _ rfl).trans ((eh102.1 _ _ (fun q => absurd q (by decide))).trans ((k96.2.2.1 _ _ rfl).trans ((eh88.1 _ _ (fun q => absurd q (by decide))).trans ((k85.2.2.1 _ _ rfl).trans ((k64.2.2.1 _ _ rfl).trans ((eh59.1 _ _ (fun q => absurd q (by decide))).trans eh53.2.1))))))); have q0 : ((x4 + 24)).toNat = (24 + h.2.1 177 1).toNat := (by rw [← ex4]; first | (clear xx12 xx33 xx40 xw40 xx65 xx97; omega) | omega); rw [q0] at q1; first | (clear xx12 xx33 xx40 xw40 xx65 xx97; omega) | omega)⟩)⟩, k109⟩
                · refine A_iconst d_MD_ruleItem_160 rfl ?_
                  exact A_zret d_MD_ruleItem_161 (by decide) rfl (by first | (clear xx12 xx33 xx40 xw40; omega) | omega) ⟨_, rfl, by first | (clear xx12 xx33 xx40 xw40; omega) | omega, ⟨(fun _ => by have qq0 := ((eh88.1 _ _ (fun q => absurd q (by decide))).trans ((k85.2.2.1 _ _ rfl).trans esd67.symm)); have qq1 := ((eh88.1 _ _ (fun q => absurd q (by decide))).trans ((k85.2.2.1 _ _ rfl).trans ((k64.2.2.1 _ _ rfl).trans ((eh59.1 _ _ (fun q => absurd q (by decide))).trans ((eh53.1 _ _ (fun q => absurd q (by decide))).trans ((k50.2.2.1 _ _ rfl).trans ((k39.2.2.1 _ _ rfl).trans ((k32.2.2.1 _ _ rfl).trans ((eh24.1 _ _ (fun q => absurd q (by decide))).trans ((k21.2.2.1 _ _ rfl).trans ((k11.2.2.1 _ _ rfl).trans esd2.symm))))))))))); have qq2 := ((eh88.1 _ _ (fun q => absurd q (by decide))).trans ((k85.2.2.1 _ _ rfl).trans ex68.symm)); exact ⟨by first | (clear xx12 xx33 xx40 xw40; omega) | omega, by first | (clear xx12 xx33 xx40 xw40; omega) | omega, by first | (clear xx12 xx33 xx40 xw40; omega) | omega, by first | (clear xx12 xx33 xx40 xw40; omega) | omega⟩), (fun k hk => ⟨((eh88.1 178 k (fun q => absurd q (by decide))).trans ((k85.2.2.1 178 k rfl).trans ((k64.2.2.1 178 k rfl).trans ((eh59.1 178 k (fun q => absurd q (by decide))).trans ((eh53.1 178 k (fun q => absurd q (by decide))).trans ((k50.2.2.1 178 k rfl).trans ((k39.2.2.1 178 k rfl).trans ((k32.2.2.1 178 k rfl).trans ((eh24.1 178 k (fun _ => (by first | (clear xx12 xx33 xx40 xw40; omega) | omega))).trans ((k21.2.2.1 178 k rfl).trans (k11.2.2.1 178 k rfl))))))))))), ((eh88.1 179 k (fun q => absurd q (by decide))).trans ((k85.2.2.1 179 k rfl).trans ((k64.2.2.1 179 k rfl).trans ((eh59.1 179 k (fun q => absurd q (by decide))).trans ((eh53.1 179 k (fun _ => (by first | (clear xx12 xx33 xx40 xw40; omega) | omega))).trans ((k50.2.2.1 179 k rfl).trans ((k39.2.2.1 179 k rfl).trans ((k32.2.2.1 179 k rfl).trans ((eh24.1 179 k (fun q => absurd q (by decide))).trans ((k21.2.2.1 179 k rfl).trans (k11.2.2.1 179 k rfl))))))))))), ((eh88.1 180 k (fun _ => (by first | (clear xx12 xx33 xx40 xw40; omega) | omega))).trans ((k85.2.2.1 180 k rfl).trans ((k64.2.2.1 180 k rfl).trans ((eh59.1 180 k (fun _ => (by first | (clear xx12 xx33 xx40 xw40; omega) | omega))).trans ((eh53.1 180 k (fun q => absurd q (by decide))).trans ((k50.2.2.1 180 k rfl).trans ((k39.2.2.1 180 k rfl).trans ((k32.2.2.1 180 k rfl).trans ((eh24.1 180 k (fun q => absurd q (by decide))).trans ((k21.2.2.1 180 k rfl).trans (k11.2.2.1 180 k rfl)))))))))))⟩), ((eh88.1 177 0 (fun q => absurd q (by decide))).trans ((k85.2.2.1 177 0 rfl).trans ((k64.2.2.1 177 0 rfl).trans ((eh59.1 177 0 (fun q => absurd q (by decide))).trans ((eh53.1 177 0 (fun q => absurd q (by decide))).trans ((k50.2.2.1 177 0 rfl).trans ((k39.2.2.1 177 0 rfl).trans ((k32.2.2.1 177 0 rfl).trans ((eh24.1 177 0 (fun q => absurd q (by decide))).trans ((k21.2.2.1 177 0 rfl).trans (k11.2.2.1 177 0 rfl))))))))))), (fun q => absurd q (by decide))⟩, k89⟩
            · refine A_iconst d_MD_ruleItem_118 rfl ?_
              exact A_zret d_MD_ruleItem_119 (by decide) rfl (by first | (clear xx12 xx33 xx40; omega) | omega) ⟨_, rfl, by first | (clear xx12 xx33 xx40; omega) | omega, ⟨(fun _ => by have qq0 := ((eh53.1 _ _ (fun q => absurd q (by decide))).trans ((k50.2.2.1 _ _ rfl).trans esd42.symm)); have qq1 := ((eh53.1 _ _ (fun q => absurd q (by decide))).trans ((k50.2.2.1 _ _ rfl).trans ((k39.2.2.1 _ _ rfl).trans ((k32.2.2.1 _ _ rfl).trans ((eh24.1 _ _ (fun q => absurd q (by decide))).trans ((k21.2.2.1 _ _ rfl).trans ((k11.2.2.1 _ _ rfl).trans esd2.symm))))))); have qq2 := ((eh53.1 _ _ (fun q => absurd q (by decide))).trans ((k50.2.2.1 _ _ rfl).trans ex44.symm)); exact ⟨by first | (clear xx12 xx33 xx40; omega) | omega, by first | (clear xx12 xx33 xx40; omega) | omega, by first | (clear xx12 xx33 xx40; omega) | omega, by first | (clear xx12 xx33 xx40; omega) | omega⟩), (fun k hk => ⟨((eh53.1 178 k (fun q => absurd q (by decide))).trans ((k50.2.2.1 178 k rfl).trans ((k39.2.2.1 178 k rfl).trans ((k32.2.2.1 178 k rfl).trans ((eh24.1 178 k (fun _ => (by first | (clear xx12 xx33 xx40; omega) | omega))).trans ((k21.2.2.1 178 k rfl).trans (k11.2.2.1 178 k rfl))))))), ((eh53.1 179 k (fun _ => (by first | (clear xx12 xx33 xx40; omega) | omega))).trans ((k50.2.2.1 179 k rfl).trans ((k39.2.2.1 179 k rfl).trans ((k32.2.2.1 179 k rfl).trans ((eh24.1 179 k (fun q => absurd q (by decide))).trans ((k21.2.2.1 179 k rfl).trans (k11.2.2.1 179 k rfl))))))), ((eh53.1 180 k (fun q => absurd q (by decide))).trans ((k50.2.2.1 180 k rfl).trans ((k39.2.2.1 180 k rfl).trans ((k32.2.2.1 180 k rfl).trans ((eh24.1 180 k (fun q => absurd q (by decide))).trans ((k21.2.2.1 180 k rfl).trans (k11.2.2.1 180 k rfl)))))))⟩), ((eh53.1 177 0 (fun q => absurd q (by decide))).trans ((k50.2.2.1 177 0 rfl).trans ((k39.2.2.1 177 0 rfl).trans ((k32.2.2.1 177 0 rfl).trans ((eh24.1 177 0 (fun q => absurd q (by decide))).trans ((k21.2.2.1 177 0 rfl).trans (k11.2.2.1 177 0 rfl))))))), (fun q => absurd q (by decide))⟩, k54⟩
          · refine A_aload_n 0 d_MD_ruleItem_94 rfl rfl ?_
            have zf112 := esd42.symm
            have zf113 := ((k39.2.2.1 _ _ rfl).trans ((k32.2.2.1 _ _ rfl).trans ((eh24.1 _ _ (fun q => absurd q (by decide))).trans ((k21.2.2.1 _ _ rfl).trans ((k11.2.2.1 _ _ rfl).trans esd2.symm)))))
            refine A_callV0 m_MD_cant T_ok d_MD_ruleItem_95 l_MD_313 k_MD_cant (mi_s k41.1 sf_170) rfl (by decide +kernel) (by decide) (Nat.le_of_ble_eq_true rfl) (s_MD_cant k41.1 ) (fun r h111 hq => ?_)
            obtain ⟨x115, rfl, ⟨_, _⟩, k114⟩ := hq
            have k116 := kM_t k41 k114 (pm_s (by decide) (by decide))
            obtain rfl : x115 = 0 := by first | (clear xx12 xx33 xx40; omega) | omega
            exact A_zret d_MD_ruleItem_98 (by decide) rfl (by first | (clear xx12 xx33 xx40; omega) | omega) ⟨_, rfl, by first | (clear xx12 xx33 xx40; omega) | omega, ⟨(fun _ => by have qq0 := ((k114.2.2.1 _ _ rfl).trans esd42.symm); have qq1 := ((k114.2.2.1 _ _ rfl).trans ((k39.2.2.1 _ _ rfl).trans ((k32.2.2.1 _ _ rfl).trans ((eh24.1 _ _ (fun q => absurd q (by decide))).trans ((k21.2.2.1 _ _ rfl).trans ((k11.2.2.1 _ _ rfl).trans esd2.symm)))))); have qq2 := ((k114.2.2.1 _ _ rfl).trans ex44.symm); exact ⟨by first | (clear xx12 xx33 xx40; omega) | omega, by first | (clear xx12 xx33 xx40; omega) | omega, by first | (clear xx12 xx33 xx40; omega) | omega, by first | (clear xx12 xx33 xx40; omega) | omega⟩), (fun k hk => ⟨((k114.2.2.1 178 k rfl).trans ((k39.2.2.1 178 k rfl).trans ((k32.2.2.1 178 k rfl).trans ((eh24.1 178 k (fun _ => (by first | (clear xx12 xx33 xx40; omega) | omega))).trans ((k21.2.2.1 178 k rfl).trans (k11.2.2.1 178 k rfl)))))), ((k114.2.2.1 179 k rfl).trans ((k39.2.2.1 179 k rfl).trans ((k32.2.2.1 179 k rfl).trans ((eh24.1 179 k (fun q => absurd q (by decide))).trans ((k21.2.2.1 179 k rfl).trans (k11.2.2.1 179 k rfl)))))), ((k114.2.2.1 180 k rfl).trans ((k39.2.2.1 180 k rfl).trans ((k32.2.2.1 180 k rfl).trans ((eh24.1 180 k (fun q => absurd q (by decide))).trans ((k21.2.2.1 180 k rfl).trans (k11.2.2.1 180 k rfl))))))⟩), ((k114.2.2.1 177 0 rfl).trans ((k39.2.2.1 177 0 rfl).trans ((k32.2.2.1 177 0 rfl).trans ((eh24.1 177 0 (fun q => absurd q (by decide))).trans ((k21.2.2.1 177 0 rfl).trans (k11.2.2.1 177 0 rfl)))))), (fun q => absurd q (by decide))⟩, k116⟩
        · refine A_iconst d_MD_ruleItem_84 rfl ?_
          exact A_zret d_MD_ruleItem_85 (by decide) rfl (by first | (clear xx12 xx33; omega) | omega) ⟨_, rfl, by first | (clear xx12 xx33; omega) | omega, ⟨(fun _ => by have qq0 := esd42.symm; have qq1 := ((k39.2.2.1 _ _ rfl).trans ((k32.2.2.1 _ _ rfl).trans ((eh24.1 _ _ (fun q => absurd q (by decide))).trans ((k21.2.2.1 _ _ rfl).trans ((k11.2.2.1 _ _ rfl).trans esd2.symm))))); exact ⟨by first | (clear xx12 xx33; omega) | omega, by first | (clear xx12 xx33; omega) | omega, by first | (clear xx12 xx33; omega) | omega, by first | (clear xx12 xx33; omega) | omega⟩), (fun k hk => ⟨((k39.2.2.1 178 k rfl).trans ((k32.2.2.1 178 k rfl).trans ((eh24.1 178 k (fun _ => (by first | (clear xx12 xx33; omega) | omega))).trans ((k21.2.2.1 178 k rfl).trans (k11.2.2.1 178 k rfl))))), ((k39.2.2.1 179 k rfl).trans ((k32.2.2.1 179 k rfl).trans ((eh24.1 179 k (fun q => absurd q (by decide))).trans ((k21.2.2.1 179 k rfl).trans (k11.2.2.1 179 k rfl))))), ((k39.2.2.1 180 k rfl).trans ((k32.2.2.1 180 k rfl).trans ((eh24.1 180 k (fun q => absurd q (by decide))).trans ((k21.2.2.1 180 k rfl).trans (k11.2.2.1 180 k rfl)))))⟩), ((k39.2.2.1 177 0 rfl).trans ((k32.2.2.1 177 0 rfl).trans ((eh24.1 177 0 (fun q => absurd q (by decide))).trans ((k21.2.2.1 177 0 rfl).trans (k11.2.2.1 177 0 rfl))))), (fun q => absurd q (by decide))⟩, k41⟩
      · refine A_iconst d_MD_ruleItem_68 rfl ?_
        exact A_zret d_MD_ruleItem_69 (by decide) rfl (by omega) ⟨_, rfl, by omega, ⟨(fun _ => by have qq0 := ((eh24.1 _ _ (fun q => absurd q (by decide))).trans ((k21.2.2.1 _ _ rfl).trans esd14.symm)); have qq1 := ((eh24.1 _ _ (fun q => absurd q (by decide))).trans ((k21.2.2.1 _ _ rfl).trans ((k11.2.2.1 _ _ rfl).trans esd2.symm))); have qq2 := ((eh24.1 _ _ (fun q => absurd q (by decide))).trans ((k21.2.2.1 _ _ rfl).trans ex15.symm)); exact ⟨by omega, by omega, by omega, by omega⟩), (fun k hk => ⟨((eh24.1 178 k (fun _ => (by omega))).trans ((k21.2.2.1 178 k rfl).trans (k11.2.2.1 178 k rfl))), ((eh24.1 179 k (fun q => absurd q (by decide))).trans ((k21.2.2.1 179 k rfl).trans (k11.2.2.1 179 k rfl))), ((eh24.1 180 k (fun q => absurd q (by decide))).trans ((k21.2.2.1 180 k rfl).trans (k11.2.2.1 180 k rfl)))⟩), ((eh24.1 177 0 (fun q => absurd q (by decide))).trans ((k21.2.2.1 177 0 rfl).trans (k11.2.2.1 177 0 rfl))), (fun q => absurd q (by decide))⟩, k25⟩
    · refine A_aload_n 0 d_MD_ruleItem_44 rfl rfl ?_
      have zf118 := esd14.symm
      have zf119 := ((k11.2.2.1 _ _ rfl).trans esd2.symm)
      refine A_callV0 m_MD_cant T_ok d_MD_ruleItem_45 l_MD_313 k_MD_cant (mi_s k13.1 sf_170) rfl (by decide +kernel) (by decide) (Nat.le_of_ble_eq_true rfl) (s_MD_cant k13.1 ) (fun r h117 hq => ?_)
      obtain ⟨x121, rfl, ⟨_, _⟩, k120⟩ := hq
      have k122 := kM_t k13 k120 (pm_s (by decide) (by decide))
      obtain rfl : x121 = 0 := by omega
      exact A_zret d_MD_ruleItem_48 (by decide) rfl (by omega) ⟨_, rfl, by omega, ⟨(fun _ => by have qq0 := ((k120.2.2.1 _ _ rfl).trans esd14.symm); have qq1 := ((k120.2.2.1 _ _ rfl).trans ((k11.2.2.1 _ _ rfl).trans esd2.symm)); have qq2 := ((k120.2.2.1 _ _ rfl).trans ex15.symm); exact ⟨by omega, by omega, by omega, by omega⟩), (fun k hk => ⟨((k120.2.2.1 178 k rfl).trans (k11.2.2.1 178 k rfl)), ((k120.2.2.1 179 k rfl).trans (k11.2.2.1 179 k rfl)), ((k120.2.2.1 180 k rfl).trans (k11.2.2.1 180 k rfl))⟩), ((k120.2.2.1 177 0 rfl).trans (k11.2.2.1 177 0 rfl)), (fun q => absurd q (by decide))⟩, k122⟩
  · refine A_aload_n 0 d_MD_ruleItem_11 rfl rfl ?_
    refine A_iconst d_MD_ruleItem_12 rfl ?_
    refine A_aload_n 0 d_MD_ruleItem_13 rfl rfl ?_
    refine A_getIn (lo := 0) (hi := 2000) T_ok d_MD_ruleItem_14 f_MD_242 (mi_s k0.1 sf_170) (mi_g k0.1 (by decide) mr_170_5) (fun x123 ex123 _ _ => ?_)
    have zf125 := esd1.symm
    have zf126 := esd2.symm
    refine A_callV2 m_MD_wrong T_ok d_MD_ruleItem_17 l_MD_245 k_MD_wrong (mi_s k0.1 sf_170) rfl (by decide +kernel) (by decide) (Nat.le_of_ble_eq_true rfl) (s_MD_wrong k0.1 (by omega) (by omega) (by omega) (by omega)) (fun r h124 hq => ?_)
    obtain ⟨x128, rfl, ⟨_, _⟩, k127⟩ := hq
    have k129 := kM_t k0 k127 (pm_s (by decide) (by decide))
    obtain rfl : x128 = 0 := by omega
    exact A_zret d_MD_ruleItem_20 (by decide) rfl (by omega) ⟨_, rfl, by omega, ⟨(fun _ => by have qq0 := ((k127.2.2.1 _ _ rfl).trans esd1.symm); have qq1 := ((k127.2.2.1 _ _ rfl).trans esd2.symm); exact ⟨by omega, by omega, by omega, by omega⟩), (fun k hk => ⟨(k127.2.2.1 178 k rfl), (k127.2.2.1 179 k rfl), (k127.2.2.1 180 k rfl)⟩), (k127.2.2.1 177 0 rfl), (fun q => absurd q (by decide))⟩, k129⟩
theorem s_MD_rowItem {G : cx_T} {h : ah_T} (hx : mi h)  (hse : h.2.1 170 3 ≤ h.2.1 170 2) : con G 3 0 0 m_MD_rowItem [av_R (some 170)] h (fun r h' => ∃ z, r = some (av_I z) ∧ (z = 0 ∨ z = 1) ∧ ((z = 1 → h.2.1 170 3 ≤ h'.2.1 170 3 ∧ h'.2.1 170 3 ≤ h.2.1 170 2 ∧ (h'.2.1 170 4 ≠ 0 → h'.2.1 170 4 ≠ 6 → h.2.1 170 3 < h'.2.1 170 3) ∧ (h'.2.1 170 4 = 0 → h'.2.1 170 3 = h.2.1 170 2)) ∧ (∀ k : Nat, k < 12 → h'.2.1 182 k = h.2.1 182 k) ∧ h'.2.1 181 0 = h.2.1 181 0) ∧ kM (pm [3, 4, 5, 6, 7, 8, 9, 10, 11, 12, 61] [181, 182, 183, 184]) h h') := by
  refine con_of (L := [some (av_R (some 170)), none]) (by decide +kernel) (Nat.le_of_ble_eq_true rfl) rfl ?_
  have k0 : kM (pm [3, 4, 5, 6, 7, 8, 9, 10, 11, 12, 61] [181, 182, 183, 184]) h h := kM_0 hx
  obtain ⟨sd1, esd1⟩ : ∃ x, x = h.2.1 170 3 := ⟨_, rfl⟩
  have rsd1 : 0 ≤ sd1 ∧ sd1 ≤ 2000 := (by rw [esd1]; exact mi_g k0.1 (by decide) mr_170_3)
  obtain ⟨sd2, esd2⟩ : ∃ x, x = h.2.1 170 2 := ⟨_, rfl⟩
  have rsd2 : 0 ≤ sd2 ∧ sd2 ≤ 2000 := (by rw [esd2]; exact mi_g k0.1 (by decide) mr_170_2)
  refine A_aload_n 0 d_MD_rowItem_0 rfl rfl ?_
  refine A_getZn T_ok d_MD_rowItem_1 f_MD_323 (mi_s k0.1 sf_170) (fun x3 ex3 bx3 => ?_)
  refine A_if_eq (tgt := 17) d_MD_rowItem_4 (by decide) (fun c4 => ?_) (fun c4 => ?_)
  · refine A_aload_n 0 d_MD_rowItem_17 rfl rfl ?_
    refine A_iconst d_MD_rowItem_18 rfl ?_
    refine A_putZk (KR := kM (pm [3, 4, 5, 6, 7, 8, 9, 10, 11, 12, 61] [181, 182, 183, 184]) h) T_ok d_MD_rowItem_19 f_MD_323 (mi_s k0.1 sf_170) fin_f (by omega) (kM_i k0 (by decide) (by decide) mr_170_61 (by omega) (by omega)) (fun h5 k6 eh5 => ?_)
    refine A_aload_n 0 d_MD_rowItem_22 rfl rfl ?_
    have zf8 := ((eh5.1 _ _ (fun _ => by decide)).trans esd1.symm)
    have zf9 := ((eh5.1 _ _ (fun _ => by decide)).trans esd2.symm)
    refine A_callV0 m_MD_next T_ok d_MD_rowItem_23 l_MD_309 k_MD_next (mi_s k6.1 sf_170) rfl (by decide +kernel) (by decide) (Nat.le_of_ble_eq_true rfl) (s_MD_next k6.1 (by have qq0 := ((eh5.1 _ _ (fun _ => by decide)).trans esd1.symm); have qq1 := ((eh5.1 _ _ (fun _ => by decide)).trans esd2.symm); omega)) (fun r h7 hq => ?_)
    obtain ⟨x11, rfl, ⟨_, _⟩, xx11, k10⟩ := hq
    have xa11 := xx11.1
    have xb11 := xx11.2.1
    have k12 := kM_t k6 k10 (pm_s (by decide) (by decide))
    obtain ⟨sd13, esd13⟩ : ∃ x, x = h7.2.1 170 3 := ⟨_, rfl⟩
    have rsd13 : 0 ≤ sd13 ∧ sd13 ≤ 2000 := (by rw [esd13]; exact mi_g k12.1 (by decide) mr_170_3)
    refine A_popI d_MD_rowItem_26 ?_
    have lp27 : ∀ (n : Nat) (h14 : ah_T) , h.2.1 170 3 ≤ h14.2.1 170 3 ∧ h14.2.1 170 3 ≤ h.2.1 170 2 ∧ (h14.2.1 170 4 ≠ 0 → h14.2.1 170 4 ≠ 6 → h.2.1 170 3 < h14.2.1 170 3) ∧ (h14.2.1 170 4 = 0 → h14.2.1 170 3 = h.2.1 170 2) ∧ (∀ k : Nat, k < 12 → h14.2.1 182 k = h.2.1 182 k) ∧ h14.2.1 181 0 = h.2.1 181 0 → kM (pm [3, 4, 5, 6, 7, 8, 9, 10, 11, 12, 61] [181, 182, 183, 184]) h h14 → (mu h14).toNat < n → aw G (rm_R 3 0 0) m_MD_rowItem 0 0 27 [some (av_R (some 170)), none] [] h14 (fun r h' => ∃ z, r = some (av_I z) ∧ (z = 0 ∨ z = 1) ∧ ((z = 1 → h.2.1 170 3 ≤ h'.2.1 170 3 ∧ h'.2.1 170 3 ≤ h.2.1 170 2 ∧ (h'.2.1 170 4 ≠ 0 → h'.2.1 170 4 ≠ 6 → h.2.1 170 3 < h'.2.1 170 3) ∧ (h'.2.1 170 4 = 0 → h'.2.1 170 3 = h.2.1 170 2)) ∧ (∀ k : Nat, k < 12 → h'.2.1 182 k = h.2.1 182 k) ∧ h'.2.1 181 0 = h.2.1 181 0) ∧ kM (pm [3, 4, 5, 6, 7, 8, 9, 10, 11, 12, 61] [181, 182, 183, 184]) h h') := by
      intro n
      induction n with
      | zero => intro h14 _ _ hm; omega
      | succ n ih27 =>
        intro h14  hinv k15 hm
        obtain ⟨sd16, esd16⟩ : ∃ x, x = h14.2.1 170 3 := ⟨_, rfl⟩
        have rsd16 : 0 ≤ sd16 ∧ sd16 ≤ 2000 := (by rw [esd16]; exact mi_g k15.1 (by decide) mr_170_3)
        refine A_aload_n 0 d_MD_rowItem_27 rfl rfl ?_
        refine A_getIn (lo := 0) (hi := 6) T_ok d_MD_rowItem_28 f_MD_239 (mi_s k15.1 sf_170) (mi_g k15.1 (by decide) mr_170_4) (fun x17 ex17 _ _ => ?_)
        refine A_iconst d_MD_rowItem_31 rfl ?_
        refine A_icmp_eq (tgt := 40) d_MD_rowItem_32 (by decide) (fun c18 => ?_) (fun c18 => ?_)
        · refine A_aload_n 0 d_MD_rowItem_40 rfl rfl ?_
          refine A_getAv (z := some 181) T_ok d_MD_rowItem_41 f_MD_44 (mi_s k15.1 sf_170) (mi_r k15.1 rfm_23) ?_
          refine A_iconst d_MD_rowItem_44 rfl ?_
          refine A_ialoadn (lo := 0) (hi := 12) d_MD_rowItem_45 (mi_s k15.1 sf_181) (by decide) (by decide) (mi_g k15.1 (by decide) (mr_181 _)) (fun x20 ex20 _ _ => ?_)
          replace ex20 : x20 = h14.2.1 181 1 := ex20
          refine A_bipush d_MD_rowItem_46 rfl ?_
          refine A_pc (pc' := 48) rfl ?_
          refine A_icmp_ne (tgt := 61) d_MD_rowItem_48 (by decide) (fun c21 => ?_) (fun c21 => ?_)
          · refine A_aload_n 0 d_MD_rowItem_61 rfl rfl ?_
            have zf23 := esd16.symm
            have zf24 := ((k15.2.2.1 _ _ rfl).trans esd2.symm)
            refine A_callV0 m_MD_nameNumber T_ok d_MD_rowItem_62 l_MD_350 k_MD_nameNumber (mi_s k15.1 sf_170) rfl (by decide +kernel) (by decide) (Nat.le_of_ble_eq_true rfl) (s_MD_nameNumber k15.1 ) (fun r h22 hq => ?_)
            obtain ⟨x26, rfl, ⟨_, _⟩, k25⟩ := hq
            have k27 := kM_t k15 k25 (pm_s (by decide) (by decide))
            refine A_istore_n 1 (L' := [some (av_R (some 170)), some (av_I x26)]) d_MD_rowItem_65 rfl (Nat.le_of_ble_eq_true rfl) rfl ?_
            refine A_iload_n 1 d_MD_rowItem_66 rfl rfl ?_
            refine A_if_ge (tgt := 72) d_MD_rowItem_67 (by decide) (fun c28 => ?_) (fun c28 => ?_)
            · refine A_aload_n 0 d_MD_rowItem_72 rfl rfl ?_
              refine A_getAv (z := some 182) T_ok d_MD_rowItem_73 f_MD_47 (mi_s k27.1 sf_170) (mi_r k27.1 rfm_24) ?_
              refine A_bipush d_MD_rowItem_76 rfl ?_
              refine A_aload_n 0 d_MD_rowItem_78 rfl rfl ?_
              refine A_getAv (z := some 181) T_ok d_MD_rowItem_79 f_MD_44 (mi_s k27.1 sf_170) (mi_r k27.1 rfm_23) ?_
              refine A_pc (pc' := 82) rfl ?_
              refine A_iconst d_MD_rowItem_82 rfl ?_
              refine A_ialoadv (z := x20) d_MD_rowItem_83 (mi_s k27.1 sf_181) (by decide) (by decide) ((k25.2.2.1 _ _ rfl).trans ex20.symm) ?_
              refine A_iaddv (z := (x20 + 12)) d_MD_rowItem_84 (w32_to (by omega) (by unfold i32; omega)) ?_
              refine A_iload_n 1 d_MD_rowItem_85 rfl rfl ?_
              refine A_iastorek (KR := kM (pm [3, 4, 5, 6, 7, 8, 9, 10, 11, 12, 61] [181, 182, 183, 184]) h) d_MD_rowItem_86 (mi_s k27.1 sf_182) (by omega) (by omega) (kM_i k27 (by decide) rfl (mr_182 _) (by omega) (by omega)) (fun h32 k33 eh32 => ?_)
              refine A_aload_n 0 d_MD_rowItem_87 rfl rfl ?_
              refine A_pc (pc' := 88) rfl ?_
              refine A_getAv (z := some 181) T_ok d_MD_rowItem_88 f_MD_44 (mi_s k33.1 sf_170) (mi_r k33.1 rfm_23) ?_
              refine A_iconst d_MD_rowItem_91 rfl ?_
              refine A_dup2RI d_MD_rowItem_92 ?_
              refine A_ialoadv (z := x20) d_MD_rowItem_93 (mi_s k33.1 sf_181) (by decide) (by decide) ((eh32.1 _ _ (fun q => absurd q (by decide))).trans ((k25.2.2.1 _ _ rfl).trans ex20.symm)) ?_
              refine A_iconst d_MD_rowItem_94 rfl ?_
              refine A_iaddv (z := (x20 + 1)) d_MD_rowItem_95 (w32_to (by omega) (by unfold i32; omega)) ?_
              refine A_pc (pc' := 96) rfl ?_
              refine A_iastorek (KR := kM (pm [3, 4, 5, 6, 7, 8, 9, 10, 11, 12, 61] [181, 182, 183, 184]) h) d_MD_rowItem_96 (mi_s k33.1 sf_181) (by decide) (by decide) (kM_i k33 (by decide) rfl (mr_181 _) (by omega) (by omega)) (fun h36 k37 eh36 => ?_)
              refine A_aload_n 0 d_MD_rowItem_97 rfl rfl ?_
              have zf39 := ((eh36.1 _ _ (fun q => absurd q (by decide))).trans ((eh32.1 _ _ (fun q => absurd q (by decide))).trans ((k25.2.2.1 _ _ rfl).trans esd16.symm)))
              have zf40 := ((eh36.1 _ _ (fun q => absurd q (by decide))).trans ((eh32.1 _ _ (fun q => absurd q (by decide))).trans ((k25.2.2.1 _ _ rfl).trans ((k15.2.2.1 _ _ rfl).trans esd2.symm))))
              refine A_callV0 m_MD_next T_ok d_MD_rowItem_98 l_MD_309 k_MD_next (mi_s k37.1 sf_170) rfl (by decide +kernel) (by decide) (Nat.le_of_ble_eq_true rfl) (s_MD_next k37.1 (by have qq0 := ((eh36.1 _ _ (fun q => absurd q (by decide))).trans ((eh32.1 _ _ (fun q => absurd q (by decide))).trans ((k25.2.2.1 _ _ rfl).trans esd16.symm))); have qq1 := ((eh36.1 _ _ (fun q => absurd q (by decide))).trans ((eh32.1 _ _ (fun q => absurd q (by decide))).trans ((k25.2.2.1 _ _ rfl).trans ((k15.2.2.1 _ _ rfl).trans esd2.symm)))); omega)) (fun r h38 hq => ?_)
              obtain ⟨x42, rfl, ⟨_, _⟩, xx42, k41⟩ := hq
              have xa42 := xx42.1
              have xb42 := xx42.2.1
              have k43 := kM_t k37 k41 (pm_s (by decide) (by decide))
              obtain ⟨sd44, esd44⟩ : ∃ x, x = h38.2.1 170 3 := ⟨_, rfl⟩
              have rsd44 : 0 ≤ sd44 ∧ sd44 ≤ 2000 := (by rw [esd44]; exact mi_g k43.1 (by decide) mr_170_3)
              refine A_popI d_MD_rowItem_101 ?_
              refine A_aload_n 0 d_MD_rowItem_102 rfl rfl ?_
              refine A_bipush d_MD_rowItem_103 rfl ?_
              have zf46 := esd44.symm
              have zf47 := ((k41.2.2.1 _ _ rfl).trans ((eh36.1 _ _ (fun q => absurd q (by decide))).trans ((eh32.1 _ _ (fun q => absurd q (by decide))).trans ((k25.2.2.1 _ _ rfl).trans ((k15.2.2.1 _ _ rfl).trans esd2.symm)))))
              refine A_callV1 m_MD_isSign T_ok d_MD_rowItem_105 l_MD_306 k_MD_isSign (mi_s k43.1 sf_170) rfl (by decide +kernel) (by decide) (Nat.le_of_ble_eq_true rfl) (s_MD_isSign k43.1 ) (fun r h45 hq => ?_)
              obtain ⟨x49, rfl, bx49, xx49, rfl⟩ := hq
              refine A_if_eq (tgt := 27) d_MD_rowItem_108 (by decide) (fun c50 => ?_) (fun c50 => ?_)
              · refine A_free (L' := [some (av_R (some 170)), none]) (And.intro rfl trivial) ?_
                exact ih27 h38 ⟨(by have qq0 := esd44.symm; have qq1 := ((k41.2.2.1 _ _ rfl).trans ((eh36.1 _ _ (fun q => absurd q (by decide))).trans ((eh32.1 _ _ (fun q => absurd q (by decide))).trans ((k25.2.2.1 _ _ rfl).trans ((k15.2.2.1 _ _ rfl).trans esd2.symm))))); first | (clear xx11; omega) | omega), (by have qq0 := esd44.symm; have qq1 := ((k41.2.2.1 _ _ rfl).trans ((eh36.1 _ _ (fun q => absurd q (by decide))).trans ((eh32.1 _ _ (fun q => absurd q (by decide))).trans ((k25.2.2.1 _ _ rfl).trans ((k15.2.2.1 _ _ rfl).trans esd2.symm))))); first | (clear xx11; omega) | omega), (by have qq0 := esd44.symm; have qq1 := ((k41.2.2.1 _ _ rfl).trans ((eh36.1 _ _ (fun q => absurd q (by decide))).trans ((eh32.1 _ _ (fun q => absurd q (by decide))).trans ((k25.2.2.1 _ _ rfl).trans ((k15.2.2.1 _ _ rfl).trans esd2.symm))))); first | (clear xx11; omega) | omega), (by have qq0 := esd44.symm; have qq1 := ((k41.2.2.1 _ _ rfl).trans ((eh36.1 _ _ (fun q => absurd q (by decide))).trans ((eh32.1 _ _ (fun q => absurd q (by decide))).trans ((k25.2.2.1 _ _ rfl).trans ((k15.2.2.1 _ _ rfl).trans esd2.symm))))); first | (clear xx11; omega) | omega), (fun k hk => ((k41.2.2.1 182 k rfl).trans ((eh36.1 182 k (fun q => absurd q (by decide))).trans ((eh32.1 182 k (fun _ => (by first | (clear xx11; omega) | omega))).trans ((k25.2.2.1 182 k rfl).trans (hinv.2.2.2.2.1 k hk)))))), ((k41.2.2.1 181 0 rfl).trans ((eh36.1 181 0 (fun _ => (by decide))).trans ((eh32.1 181 0 (fun q => absurd q (by decide))).trans ((k25.2.2.1 181 0 rfl).trans hinv.2.2.2.2.2))))⟩ k43 (by have qq0 := esd44.symm; have qh0 := ((k15.2.2.1 _ _ rfl).trans esd2.symm); have qh1 := esd16.symm; have qe0 := ((k41.2.2.1 _ _ rfl).trans ((eh36.1 _ _ (fun q => absurd q (by decide))).trans ((eh32.1 _ _ (fun q => absurd q (by decide))).trans ((k25.2.2.1 _ _ rfl).trans ((k15.2.2.1 _ _ rfl).trans esd2.symm))))); first | exact mu_dec (h0 := h14) (h1 := h38) hm (by first | (clear xx11; omega) | omega) (by first | (clear xx11; omega) | omega) (by first | (clear xx11; omega) | omega) (by first | (clear xx11; omega) | omega) (by first | (clear xx11; omega) | omega) (fun _ _ => by first | (clear xx11; omega) | omega) | (have mm0 := mu_f h14; have mm1 := mu_f h38; first | (clear xx11; omega) | omega))
              · refine A_aload_n 0 d_MD_rowItem_111 rfl rfl ?_
                have zf52 := esd44.symm
                have zf53 := ((k41.2.2.1 _ _ rfl).trans ((eh36.1 _ _ (fun q => absurd q (by decide))).trans ((eh32.1 _ _ (fun q => absurd q (by decide))).trans ((k25.2.2.1 _ _ rfl).trans ((k15.2.2.1 _ _ rfl).trans esd2.symm)))))
                refine A_callV0 m_MD_next T_ok d_MD_rowItem_112 l_MD_309 k_MD_next (mi_s k43.1 sf_170) rfl (by decide +kernel) (by decide) (Nat.le_of_ble_eq_true rfl) (s_MD_next k43.1 (by have qq0 := esd44.symm; have qq1 := ((k41.2.2.1 _ _ rfl).trans ((eh36.1 _ _ (fun q => absurd q (by decide))).trans ((eh32.1 _ _ (fun q => absurd q (by decide))).trans ((k25.2.2.1 _ _ rfl).trans ((k15.2.2.1 _ _ rfl).trans esd2.symm))))); first | (clear xx11; omega) | omega)) (fun r h51 hq => ?_)
                obtain ⟨x55, rfl, ⟨_, _⟩, xx55, k54⟩ := hq
                have xa55 := xx55.1
                have xb55 := xx55.2.1
                have k56 := kM_t k43 k54 (pm_s (by decide) (by decide))
                obtain ⟨sd57, esd57⟩ : ∃ x, x = h51.2.1 170 3 := ⟨_, rfl⟩
                have rsd57 : 0 ≤ sd57 ∧ sd57 ≤ 2000 := (by rw [esd57]; exact mi_g k56.1 (by decide) mr_170_3)
                exact A_zret d_MD_rowItem_115 (by decide) rfl (by first | (clear xx11 xx42; omega) | omega) ⟨_, rfl, by first | (clear xx11 xx42; omega) | omega, ⟨(fun _ => by have qq0 := esd57.symm; have qq1 := ((k54.2.2.1 _ _ rfl).trans ((k41.2.2.1 _ _ rfl).trans ((eh36.1 _ _ (fun q => absurd q (by decide))).trans ((eh32.1 _ _ (fun q => absurd q (by decide))).trans ((k25.2.2.1 _ _ rfl).trans ((k15.2.2.1 _ _ rfl).trans esd2.symm)))))); exact ⟨by first | (clear xx11 xx42; omega) | omega, by first | (clear xx11 xx42; omega) | omega, by first | (clear xx11 xx42; omega) | omega, by first | (clear xx11 xx42; omega) | omega⟩), (fun k hk => ((k54.2.2.1 182 k rfl).trans ((k41.2.2.1 182 k rfl).trans ((eh36.1 182 k (fun q => absurd q (by decide))).trans ((eh32.1 182 k (fun _ => (by first | (clear xx11 xx42; omega) | omega))).trans ((k25.2.2.1 182 k rfl).trans (hinv.2.2.2.2.1 k hk))))))), ((k54.2.2.1 181 0 rfl).trans ((k41.2.2.1 181 0 rfl).trans ((eh36.1 181 0 (fun _ => (by decide))).trans ((eh32.1 181 0 (fun q => absurd q (by decide))).trans ((k25.2.2.1 181 0 rfl).trans hinv.2.2.2.2.2)))))⟩, k56⟩
            · refine A_iconst d_MD_rowItem_70 rfl ?_
              exact A_zret d_MD_rowItem_71 (by decide) rfl (by omega) ⟨_, rfl, by omega, ⟨(fun _ => by have qq0 := ((k25.2.2.1 _ _ rfl).trans esd16.symm); have qq1 := ((k25.2.2.1 _ _ rfl).trans ((k15.2.2.1 _ _ rfl).trans esd2.symm)); have qq2 := ((k25.2.2.1 _ _ rfl).trans ex17.symm); exact ⟨by omega, by omega, by omega, by omega⟩), (fun k hk => ((k25.2.2.1 182 k rfl).trans (hinv.2.2.2.2.1 k hk))), ((k25.2.2.1 181 0 rfl).trans hinv.2.2.2.2.2)⟩, k27⟩
          · refine A_aload_n 0 d_MD_rowItem_51 rfl rfl ?_
            refine A_iconst d_MD_rowItem_52 rfl ?_
            refine A_aload_n 0 d_MD_rowItem_53 rfl rfl ?_
            refine A_getIn (lo := 0) (hi := 2000) T_ok d_MD_rowItem_54 f_MD_242 (mi_s k15.1 sf_170) (mi_g k15.1 (by decide) mr_170_5) (fun x58 ex58 _ _ => ?_)
            have zf60 := esd16.symm
            have zf61 := ((k15.2.2.1 _ _ rfl).trans esd2.symm)
            refine A_callV2 m_MD_wrong T_ok d_MD_rowItem_57 l_MD_245 k_MD_wrong (mi_s k15.1 sf_170) rfl (by decide +kernel) (by decide) (Nat.le_of_ble_eq_true rfl) (s_MD_wrong k15.1 (by omega) (by omega) (by omega) (by omega)) (fun r h59 hq => ?_)
            obtain ⟨x63, rfl, ⟨_, _⟩, k62⟩ := hq
            have k64 := kM_t k15 k62 (pm_s (by decide) (by decide))
            obtain rfl : x63 = 0 := by omega
            exact A_zret d_MD_rowItem_60 (by decide) rfl (by omega) ⟨_, rfl, by omega, ⟨(fun _ => by have qq0 := ((k62.2.2.1 _ _ rfl).trans esd16.symm); have qq1 := ((k62.2.2.1 _ _ rfl).trans ((k15.2.2.1 _ _ rfl).trans esd2.symm)); have qq2 := ((k62.2.2.1 _ _ rfl).trans ex17.symm); exact ⟨by omega, by omega, by omega, by omega⟩), (fun k hk => ((k62.2.2.1 182 k rfl).trans (hinv.2.2.2.2.1 k hk))), ((k62.2.2.1 181 0 rfl).trans hinv.2.2.2.2.2)⟩, k64⟩
        · refine A_aload_n 0 d_MD_rowItem_35 rfl rfl ?_
          have zf66 := esd16.symm
          have zf67 := ((k15.2.2.1 _ _ rfl).trans esd2.symm)
          refine A_callV0 m_MD_cant T_ok d_MD_rowItem_36 l_MD_313 k_MD_cant (mi_s k15.1 sf_170) rfl (by decide +kernel) (by decide) (Nat.le_of_ble_eq_true rfl) (s_MD_cant k15.1 ) (fun r h65 hq => ?_)
          obtain ⟨x69, rfl, ⟨_, _⟩, k68⟩ := hq
          have k70 := kM_t k15 k68 (pm_s (by decide) (by decide))
          obtain rfl : x69 = 0 := by omega
          exact A_zret d_MD_rowItem_39 (by decide) rfl (by omega) ⟨_, rfl, by omega, ⟨(fun _ => by have qq0 := ((k68.2.2.1 _ _ rfl).trans esd16.symm); have qq1 := ((k68.2.2.1 _ _ rfl).trans ((k15.2.2.1 _ _ rfl).trans esd2.symm)); have qq2 := ((k68.2.2.1 _ _ rfl).trans ex17.symm); exact ⟨by omega, by omega, by omega, by omega⟩), (fun k hk => ((k68.2.2.1 182 k rfl).trans (hinv.2.2.2.2.1 k hk))), ((k68.2.2.1 181 0 rfl).trans hinv.2.2.2.2.2)⟩, k70⟩
    exact lp27 _ h7 ⟨(by have qq0 := esd13.symm; have qq1 := ((k10.2.2.1 _ _ rfl).trans ((eh5.1 _ _ (fun _ => by decide)).trans esd2.symm)); omega), (by have qq0 := esd13.symm; have qq1 := ((k10.2.2.1 _ _ rfl).trans ((eh5.1 _ _ (fun _ => by decide)).trans esd2.symm)); omega), (by have qq0 := esd13.symm; have qq1 := ((k10.2.2.1 _ _ rfl).trans ((eh5.1 _ _ (fun _ => by decide)).trans esd2.symm)); omega), (by have qq0 := esd13.symm; have qq1 := ((k10.2.2.1 _ _ rfl).trans ((eh5.1 _ _ (fun _ => by decide)).trans esd2.symm)); omega), (fun k hk => ((k10.2.2.1 182 k rfl).trans (eh5.1 182 k (fun q => absurd q (by decide))))), ((k10.2.2.1 181 0 rfl).trans (eh5.1 181 0 (fun q => absurd q (by decide))))⟩ k12 (Nat.lt_succ_self _)
  · refine A_aload_n 0 d_MD_rowItem_7 rfl rfl ?_
    refine A_iconst d_MD_rowItem_8 rfl ?_
    refine A_aload_n 0 d_MD_rowItem_9 rfl rfl ?_
    refine A_getIn (lo := 0) (hi := 2000) T_ok d_MD_rowItem_10 f_MD_242 (mi_s k0.1 sf_170) (mi_g k0.1 (by decide) mr_170_5) (fun x71 ex71 _ _ => ?_)
    have zf73 := esd1.symm
    have zf74 := esd2.symm
    refine A_callV2 m_MD_wrong T_ok d_MD_rowItem_13 l_MD_245 k_MD_wrong (mi_s k0.1 sf_170) rfl (by decide +kernel) (by decide) (Nat.le_of_ble_eq_true rfl) (s_MD_wrong k0.1 (by omega) (by omega) (by omega) (by omega)) (fun r h72 hq => ?_)
    obtain ⟨x76, rfl, ⟨_, _⟩, k75⟩ := hq
    have k77 := kM_t k0 k75 (pm_s (by decide) (by decide))
    obtain rfl : x76 = 0 := by omega
    exact A_zret d_MD_rowItem_16 (by decide) rfl (by omega) ⟨_, rfl, by omega, ⟨(fun _ => by have qq0 := ((k75.2.2.1 _ _ rfl).trans esd1.symm); have qq1 := ((k75.2.2.1 _ _ rfl).trans esd2.symm); exact ⟨by omega, by omega, by omega, by omega⟩), (fun k hk => (k75.2.2.1 182 k rfl)), (k75.2.2.1 181 0 rfl)⟩, k77⟩
