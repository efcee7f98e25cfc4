/-! ===== the reference's methods, 322 ===== -/
def m_MD_pitch : mr_T := (⟨"PlainMusicModel", "pitch", "(I)V"⟩, prog_14_method_12_code, 5, none)
theorem mr_170_3 : mr 170 3 = (0, 2000) := by decide +kernel
theorem d_MD_pitch_0 : decode prog_14_method_12_code 0 = .ok (.aload_n 0, 1) := by decide +kernel
theorem d_MD_pitch_1 : decode prog_14_method_12_code 1 = .ok (.getfield 252, 3) := by decide +kernel
theorem f_MD_252 : fl_OK "PlainMusicModel" 252 12 3 .int false := ⟨_, rfl, by decide, gwi_1485, rfl, rfl⟩
theorem d_MD_pitch_4 : decode prog_14_method_12_code 4 = .ok (.iconst 1, 1) := by decide +kernel
theorem d_MD_pitch_5 : decode prog_14_method_12_code 5 = .ok (.iadd, 1) := by decide +kernel
theorem d_MD_pitch_6 : decode prog_14_method_12_code 6 = .ok (.istore_n 2, 1) := by decide +kernel
theorem d_MD_pitch_7 : decode prog_14_method_12_code 7 = .ok (.iconst 0, 1) := by decide +kernel
theorem d_MD_pitch_8 : decode prog_14_method_12_code 8 = .ok (.istore_n 3, 1) := by decide +kernel
theorem d_MD_pitch_9 : decode prog_14_method_12_code 9 = .ok (.aload_n 0, 1) := by decide +kernel
theorem d_MD_pitch_10 : decode prog_14_method_12_code 10 = .ok (.iload_n 2, 1) := by decide +kernel
theorem d_MD_pitch_11 : decode prog_14_method_12_code 11 = .ok (.invokevirtual 274, 3) := by decide +kernel
theorem k_MD_at : mt_OK m_MD_at 1 1 := ⟨gwi_1847, gwi_146, ⟨by decide +kernel, by decide +kernel, by decide +kernel⟩, fun h => absurd h (by decide), fun _ => ⟨gwi_1846, gwi_63⟩, fun h => absurd h (by decide)⟩
theorem l_MD_274 : ml_OK "PlainMusicModel" 274 ⟨"PlainMusicModel", "at", "(I)I"⟩ := Or.inl gwi_1844
theorem d_MD_pitch_14 : decode prog_14_method_12_code 14 = .ok (.bipush 35, 2) := by decide +kernel
theorem d_MD_pitch_16 : decode prog_14_method_12_code 16 = .ok (.if_icmp .eq 13, 3) := by decide +kernel
theorem d_MD_pitch_29 : decode prog_14_method_12_code 29 = .ok (.aload_n 0, 1) := by decide +kernel
theorem d_MD_pitch_30 : decode prog_14_method_12_code 30 = .ok (.iload_n 2, 1) := by decide +kernel
theorem d_MD_pitch_31 : decode prog_14_method_12_code 31 = .ok (.invokevirtual 274, 3) := by decide +kernel
theorem d_MD_pitch_34 : decode prog_14_method_12_code 34 = .ok (.istore 4, 2) := by decide +kernel
theorem d_MD_pitch_36 : decode prog_14_method_12_code 36 = .ok (.iinc 2 1, 3) := by decide +kernel
theorem d_MD_pitch_39 : decode prog_14_method_12_code 39 = .ok (.iconst 1, 1) := by decide +kernel
theorem d_MD_pitch_40 : decode prog_14_method_12_code 40 = .ok (.istore_n 3, 1) := by decide +kernel
theorem d_MD_pitch_41 : decode prog_14_method_12_code 41 = .ok (.aload_n 0, 1) := by decide +kernel
theorem d_MD_pitch_42 : decode prog_14_method_12_code 42 = .ok (.iload_n 2, 1) := by decide +kernel
theorem d_MD_pitch_43 : decode prog_14_method_12_code 43 = .ok (.invokevirtual 274, 3) := by decide +kernel
theorem d_MD_pitch_46 : decode prog_14_method_12_code 46 = .ok (.iload 4, 2) := by decide +kernel
theorem d_MD_pitch_48 : decode prog_14_method_12_code 48 = .ok (.if_icmp .ne 8, 3) := by decide +kernel
theorem d_MD_pitch_56 : decode prog_14_method_12_code 56 = .ok (.aload_n 0, 1) := by decide +kernel
theorem d_MD_pitch_57 : decode prog_14_method_12_code 57 = .ok (.iload_n 3, 1) := by decide +kernel
theorem d_MD_pitch_58 : decode prog_14_method_12_code 58 = .ok (.putfield 278, 3) := by decide +kernel
theorem f_MD_278 : fl_OK "PlainMusicModel" 278 12 10 .int false := ⟨_, rfl, by decide, gwi_1492, rfl, rfl⟩
theorem mr_170_10 : mr 170 10 = (0, 2) := by decide +kernel
theorem d_MD_pitch_61 : decode prog_14_method_12_code 61 = .ok (.iload 4, 2) := by decide +kernel
theorem d_MD_pitch_63 : decode prog_14_method_12_code 63 = .ok (.bipush 35, 2) := by decide +kernel
theorem d_MD_pitch_65 : decode prog_14_method_12_code 65 = .ok (.if_icmp .ne 7, 3) := by decide +kernel
theorem d_MD_pitch_72 : decode prog_14_method_12_code 72 = .ok (.iload_n 3, 1) := by decide +kernel
theorem d_MD_pitch_73 : decode prog_14_method_12_code 73 = .ok (.ineg, 1) := by decide +kernel
theorem d_MD_pitch_74 : decode prog_14_method_12_code 74 = .ok (.istore_n 3, 1) := by decide +kernel
theorem d_MD_pitch_75 : decode prog_14_method_12_code 75 = .ok (.goto 8, 3) := by decide +kernel
theorem d_MD_pitch_83 : decode prog_14_method_12_code 83 = .ok (.aload_n 0, 1) := by decide +kernel
theorem d_MD_pitch_84 : decode prog_14_method_12_code 84 = .ok (.iload_n 2, 1) := by decide +kernel
theorem d_MD_pitch_85 : decode prog_14_method_12_code 85 = .ok (.invokevirtual 274, 3) := by decide +kernel
theorem d_MD_pitch_88 : decode prog_14_method_12_code 88 = .ok (.istore 4, 2) := by decide +kernel
theorem d_MD_pitch_90 : decode prog_14_method_12_code 90 = .ok (.iload 4, 2) := by decide +kernel
theorem d_MD_pitch_92 : decode prog_14_method_12_code 92 = .ok (.bipush 48, 2) := by decide +kernel
theorem d_MD_pitch_94 : decode prog_14_method_12_code 94 = .ok (.if_icmp .lt 10, 3) := by decide +kernel
theorem d_MD_pitch_104 : decode prog_14_method_12_code 104 = .ok (.aload_n 0, 1) := by decide +kernel
theorem d_MD_pitch_105 : decode prog_14_method_12_code 105 = .ok (.bipush 6, 2) := by decide +kernel
theorem d_MD_pitch_107 : decode prog_14_method_12_code 107 = .ok (.putfield 239, 3) := by decide +kernel
theorem d_MD_pitch_110 : decode prog_14_method_12_code 110 = .ok (.return_, 1) := by decide +kernel
theorem d_MD_pitch_97 : decode prog_14_method_12_code 97 = .ok (.iload 4, 2) := by decide +kernel
theorem d_MD_pitch_99 : decode prog_14_method_12_code 99 = .ok (.bipush 56, 2) := by decide +kernel
theorem d_MD_pitch_101 : decode prog_14_method_12_code 101 = .ok (.if_icmp .le 10, 3) := by decide +kernel
theorem d_MD_pitch_111 : decode prog_14_method_12_code 111 = .ok (.aload_n 0, 1) := by decide +kernel
theorem d_MD_pitch_112 : decode prog_14_method_12_code 112 = .ok (.iconst 1, 1) := by decide +kernel
theorem d_MD_pitch_113 : decode prog_14_method_12_code 113 = .ok (.putfield 239, 3) := by decide +kernel
theorem d_MD_pitch_116 : decode prog_14_method_12_code 116 = .ok (.aload_n 0, 1) := by decide +kernel
theorem d_MD_pitch_117 : decode prog_14_method_12_code 117 = .ok (.bipush 12, 2) := by decide +kernel
theorem d_MD_pitch_119 : decode prog_14_method_12_code 119 = .ok (.iload 4, 2) := by decide +kernel
theorem d_MD_pitch_121 : decode prog_14_method_12_code 121 = .ok (.bipush 48, 2) := by decide +kernel
theorem d_MD_pitch_123 : decode prog_14_method_12_code 123 = .ok (.isub, 1) := by decide +kernel
theorem d_MD_pitch_124 : decode prog_14_method_12_code 124 = .ok (.imul, 1) := by decide +kernel
theorem d_MD_pitch_125 : decode prog_14_method_12_code 125 = .ok (.aload_n 0, 1) := by decide +kernel
theorem d_MD_pitch_126 : decode prog_14_method_12_code 126 = .ok (.iload_n 1, 1) := by decide +kernel
theorem d_MD_pitch_127 : decode prog_14_method_12_code 127 = .ok (.invokevirtual 281, 3) := by decide +kernel
theorem k_MD_whites : mt_OK m_MD_whites 1 1 := ⟨gwi_1851, gwi_146, ⟨by decide +kernel, by decide +kernel, by decide +kernel⟩, fun h => absurd h (by decide), fun _ => ⟨gwi_1850, gwi_64⟩, fun h => absurd h (by decide)⟩
theorem l_MD_281 : ml_OK "PlainMusicModel" 281 ⟨"PlainMusicModel", "whites", "(I)I"⟩ := Or.inl gwi_1848
theorem d_MD_pitch_130 : decode prog_14_method_12_code 130 = .ok (.iadd, 1) := by decide +kernel
theorem d_MD_pitch_131 : decode prog_14_method_12_code 131 = .ok (.iload_n 3, 1) := by decide +kernel
theorem d_MD_pitch_132 : decode prog_14_method_12_code 132 = .ok (.iadd, 1) := by decide +kernel
theorem d_MD_pitch_133 : decode prog_14_method_12_code 133 = .ok (.putfield 284, 3) := by decide +kernel
theorem f_MD_284 : fl_OK "PlainMusicModel" 284 12 8 .int false := ⟨_, rfl, by decide, gwi_1490, rfl, rfl⟩
theorem mr_170_8 : mr 170 8 = ((-2), 109) := by decide +kernel
theorem d_MD_pitch_136 : decode prog_14_method_12_code 136 = .ok (.aload_n 0, 1) := by decide +kernel
theorem d_MD_pitch_137 : decode prog_14_method_12_code 137 = .ok (.bipush 7, 2) := by decide +kernel
theorem d_MD_pitch_139 : decode prog_14_method_12_code 139 = .ok (.iload 4, 2) := by decide +kernel
theorem d_MD_pitch_141 : decode prog_14_method_12_code 141 = .ok (.bipush 48, 2) := by decide +kernel
theorem d_MD_pitch_143 : decode prog_14_method_12_code 143 = .ok (.isub, 1) := by decide +kernel
theorem d_MD_pitch_144 : decode prog_14_method_12_code 144 = .ok (.imul, 1) := by decide +kernel
theorem d_MD_pitch_145 : decode prog_14_method_12_code 145 = .ok (.iload_n 1, 1) := by decide +kernel
theorem d_MD_pitch_146 : decode prog_14_method_12_code 146 = .ok (.bipush 67, 2) := by decide +kernel
theorem d_MD_pitch_148 : decode prog_14_method_12_code 148 = .ok (.if_icmp .lt 10, 3) := by decide +kernel
theorem d_MD_pitch_158 : decode prog_14_method_12_code 158 = .ok (.iload_n 1, 1) := by decide +kernel
theorem d_MD_pitch_159 : decode prog_14_method_12_code 159 = .ok (.bipush 65, 2) := by decide +kernel
theorem d_MD_pitch_161 : decode prog_14_method_12_code 161 = .ok (.isub, 1) := by decide +kernel
theorem d_MD_pitch_162 : decode prog_14_method_12_code 162 = .ok (.iconst 5, 1) := by decide +kernel
theorem d_MD_pitch_163 : decode prog_14_method_12_code 163 = .ok (.iadd, 1) := by decide +kernel
theorem d_MD_pitch_164 : decode prog_14_method_12_code 164 = .ok (.iadd, 1) := by decide +kernel
theorem d_MD_pitch_165 : decode prog_14_method_12_code 165 = .ok (.putfield 287, 3) := by decide +kernel
theorem f_MD_287 : fl_OK "PlainMusicModel" 287 12 9 .int false := ⟨_, rfl, by decide, gwi_1491, rfl, rfl⟩
theorem mr_170_9 : mr 170 9 = (0, 62) := by decide +kernel
theorem d_MD_pitch_168 : decode prog_14_method_12_code 168 = .ok (.aload_n 0, 1) := by decide +kernel
theorem d_MD_pitch_169 : decode prog_14_method_12_code 169 = .ok (.iload_n 2, 1) := by decide +kernel
theorem d_MD_pitch_170 : decode prog_14_method_12_code 170 = .ok (.iconst 1, 1) := by decide +kernel
theorem d_MD_pitch_171 : decode prog_14_method_12_code 171 = .ok (.iadd, 1) := by decide +kernel
theorem d_MD_pitch_172 : decode prog_14_method_12_code 172 = .ok (.putfield 252, 3) := by decide +kernel
theorem d_MD_pitch_175 : decode prog_14_method_12_code 175 = .ok (.return_, 1) := by decide +kernel
theorem d_MD_pitch_151 : decode prog_14_method_12_code 151 = .ok (.iload_n 1, 1) := by decide +kernel
theorem d_MD_pitch_152 : decode prog_14_method_12_code 152 = .ok (.bipush 67, 2) := by decide +kernel
theorem d_MD_pitch_154 : decode prog_14_method_12_code 154 = .ok (.isub, 1) := by decide +kernel
theorem d_MD_pitch_155 : decode prog_14_method_12_code 155 = .ok (.goto 9, 3) := by decide +kernel
theorem d_MD_pitch_68 : decode prog_14_method_12_code 68 = .ok (.iload_n 3, 1) := by decide +kernel
theorem d_MD_pitch_69 : decode prog_14_method_12_code 69 = .ok (.goto 5, 3) := by decide +kernel
theorem d_MD_pitch_51 : decode prog_14_method_12_code 51 = .ok (.iinc 2 1, 3) := by decide +kernel
theorem d_MD_pitch_54 : decode prog_14_method_12_code 54 = .ok (.iconst 2, 1) := by decide +kernel
theorem d_MD_pitch_55 : decode prog_14_method_12_code 55 = .ok (.istore_n 3, 1) := by decide +kernel
theorem d_MD_pitch_19 : decode prog_14_method_12_code 19 = .ok (.aload_n 0, 1) := by decide +kernel
theorem d_MD_pitch_20 : decode prog_14_method_12_code 20 = .ok (.iload_n 2, 1) := by decide +kernel
theorem d_MD_pitch_21 : decode prog_14_method_12_code 21 = .ok (.invokevirtual 274, 3) := by decide +kernel
theorem d_MD_pitch_24 : decode prog_14_method_12_code 24 = .ok (.bipush 98, 2) := by decide +kernel
theorem d_MD_pitch_26 : decode prog_14_method_12_code 26 = .ok (.if_icmp .ne 52, 3) := by decide +kernel
theorem d_MD_pitch_78 : decode prog_14_method_12_code 78 = .ok (.aload_n 0, 1) := by decide +kernel
theorem d_MD_pitch_79 : decode prog_14_method_12_code 79 = .ok (.iconst 0, 1) := by decide +kernel
theorem d_MD_pitch_80 : decode prog_14_method_12_code 80 = .ok (.putfield 278, 3) := by decide +kernel
def m_MD_word : mr_T := (⟨"PlainMusicModel", "word", "()V"⟩, prog_14_method_13_code, 3, none)
theorem d_MD_word_0 : decode prog_14_method_13_code 0 = .ok (.iconst 0, 1) := by decide +kernel
theorem d_MD_word_1 : decode prog_14_method_13_code 1 = .ok (.istore_n 1, 1) := by decide +kernel
theorem d_MD_word_2 : decode prog_14_method_13_code 2 = .ok (.aload_n 0, 1) := by decide +kernel
theorem d_MD_word_3 : decode prog_14_method_13_code 3 = .ok (.lconst 0, 1) := by decide +kernel
theorem d_MD_word_4 : decode prog_14_method_13_code 4 = .ok (.putfield 290, 3) := by decide +kernel
theorem f_MD_290 : fl_OK "PlainMusicModel" 290 12 7 .long false := ⟨_, rfl, by decide, gwi_1489, rfl, rfl⟩
theorem mq_170_7 : mq 170 7 = ((-9223372036854775808), 9223372036854775807) := by decide +kernel
theorem d_MD_word_7 : decode prog_14_method_13_code 7 = .ok (.aload_n 0, 1) := by decide +kernel
theorem d_MD_word_8 : decode prog_14_method_13_code 8 = .ok (.aload_n 0, 1) := by decide +kernel
theorem d_MD_word_9 : decode prog_14_method_13_code 9 = .ok (.aload_n 0, 1) := by decide +kernel
theorem d_MD_word_10 : decode prog_14_method_13_code 10 = .ok (.getfield 252, 3) := by decide +kernel
theorem d_MD_word_13 : decode prog_14_method_13_code 13 = .ok (.invokevirtual 274, 3) := by decide +kernel
theorem d_MD_word_16 : decode prog_14_method_13_code 16 = .ok (.invokevirtual 258, 3) := by decide +kernel
theorem k_MD_isSmall : mt_OK m_MD_isSmall 1 1 := ⟨gwi_1855, gwi_146, ⟨by decide +kernel, by decide +kernel, by decide +kernel⟩, fun h => absurd h (by decide), fun _ => ⟨gwi_1854, gwi_65⟩, fun h => absurd h (by decide)⟩
theorem l_MD_258 : ml_OK "PlainMusicModel" 258 ⟨"PlainMusicModel", "isSmall", "(I)Z"⟩ := Or.inl gwi_1852
theorem d_MD_word_19 : decode prog_14_method_13_code 19 = .ok (.ifCond .eq 40, 3) := by decide +kernel
theorem d_MD_word_59 : decode prog_14_method_13_code 59 = .ok (.aload_n 0, 1) := by decide +kernel
theorem d_MD_word_60 : decode prog_14_method_13_code 60 = .ok (.iload_n 1, 1) := by decide +kernel
theorem d_MD_word_61 : decode prog_14_method_13_code 61 = .ok (.bipush 8, 2) := by decide +kernel
theorem d_MD_word_63 : decode prog_14_method_13_code 63 = .ok (.if_icmp .le 8, 3) := by decide +kernel
theorem d_MD_word_71 : decode prog_14_method_13_code 71 = .ok (.iconst 2, 1) := by decide +kernel
theorem d_MD_word_72 : decode prog_14_method_13_code 72 = .ok (.putfield 239, 3) := by decide +kernel
theorem d_MD_word_75 : decode prog_14_method_13_code 75 = .ok (.iload_n 1, 1) := by decide +kernel
theorem d_MD_word_76 : decode prog_14_method_13_code 76 = .ok (.iconst 5, 1) := by decide +kernel
theorem d_MD_word_77 : decode prog_14_method_13_code 77 = .ok (.if_icmp .le 4, 3) := by decide +kernel
theorem d_MD_word_81 : decode prog_14_method_13_code 81 = .ok (.aload_n 0, 1) := by decide +kernel
theorem d_MD_word_82 : decode prog_14_method_13_code 82 = .ok (.getfield 290, 3) := by decide +kernel
theorem d_MD_word_85 : decode prog_14_method_13_code 85 = .ok (.ldc2_w 294, 3) := by decide +kernel
theorem cst_MD_294 : Cond.constantLong "PlainMusicModel" 294 (Int64.ofInt 1953066341) ∈ gw := gwi_1860
theorem d_MD_word_88 : decode prog_14_method_13_code 88 = .ok (.lcmp, 1) := by decide +kernel
theorem d_MD_word_89 : decode prog_14_method_13_code 89 = .ok (.ifCond .ne 7, 3) := by decide +kernel
theorem d_MD_word_96 : decode prog_14_method_13_code 96 = .ok (.aload_n 0, 1) := by decide +kernel
theorem d_MD_word_97 : decode prog_14_method_13_code 97 = .ok (.getfield 290, 3) := by decide +kernel
theorem d_MD_word_100 : decode prog_14_method_13_code 100 = .ok (.ldc2_w 296, 3) := by decide +kernel
theorem cst_MD_296 : Cond.constantLong "PlainMusicModel" 296 (Int64.ofInt 508675318629) ∈ gw := gwi_1861
theorem d_MD_word_103 : decode prog_14_method_13_code 103 = .ok (.lcmp, 1) := by decide +kernel
theorem d_MD_word_104 : decode prog_14_method_13_code 104 = .ok (.ifCond .ne 7, 3) := by decide +kernel
theorem d_MD_word_111 : decode prog_14_method_13_code 111 = .ok (.aload_n 0, 1) := by decide +kernel
theorem d_MD_word_112 : decode prog_14_method_13_code 112 = .ok (.getfield 290, 3) := by decide +kernel
theorem d_MD_word_115 : decode prog_14_method_13_code 115 = .ok (.ldc2_w 298, 3) := by decide +kernel
theorem cst_MD_298 : Cond.constantLong "PlainMusicModel" 298 (Int64.ofInt 1818848869) ∈ gw := gwi_1862
theorem d_MD_word_118 : decode prog_14_method_13_code 118 = .ok (.lcmp, 1) := by decide +kernel
theorem d_MD_word_119 : decode prog_14_method_13_code 119 = .ok (.ifCond .ne 7, 3) := by decide +kernel
theorem d_MD_word_126 : decode prog_14_method_13_code 126 = .ok (.aload_n 0, 1) := by decide +kernel
theorem d_MD_word_127 : decode prog_14_method_13_code 127 = .ok (.getfield 290, 3) := by decide +kernel
theorem d_MD_word_130 : decode prog_14_method_13_code 130 = .ok (.ldc2_w 300, 3) := by decide +kernel
theorem cst_MD_300 : Cond.constantLong "PlainMusicModel" 300 (Int64.ofInt 1920298085) ∈ gw := gwi_1863
theorem d_MD_word_133 : decode prog_14_method_13_code 133 = .ok (.lcmp, 1) := by decide +kernel
theorem d_MD_word_134 : decode prog_14_method_13_code 134 = .ok (.ifCond .ne 7, 3) := by decide +kernel
theorem d_MD_word_141 : decode prog_14_method_13_code 141 = .ok (.aload_n 0, 1) := by decide +kernel
theorem d_MD_word_142 : decode prog_14_method_13_code 142 = .ok (.getfield 290, 3) := by decide +kernel
theorem d_MD_word_145 : decode prog_14_method_13_code 145 = .ok (.ldc2_w 302, 3) := by decide +kernel
theorem cst_MD_302 : Cond.constantLong "PlainMusicModel" 302 (Int64.ofInt 7499639) ∈ gw := gwi_1864
theorem d_MD_word_148 : decode prog_14_method_13_code 148 = .ok (.lcmp, 1) := by decide +kernel
theorem d_MD_word_149 : decode prog_14_method_13_code 149 = .ok (.ifCond .ne 7, 3) := by decide +kernel
theorem d_MD_word_156 : decode prog_14_method_13_code 156 = .ok (.aload_n 0, 1) := by decide +kernel
theorem d_MD_word_157 : decode prog_14_method_13_code 157 = .ok (.getfield 290, 3) := by decide +kernel
theorem d_MD_word_160 : decode prog_14_method_13_code 160 = .ok (.ldc2_w 304, 3) := by decide +kernel
theorem cst_MD_304 : Cond.constantLong "PlainMusicModel" 304 (Int64.ofInt 114) ∈ gw := gwi_1865
theorem d_MD_word_163 : decode prog_14_method_13_code 163 = .ok (.lcmp, 1) := by decide +kernel
theorem d_MD_word_164 : decode prog_14_method_13_code 164 = .ok (.ifCond .ne 7, 3) := by decide +kernel
theorem d_MD_word_171 : decode prog_14_method_13_code 171 = .ok (.bipush (-2), 2) := by decide +kernel
theorem d_MD_word_173 : decode prog_14_method_13_code 173 = .ok (.istore_n 2, 1) := by decide +kernel
theorem d_MD_word_174 : decode prog_14_method_13_code 174 = .ok (.iload_n 2, 1) := by decide +kernel
theorem d_MD_word_175 : decode prog_14_method_13_code 175 = .ok (.bipush (-2), 2) := by decide +kernel
theorem d_MD_word_177 : decode prog_14_method_13_code 177 = .ok (.if_icmp .ne 4, 3) := by decide +kernel
theorem d_MD_word_180 : decode prog_14_method_13_code 180 = .ok (.return_, 1) := by decide +kernel
theorem d_MD_word_167 : decode prog_14_method_13_code 167 = .ok (.iconst 5, 1) := by decide +kernel
theorem d_MD_word_168 : decode prog_14_method_13_code 168 = .ok (.goto 5, 3) := by decide +kernel
theorem d_MD_word_181 : decode prog_14_method_13_code 181 = .ok (.aload_n 0, 1) := by decide +kernel
theorem d_MD_word_182 : decode prog_14_method_13_code 182 = .ok (.iconst 4, 1) := by decide +kernel
theorem d_MD_word_183 : decode prog_14_method_13_code 183 = .ok (.putfield 239, 3) := by decide +kernel
theorem d_MD_word_186 : decode prog_14_method_13_code 186 = .ok (.aload_n 0, 1) := by decide +kernel
theorem d_MD_word_187 : decode prog_14_method_13_code 187 = .ok (.iload_n 2, 1) := by decide +kernel
theorem d_MD_word_188 : decode prog_14_method_13_code 188 = .ok (.putfield 271, 3) := by decide +kernel
theorem f_MD_271 : fl_OK "PlainMusicModel" 271 12 6 .int false := ⟨_, rfl, by decide, gwi_1488, rfl, rfl⟩
theorem mr_170_6 : mr 170 6 = (0, 9999) := by decide +kernel
theorem d_MD_word_191 : decode prog_14_method_13_code 191 = .ok (.return_, 1) := by decide +kernel
theorem d_MD_word_152 : decode prog_14_method_13_code 152 = .ok (.iconst 4, 1) := by decide +kernel
theorem d_MD_word_153 : decode prog_14_method_13_code 153 = .ok (.goto 20, 3) := by decide +kernel
theorem d_MD_word_137 : decode prog_14_method_13_code 137 = .ok (.iconst 3, 1) := by decide +kernel
theorem d_MD_word_138 : decode prog_14_method_13_code 138 = .ok (.goto 35, 3) := by decide +kernel
theorem d_MD_word_122 : decode prog_14_method_13_code 122 = .ok (.iconst 2, 1) := by decide +kernel
theorem d_MD_word_123 : decode prog_14_method_13_code 123 = .ok (.goto 50, 3) := by decide +kernel
theorem d_MD_word_107 : decode prog_14_method_13_code 107 = .ok (.iconst 1, 1) := by decide +kernel
theorem d_MD_word_108 : decode prog_14_method_13_code 108 = .ok (.goto 65, 3) := by decide +kernel
theorem d_MD_word_92 : decode prog_14_method_13_code 92 = .ok (.iconst 0, 1) := by decide +kernel
theorem d_MD_word_93 : decode prog_14_method_13_code 93 = .ok (.goto 80, 3) := by decide +kernel
theorem d_MD_word_80 : decode prog_14_method_13_code 80 = .ok (.return_, 1) := by decide +kernel
theorem d_MD_word_66 : decode prog_14_method_13_code 66 = .ok (.bipush 6, 2) := by decide +kernel
theorem d_MD_word_68 : decode prog_14_method_13_code 68 = .ok (.goto 4, 3) := by decide +kernel
theorem d_MD_word_22 : decode prog_14_method_13_code 22 = .ok (.aload_n 0, 1) := by decide +kernel
theorem d_MD_word_23 : decode prog_14_method_13_code 23 = .ok (.aload_n 0, 1) := by decide +kernel
theorem d_MD_word_24 : decode prog_14_method_13_code 24 = .ok (.getfield 290, 3) := by decide +kernel
theorem d_MD_word_27 : decode prog_14_method_13_code 27 = .ok (.bipush 8, 2) := by decide +kernel
theorem d_MD_word_29 : decode prog_14_method_13_code 29 = .ok (.lshl, 1) := by decide +kernel
theorem d_MD_word_30 : decode prog_14_method_13_code 30 = .ok (.aload_n 0, 1) := by decide +kernel
theorem d_MD_word_31 : decode prog_14_method_13_code 31 = .ok (.aload_n 0, 1) := by decide +kernel
theorem d_MD_word_32 : decode prog_14_method_13_code 32 = .ok (.getfield 252, 3) := by decide +kernel
theorem d_MD_word_35 : decode prog_14_method_13_code 35 = .ok (.invokevirtual 274, 3) := by decide +kernel
theorem d_MD_word_38 : decode prog_14_method_13_code 38 = .ok (.i2l, 1) := by decide +kernel
theorem d_MD_word_39 : decode prog_14_method_13_code 39 = .ok (.lor, 1) := by decide +kernel
theorem d_MD_word_40 : decode prog_14_method_13_code 40 = .ok (.putfield 290, 3) := by decide +kernel
theorem d_MD_word_43 : decode prog_14_method_13_code 43 = .ok (.aload_n 0, 1) := by decide +kernel
theorem d_MD_word_44 : decode prog_14_method_13_code 44 = .ok (.dup, 1) := by decide +kernel
theorem d_MD_word_45 : decode prog_14_method_13_code 45 = .ok (.getfield 252, 3) := by decide +kernel
theorem d_MD_word_48 : decode prog_14_method_13_code 48 = .ok (.iconst 1, 1) := by decide +kernel
theorem d_MD_word_49 : decode prog_14_method_13_code 49 = .ok (.iadd, 1) := by decide +kernel
theorem d_MD_word_50 : decode prog_14_method_13_code 50 = .ok (.putfield 252, 3) := by decide +kernel
theorem d_MD_word_53 : decode prog_14_method_13_code 53 = .ok (.iinc 1 1, 3) := by decide +kernel
theorem d_MD_word_56 : decode prog_14_method_13_code 56 = .ok (.goto (-49), 3) := by decide +kernel
def m_MD_number : mr_T := (⟨"PlainMusicModel", "number", "()V"⟩, prog_14_method_14_code, 2, none)
theorem d_MD_number_0 : decode prog_14_method_14_code 0 = .ok (.iconst 0, 1) := by decide +kernel
theorem d_MD_number_1 : decode prog_14_method_14_code 1 = .ok (.istore_n 1, 1) := by decide +kernel
theorem d_MD_number_2 : decode prog_14_method_14_code 2 = .ok (.aload_n 0, 1) := by decide +kernel
theorem d_MD_number_3 : decode prog_14_method_14_code 3 = .ok (.iconst 0, 1) := by decide +kernel
theorem d_MD_number_4 : decode prog_14_method_14_code 4 = .ok (.putfield 271, 3) := by decide +kernel
theorem d_MD_number_7 : decode prog_14_method_14_code 7 = .ok (.aload_n 0, 1) := by decide +kernel
theorem d_MD_number_8 : decode prog_14_method_14_code 8 = .ok (.aload_n 0, 1) := by decide +kernel
theorem d_MD_number_9 : decode prog_14_method_14_code 9 = .ok (.aload_n 0, 1) := by decide +kernel
theorem d_MD_number_10 : decode prog_14_method_14_code 10 = .ok (.getfield 252, 3) := by decide +kernel
theorem d_MD_number_13 : decode prog_14_method_14_code 13 = .ok (.invokevirtual 274, 3) := by decide +kernel
theorem d_MD_number_16 : decode prog_14_method_14_code 16 = .ok (.invokevirtual 265, 3) := by decide +kernel
theorem k_MD_isDigit : mt_OK m_MD_isDigit 1 1 := ⟨gwi_1869, gwi_146, ⟨by decide +kernel, by decide +kernel, by decide +kernel⟩, fun h => absurd h (by decide), fun _ => ⟨gwi_1868, gwi_67⟩, fun h => absurd h (by decide)⟩
theorem l_MD_265 : ml_OK "PlainMusicModel" 265 ⟨"PlainMusicModel", "isDigit", "(I)Z"⟩ := Or.inl gwi_1866
theorem d_MD_number_19 : decode prog_14_method_14_code 19 = .ok (.ifCond .eq 47, 3) := by decide +kernel
theorem d_MD_number_66 : decode prog_14_method_14_code 66 = .ok (.aload_n 0, 1) := by decide +kernel
theorem d_MD_number_67 : decode prog_14_method_14_code 67 = .ok (.iload_n 1, 1) := by decide +kernel
theorem d_MD_number_68 : decode prog_14_method_14_code 68 = .ok (.iconst 4, 1) := by decide +kernel
theorem d_MD_number_69 : decode prog_14_method_14_code 69 = .ok (.if_icmp .le 8, 3) := by decide +kernel
theorem d_MD_number_77 : decode prog_14_method_14_code 77 = .ok (.iconst 3, 1) := by decide +kernel
theorem d_MD_number_78 : decode prog_14_method_14_code 78 = .ok (.putfield 239, 3) := by decide +kernel
theorem d_MD_number_81 : decode prog_14_method_14_code 81 = .ok (.return_, 1) := by decide +kernel
theorem d_MD_number_72 : decode prog_14_method_14_code 72 = .ok (.bipush 6, 2) := by decide +kernel
theorem d_MD_number_74 : decode prog_14_method_14_code 74 = .ok (.goto 4, 3) := by decide +kernel
theorem d_MD_number_22 : decode prog_14_method_14_code 22 = .ok (.iload_n 1, 1) := by decide +kernel
theorem d_MD_number_23 : decode prog_14_method_14_code 23 = .ok (.iconst 4, 1) := by decide +kernel
theorem d_MD_number_24 : decode prog_14_method_14_code 24 = .ok (.if_icmp .ge 26, 3) := by decide +kernel
theorem d_MD_number_50 : decode prog_14_method_14_code 50 = .ok (.aload_n 0, 1) := by decide +kernel
theorem d_MD_number_51 : decode prog_14_method_14_code 51 = .ok (.dup, 1) := by decide +kernel
theorem d_MD_number_52 : decode prog_14_method_14_code 52 = .ok (.getfield 252, 3) := by decide +kernel
theorem d_MD_number_55 : decode prog_14_method_14_code 55 = .ok (.iconst 1, 1) := by decide +kernel
theorem d_MD_number_56 : decode prog_14_method_14_code 56 = .ok (.iadd, 1) := by decide +kernel
theorem d_MD_number_57 : decode prog_14_method_14_code 57 = .ok (.putfield 252, 3) := by decide +kernel
theorem d_MD_number_60 : decode prog_14_method_14_code 60 = .ok (.iinc 1 1, 3) := by decide +kernel
theorem d_MD_number_63 : decode prog_14_method_14_code 63 = .ok (.goto (-56), 3) := by decide +kernel
theorem d_MD_number_27 : decode prog_14_method_14_code 27 = .ok (.aload_n 0, 1) := by decide +kernel
theorem d_MD_number_28 : decode prog_14_method_14_code 28 = .ok (.bipush 10, 2) := by decide +kernel
theorem d_MD_number_30 : decode prog_14_method_14_code 30 = .ok (.aload_n 0, 1) := by decide +kernel
theorem d_MD_number_31 : decode prog_14_method_14_code 31 = .ok (.getfield 271, 3) := by decide +kernel
theorem d_MD_number_34 : decode prog_14_method_14_code 34 = .ok (.imul, 1) := by decide +kernel
theorem d_MD_number_35 : decode prog_14_method_14_code 35 = .ok (.aload_n 0, 1) := by decide +kernel
theorem d_MD_number_36 : decode prog_14_method_14_code 36 = .ok (.aload_n 0, 1) := by decide +kernel
theorem d_MD_number_37 : decode prog_14_method_14_code 37 = .ok (.getfield 252, 3) := by decide +kernel
theorem d_MD_number_40 : decode prog_14_method_14_code 40 = .ok (.invokevirtual 274, 3) := by decide +kernel
theorem d_MD_number_43 : decode prog_14_method_14_code 43 = .ok (.iadd, 1) := by decide +kernel
theorem d_MD_number_44 : decode prog_14_method_14_code 44 = .ok (.bipush 48, 2) := by decide +kernel
theorem d_MD_number_46 : decode prog_14_method_14_code 46 = .ok (.isub, 1) := by decide +kernel
theorem d_MD_number_47 : decode prog_14_method_14_code 47 = .ok (.putfield 271, 3) := by decide +kernel
theorem s_MD_pitch {G : cx_T} {h : ah_T} (hx : mi h) {a1 : Int} (la1 : 65 ≤ a1) (ua1 : a1 ≤ 71) (hse : h.2.1 170 3 < h.2.1 170 2) : con G 1 0 0 m_MD_pitch [av_R (some 170), av_I a1] h (fun r h' => r = none ∧ (h.2.1 170 3 ≤ h'.2.1 170 3 ∧ h'.2.1 170 3 ≤ h.2.1 170 2 ∧ (h'.2.1 170 4 ≠ 0 → h'.2.1 170 4 ≠ 6 → h.2.1 170 3 < h'.2.1 170 3) ∧ (h'.2.1 170 4 = 0 → h'.2.1 170 3 = h.2.1 170 2)) ∧ kM (pm [3, 4, 8, 9, 10] []) h h') := by
  refine con_of (L := [some (av_R (some 170)), some (av_I a1), none, none, none]) (by decide +kernel) (Nat.le_of_ble_eq_true rfl) rfl ?_
  have k0 : kM (pm [3, 4, 8, 9, 10] []) h h := kM_0 hx
  obtain ⟨sd1, esd1⟩ : ∃ x, x = h.2.1 170 3 := ⟨_, rfl⟩
  have rsd1 : 0 ≤ sd1 ∧ sd1 ≤ 2000 := (by rw [esd1]; exact mi_g k0.1 (by decide) mr_170_3)
  obtain ⟨sd2, esd2⟩ : ∃ x, x = h.2.1 170 2 := ⟨_, rfl⟩
  have rsd2 : 0 ≤ sd2 ∧ sd2 ≤ 2000 := (by rw [esd2]; exact mi_g k0.1 (by decide) mr_170_2)
  refine A_aload_n 0 d_MD_pitch_0 rfl rfl ?_
  refine A_getIv (z := sd1) T_ok d_MD_pitch_1 f_MD_252 (mi_s k0.1 sf_170) esd1.symm ?_
  refine A_iconst d_MD_pitch_4 rfl ?_
  refine A_iaddv (z := (sd1 + 1)) d_MD_pitch_5 (w32_to (by omega) (by unfold i32; omega)) ?_
  refine A_istore_n 2 (L' := [some (av_R (some 170)), some (av_I a1), some (av_I (sd1 + 1)), none, none]) d_MD_pitch_6 rfl (Nat.le_of_ble_eq_true rfl) rfl ?_
  refine A_pc (pc' := 7) rfl ?_
  refine A_iconst d_MD_pitch_7 rfl ?_
  refine A_istore_n 3 (L' := [some (av_R (some 170)), some (av_I a1), some (av_I (sd1 + 1)), some (av_I 0), none]) d_MD_pitch_8 rfl (Nat.le_of_ble_eq_true rfl) rfl ?_
  refine A_aload_n 0 d_MD_pitch_9 rfl rfl ?_
  refine A_iload_n 2 d_MD_pitch_10 rfl rfl ?_
  have zf5 := esd1.symm
  have zf6 := esd2.symm
  refine A_callV1 m_MD_at T_ok d_MD_pitch_11 l_MD_274 k_MD_at (mi_s k0.1 sf_170) rfl (by decide +kernel) (by decide) (Nat.le_of_ble_eq_true rfl) (s_MD_at k0.1 (by omega) (by omega)) (fun r h4 hq => ?_)
  obtain ⟨x8, rfl, ⟨_, _⟩, xx8, rfl⟩ := hq
  refine A_bipush d_MD_pitch_14 rfl ?_
  have jp83 : ∀ (j9 j10 : Int) (h11 : ah_T) , 1 ≤ j9 → j9 ≤ 2003 → (-2) ≤ j10 → j10 ≤ 2 → (sd1 + 1 ≤ j9 ∧ j9 ≤ sd2 ∧ h11.2.1 170 3 = sd1) → kM (pm [3, 4, 8, 9, 10] []) h h11 → aw G (rm_R 1 0 0) m_MD_pitch 0 0 83 [some (av_R (some 170)), some (av_I a1), some (av_I j9), some (av_I j10), none] [] h11 (fun r h' => r = none ∧ (h.2.1 170 3 ≤ h'.2.1 170 3 ∧ h'.2.1 170 3 ≤ h.2.1 170 2 ∧ (h'.2.1 170 4 ≠ 0 → h'.2.1 170 4 ≠ 6 → h.2.1 170 3 < h'.2.1 170 3) ∧ (h'.2.1 170 4 = 0 → h'.2.1 170 3 = h.2.1 170 2)) ∧ kM (pm [3, 4, 8, 9, 10] []) h h') := by
    intro j9 j10 h11 _ _ _ _ jf83 k12
    obtain ⟨sd13, esd13⟩ : ∃ x, x = h11.2.1 170 3 := ⟨_, rfl⟩
    have rsd13 : 0 ≤ sd13 ∧ sd13 ≤ 2000 := (by rw [esd13]; exact mi_g k12.1 (by decide) mr_170_3)
    refine A_aload_n 0 d_MD_pitch_83 rfl rfl ?_
    refine A_iload_n 2 d_MD_pitch_84 rfl rfl ?_
    have zf15 := esd13.symm
    have zf16 := ((k12.2.2.1 _ _ rfl).trans esd2.symm)
    refine A_callV1 m_MD_at T_ok d_MD_pitch_85 l_MD_274 k_MD_at (mi_s k12.1 sf_170) rfl (by decide +kernel) (by decide) (Nat.le_of_ble_eq_true rfl) (s_MD_at k12.1 (by omega) (by omega)) (fun r h14 hq => ?_)
    obtain ⟨x18, rfl, ⟨_, _⟩, xx18, rfl⟩ := hq
    refine A_istore (L' := [some (av_R (some 170)), some (av_I a1), some (av_I j9), some (av_I j10), some (av_I x18)]) d_MD_pitch_88 (Nat.le_of_ble_eq_true rfl) rfl ?_
    refine A_iload d_MD_pitch_90 rfl ?_
    refine A_bipush d_MD_pitch_92 rfl ?_
    have jp104 : (sd1 + 1 ≤ j9 ∧ j9 ≤ sd2 ∧ h11.2.1 170 3 = sd1) → aw G (rm_R 1 0 0) m_MD_pitch 0 0 104 [some (av_R (some 170)), some (av_I a1), some (av_I j9), some (av_I j10), some (av_I x18)] [] h11 (fun r h' => r = none ∧ (h.2.1 170 3 ≤ h'.2.1 170 3 ∧ h'.2.1 170 3 ≤ h.2.1 170 2 ∧ (h'.2.1 170 4 ≠ 0 → h'.2.1 170 4 ≠ 6 → h.2.1 170 3 < h'.2.1 170 3) ∧ (h'.2.1 170 4 = 0 → h'.2.1 170 3 = h.2.1 170 2)) ∧ kM (pm [3, 4, 8, 9, 10] []) h h') := by
      intro jf104
      refine A_aload_n 0 d_MD_pitch_104 rfl rfl ?_
      refine A_bipush d_MD_pitch_105 rfl ?_
      refine A_putIk (KR := kM (pm [3, 4, 8, 9, 10] []) h) T_ok d_MD_pitch_107 f_MD_239 (mi_s k12.1 sf_170) fin_f (kM_i k12 (by decide) (by decide) mr_170_4 (by omega) (by omega)) (fun h19 k20 eh19 => ?_)
      exact A_vret d_MD_pitch_110 (by decide) rfl ⟨rfl, (by have qq0 := ((eh19.1 _ _ (fun _ => by decide)).trans esd13.symm); have qq1 := ((eh19.1 _ _ (fun _ => by decide)).trans ((k12.2.2.1 _ _ rfl).trans esd2.symm)); have qq2 := eh19.2.1; exact ⟨by omega, by omega, by omega, by omega⟩), k20⟩
    refine A_icmp_lt (tgt := 104) d_MD_pitch_94 (by decide) (fun c21 => ?_) (fun c21 => ?_)
    · refine A_pc (pc' := 104) rfl ?_
      exact jp104 (by have qq0 := esd13.symm; have qq1 := ((k12.2.2.1 _ _ rfl).trans esd2.symm); omega)
    · refine A_iload d_MD_pitch_97 rfl ?_
      refine A_bipush d_MD_pitch_99 rfl ?_
      refine A_icmp_le (tgt := 111) d_MD_pitch_101 (by decide) (fun c22 => ?_) (fun c22 => ?_)
      · refine A_aload_n 0 d_MD_pitch_111 rfl rfl ?_
        refine A_iconst d_MD_pitch_112 rfl ?_
        refine A_putIk (KR := kM (pm [3, 4, 8, 9, 10] []) h) T_ok d_MD_pitch_113 f_MD_239 (mi_s k12.1 sf_170) fin_f (kM_i k12 (by decide) (by decide) mr_170_4 (by omega) (by omega)) (fun h23 k24 eh23 => ?_)
        refine A_aload_n 0 d_MD_pitch_116 rfl rfl ?_
        refine A_bipush d_MD_pitch_117 rfl ?_
        refine A_pc (pc' := 119) rfl ?_
        refine A_iload d_MD_pitch_119 rfl ?_
        refine A_bipush d_MD_pitch_121 rfl ?_
        refine A_isubv (z := (x18 - 48)) d_MD_pitch_123 (w32_to (by omega) (by unfold i32; omega)) ?_
        refine A_imulv (z := (12 * x18 - 576)) d_MD_pitch_124 (w32_to (by omega) (by unfold i32; omega)) ?_
        refine A_aload_n 0 d_MD_pitch_125 rfl rfl ?_
        refine A_iload_n 1 d_MD_pitch_126 rfl rfl ?_
        refine A_pc (pc' := 127) rfl ?_
        refine A_callV1 m_MD_whites T_ok d_MD_pitch_127 l_MD_281 k_MD_whites (mi_s k24.1 sf_170) rfl (by decide +kernel) (by decide) (Nat.le_of_ble_eq_true rfl) (s_MD_whites k24.1 ) (fun r h25 hq => ?_)
        obtain ⟨x27, rfl, ⟨_, _⟩, rfl⟩ := hq
        refine A_iaddv (z := (12 * x18 + x27 - 576)) d_MD_pitch_130 (w32_to (by omega) (by unfold i32; omega)) ?_
        refine A_iload_n 3 d_MD_pitch_131 rfl rfl ?_
        refine A_iaddv (z := (12 * x18 + x27 + j10 - 576)) d_MD_pitch_132 (w32_to (by omega) (by unfold i32; omega)) ?_
        refine A_putIk (KR := kM (pm [3, 4, 8, 9, 10] []) h) T_ok d_MD_pitch_133 f_MD_284 (mi_s k24.1 sf_170) fin_f (kM_i k24 (by decide) (by decide) mr_170_8 (by omega) (by omega)) (fun h28 k29 eh28 => ?_)
        refine A_aload_n 0 d_MD_pitch_136 rfl rfl ?_
        refine A_pc (pc' := 137) rfl ?_
        refine A_bipush d_MD_pitch_137 rfl ?_
        refine A_iload d_MD_pitch_139 rfl ?_
        refine A_bipush d_MD_pitch_141 rfl ?_
        refine A_isubv (z := (x18 - 48)) d_MD_pitch_143 (w32_to (by omega) (by unfold i32; omega)) ?_
        refine A_imulv (z := (7 * x18 - 336)) d_MD_pitch_144 (w32_to (by omega) (by unfold i32; omega)) ?_
        refine A_iload_n 1 d_MD_pitch_145 rfl rfl ?_
        refine A_pc (pc' := 146) rfl ?_
        refine A_bipush d_MD_pitch_146 rfl ?_
        have jp164 : ∀ (j30 : Int) , 0 ≤ j30 → j30 ≤ 6 → (sd1 + 1 ≤ j9 ∧ j9 ≤ sd2 ∧ h28.2.1 170 3 = sd1) → aw G (rm_R 1 0 0) m_MD_pitch 0 0 164 [some (av_R (some 170)), some (av_I a1), some (av_I j9), some (av_I j10), some (av_I x18)] [av_I j30, av_I (7 * x18 - 336), av_R (some 170)] h28 (fun r h' => r = none ∧ (h.2.1 170 3 ≤ h'.2.1 170 3 ∧ h'.2.1 170 3 ≤ h.2.1 170 2 ∧ (h'.2.1 170 4 ≠ 0 → h'.2.1 170 4 ≠ 6 → h.2.1 170 3 < h'.2.1 170 3) ∧ (h'.2.1 170 4 = 0 → h'.2.1 170 3 = h.2.1 170 2)) ∧ kM (pm [3, 4, 8, 9, 10] []) h h') := by
          intro j30  _ _ jf164 
          refine A_iaddv (z := (7 * x18 + j30 - 336)) d_MD_pitch_164 (w32_to (by omega) (by unfold i32; omega)) ?_
          refine A_putIk (KR := kM (pm [3, 4, 8, 9, 10] []) h) T_ok d_MD_pitch_165 f_MD_287 (mi_s k29.1 sf_170) fin_f (kM_i k29 (by decide) (by decide) mr_170_9 (by omega) (by omega)) (fun h31 k32 eh31 => ?_)
          refine A_aload_n 0 d_MD_pitch_168 rfl rfl ?_
          refine A_iload_n 2 d_MD_pitch_169 rfl rfl ?_
          refine A_iconst d_MD_pitch_170 rfl ?_
          refine A_pc (pc' := 171) rfl ?_
          refine A_iaddv (z := (j9 + 1)) d_MD_pitch_171 (w32_to (by omega) (by unfold i32; omega)) ?_
          refine A_putIk (KR := kM (pm [3, 4, 8, 9, 10] []) h) T_ok d_MD_pitch_172 f_MD_252 (mi_s k32.1 sf_170) fin_f (kM_i k32 (by decide) (by decide) mr_170_3 (by omega) (by omega)) (fun h33 k34 eh33 => ?_)
          exact A_vret d_MD_pitch_175 (by decide) rfl ⟨rfl, (by have qq0 := eh33.2.1; have qq1 := ((eh33.1 _ _ (fun _ => by decide)).trans ((eh31.1 _ _ (fun _ => by decide)).trans ((eh28.1 _ _ (fun _ => by decide)).trans ((eh23.1 _ _ (fun _ => by decide)).trans ((k12.2.2.1 _ _ rfl).trans esd2.symm))))); have qq2 := ((eh33.1 _ _ (fun _ => by decide)).trans ((eh31.1 _ _ (fun _ => by decide)).trans ((eh28.1 _ _ (fun _ => by decide)).trans eh23.2.1))); exact ⟨by omega, by omega, by omega, by omega⟩), k34⟩
        refine A_icmp_lt (tgt := 158) d_MD_pitch_148 (by decide) (fun c35 => ?_) (fun c35 => ?_)
        · refine A_iload_n 1 d_MD_pitch_158 rfl rfl ?_
          refine A_bipush d_MD_pitch_159 rfl ?_
          refine A_isubv (z := (a1 - 65)) d_MD_pitch_161 (w32_to (by omega) (by unfold i32; omega)) ?_
          refine A_iconst d_MD_pitch_162 rfl ?_
          refine A_iaddv (z := (a1 - 60)) d_MD_pitch_163 (w32_to (by omega) (by unfold i32; omega)) ?_
          refine A_pc (pc' := 164) rfl ?_
          exact jp164 (a1 - 60) (by omega) (by omega) (by have qq0 := ((eh28.1 _ _ (fun _ => by decide)).trans ((eh23.1 _ _ (fun _ => by decide)).trans esd13.symm)); have qq1 := ((eh28.1 _ _ (fun _ => by decide)).trans ((eh23.1 _ _ (fun _ => by decide)).trans ((k12.2.2.1 _ _ rfl).trans esd2.symm))); omega)
        · refine A_iload_n 1 d_MD_pitch_151 rfl rfl ?_
          refine A_bipush d_MD_pitch_152 rfl ?_
          refine A_isubv (z := (a1 - 67)) d_MD_pitch_154 (w32_to (by omega) (by unfold i32; omega)) ?_
          refine A_goto (tgt := 164) d_MD_pitch_155 (by decide) ?_
          refine A_pc (pc' := 164) rfl ?_
          exact jp164 (a1 - 67) (by omega) (by omega) (by have qq0 := ((eh28.1 _ _ (fun _ => by decide)).trans ((eh23.1 _ _ (fun _ => by decide)).trans esd13.symm)); have qq1 := ((eh28.1 _ _ (fun _ => by decide)).trans ((eh23.1 _ _ (fun _ => by decide)).trans ((k12.2.2.1 _ _ rfl).trans esd2.symm))); omega)
      · refine A_pc (pc' := 104) rfl ?_
        exact jp104 (by have qq0 := esd13.symm; have qq1 := ((k12.2.2.1 _ _ rfl).trans esd2.symm); omega)
  refine A_icmp_eq (tgt := 29) d_MD_pitch_16 (by decide) (fun c36 => ?_) (fun c36 => ?_)
  · refine A_aload_n 0 d_MD_pitch_29 rfl rfl ?_
    refine A_iload_n 2 d_MD_pitch_30 rfl rfl ?_
    have zf38 := esd1.symm
    have zf39 := esd2.symm
    refine A_callV1 m_MD_at T_ok d_MD_pitch_31 l_MD_274 k_MD_at (mi_s k0.1 sf_170) rfl (by decide +kernel) (by decide) (Nat.le_of_ble_eq_true rfl) (s_MD_at k0.1 (by omega) (by omega)) (fun r h37 hq => ?_)
    obtain ⟨x41, rfl, ⟨_, _⟩, xx41, rfl⟩ := hq
    refine A_istore (L' := [some (av_R (some 170)), some (av_I a1), some (av_I (sd1 + 1)), some (av_I 0), some (av_I x41)]) d_MD_pitch_34 (Nat.le_of_ble_eq_true rfl) rfl ?_
    refine A_iincv (z := (sd1 + 2)) (L' := [some (av_R (some 170)), some (av_I a1), some (av_I (sd1 + 2)), some (av_I 0), some (av_I x41)]) d_MD_pitch_36 rfl (w32_to (by omega) (by unfold i32; omega)) rfl ?_
    refine A_iconst d_MD_pitch_39 rfl ?_
    refine A_istore_n 3 (L' := [some (av_R (some 170)), some (av_I a1), some (av_I (sd1 + 2)), some (av_I 1), some (av_I x41)]) d_MD_pitch_40 rfl (Nat.le_of_ble_eq_true rfl) rfl ?_
    refine A_aload_n 0 d_MD_pitch_41 rfl rfl ?_
    refine A_pc (pc' := 42) rfl ?_
    refine A_iload_n 2 d_MD_pitch_42 rfl rfl ?_
    have zf43 := esd1.symm
    have zf44 := esd2.symm
    refine A_callV1 m_MD_at T_ok d_MD_pitch_43 l_MD_274 k_MD_at (mi_s k0.1 sf_170) rfl (by decide +kernel) (by decide) (Nat.le_of_ble_eq_true rfl) (s_MD_at k0.1 (by omega) (by omega)) (fun r h42 hq => ?_)
    obtain ⟨x46, rfl, ⟨_, _⟩, xx46, rfl⟩ := hq
    refine A_iload d_MD_pitch_46 rfl ?_
    have jp56 : ∀ (j47 j48 : Int) , 2 ≤ j47 → j47 ≤ 2003 → 1 ≤ j48 → j48 ≤ 2 → (sd1 + 1 ≤ j47 ∧ j47 ≤ sd2) → aw G (rm_R 1 0 0) m_MD_pitch 0 0 56 [some (av_R (some 170)), some (av_I a1), some (av_I j47), some (av_I j48), some (av_I x41)] [] h (fun r h' => r = none ∧ (h.2.1 170 3 ≤ h'.2.1 170 3 ∧ h'.2.1 170 3 ≤ h.2.1 170 2 ∧ (h'.2.1 170 4 ≠ 0 → h'.2.1 170 4 ≠ 6 → h.2.1 170 3 < h'.2.1 170 3) ∧ (h'.2.1 170 4 = 0 → h'.2.1 170 3 = h.2.1 170 2)) ∧ kM (pm [3, 4, 8, 9, 10] []) h h') := by
      intro j47 j48  _ _ _ _ jf56 
      refine A_aload_n 0 d_MD_pitch_56 rfl rfl ?_
      refine A_iload_n 3 d_MD_pitch_57 rfl rfl ?_
      refine A_putIk (KR := kM (pm [3, 4, 8, 9, 10] []) h) T_ok d_MD_pitch_58 f_MD_278 (mi_s k0.1 sf_170) fin_f (kM_i k0 (by decide) (by decide) mr_170_10 (by omega) (by omega)) (fun h49 k50 eh49 => ?_)
      refine A_iload d_MD_pitch_61 rfl ?_
      refine A_bipush d_MD_pitch_63 rfl ?_
      have jp74 : ∀ (j51 : Int) , (-2) ≤ j51 → j51 ≤ 2 → (sd1 + 1 ≤ j47 ∧ j47 ≤ sd2 ∧ h49.2.1 170 3 = sd1) → aw G (rm_R 1 0 0) m_MD_pitch 0 0 74 [some (av_R (some 170)), some (av_I a1), some (av_I j47), some (av_I j48), some (av_I x41)] [av_I j51] h49 (fun r h' => r = none ∧ (h.2.1 170 3 ≤ h'.2.1 170 3 ∧ h'.2.1 170 3 ≤ h.2.1 170 2 ∧ (h'.2.1 170 4 ≠ 0 → h'.2.1 170 4 ≠ 6 → h.2.1 170 3 < h'.2.1 170 3) ∧ (h'.2.1 170 4 = 0 → h'.2.1 170 3 = h.2.1 170 2)) ∧ kM (pm [3, 4, 8, 9, 10] []) h h') := by
        intro j51  _ _ jf74 
        refine A_istore_n 3 (L' := [some (av_R (some 170)), some (av_I a1), some (av_I j47), some (av_I j51), some (av_I x41)]) d_MD_pitch_74 rfl (Nat.le_of_ble_eq_true rfl) rfl ?_
        refine A_goto (tgt := 83) d_MD_pitch_75 (by decide) ?_
        refine A_pc (pc' := 83) rfl ?_
        refine A_free (L' := [some (av_R (some 170)), some (av_I a1), some (av_I j47), some (av_I j51), none]) (And.intro rfl (And.intro rfl (And.intro rfl (And.intro rfl trivial)))) ?_
        exact jp83 j47 j51 h49 (by omega) (by omega) (by omega) (by omega) (by have qq0 := ((eh49.1 _ _ (fun _ => by decide)).trans esd1.symm); have qq1 := ((eh49.1 _ _ (fun _ => by decide)).trans esd2.symm); omega) k50
      refine A_icmp_ne (tgt := 72) d_MD_pitch_65 (by decide) (fun c52 => ?_) (fun c52 => ?_)
      · refine A_iload_n 3 d_MD_pitch_72 rfl rfl ?_
        refine A_inegv (z := (-j48)) d_MD_pitch_73 (w32_to (by omega) (by unfold i32; omega)) ?_
        refine A_pc (pc' := 74) rfl ?_
        exact jp74 (-j48) (by omega) (by omega) (by have qq0 := ((eh49.1 _ _ (fun _ => by decide)).trans esd1.symm); have qq1 := ((eh49.1 _ _ (fun _ => by decide)).trans esd2.symm); omega)
      · refine A_iload_n 3 d_MD_pitch_68 rfl rfl ?_
        refine A_goto (tgt := 74) d_MD_pitch_69 (by decide) ?_
        refine A_pc (pc' := 74) rfl ?_
        exact jp74 j48 (by omega) (by omega) (by have qq0 := ((eh49.1 _ _ (fun _ => by decide)).trans esd1.symm); have qq1 := ((eh49.1 _ _ (fun _ => by decide)).trans esd2.symm); omega)
    refine A_icmp_ne (tgt := 56) d_MD_pitch_48 (by decide) (fun c53 => ?_) (fun c53 => ?_)
    · refine A_pc (pc' := 56) rfl ?_
      exact jp56 (sd1 + 2) 1 (by omega) (by omega) (by omega) (by omega) (by have qq0 := esd1.symm; have qq1 := esd2.symm; omega)
    · refine A_iincv (z := (sd1 + 3)) (L' := [some (av_R (some 170)), some (av_I a1), some (av_I (sd1 + 3)), some (av_I 1), some (av_I x41)]) d_MD_pitch_51 rfl (w32_to (by omega) (by unfold i32; omega)) rfl ?_
      refine A_iconst d_MD_pitch_54 rfl ?_
      refine A_istore_n 3 (L' := [some (av_R (some 170)), some (av_I a1), some (av_I (sd1 + 3)), some (av_I 2), some (av_I x41)]) d_MD_pitch_55 rfl (Nat.le_of_ble_eq_true rfl) rfl ?_
      refine A_pc (pc' := 56) rfl ?_
      exact jp56 (sd1 + 3) 2 (by omega) (by omega) (by omega) (by omega) (by have qq0 := esd1.symm; have qq1 := esd2.symm; omega)
  · refine A_aload_n 0 d_MD_pitch_19 rfl rfl ?_
    refine A_iload_n 2 d_MD_pitch_20 rfl rfl ?_
    have zf55 := esd1.symm
    have zf56 := esd2.symm
    refine A_callV1 m_MD_at T_ok d_MD_pitch_21 l_MD_274 k_MD_at (mi_s k0.1 sf_170) rfl (by decide +kernel) (by decide) (Nat.le_of_ble_eq_true rfl) (s_MD_at k0.1 (by omega) (by omega)) (fun r h54 hq => ?_)
    obtain ⟨x58, rfl, ⟨_, _⟩, xx58, rfl⟩ := hq
    refine A_bipush d_MD_pitch_24 rfl ?_
    refine A_icmp_ne (tgt := 78) d_MD_pitch_26 (by decide) (fun c59 => ?_) (fun c59 => ?_)
    · refine A_aload_n 0 d_MD_pitch_78 rfl rfl ?_
      refine A_iconst d_MD_pitch_79 rfl ?_
      refine A_putIk (KR := kM (pm [3, 4, 8, 9, 10] []) h) T_ok d_MD_pitch_80 f_MD_278 (mi_s k0.1 sf_170) fin_f (kM_i k0 (by decide) (by decide) mr_170_10 (by omega) (by omega)) (fun h60 k61 eh60 => ?_)
      refine A_pc (pc' := 83) rfl ?_
      exact jp83 (sd1 + 1) 0 h60 (by omega) (by omega) (by omega) (by omega) (by have qq0 := ((eh60.1 _ _ (fun _ => by decide)).trans esd1.symm); have qq1 := ((eh60.1 _ _ (fun _ => by decide)).trans esd2.symm); omega) k61
    · refine A_aload_n 0 d_MD_pitch_29 rfl rfl ?_
      refine A_iload_n 2 d_MD_pitch_30 rfl rfl ?_
      have zf63 := esd1.symm
      have zf64 := esd2.symm
      refine A_callV1 m_MD_at T_ok d_MD_pitch_31 l_MD_274 k_MD_at (mi_s k0.1 sf_170) rfl (by decide +kernel) (by decide) (Nat.le_of_ble_eq_true rfl) (s_MD_at k0.1 (by omega) (by omega)) (fun r h62 hq => ?_)
      obtain ⟨x66, rfl, ⟨_, _⟩, xx66, rfl⟩ := hq
      refine A_istore (L' := [some (av_R (some 170)), some (av_I a1), some (av_I (sd1 + 1)), some (av_I 0), some (av_I x66)]) d_MD_pitch_34 (Nat.le_of_ble_eq_true rfl) rfl ?_
      refine A_iincv (z := (sd1 + 2)) (L' := [some (av_R (some 170)), some (av_I a1), some (av_I (sd1 + 2)), some (av_I 0), some (av_I x66)]) d_MD_pitch_36 rfl (w32_to (by omega) (by unfold i32; omega)) rfl ?_
      refine A_iconst d_MD_pitch_39 rfl ?_
      refine A_istore_n 3 (L' := [some (av_R (some 170)), some (av_I a1), some (av_I (sd1 + 2)), some (av_I 1), some (av_I x66)]) d_MD_pitch_40 rfl (Nat.le_of_ble_eq_true rfl) rfl ?_
      refine A_aload_n 0 d_MD_pitch_41 rfl rfl ?_
      refine A_pc (pc' := 42) rfl ?_
      refine A_iload_n 2 d_MD_pitch_42 rfl rfl ?_
      have zf68 := esd1.symm
      have zf69 := esd2.symm
      refine A_callV1 m_MD_at T_ok d_MD_pitch_43 l_MD_274 k_MD_at (mi_s k0.1 sf_170) rfl (by decide +kernel) (by decide) (Nat.le_of_ble_eq_true rfl) (s_MD_at k0.1 (by omega) (by omega)) (fun r h67 hq => ?_)
      obtain ⟨x71, rfl, ⟨_, _⟩, xx71, rfl⟩ := hq
      refine A_iload d_MD_pitch_46 rfl ?_
      have jp56 : ∀ (j72 j73 : Int) , 2 ≤ j72 → j72 ≤ 2003 → 1 ≤ j73 → j73 ≤ 2 → (sd1 + 1 ≤ j72 ∧ j72 ≤ sd2) → aw G (rm_R 1 0 0) m_MD_pitch 0 0 56 [some (av_R (some 170)), some (av_I a1), some (av_I j72), some (av_I j73), some (av_I x66)] [] h (fun r h' => r = none ∧ (h.2.1 170 3 ≤ h'.2.1 170 3 ∧ h'.2.1 170 3 ≤ h.2.1 170 2 ∧ (h'.2.1 170 4 ≠ 0 → h'.2.1 170 4 ≠ 6 → h.2.1 170 3 < h'.2.1 170 3) ∧ (h'.2.1 170 4 = 0 → h'.2.1 170 3 = h.2.1 170 2)) ∧ kM (pm [3, 4, 8, 9, 10] []) h h') := by
        intro j72 j73  _ _ _ _ jf56 
        refine A_aload_n 0 d_MD_pitch_56 rfl rfl ?_
        refine A_iload_n 3 d_MD_pitch_57 rfl rfl ?_
        refine A_putIk (KR := kM (pm [3, 4, 8, 9, 10] []) h) T_ok d_MD_pitch_58 f_MD_278 (mi_s k0.1 sf_170) fin_f (kM_i k0 (by decide) (by decide) mr_170_10 (by omega) (by omega)) (fun h74 k75 eh74 => ?_)
        refine A_iload d_MD_pitch_61 rfl ?_
        refine A_bipush d_MD_pitch_63 rfl ?_
        have jp74 : ∀ (j76 : Int) , (-2) ≤ j76 → j76 ≤ 2 → (sd1 + 1 ≤ j72 ∧ j72 ≤ sd2 ∧ h74.2.1 170 3 = sd1) → aw G (rm_R 1 0 0) m_MD_pitch 0 0 74 [some (av_R (some 170)), some (av_I a1), some (av_I j72), some (av_I j73), some (av_I x66)] [av_I j76] h74 (fun r h' => r = none ∧ (h.2.1 170 3 ≤ h'.2.1 170 3 ∧ h'.2.1 170 3 ≤ h.2.1 170 2 ∧ (h'.2.1 170 4 ≠ 0 → h'.2.1 170 4 ≠ 6 → h.2.1 170 3 < h'.2.1 170 3) ∧ (h'.2.1 170 4 = 0 → h'.2.1 170 3 = h.2.1 170 2)) ∧ kM (pm [3, 4, 8, 9, 10] []) h h') := by
          intro j76  _ _ jf74 
          refine A_istore_n 3 (L' := [some (av_R (some 170)), some (av_I a1), some (av_I j72), some (av_I j76), some (av_I x66)]) d_MD_pitch_74 rfl (Nat.le_of_ble_eq_true rfl) rfl ?_
          refine A_goto (tgt := 83) d_MD_pitch_75 (by decide) ?_
          refine A_pc (pc' := 83) rfl ?_
          refine A_free (L' := [some (av_R (some 170)), some (av_I a1), some (av_I j72), some (av_I j76), none]) (And.intro rfl (And.intro rfl (And.intro rfl (And.intro rfl trivial)))) ?_
          exact jp83 j72 j76 h74 (by omega) (by omega) (by omega) (by omega) (by have qq0 := ((eh74.1 _ _ (fun _ => by decide)).trans esd1.symm); have qq1 := ((eh74.1 _ _ (fun _ => by decide)).trans esd2.symm); omega) k75
        refine A_icmp_ne (tgt := 72) d_MD_pitch_65 (by decide) (fun c77 => ?_) (fun c77 => ?_)
        · refine A_iload_n 3 d_MD_pitch_72 rfl rfl ?_
          refine A_inegv (z := (-j73)) d_MD_pitch_73 (w32_to (by omega) (by unfold i32; omega)) ?_
          refine A_pc (pc' := 74) rfl ?_
          exact jp74 (-j73) (by omega) (by omega) (by have qq0 := ((eh74.1 _ _ (fun _ => by decide)).trans esd1.symm); have qq1 := ((eh74.1 _ _ (fun _ => by decide)).trans esd2.symm); omega)
        · refine A_iload_n 3 d_MD_pitch_68 rfl rfl ?_
          refine A_goto (tgt := 74) d_MD_pitch_69 (by decide) ?_
          refine A_pc (pc' := 74) rfl ?_
          exact jp74 j73 (by omega) (by omega) (by have qq0 := ((eh74.1 _ _ (fun _ => by decide)).trans esd1.symm); have qq1 := ((eh74.1 _ _ (fun _ => by decide)).trans esd2.symm); omega)
      refine A_icmp_ne (tgt := 56) d_MD_pitch_48 (by decide) (fun c78 => ?_) (fun c78 => ?_)
      · refine A_pc (pc' := 56) rfl ?_
        exact jp56 (sd1 + 2) 1 (by omega) (by omega) (by omega) (by omega) (by have qq0 := esd1.symm; have qq1 := esd2.symm; omega)
      · refine A_iincv (z := (sd1 + 3)) (L' := [some (av_R (some 170)), some (av_I a1), some (av_I (sd1 + 3)), some (av_I 1), some (av_I x66)]) d_MD_pitch_51 rfl (w32_to (by omega) (by unfold i32; omega)) rfl ?_
        refine A_iconst d_MD_pitch_54 rfl ?_
        refine A_istore_n 3 (L' := [some (av_R (some 170)), some (av_I a1), some (av_I (sd1 + 3)), some (av_I 2), some (av_I x66)]) d_MD_pitch_55 rfl (Nat.le_of_ble_eq_true rfl) rfl ?_
        refine A_pc (pc' := 56) rfl ?_
        exact jp56 (sd1 + 3) 2 (by omega) (by omega) (by omega) (by omega) (by have qq0 := esd1.symm; have qq1 := esd2.symm; omega)
theorem s_MD_word {G : cx_T} {h : ah_T} (hx : mi h)  (hse : h.2.1 170 3 < h.2.1 170 2) (hsm : 97 ≤ h.2.1 171 (h.2.1 170 3).toNat ∧ h.2.1 171 (h.2.1 170 3).toNat ≤ 122) : con G 1 0 0 m_MD_word [av_R (some 170)] h (fun r h' => r = none ∧ (h.2.1 170 3 ≤ h'.2.1 170 3 ∧ h'.2.1 170 3 ≤ h.2.1 170 2 ∧ (h'.2.1 170 4 ≠ 0 → h'.2.1 170 4 ≠ 6 → h.2.1 170 3 < h'.2.1 170 3) ∧ (h'.2.1 170 4 = 0 → h'.2.1 170 3 = h.2.1 170 2)) ∧ kM (pm [3, 4, 6, 7] []) h h') := by
  refine con_of (L := [some (av_R (some 170)), none, none]) (by decide +kernel) (Nat.le_of_ble_eq_true rfl) rfl ?_
  have k0 : kM (pm [3, 4, 6, 7] []) h h := kM_0 hx
  obtain ⟨sd1, esd1⟩ : ∃ x, x = h.2.1 170 3 := ⟨_, rfl⟩
  have rsd1 : 0 ≤ sd1 ∧ sd1 ≤ 2000 := (by rw [esd1]; exact mi_g k0.1 (by decide) mr_170_3)
  obtain ⟨sd2, esd2⟩ : ∃ x, x = h.2.1 170 2 := ⟨_, rfl⟩
  have rsd2 : 0 ≤ sd2 ∧ sd2 ≤ 2000 := (by rw [esd2]; exact mi_g k0.1 (by decide) mr_170_2)
  refine A_iconst d_MD_word_0 rfl ?_
  refine A_istore_n 1 (L' := [some (av_R (some 170)), some (av_I 0), none]) d_MD_word_1 rfl (Nat.le_of_ble_eq_true rfl) rfl ?_
  refine A_aload_n 0 d_MD_word_2 rfl rfl ?_
  refine A_lconst_0 d_MD_word_3 ?_
  refine A_putLk (KR := kM (pm [3, 4, 6, 7] []) h) T_ok d_MD_word_4 f_MD_290 (mi_s k0.1 sf_170) fin_f (kM_l k0 (by decide) (by decide) mq_170_7 (by omega) (by omega)) (fun h3 k4 eh3 => ?_)
  have lp7 : ∀ (n : Nat) (i5 : Int) (h6 : ah_T) , 0 ≤ i5 → i5 ≤ 2000 → (h6.2.1 170 3 = h.2.1 170 3 + i5 ∧ 0 ≤ i5 ∧ h6.2.1 170 3 ≤ h.2.1 170 2) ∧ (i5 = 0 → 97 ≤ h6.2.1 171 (h6.2.1 170 3).toNat ∧ h6.2.1 171 (h6.2.1 170 3).toNat ≤ 122) → kM (pm [3, 4, 6, 7] []) h h6 → (2001 - i5).toNat < n → aw G (rm_R 1 0 0) m_MD_word 0 0 7 [some (av_R (some 170)), some (av_I i5), none] [] h6 (fun r h' => r = none ∧ (h.2.1 170 3 ≤ h'.2.1 170 3 ∧ h'.2.1 170 3 ≤ h.2.1 170 2 ∧ (h'.2.1 170 4 ≠ 0 → h'.2.1 170 4 ≠ 6 → h.2.1 170 3 < h'.2.1 170 3) ∧ (h'.2.1 170 4 = 0 → h'.2.1 170 3 = h.2.1 170 2)) ∧ kM (pm [3, 4, 6, 7] []) h h') := by
    intro n
    induction n with
    | zero => intro i5 h6 _ _ _ _ hm; omega
    | succ n ih7 =>
      intro i5 h6 hl0 hl1 hinv k7 hm
      obtain ⟨sd8, esd8⟩ : ∃ x, x = h6.2.1 170 3 := ⟨_, rfl⟩
      have rsd8 : 0 ≤ sd8 ∧ sd8 ≤ 2000 := (by rw [esd8]; exact mi_g k7.1 (by decide) mr_170_3)
      refine A_aload_n 0 d_MD_word_7 rfl rfl ?_
      have yh : (i5 = 0 → 97 ≤ h6.2.1 171 (sd8).toNat ∧ h6.2.1 171 (sd8).toNat ≤ 122) := by rw [← esd8.symm]; exact hinv.2
      refine A_aload_n 0 d_MD_word_8 rfl rfl ?_
      refine A_aload_n 0 d_MD_word_9 rfl rfl ?_
      refine A_getIv (z := sd8) T_ok d_MD_word_10 f_MD_252 (mi_s k7.1 sf_170) esd8.symm ?_
      have zf11 := esd8.symm
      have zf12 := ((k7.2.2.1 _ _ rfl).trans esd2.symm)
      refine A_callV1 m_MD_at T_ok d_MD_word_13 l_MD_274 k_MD_at (mi_s k7.1 sf_170) rfl (by decide +kernel) (by decide) (Nat.le_of_ble_eq_true rfl) (s_MD_at k7.1 (by omega) (by omega)) (fun r h10 hq => ?_)
      obtain ⟨x14, rfl, ⟨_, _⟩, xx14, rfl⟩ := hq
      have zf16 := esd8.symm
      have zf17 := ((k7.2.2.1 _ _ rfl).trans esd2.symm)
      refine A_callV1 m_MD_isSmall T_ok d_MD_word_16 l_MD_258 k_MD_isSmall (mi_s k7.1 sf_170) rfl (by decide +kernel) (by decide) (Nat.le_of_ble_eq_true rfl) (s_MD_isSmall k7.1 ) (fun r h15 hq => ?_)
      obtain ⟨x19, rfl, bx19, xx19, rfl⟩ := hq
      refine A_if_eq (tgt := 59) d_MD_word_19 (by decide) (fun c20 => ?_) (fun c20 => ?_)
      · refine A_aload_n 0 d_MD_word_59 rfl rfl ?_
        refine A_iload_n 1 d_MD_word_60 rfl rfl ?_
        refine A_bipush d_MD_word_61 rfl ?_
        have jp72 : ∀ (j21 : Int) , 2 ≤ j21 → j21 ≤ 6 → aw G (rm_R 1 0 0) m_MD_word 0 0 72 [some (av_R (some 170)), some (av_I i5), none] [av_I j21, av_R (some 170)] h6 (fun r h' => r = none ∧ (h.2.1 170 3 ≤ h'.2.1 170 3 ∧ h'.2.1 170 3 ≤ h.2.1 170 2 ∧ (h'.2.1 170 4 ≠ 0 → h'.2.1 170 4 ≠ 6 → h.2.1 170 3 < h'.2.1 170 3) ∧ (h'.2.1 170 4 = 0 → h'.2.1 170 3 = h.2.1 170 2)) ∧ kM (pm [3, 4, 6, 7] []) h h') := by
          intro j21  _ _ 
          refine A_putIk (KR := kM (pm [3, 4, 6, 7] []) h) T_ok d_MD_word_72 f_MD_239 (mi_s k7.1 sf_170) fin_f (kM_i k7 (by decide) (by decide) mr_170_4 (by omega) (by omega)) (fun h22 k23 eh22 => ?_)
          refine A_iload_n 1 d_MD_word_75 rfl rfl ?_
          refine A_iconst d_MD_word_76 rfl ?_
          refine A_icmp_le (tgt := 81) d_MD_word_77 (by decide) (fun c24 => ?_) (fun c24 => ?_)
          · refine A_aload_n 0 d_MD_word_81 rfl rfl ?_
            refine A_getLf T_ok d_MD_word_82 f_MD_290 (mi_s k23.1 sf_170) (fun x25 ex25 _ _ => ?_)
            refine A_ldc2 (z := 1953066341) d_MD_word_85 cst_MD_294 rfl ?_
            refine A_lcmpn d_MD_word_88 (fun x26 lx26 ex26 gx26 _ _ => ?_)
            have jp173 : ∀ (j27 : Int) , (-2) ≤ j27 → j27 ≤ 5 → (j27 = -2 ∨ 0 ≤ j27) → aw G (rm_R 1 0 0) m_MD_word 0 0 173 [some (av_R (some 170)), some (av_I i5), none] [av_I j27] h22 (fun r h' => r = none ∧ (h.2.1 170 3 ≤ h'.2.1 170 3 ∧ h'.2.1 170 3 ≤ h.2.1 170 2 ∧ (h'.2.1 170 4 ≠ 0 → h'.2.1 170 4 ≠ 6 → h.2.1 170 3 < h'.2.1 170 3) ∧ (h'.2.1 170 4 = 0 → h'.2.1 170 3 = h.2.1 170 2)) ∧ kM (pm [3, 4, 6, 7] []) h h') := by
              intro j27  _ _ jf173 
              refine A_istore_n 2 (L' := [some (av_R (some 170)), some (av_I i5), some (av_I j27)]) d_MD_word_173 rfl (Nat.le_of_ble_eq_true rfl) rfl ?_
              refine A_iload_n 2 d_MD_word_174 rfl rfl ?_
              refine A_bipush d_MD_word_175 rfl ?_
              refine A_icmp_ne (tgt := 181) d_MD_word_177 (by decide) (fun c28 => ?_) (fun c28 => ?_)
              · refine A_aload_n 0 d_MD_word_181 rfl rfl ?_
                refine A_iconst d_MD_word_182 rfl ?_
                refine A_putIk (KR := kM (pm [3, 4, 6, 7] []) h) T_ok d_MD_word_183 f_MD_239 (mi_s k23.1 sf_170) fin_f (kM_i k23 (by decide) (by decide) mr_170_4 (by omega) (by omega)) (fun h29 k30 eh29 => ?_)
                refine A_aload_n 0 d_MD_word_186 rfl rfl ?_
                refine A_iload_n 2 d_MD_word_187 rfl rfl ?_
                refine A_pc (pc' := 188) rfl ?_
                refine A_putIk (KR := kM (pm [3, 4, 6, 7] []) h) T_ok d_MD_word_188 f_MD_271 (mi_s k30.1 sf_170) fin_f (kM_i k30 (by decide) (by decide) mr_170_6 (by omega) (by omega)) (fun h31 k32 eh31 => ?_)
                exact A_vret d_MD_word_191 (by decide) rfl ⟨rfl, (by have hi1 := hinv.1; have qq0 := ((eh31.1 _ _ (fun _ => by decide)).trans ((eh29.1 _ _ (fun _ => by decide)).trans ((eh22.1 _ _ (fun _ => by decide)).trans esd8.symm))); have qq1 := ((eh31.1 _ _ (fun _ => by decide)).trans ((eh29.1 _ _ (fun _ => by decide)).trans ((eh22.1 _ _ (fun _ => by decide)).trans ((k7.2.2.1 _ _ rfl).trans esd2.symm)))); have qq2 := ((eh31.1 _ _ (fun _ => by decide)).trans eh29.2.1); exact ⟨by omega, by omega, by omega, by omega⟩), k32⟩
              · exact A_vret d_MD_word_180 (by decide) rfl ⟨rfl, (by have hi1 := hinv.1; have qq0 := ((eh22.1 _ _ (fun _ => by decide)).trans esd8.symm); have qq1 := ((eh22.1 _ _ (fun _ => by decide)).trans ((k7.2.2.1 _ _ rfl).trans esd2.symm)); have qq2 := eh22.2.1; exact ⟨by omega, by omega, by omega, by omega⟩), k23⟩
            refine A_if_ne (tgt := 96) d_MD_word_89 (by decide) (fun c33 => ?_) (fun c33 => ?_)
            · have mc33 : (x25 - 1953066341) ≠ 0 := by omega
              refine A_aload_n 0 d_MD_word_96 rfl rfl ?_
              refine A_getLv (z := x25) T_ok d_MD_word_97 f_MD_290 (mi_s k23.1 sf_170) ex25.symm ?_
              refine A_ldc2 (z := 508675318629) d_MD_word_100 cst_MD_296 rfl ?_
              refine A_lcmpn d_MD_word_103 (fun x35 lx35 ex35 gx35 _ _ => ?_)
              refine A_if_ne (tgt := 111) d_MD_word_104 (by decide) (fun c36 => ?_) (fun c36 => ?_)
              · have mc36 : (x25 - 508675318629) ≠ 0 := by omega
                refine A_aload_n 0 d_MD_word_111 rfl rfl ?_
                refine A_getLv (z := x25) T_ok d_MD_word_112 f_MD_290 (mi_s k23.1 sf_170) ex25.symm ?_
                refine A_ldc2 (z := 1818848869) d_MD_word_115 cst_MD_298 rfl ?_
                refine A_lcmpn d_MD_word_118 (fun x38 lx38 ex38 gx38 _ _ => ?_)
                refine A_if_ne (tgt := 126) d_MD_word_119 (by decide) (fun c39 => ?_) (fun c39 => ?_)
                · have mc39 : (x25 - 1818848869) ≠ 0 := by omega
                  refine A_aload_n 0 d_MD_word_126 rfl rfl ?_
                  refine A_getLv (z := x25) T_ok d_MD_word_127 f_MD_290 (mi_s k23.1 sf_170) ex25.symm ?_
                  refine A_ldc2 (z := 1920298085) d_MD_word_130 cst_MD_300 rfl ?_
                  refine A_lcmpn d_MD_word_133 (fun x41 lx41 ex41 gx41 _ _ => ?_)
                  refine A_if_ne (tgt := 141) d_MD_word_134 (by decide) (fun c42 => ?_) (fun c42 => ?_)
                  · have mc42 : (x25 - 1920298085) ≠ 0 := by omega
                    refine A_aload_n 0 d_MD_word_141 rfl rfl ?_
                    refine A_getLv (z := x25) T_ok d_MD_word_142 f_MD_290 (mi_s k23.1 sf_170) ex25.symm ?_
                    refine A_ldc2 (z := 7499639) d_MD_word_145 cst_MD_302 rfl ?_
                    refine A_lcmpn d_MD_word_148 (fun x44 lx44 ex44 gx44 _ _ => ?_)
                    refine A_if_ne (tgt := 156) d_MD_word_149 (by decide) (fun c45 => ?_) (fun c45 => ?_)
                    · have mc45 : (x25 - 7499639) ≠ 0 := by omega
                      refine A_aload_n 0 d_MD_word_156 rfl rfl ?_
                      refine A_getLv (z := x25) T_ok d_MD_word_157 f_MD_290 (mi_s k23.1 sf_170) ex25.symm ?_
                      refine A_ldc2 (z := 114) d_MD_word_160 cst_MD_304 rfl ?_
                      refine A_lcmpn d_MD_word_163 (fun x47 lx47 ex47 gx47 _ _ => ?_)
                      refine A_if_ne (tgt := 171) d_MD_word_164 (by decide) (fun c48 => ?_) (fun c48 => ?_)
                      · have mc48 : (x25 - 114) ≠ 0 := by omega
                        refine A_bipush d_MD_word_171 rfl ?_
                        refine A_pc (pc' := 173) rfl ?_
                        exact jp173 (-2) (by omega) (by omega) (by have qq0 := ((eh22.1 _ _ (fun _ => by decide)).trans esd8.symm); have qq1 := ((eh22.1 _ _ (fun _ => by decide)).trans ((k7.2.2.1 _ _ rfl).trans esd2.symm)); omega)
                      · have mc48 : (x25 - 114) = 0 := by omega
                        refine A_iconst d_MD_word_167 rfl ?_
                        refine A_goto (tgt := 173) d_MD_word_168 (by decide) ?_
                        refine A_pc (pc' := 173) rfl ?_
                        exact jp173 5 (by omega) (by omega) (by have qq0 := ((eh22.1 _ _ (fun _ => by decide)).trans esd8.symm); have qq1 := ((eh22.1 _ _ (fun _ => by decide)).trans ((k7.2.2.1 _ _ rfl).trans esd2.symm)); omega)
                    · have mc45 : (x25 - 7499639) = 0 := by omega
                      refine A_iconst d_MD_word_152 rfl ?_
                      refine A_goto (tgt := 173) d_MD_word_153 (by decide) ?_
                      refine A_pc (pc' := 173) rfl ?_
                      exact jp173 4 (by omega) (by omega) (by have qq0 := ((eh22.1 _ _ (fun _ => by decide)).trans esd8.symm); have qq1 := ((eh22.1 _ _ (fun _ => by decide)).trans ((k7.2.2.1 _ _ rfl).trans esd2.symm)); omega)
                  · have mc42 : (x25 - 1920298085) = 0 := by omega
                    refine A_iconst d_MD_word_137 rfl ?_
                    refine A_goto (tgt := 173) d_MD_word_138 (by decide) ?_
                    refine A_pc (pc' := 173) rfl ?_
                    exact jp173 3 (by omega) (by omega) (by have qq0 := ((eh22.1 _ _ (fun _ => by decide)).trans esd8.symm); have qq1 := ((eh22.1 _ _ (fun _ => by decide)).trans ((k7.2.2.1 _ _ rfl).trans esd2.symm)); omega)
                · have mc39 : (x25 - 1818848869) = 0 := by omega
                  refine A_iconst d_MD_word_122 rfl ?_
                  refine A_goto (tgt := 173) d_MD_word_123 (by decide) ?_
                  refine A_pc (pc' := 173) rfl ?_
                  exact jp173 2 (by omega) (by omega) (by have qq0 := ((eh22.1 _ _ (fun _ => by decide)).trans esd8.symm); have qq1 := ((eh22.1 _ _ (fun _ => by decide)).trans ((k7.2.2.1 _ _ rfl).trans esd2.symm)); omega)
              · have mc36 : (x25 - 508675318629) = 0 := by omega
                refine A_iconst d_MD_word_107 rfl ?_
                refine A_goto (tgt := 173) d_MD_word_108 (by decide) ?_
                refine A_pc (pc' := 173) rfl ?_
                exact jp173 1 (by omega) (by omega) (by have qq0 := ((eh22.1 _ _ (fun _ => by decide)).trans esd8.symm); have qq1 := ((eh22.1 _ _ (fun _ => by decide)).trans ((k7.2.2.1 _ _ rfl).trans esd2.symm)); omega)
            · have mc33 : (x25 - 1953066341) = 0 := by omega
              refine A_iconst d_MD_word_92 rfl ?_
              refine A_goto (tgt := 173) d_MD_word_93 (by decide) ?_
              refine A_pc (pc' := 173) rfl ?_
              exact jp173 0 (by omega) (by omega) (by have qq0 := ((eh22.1 _ _ (fun _ => by decide)).trans esd8.symm); have qq1 := ((eh22.1 _ _ (fun _ => by decide)).trans ((k7.2.2.1 _ _ rfl).trans esd2.symm)); omega)
          · exact A_vret d_MD_word_80 (by decide) rfl ⟨rfl, (by have hi1 := hinv.1; have qq0 := ((eh22.1 _ _ (fun _ => by decide)).trans esd8.symm); have qq1 := ((eh22.1 _ _ (fun _ => by decide)).trans ((k7.2.2.1 _ _ rfl).trans esd2.symm)); have qq2 := eh22.2.1; exact ⟨by omega, by omega, by omega, by omega⟩), k23⟩
        refine A_icmp_le (tgt := 71) d_MD_word_63 (by decide) (fun c49 => ?_) (fun c49 => ?_)
        · refine A_iconst d_MD_word_71 rfl ?_
          refine A_pc (pc' := 72) rfl ?_
          exact jp72 2 (by omega) (by omega)
        · refine A_bipush d_MD_word_66 rfl ?_
          refine A_goto (tgt := 72) d_MD_word_68 (by decide) ?_
          refine A_pc (pc' := 72) rfl ?_
          exact jp72 6 (by omega) (by omega)
      · refine A_aload_n 0 d_MD_word_22 rfl rfl ?_
        refine A_aload_n 0 d_MD_word_23 rfl rfl ?_
        refine A_getLf T_ok d_MD_word_24 f_MD_290 (mi_s k7.1 sf_170) (fun x50 ex50 _ _ => ?_)
        refine A_bipush d_MD_word_27 rfl ?_
        refine A_lshl d_MD_word_29 ?_
        refine A_nrL (fun x51 ex51 _ _ => ?_)
        refine A_pc (pc' := 30) rfl ?_
        refine A_aload_n 0 d_MD_word_30 rfl rfl ?_
        refine A_aload_n 0 d_MD_word_31 rfl rfl ?_
        refine A_getIv (z := sd8) T_ok d_MD_word_32 f_MD_252 (mi_s k7.1 sf_170) esd8.symm ?_
        have zf54 := esd8.symm
        have zf55 := ((k7.2.2.1 _ _ rfl).trans esd2.symm)
        refine A_callV1 m_MD_at T_ok d_MD_word_35 l_MD_274 k_MD_at (mi_s k7.1 sf_170) rfl (by decide +kernel) (by decide) (Nat.le_of_ble_eq_true rfl) (s_MD_at k7.1 (by omega) (by omega)) (fun r h53 hq => ?_)
        obtain ⟨x57, rfl, ⟨_, _⟩, xx57, rfl⟩ := hq
        refine A_i2l d_MD_word_38 ?_
        refine A_lor d_MD_word_39 ?_
        refine A_nrL (fun x58 ex58 _ _ => ?_)
        refine A_putLk (KR := kM (pm [3, 4, 6, 7] []) h) T_ok d_MD_word_40 f_MD_290 (mi_s k7.1 sf_170) fin_f (kM_l k7 (by decide) (by decide) mq_170_7 (by omega) (by omega)) (fun h59 k60 eh59 => ?_)
        refine A_aload_n 0 d_MD_word_43 rfl rfl ?_
        refine A_dupR d_MD_word_44 ?_
        refine A_pc (pc' := 45) rfl ?_
        refine A_getIv (z := sd8) T_ok d_MD_word_45 f_MD_252 (mi_s k60.1 sf_170) ((congrFun (congrFun eh59.1 _) _).trans esd8.symm) ?_
        refine A_iconst d_MD_word_48 rfl ?_
        refine A_iaddv (z := (sd8 + 1)) d_MD_word_49 (w32_to (by omega) (by unfold i32; omega)) ?_
        refine A_putIk (KR := kM (pm [3, 4, 6, 7] []) h) T_ok d_MD_word_50 f_MD_252 (mi_s k60.1 sf_170) fin_f (kM_i k60 (by decide) (by decide) mr_170_3 (by omega) (by omega)) (fun h62 k63 eh62 => ?_)
        refine A_iincv (z := (i5 + 1)) (L' := [some (av_R (some 170)), some (av_I (i5 + 1)), none]) d_MD_word_53 rfl (w32_to (by omega) (by unfold i32; omega)) rfl ?_
        refine A_goto (tgt := 7) d_MD_word_56 (by decide) ?_
        exact ih7 (i5 + 1) h62 (by omega) (by omega) ⟨(by have qq0 := eh62.2.1; have qq1 := ((eh62.1 _ _ (fun _ => by decide)).trans ((congrFun (congrFun eh59.1 _) _).trans ((k7.2.2.1 _ _ rfl).trans esd2.symm))); omega), fun q => False.elim (by omega)⟩ k63 (by omega)
  exact lp7 _ 0 h3 (by omega) (by omega) ⟨(by have qq0 := ((congrFun (congrFun eh3.1 _) _).trans esd1.symm); have qq1 := ((congrFun (congrFun eh3.1 _) _).trans esd2.symm); omega), fun _ => by rw [k4.2.2.1 171 _ rfl, ((congrFun (congrFun eh3.1 _) _).trans esd1.symm), esd1]; exact hsm⟩ k4 (Nat.lt_succ_self _)
theorem s_MD_number {G : cx_T} {h : ah_T} (hx : mi h)  (hse : h.2.1 170 3 < h.2.1 170 2) (hsm : 48 ≤ h.2.1 171 (h.2.1 170 3).toNat ∧ h.2.1 171 (h.2.1 170 3).toNat ≤ 57) : con G 1 0 0 m_MD_number [av_R (some 170)] h (fun r h' => r = none ∧ (h.2.1 170 3 ≤ h'.2.1 170 3 ∧ h'.2.1 170 3 ≤ h.2.1 170 2 ∧ (h'.2.1 170 4 ≠ 0 → h'.2.1 170 4 ≠ 6 → h.2.1 170 3 < h'.2.1 170 3) ∧ (h'.2.1 170 4 = 0 → h'.2.1 170 3 = h.2.1 170 2)) ∧ kM (pm [3, 4, 6] []) h h') := by
  refine con_of (L := [some (av_R (some 170)), none]) (by decide +kernel) (Nat.le_of_ble_eq_true rfl) rfl ?_
  have k0 : kM (pm [3, 4, 6] []) h h := kM_0 hx
  obtain ⟨sd1, esd1⟩ : ∃ x, x = h.2.1 170 3 := ⟨_, rfl⟩
  have rsd1 : 0 ≤ sd1 ∧ sd1 ≤ 2000 := (by rw [esd1]; exact mi_g k0.1 (by decide) mr_170_3)
  obtain ⟨sd2, esd2⟩ : ∃ x, x = h.2.1 170 2 := ⟨_, rfl⟩
  have rsd2 : 0 ≤ sd2 ∧ sd2 ≤ 2000 := (by rw [esd2]; exact mi_g k0.1 (by decide) mr_170_2)
  refine A_iconst d_MD_number_0 rfl ?_
  refine A_istore_n 1 (L' := [some (av_R (some 170)), some (av_I 0)]) d_MD_number_1 rfl (Nat.le_of_ble_eq_true rfl) rfl ?_
  refine A_aload_n 0 d_MD_number_2 rfl rfl ?_
  refine A_iconst d_MD_number_3 rfl ?_
  refine A_putIk (KR := kM (pm [3, 4, 6] []) h) T_ok d_MD_number_4 f_MD_271 (mi_s k0.1 sf_170) fin_f (kM_i k0 (by decide) (by decide) mr_170_6 (by omega) (by omega)) (fun h3 k4 eh3 => ?_)
  have lp7 : ∀ (n : Nat) (i5 : Int) (h6 : ah_T) , 0 ≤ i5 → i5 ≤ 2000 → (h6.2.1 170 3 = h.2.1 170 3 + i5 ∧ 0 ≤ i5 ∧ h6.2.1 170 3 ≤ h.2.1 170 2 ∧ (i5 = 0 → h6.2.1 170 6 = 0) ∧ (i5 = 1 → h6.2.1 170 6 ≤ 9) ∧ (i5 = 2 → h6.2.1 170 6 ≤ 99) ∧ (i5 = 3 → h6.2.1 170 6 ≤ 999)) ∧ (i5 = 0 → 48 ≤ h6.2.1 171 (h6.2.1 170 3).toNat ∧ h6.2.1 171 (h6.2.1 170 3).toNat ≤ 57) → kM (pm [3, 4, 6] []) h h6 → (2001 - i5).toNat < n → aw G (rm_R 1 0 0) m_MD_number 0 0 7 [some (av_R (some 170)), some (av_I i5)] [] h6 (fun r h' => r = none ∧ (h.2.1 170 3 ≤ h'.2.1 170 3 ∧ h'.2.1 170 3 ≤ h.2.1 170 2 ∧ (h'.2.1 170 4 ≠ 0 → h'.2.1 170 4 ≠ 6 → h.2.1 170 3 < h'.2.1 170 3) ∧ (h'.2.1 170 4 = 0 → h'.2.1 170 3 = h.2.1 170 2)) ∧ kM (pm [3, 4, 6] []) h h') := by
    intro n
    induction n with
    | zero => intro i5 h6 _ _ _ _ hm; omega
    | succ n ih7 =>
      intro i5 h6 hl0 hl1 hinv k7 hm
      obtain ⟨sd8, esd8⟩ : ∃ x, x = h6.2.1 170 3 := ⟨_, rfl⟩
      have rsd8 : 0 ≤ sd8 ∧ sd8 ≤ 2000 := (by rw [esd8]; exact mi_g k7.1 (by decide) mr_170_3)
      refine A_aload_n 0 d_MD_number_7 rfl rfl ?_
      have yh : (i5 = 0 → 48 ≤ h6.2.1 171 (sd8).toNat ∧ h6.2.1 171 (sd8).toNat ≤ 57) := by rw [← esd8.symm]; exact hinv.2
      refine A_aload_n 0 d_MD_number_8 rfl rfl ?_
      refine A_aload_n 0 d_MD_number_9 rfl rfl ?_
      refine A_getIv (z := sd8) T_ok d_MD_number_10 f_MD_252 (mi_s k7.1 sf_170) esd8.symm ?_
      have zf11 := esd8.symm
      have zf12 := ((k7.2.2.1 _ _ rfl).trans esd2.symm)
      refine A_callV1 m_MD_at T_ok d_MD_number_13 l_MD_274 k_MD_at (mi_s k7.1 sf_170) rfl (by decide +kernel) (by decide) (Nat.le_of_ble_eq_true rfl) (s_MD_at k7.1 (by omega) (by omega)) (fun r h10 hq => ?_)
      obtain ⟨x14, rfl, ⟨_, _⟩, xx14, rfl⟩ := hq
      have zf16 := esd8.symm
      have zf17 := ((k7.2.2.1 _ _ rfl).trans esd2.symm)
      refine A_callV1 m_MD_isDigit T_ok d_MD_number_16 l_MD_265 k_MD_isDigit (mi_s k7.1 sf_170) rfl (by decide +kernel) (by decide) (Nat.le_of_ble_eq_true rfl) (s_MD_isDigit k7.1 ) (fun r h15 hq => ?_)
      obtain ⟨x19, rfl, bx19, xx19, rfl⟩ := hq
      refine A_if_eq (tgt := 66) d_MD_number_19 (by decide) (fun c20 => ?_) (fun c20 => ?_)
      · refine A_aload_n 0 d_MD_number_66 rfl rfl ?_
        refine A_iload_n 1 d_MD_number_67 rfl rfl ?_
        refine A_iconst d_MD_number_68 rfl ?_
        refine A_icmp_le (tgt := 77) d_MD_number_69 (by decide) (fun c21 => ?_) (fun c21 => ?_)
        · refine A_iconst d_MD_number_77 rfl ?_
          refine A_putIk (KR := kM (pm [3, 4, 6] []) h) T_ok d_MD_number_78 f_MD_239 (mi_s k7.1 sf_170) fin_f (kM_i k7 (by decide) (by decide) mr_170_4 (by omega) (by omega)) (fun h22 k23 eh22 => ?_)
          exact A_vret d_MD_number_81 (by decide) rfl ⟨rfl, (by have hi1 := hinv.1; have qq0 := ((eh22.1 _ _ (fun _ => by decide)).trans esd8.symm); have qq1 := ((eh22.1 _ _ (fun _ => by decide)).trans ((k7.2.2.1 _ _ rfl).trans esd2.symm)); have qq2 := eh22.2.1; exact ⟨by omega, by omega, by omega, by omega⟩), k23⟩
        · refine A_bipush d_MD_number_72 rfl ?_
          refine A_goto (tgt := 78) d_MD_number_74 (by decide) ?_
          refine A_putIk (KR := kM (pm [3, 4, 6] []) h) T_ok d_MD_number_78 f_MD_239 (mi_s k7.1 sf_170) fin_f (kM_i k7 (by decide) (by decide) mr_170_4 (by omega) (by omega)) (fun h24 k25 eh24 => ?_)
          exact A_vret d_MD_number_81 (by decide) rfl ⟨rfl, (by have hi1 := hinv.1; have qq0 := ((eh24.1 _ _ (fun _ => by decide)).trans esd8.symm); have qq1 := ((eh24.1 _ _ (fun _ => by decide)).trans ((k7.2.2.1 _ _ rfl).trans esd2.symm)); have qq2 := eh24.2.1; exact ⟨by omega, by omega, by omega, by omega⟩), k25⟩
      · refine A_iload_n 1 d_MD_number_22 rfl rfl ?_
        refine A_iconst d_MD_number_23 rfl ?_
        refine A_icmp_ge (tgt := 50) d_MD_number_24 (by decide) (fun c26 => ?_) (fun c26 => ?_)
        · refine A_aload_n 0 d_MD_number_50 rfl rfl ?_
          refine A_dupR d_MD_number_51 ?_
          refine A_getIv (z := sd8) T_ok d_MD_number_52 f_MD_252 (mi_s k7.1 sf_170) esd8.symm ?_
          refine A_iconst d_MD_number_55 rfl ?_
          refine A_iaddv (z := (sd8 + 1)) d_MD_number_56 (w32_to (by omega) (by unfold i32; omega)) ?_
          refine A_pc (pc' := 57) rfl ?_
          refine A_putIk (KR := kM (pm [3, 4, 6] []) h) T_ok d_MD_number_57 f_MD_252 (mi_s k7.1 sf_170) fin_f (kM_i k7 (by decide) (by decide) mr_170_3 (by omega) (by omega)) (fun h28 k29 eh28 => ?_)
          refine A_iincv (z := (i5 + 1)) (L' := [some (av_R (some 170)), some (av_I (i5 + 1))]) d_MD_number_60 rfl (w32_to (by omega) (by unfold i32; omega)) rfl ?_
          refine A_goto (tgt := 7) d_MD_number_63 (by decide) ?_
          exact ih7 (i5 + 1) h28 (by omega) (by omega) ⟨(by have qq0 := eh28.2.1; have qq1 := ((eh28.1 _ _ (fun _ => by decide)).trans ((k7.2.2.1 _ _ rfl).trans esd2.symm)); omega), fun q => False.elim (by omega)⟩ k29 (by omega)
        · refine A_aload_n 0 d_MD_number_27 rfl rfl ?_
          refine A_bipush d_MD_number_28 rfl ?_
          refine A_aload_n 0 d_MD_number_30 rfl rfl ?_
          refine A_getIn (lo := 0) (hi := 9999) T_ok d_MD_number_31 f_MD_271 (mi_s k7.1 sf_170) (mi_g k7.1 (by decide) mr_170_6) (fun x30 ex30 _ _ => ?_)
          refine A_imulv (z := (10 * x30)) d_MD_number_34 (w32_to (by omega) (by unfold i32; omega)) ?_
          refine A_pc (pc' := 35) rfl ?_
          refine A_aload_n 0 d_MD_number_35 rfl rfl ?_
          refine A_aload_n 0 d_MD_number_36 rfl rfl ?_
          refine A_getIv (z := sd8) T_ok d_MD_number_37 f_MD_252 (mi_s k7.1 sf_170) esd8.symm ?_
          have zf33 := esd8.symm
          have zf34 := ((k7.2.2.1 _ _ rfl).trans esd2.symm)
          refine A_callV1 m_MD_at T_ok d_MD_number_40 l_MD_274 k_MD_at (mi_s k7.1 sf_170) rfl (by decide +kernel) (by decide) (Nat.le_of_ble_eq_true rfl) (s_MD_at k7.1 (by omega) (by omega)) (fun r h32 hq => ?_)
          obtain ⟨x36, rfl, ⟨_, _⟩, xx36, rfl⟩ := hq
          refine A_iaddv (z := (10 * x30 + x36)) d_MD_number_43 (w32_to (by omega) (by unfold i32; omega)) ?_
          refine A_bipush d_MD_number_44 rfl ?_
          refine A_isubv (z := (10 * x30 + x36 - 48)) d_MD_number_46 (w32_to (by omega) (by unfold i32; omega)) ?_
          refine A_putIk (KR := kM (pm [3, 4, 6] []) h) T_ok d_MD_number_47 f_MD_271 (mi_s k7.1 sf_170) fin_f (kM_i k7 (by decide) (by decide) mr_170_6 (by omega) (by omega)) (fun h37 k38 eh37 => ?_)
          refine A_aload_n 0 d_MD_number_50 rfl rfl ?_
          refine A_pc (pc' := 51) rfl ?_
          refine A_dupR d_MD_number_51 ?_
          refine A_getIv (z := sd8) T_ok d_MD_number_52 f_MD_252 (mi_s k38.1 sf_170) ((eh37.1 _ _ (fun _ => by decide)).trans esd8.symm) ?_
          refine A_iconst d_MD_number_55 rfl ?_
          refine A_iaddv (z := (sd8 + 1)) d_MD_number_56 (w32_to (by omega) (by unfold i32; omega)) ?_
          refine A_putIk (KR := kM (pm [3, 4, 6] []) h) T_ok d_MD_number_57 f_MD_252 (mi_s k38.1 sf_170) fin_f (kM_i k38 (by decide) (by decide) mr_170_3 (by omega) (by omega)) (fun h40 k41 eh40 => ?_)
          refine A_iincv (z := (i5 + 1)) (L' := [some (av_R (some 170)), some (av_I (i5 + 1))]) d_MD_number_60 rfl (w32_to (by omega) (by unfold i32; omega)) rfl ?_
          refine A_pc (pc' := 63) rfl ?_
          refine A_goto (tgt := 7) d_MD_number_63 (by decide) ?_
          exact ih7 (i5 + 1) h40 (by omega) (by omega) ⟨(by have qq0 := eh40.2.1; have qq1 := ((eh40.1 _ _ (fun _ => by decide)).trans ((eh37.1 _ _ (fun _ => by decide)).trans ((k7.2.2.1 _ _ rfl).trans esd2.symm))); have qq2 := ((eh40.1 _ _ (fun _ => by decide)).trans eh37.2.1); omega), fun q => False.elim (by omega)⟩ k41 (by omega)
  exact lp7 _ 0 h3 (by omega) (by omega) ⟨(by have qq0 := ((eh3.1 _ _ (fun _ => by decide)).trans esd1.symm); have qq1 := ((eh3.1 _ _ (fun _ => by decide)).trans esd2.symm); have qq2 := eh3.2.1; omega), fun _ => by rw [k4.2.2.1 171 _ rfl, ((eh3.1 _ _ (fun _ => by decide)).trans esd1.symm), esd1]; exact hsm⟩ k4 (Nat.lt_succ_self _)
