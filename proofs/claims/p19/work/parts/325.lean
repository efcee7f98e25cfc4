/-! ===== the reference's methods, 325 ===== -/
def m_MD_put : mr_T := (⟨"PlainMusicModel", "put", "(I)V"⟩, prog_14_method_26_code, 2, none)
theorem mr_170_43 : mr 170 43 = (0, 2001) := by decide +kernel
theorem d_MD_put_0 : decode prog_14_method_26_code 0 = .ok (.aload_n 0, 1) := by decide +kernel
theorem d_MD_put_1 : decode prog_14_method_26_code 1 = .ok (.getfield 106, 3) := by decide +kernel
theorem rfm_44 : (44, 201) ∈ mf_L := by decide +kernel
theorem d_MD_put_4 : decode prog_14_method_26_code 4 = .ok (.aload_n 0, 1) := by decide +kernel
theorem d_MD_put_5 : decode prog_14_method_26_code 5 = .ok (.getfield 354, 3) := by decide +kernel
theorem f_MD_354 : fl_OK "PlainMusicModel" 354 12 43 .int false := ⟨_, rfl, by decide, gwi_1525, rfl, rfl⟩
theorem d_MD_put_8 : decode prog_14_method_26_code 8 = .ok (.iload_n 1, 1) := by decide +kernel
theorem d_MD_put_9 : decode prog_14_method_26_code 9 = .ok (.iastore, 1) := by decide +kernel
theorem sf_201 : sh_L[201]? = some (0, 2100) := by decide +kernel
theorem mr_201 (k : Nat) : mr 201 k = (0, 6) := rfl
theorem d_MD_put_10 : decode prog_14_method_26_code 10 = .ok (.aload_n 0, 1) := by decide +kernel
theorem d_MD_put_11 : decode prog_14_method_26_code 11 = .ok (.dup, 1) := by decide +kernel
theorem d_MD_put_12 : decode prog_14_method_26_code 12 = .ok (.getfield 354, 3) := by decide +kernel
theorem d_MD_put_15 : decode prog_14_method_26_code 15 = .ok (.iconst 1, 1) := by decide +kernel
theorem d_MD_put_16 : decode prog_14_method_26_code 16 = .ok (.iadd, 1) := by decide +kernel
theorem d_MD_put_17 : decode prog_14_method_26_code 17 = .ok (.putfield 354, 3) := by decide +kernel
theorem d_MD_put_20 : decode prog_14_method_26_code 20 = .ok (.return_, 1) := by decide +kernel
def m_MD_pitchOf : mr_T := (⟨"PlainMusicModel", "pitchOf", "(I)Z"⟩, prog_14_method_30_code, 3, some .boolean)
theorem d_MD_pitchOf_0 : decode prog_14_method_30_code 0 = .ok (.aload_n 0, 1) := by decide +kernel
theorem d_MD_pitchOf_1 : decode prog_14_method_30_code 1 = .ok (.getfield 360, 3) := by decide +kernel
theorem f_MD_360 : fl_OK "PlainMusicModel" 360 12 64 .int false := ⟨_, rfl, by decide, gwi_1546, rfl, rfl⟩
theorem mr_170_64 : mr 170 64 = (0, 300) := by decide +kernel
theorem d_MD_pitchOf_4 : decode prog_14_method_30_code 4 = .ok (.sipush 300, 3) := by decide +kernel
theorem d_MD_pitchOf_7 : decode prog_14_method_30_code 7 = .ok (.if_icmp .ne 13, 3) := by decide +kernel
theorem d_MD_pitchOf_20 : decode prog_14_method_30_code 20 = .ok (.aload_n 0, 1) := by decide +kernel
theorem d_MD_pitchOf_21 : decode prog_14_method_30_code 21 = .ok (.dup, 1) := by decide +kernel
theorem d_MD_pitchOf_22 : decode prog_14_method_30_code 22 = .ok (.getfield 360, 3) := by decide +kernel
theorem d_MD_pitchOf_25 : decode prog_14_method_30_code 25 = .ok (.iconst 1, 1) := by decide +kernel
theorem d_MD_pitchOf_26 : decode prog_14_method_30_code 26 = .ok (.iadd, 1) := by decide +kernel
theorem d_MD_pitchOf_27 : decode prog_14_method_30_code 27 = .ok (.putfield 360, 3) := by decide +kernel
theorem d_MD_pitchOf_30 : decode prog_14_method_30_code 30 = .ok (.iconst 4, 1) := by decide +kernel
theorem d_MD_pitchOf_31 : decode prog_14_method_30_code 31 = .ok (.iload_n 1, 1) := by decide +kernel
theorem d_MD_pitchOf_32 : decode prog_14_method_30_code 32 = .ok (.imul, 1) := by decide +kernel
theorem d_MD_pitchOf_33 : decode prog_14_method_30_code 33 = .ok (.aload_n 0, 1) := by decide +kernel
theorem d_MD_pitchOf_34 : decode prog_14_method_30_code 34 = .ok (.getfield 115, 3) := by decide +kernel
theorem rfm_47 : (47, 204) ∈ mf_L := by decide +kernel
theorem d_MD_pitchOf_37 : decode prog_14_method_30_code 37 = .ok (.iload_n 1, 1) := by decide +kernel
theorem d_MD_pitchOf_38 : decode prog_14_method_30_code 38 = .ok (.iaload, 1) := by decide +kernel
theorem sf_204 : sh_L[204]? = some (0, 2100) := by decide +kernel
theorem mr_204 (k : Nat) : mr 204 k = (0, 4) := rfl
theorem d_MD_pitchOf_39 : decode prog_14_method_30_code 39 = .ok (.iadd, 1) := by decide +kernel
theorem d_MD_pitchOf_40 : decode prog_14_method_30_code 40 = .ok (.istore_n 2, 1) := by decide +kernel
theorem d_MD_pitchOf_41 : decode prog_14_method_30_code 41 = .ok (.aload_n 0, 1) := by decide +kernel
theorem d_MD_pitchOf_42 : decode prog_14_method_30_code 42 = .ok (.getfield 118, 3) := by decide +kernel
theorem rfm_48 : (48, 205) ∈ mf_L := by decide +kernel
theorem d_MD_pitchOf_45 : decode prog_14_method_30_code 45 = .ok (.iload_n 2, 1) := by decide +kernel
theorem d_MD_pitchOf_46 : decode prog_14_method_30_code 46 = .ok (.aload_n 0, 1) := by decide +kernel
theorem d_MD_pitchOf_47 : decode prog_14_method_30_code 47 = .ok (.getfield 284, 3) := by decide +kernel
theorem d_MD_pitchOf_50 : decode prog_14_method_30_code 50 = .ok (.iastore, 1) := by decide +kernel
theorem sf_205 : sh_L[205]? = some (0, 8400) := by decide +kernel
theorem mr_205 (k : Nat) : mr 205 k = ((-2), 109) := rfl
theorem d_MD_pitchOf_51 : decode prog_14_method_30_code 51 = .ok (.aload_n 0, 1) := by decide +kernel
theorem d_MD_pitchOf_52 : decode prog_14_method_30_code 52 = .ok (.getfield 121, 3) := by decide +kernel
theorem rfm_49 : (49, 206) ∈ mf_L := by decide +kernel
theorem d_MD_pitchOf_55 : decode prog_14_method_30_code 55 = .ok (.iload_n 2, 1) := by decide +kernel
theorem d_MD_pitchOf_56 : decode prog_14_method_30_code 56 = .ok (.aload_n 0, 1) := by decide +kernel
theorem d_MD_pitchOf_57 : decode prog_14_method_30_code 57 = .ok (.getfield 287, 3) := by decide +kernel
theorem d_MD_pitchOf_60 : decode prog_14_method_30_code 60 = .ok (.iastore, 1) := by decide +kernel
theorem sf_206 : sh_L[206]? = some (0, 8400) := by decide +kernel
theorem mr_206 (k : Nat) : mr 206 k = (0, 62) := rfl
theorem d_MD_pitchOf_61 : decode prog_14_method_30_code 61 = .ok (.aload_n 0, 1) := by decide +kernel
theorem d_MD_pitchOf_62 : decode prog_14_method_30_code 62 = .ok (.getfield 124, 3) := by decide +kernel
theorem rfm_50 : (50, 207) ∈ mf_L := by decide +kernel
theorem d_MD_pitchOf_65 : decode prog_14_method_30_code 65 = .ok (.iload_n 1, 1) := by decide +kernel
theorem d_MD_pitchOf_66 : decode prog_14_method_30_code 66 = .ok (.dup2, 1) := by decide +kernel
theorem d_MD_pitchOf_67 : decode prog_14_method_30_code 67 = .ok (.iaload, 1) := by decide +kernel
theorem sf_207 : sh_L[207]? = some (0, 2100) := by decide +kernel
theorem mr_207 (k : Nat) : mr 207 k = ((-2147483648), 2147483647) := rfl
theorem d_MD_pitchOf_68 : decode prog_14_method_30_code 68 = .ok (.aload_n 0, 1) := by decide +kernel
theorem d_MD_pitchOf_69 : decode prog_14_method_30_code 69 = .ok (.getfield 278, 3) := by decide +kernel
theorem d_MD_pitchOf_72 : decode prog_14_method_30_code 72 = .ok (.iadd, 1) := by decide +kernel
theorem d_MD_pitchOf_73 : decode prog_14_method_30_code 73 = .ok (.iastore, 1) := by decide +kernel
theorem d_MD_pitchOf_74 : decode prog_14_method_30_code 74 = .ok (.aload_n 0, 1) := by decide +kernel
theorem d_MD_pitchOf_75 : decode prog_14_method_30_code 75 = .ok (.getfield 115, 3) := by decide +kernel
theorem d_MD_pitchOf_78 : decode prog_14_method_30_code 78 = .ok (.iload_n 1, 1) := by decide +kernel
theorem d_MD_pitchOf_79 : decode prog_14_method_30_code 79 = .ok (.dup2, 1) := by decide +kernel
theorem d_MD_pitchOf_80 : decode prog_14_method_30_code 80 = .ok (.iaload, 1) := by decide +kernel
theorem d_MD_pitchOf_81 : decode prog_14_method_30_code 81 = .ok (.iconst 1, 1) := by decide +kernel
theorem d_MD_pitchOf_82 : decode prog_14_method_30_code 82 = .ok (.iadd, 1) := by decide +kernel
theorem d_MD_pitchOf_83 : decode prog_14_method_30_code 83 = .ok (.iastore, 1) := by decide +kernel
theorem d_MD_pitchOf_84 : decode prog_14_method_30_code 84 = .ok (.aload_n 0, 1) := by decide +kernel
theorem d_MD_pitchOf_85 : decode prog_14_method_30_code 85 = .ok (.invokevirtual 309, 3) := by decide +kernel
theorem d_MD_pitchOf_88 : decode prog_14_method_30_code 88 = .ok (.ireturn, 1) := by decide +kernel
theorem d_MD_pitchOf_10 : decode prog_14_method_30_code 10 = .ok (.aload_n 0, 1) := by decide +kernel
theorem d_MD_pitchOf_11 : decode prog_14_method_30_code 11 = .ok (.iconst 3, 1) := by decide +kernel
theorem d_MD_pitchOf_12 : decode prog_14_method_30_code 12 = .ok (.aload_n 0, 1) := by decide +kernel
theorem d_MD_pitchOf_13 : decode prog_14_method_30_code 13 = .ok (.getfield 242, 3) := by decide +kernel
theorem d_MD_pitchOf_16 : decode prog_14_method_30_code 16 = .ok (.invokevirtual 245, 3) := by decide +kernel
theorem d_MD_pitchOf_19 : decode prog_14_method_30_code 19 = .ok (.ireturn, 1) := by decide +kernel
def m_MD_timesPart : mr_T := (⟨"PlainMusicModel", "timesPart", "()Z"⟩, prog_14_method_28_code, 2, some .boolean)
theorem mr_170_63 : mr 170 63 = (0, 7) := by decide +kernel
theorem d_MD_timesPart_0 : decode prog_14_method_28_code 0 = .ok (.aload_n 0, 1) := by decide +kernel
theorem d_MD_timesPart_1 : decode prog_14_method_28_code 1 = .ok (.getfield 354, 3) := by decide +kernel
theorem d_MD_timesPart_4 : decode prog_14_method_28_code 4 = .ok (.istore_n 1, 1) := by decide +kernel
theorem d_MD_timesPart_5 : decode prog_14_method_28_code 5 = .ok (.aload_n 0, 1) := by decide +kernel
theorem d_MD_timesPart_6 : decode prog_14_method_28_code 6 = .ok (.getfield 148, 3) := by decide +kernel
theorem rfm_58 : (58, 215) ∈ mf_L := by decide +kernel
theorem d_MD_timesPart_9 : decode prog_14_method_28_code 9 = .ok (.aload_n 0, 1) := by decide +kernel
theorem d_MD_timesPart_10 : decode prog_14_method_28_code 10 = .ok (.getfield 357, 3) := by decide +kernel
theorem f_MD_357 : fl_OK "PlainMusicModel" 357 12 63 .int false := ⟨_, rfl, by decide, gwi_1545, rfl, rfl⟩
theorem d_MD_timesPart_13 : decode prog_14_method_28_code 13 = .ok (.aload_n 0, 1) := by decide +kernel
theorem d_MD_timesPart_14 : decode prog_14_method_28_code 14 = .ok (.getfield 354, 3) := by decide +kernel
theorem d_MD_timesPart_17 : decode prog_14_method_28_code 17 = .ok (.iastore, 1) := by decide +kernel
theorem sf_215 : sh_L[215]? = some (0, 8) := by decide +kernel
theorem mr_215 (k : Nat) : mr 215 k = (0, 2000) := rfl
theorem d_MD_timesPart_18 : decode prog_14_method_28_code 18 = .ok (.aload_n 0, 1) := by decide +kernel
theorem d_MD_timesPart_19 : decode prog_14_method_28_code 19 = .ok (.iconst 5, 1) := by decide +kernel
theorem d_MD_timesPart_20 : decode prog_14_method_28_code 20 = .ok (.invokevirtual 369, 3) := by decide +kernel
theorem k_MD_put : mt_OK m_MD_put 1 1 := ⟨gwi_1913, gwi_146, ⟨by decide +kernel, by decide +kernel, by decide +kernel⟩, fun h => absurd h (by decide), fun _ => ⟨gwi_1912, gwi_78⟩, fun h => absurd h (by decide)⟩
theorem l_MD_369 : ml_OK "PlainMusicModel" 369 ⟨"PlainMusicModel", "put", "(I)V"⟩ := Or.inl gwi_1910
theorem d_MD_timesPart_23 : decode prog_14_method_28_code 23 = .ok (.aload_n 0, 1) := by decide +kernel
theorem d_MD_timesPart_24 : decode prog_14_method_28_code 24 = .ok (.getfield 151, 3) := by decide +kernel
theorem rfm_62 : (62, 216) ∈ mf_L := by decide +kernel
theorem d_MD_timesPart_27 : decode prog_14_method_28_code 27 = .ok (.aload_n 0, 1) := by decide +kernel
theorem d_MD_timesPart_28 : decode prog_14_method_28_code 28 = .ok (.getfield 357, 3) := by decide +kernel
theorem d_MD_timesPart_31 : decode prog_14_method_28_code 31 = .ok (.iconst 5, 1) := by decide +kernel
theorem d_MD_timesPart_32 : decode prog_14_method_28_code 32 = .ok (.iastore, 1) := by decide +kernel
theorem sf_216 : sh_L[216]? = some (0, 8) := by decide +kernel
theorem mr_216 (k : Nat) : mr 216 k = (0, 6) := rfl
theorem d_MD_timesPart_33 : decode prog_14_method_28_code 33 = .ok (.aload_n 0, 1) := by decide +kernel
theorem d_MD_timesPart_34 : decode prog_14_method_28_code 34 = .ok (.dup, 1) := by decide +kernel
theorem d_MD_timesPart_35 : decode prog_14_method_28_code 35 = .ok (.getfield 357, 3) := by decide +kernel
theorem d_MD_timesPart_38 : decode prog_14_method_28_code 38 = .ok (.iconst 1, 1) := by decide +kernel
theorem d_MD_timesPart_39 : decode prog_14_method_28_code 39 = .ok (.iadd, 1) := by decide +kernel
theorem d_MD_timesPart_40 : decode prog_14_method_28_code 40 = .ok (.putfield 357, 3) := by decide +kernel
theorem d_MD_timesPart_43 : decode prog_14_method_28_code 43 = .ok (.aload_n 0, 1) := by decide +kernel
theorem d_MD_timesPart_44 : decode prog_14_method_28_code 44 = .ok (.invokevirtual 309, 3) := by decide +kernel
theorem d_MD_timesPart_47 : decode prog_14_method_28_code 47 = .ok (.pop, 1) := by decide +kernel
theorem d_MD_timesPart_48 : decode prog_14_method_28_code 48 = .ok (.aload_n 0, 1) := by decide +kernel
theorem d_MD_timesPart_49 : decode prog_14_method_28_code 49 = .ok (.getfield 239, 3) := by decide +kernel
theorem d_MD_timesPart_52 : decode prog_14_method_28_code 52 = .ok (.iconst 3, 1) := by decide +kernel
theorem d_MD_timesPart_53 : decode prog_14_method_28_code 53 = .ok (.if_icmp .eq 8, 3) := by decide +kernel
theorem d_MD_timesPart_61 : decode prog_14_method_28_code 61 = .ok (.aload_n 0, 1) := by decide +kernel
theorem d_MD_timesPart_62 : decode prog_14_method_28_code 62 = .ok (.getfield 271, 3) := by decide +kernel
theorem d_MD_timesPart_65 : decode prog_14_method_28_code 65 = .ok (.iconst 1, 1) := by decide +kernel
theorem d_MD_timesPart_66 : decode prog_14_method_28_code 66 = .ok (.if_icmp .lt 12, 3) := by decide +kernel
theorem d_MD_timesPart_78 : decode prog_14_method_28_code 78 = .ok (.aload_n 0, 1) := by decide +kernel
theorem d_MD_timesPart_79 : decode prog_14_method_28_code 79 = .ok (.iconst 5, 1) := by decide +kernel
theorem d_MD_timesPart_80 : decode prog_14_method_28_code 80 = .ok (.aload_n 0, 1) := by decide +kernel
theorem d_MD_timesPart_81 : decode prog_14_method_28_code 81 = .ok (.getfield 242, 3) := by decide +kernel
theorem d_MD_timesPart_84 : decode prog_14_method_28_code 84 = .ok (.invokevirtual 245, 3) := by decide +kernel
theorem d_MD_timesPart_87 : decode prog_14_method_28_code 87 = .ok (.ireturn, 1) := by decide +kernel
theorem d_MD_timesPart_69 : decode prog_14_method_28_code 69 = .ok (.aload_n 0, 1) := by decide +kernel
theorem d_MD_timesPart_70 : decode prog_14_method_28_code 70 = .ok (.getfield 271, 3) := by decide +kernel
theorem d_MD_timesPart_73 : decode prog_14_method_28_code 73 = .ok (.bipush 16, 2) := by decide +kernel
theorem d_MD_timesPart_75 : decode prog_14_method_28_code 75 = .ok (.if_icmp .le 13, 3) := by decide +kernel
theorem d_MD_timesPart_88 : decode prog_14_method_28_code 88 = .ok (.aload_n 0, 1) := by decide +kernel
theorem d_MD_timesPart_89 : decode prog_14_method_28_code 89 = .ok (.getfield 109, 3) := by decide +kernel
theorem rfm_45 : (45, 202) ∈ mf_L := by decide +kernel
theorem d_MD_timesPart_92 : decode prog_14_method_28_code 92 = .ok (.iload_n 1, 1) := by decide +kernel
theorem d_MD_timesPart_93 : decode prog_14_method_28_code 93 = .ok (.aload_n 0, 1) := by decide +kernel
theorem d_MD_timesPart_94 : decode prog_14_method_28_code 94 = .ok (.getfield 271, 3) := by decide +kernel
theorem d_MD_timesPart_97 : decode prog_14_method_28_code 97 = .ok (.iastore, 1) := by decide +kernel
theorem sf_202 : sh_L[202]? = some (0, 2100) := by decide +kernel
theorem mr_202 (k : Nat) : mr 202 k = (0, 64) := rfl
theorem d_MD_timesPart_98 : decode prog_14_method_28_code 98 = .ok (.aload_n 0, 1) := by decide +kernel
theorem d_MD_timesPart_99 : decode prog_14_method_28_code 99 = .ok (.invokevirtual 309, 3) := by decide +kernel
theorem d_MD_timesPart_102 : decode prog_14_method_28_code 102 = .ok (.pop, 1) := by decide +kernel
theorem d_MD_timesPart_103 : decode prog_14_method_28_code 103 = .ok (.aload_n 0, 1) := by decide +kernel
theorem d_MD_timesPart_104 : decode prog_14_method_28_code 104 = .ok (.bipush 47, 2) := by decide +kernel
theorem d_MD_timesPart_106 : decode prog_14_method_28_code 106 = .ok (.invokevirtual 344, 3) := by decide +kernel
theorem d_MD_timesPart_109 : decode prog_14_method_28_code 109 = .ok (.ifCond .ne 5, 3) := by decide +kernel
theorem d_MD_timesPart_114 : decode prog_14_method_28_code 114 = .ok (.aload_n 0, 1) := by decide +kernel
theorem d_MD_timesPart_115 : decode prog_14_method_28_code 115 = .ok (.getfield 239, 3) := by decide +kernel
theorem d_MD_timesPart_118 : decode prog_14_method_28_code 118 = .ok (.iconst 3, 1) := by decide +kernel
theorem d_MD_timesPart_119 : decode prog_14_method_28_code 119 = .ok (.if_icmp .eq 8, 3) := by decide +kernel
theorem d_MD_timesPart_127 : decode prog_14_method_28_code 127 = .ok (.aload_n 0, 1) := by decide +kernel
theorem d_MD_timesPart_128 : decode prog_14_method_28_code 128 = .ok (.getfield 271, 3) := by decide +kernel
theorem d_MD_timesPart_131 : decode prog_14_method_28_code 131 = .ok (.iconst 1, 1) := by decide +kernel
theorem d_MD_timesPart_132 : decode prog_14_method_28_code 132 = .ok (.if_icmp .lt 12, 3) := by decide +kernel
theorem d_MD_timesPart_144 : decode prog_14_method_28_code 144 = .ok (.aload_n 0, 1) := by decide +kernel
theorem d_MD_timesPart_145 : decode prog_14_method_28_code 145 = .ok (.iconst 5, 1) := by decide +kernel
theorem d_MD_timesPart_146 : decode prog_14_method_28_code 146 = .ok (.aload_n 0, 1) := by decide +kernel
theorem d_MD_timesPart_147 : decode prog_14_method_28_code 147 = .ok (.getfield 242, 3) := by decide +kernel
theorem d_MD_timesPart_150 : decode prog_14_method_28_code 150 = .ok (.invokevirtual 245, 3) := by decide +kernel
theorem d_MD_timesPart_153 : decode prog_14_method_28_code 153 = .ok (.ireturn, 1) := by decide +kernel
theorem d_MD_timesPart_135 : decode prog_14_method_28_code 135 = .ok (.aload_n 0, 1) := by decide +kernel
theorem d_MD_timesPart_136 : decode prog_14_method_28_code 136 = .ok (.getfield 271, 3) := by decide +kernel
theorem d_MD_timesPart_139 : decode prog_14_method_28_code 139 = .ok (.bipush 16, 2) := by decide +kernel
theorem d_MD_timesPart_141 : decode prog_14_method_28_code 141 = .ok (.if_icmp .le 13, 3) := by decide +kernel
theorem d_MD_timesPart_154 : decode prog_14_method_28_code 154 = .ok (.aload_n 0, 1) := by decide +kernel
theorem d_MD_timesPart_155 : decode prog_14_method_28_code 155 = .ok (.getfield 112, 3) := by decide +kernel
theorem rfm_46 : (46, 203) ∈ mf_L := by decide +kernel
theorem d_MD_timesPart_158 : decode prog_14_method_28_code 158 = .ok (.iload_n 1, 1) := by decide +kernel
theorem d_MD_timesPart_159 : decode prog_14_method_28_code 159 = .ok (.aload_n 0, 1) := by decide +kernel
theorem d_MD_timesPart_160 : decode prog_14_method_28_code 160 = .ok (.getfield 271, 3) := by decide +kernel
theorem d_MD_timesPart_163 : decode prog_14_method_28_code 163 = .ok (.iastore, 1) := by decide +kernel
theorem sf_203 : sh_L[203]? = some (0, 2100) := by decide +kernel
theorem mr_203 (k : Nat) : mr 203 k = (0, 16) := rfl
theorem d_MD_timesPart_164 : decode prog_14_method_28_code 164 = .ok (.aload_n 0, 1) := by decide +kernel
theorem d_MD_timesPart_165 : decode prog_14_method_28_code 165 = .ok (.invokevirtual 309, 3) := by decide +kernel
theorem d_MD_timesPart_168 : decode prog_14_method_28_code 168 = .ok (.pop, 1) := by decide +kernel
theorem d_MD_timesPart_169 : decode prog_14_method_28_code 169 = .ok (.aload_n 0, 1) := by decide +kernel
theorem d_MD_timesPart_170 : decode prog_14_method_28_code 170 = .ok (.bipush 58, 2) := by decide +kernel
theorem d_MD_timesPart_172 : decode prog_14_method_28_code 172 = .ok (.invokevirtual 344, 3) := by decide +kernel
theorem d_MD_timesPart_175 : decode prog_14_method_28_code 175 = .ok (.ireturn, 1) := by decide +kernel
theorem d_MD_timesPart_122 : decode prog_14_method_28_code 122 = .ok (.aload_n 0, 1) := by decide +kernel
theorem d_MD_timesPart_123 : decode prog_14_method_28_code 123 = .ok (.invokevirtual 313, 3) := by decide +kernel
theorem d_MD_timesPart_126 : decode prog_14_method_28_code 126 = .ok (.ireturn, 1) := by decide +kernel
theorem d_MD_timesPart_112 : decode prog_14_method_28_code 112 = .ok (.iconst 0, 1) := by decide +kernel
theorem d_MD_timesPart_113 : decode prog_14_method_28_code 113 = .ok (.ireturn, 1) := by decide +kernel
theorem d_MD_timesPart_56 : decode prog_14_method_28_code 56 = .ok (.aload_n 0, 1) := by decide +kernel
theorem d_MD_timesPart_57 : decode prog_14_method_28_code 57 = .ok (.invokevirtual 313, 3) := by decide +kernel
theorem d_MD_timesPart_60 : decode prog_14_method_28_code 60 = .ok (.ireturn, 1) := by decide +kernel
theorem s_MD_put {G : cx_T} {h : ah_T} (hx : mi h) {a1 : Int} {X : Int} (la1 : 0 ≤ a1) (ua1 : a1 ≤ 6) (hX : h.2.1 170 43 = X) (hX2 : X ≤ 2000) : con G 0 0 0 m_MD_put [av_R (some 170), av_I a1] h (fun r h' => r = none ∧ (h'.2.1 170 43 = X + 1 ∧ (∀ k : Nat, k ≠ X.toNat → h'.2.1 201 k = h.2.1 201 k) ∧ h'.2.1 201 X.toNat = a1) ∧ kM (pm [43] [201]) h h') := by
  refine con_of (L := [some (av_R (some 170)), some (av_I a1)]) (by decide +kernel) (Nat.le_of_ble_eq_true rfl) rfl ?_
  have k0 : kM (pm [43] [201]) h h := kM_0 hx
  obtain ⟨sd1, esd1⟩ : ∃ x, x = h.2.1 170 43 := ⟨_, rfl⟩
  have rsd1 : 0 ≤ sd1 ∧ sd1 ≤ 2001 := (by rw [esd1]; exact mi_g k0.1 (by decide) mr_170_43)
  refine A_aload_n 0 d_MD_put_0 rfl rfl ?_
  refine A_getAv (z := some 201) T_ok d_MD_put_1 f_MD_106 (mi_s k0.1 sf_170) (mi_r k0.1 rfm_44) ?_
  refine A_aload_n 0 d_MD_put_4 rfl rfl ?_
  refine A_getIv (z := sd1) T_ok d_MD_put_5 f_MD_354 (mi_s k0.1 sf_170) esd1.symm ?_
  refine A_iload_n 1 d_MD_put_8 rfl rfl ?_
  refine A_pc (pc' := 9) rfl ?_
  refine A_iastorek (KR := kM (pm [43] [201]) h) d_MD_put_9 (mi_s k0.1 sf_201) (by omega) (by omega) (kM_i k0 (by decide) rfl (mr_201 _) (by omega) (by omega)) (fun h4 k5 eh4 => ?_)
  refine A_aload_n 0 d_MD_put_10 rfl rfl ?_
  refine A_dupR d_MD_put_11 ?_
  refine A_getIv (z := sd1) T_ok d_MD_put_12 f_MD_354 (mi_s k5.1 sf_170) ((eh4.1 _ _ (fun q => absurd q (by decide))).trans esd1.symm) ?_
  refine A_iconst d_MD_put_15 rfl ?_
  refine A_iaddv (z := (sd1 + 1)) d_MD_put_16 (w32_to (by omega) (by unfold i32; omega)) ?_
  refine A_pc (pc' := 17) rfl ?_
  refine A_putIk (KR := kM (pm [43] [201]) h) T_ok d_MD_put_17 f_MD_354 (mi_s k5.1 sf_170) fin_f (kM_i k5 (by decide) (by decide) mr_170_43 (by omega) (by omega)) (fun h7 k8 eh7 => ?_)
  exact A_vret d_MD_put_20 (by decide) rfl ⟨rfl, (by have e0 : sd1 = X := (by omega); subst e0; exact ⟨by have qq0 := eh7.2.1; omega, (fun k hk => ((eh7.1 201 k (fun q => absurd q (by decide))).trans (eh4.1 201 k (fun _ => hk)))), ((eh7.1 _ _ (fun q => absurd q (by decide))).trans eh4.2.1)⟩), k8⟩
theorem s_MD_pitchOf {G : cx_T} {h : ah_T} (hx : mi h) {a1 : Int} (la1 : 0 ≤ a1) (ua1 : a1 ≤ 2000) (hse : h.2.1 170 3 ≤ h.2.1 170 2) (hpp : h.2.1 204 a1.toNat ≤ 3) : con G 3 0 0 m_MD_pitchOf [av_R (some 170), av_I a1] h (fun r h' => ∃ z, r = some (av_I z) ∧ (z = 0 ∨ z = 1) ∧ (z = 1 → (h.2.1 170 3 ≤ h'.2.1 170 3 ∧ h'.2.1 170 3 ≤ h.2.1 170 2 ∧ (h'.2.1 170 4 ≠ 0 → h'.2.1 170 4 ≠ 6 → h.2.1 170 3 < h'.2.1 170 3) ∧ (h'.2.1 170 4 = 0 → h'.2.1 170 3 = h.2.1 170 2)) ∧ h'.2.1 204 a1.toNat ≤ h.2.1 204 a1.toNat + 1) ∧ kM (pm [3, 4, 5, 6, 7, 8, 9, 10, 11, 12, 64] [204, 205, 206, 207]) h h') := by
  refine con_of (L := [some (av_R (some 170)), some (av_I a1), none]) (by decide +kernel) (Nat.le_of_ble_eq_true rfl) rfl ?_
  have k0 : kM (pm [3, 4, 5, 6, 7, 8, 9, 10, 11, 12, 64] [204, 205, 206, 207]) h h := kM_0 hx
  obtain ⟨sd1, esd1⟩ : ∃ x, x = h.2.1 170 3 := ⟨_, rfl⟩
  have rsd1 : 0 ≤ sd1 ∧ sd1 ≤ 2000 := (by rw [esd1]; exact mi_g k0.1 (by decide) mr_170_3)
  obtain ⟨sd2, esd2⟩ : ∃ x, x = h.2.1 170 2 := ⟨_, rfl⟩
  have rsd2 : 0 ≤ sd2 ∧ sd2 ≤ 2000 := (by rw [esd2]; exact mi_g k0.1 (by decide) mr_170_2)
  refine A_aload_n 0 d_MD_pitchOf_0 rfl rfl ?_
  refine A_getIn (lo := 0) (hi := 300) T_ok d_MD_pitchOf_1 f_MD_360 (mi_s k0.1 sf_170) (mi_g k0.1 (by decide) mr_170_64) (fun x3 ex3 _ _ => ?_)
  refine A_sipush d_MD_pitchOf_4 rfl ?_
  refine A_icmp_ne (tgt := 20) d_MD_pitchOf_7 (by decide) (fun c4 => ?_) (fun c4 => ?_)
  · refine A_aload_n 0 d_MD_pitchOf_20 rfl rfl ?_
    refine A_dupR d_MD_pitchOf_21 ?_
    refine A_getIv (z := x3) T_ok d_MD_pitchOf_22 f_MD_360 (mi_s k0.1 sf_170) ex3.symm ?_
    refine A_iconst d_MD_pitchOf_25 rfl ?_
    refine A_iaddv (z := (x3 + 1)) d_MD_pitchOf_26 (w32_to (by omega) (by unfold i32; omega)) ?_
    refine A_pc (pc' := 27) rfl ?_
    refine A_putIk (KR := kM (pm [3, 4, 5, 6, 7, 8, 9, 10, 11, 12, 64] [204, 205, 206, 207]) h) T_ok d_MD_pitchOf_27 f_MD_360 (mi_s k0.1 sf_170) fin_f (kM_i k0 (by decide) (by decide) mr_170_64 (by omega) (by omega)) (fun h6 k7 eh6 => ?_)
    refine A_iconst d_MD_pitchOf_30 rfl ?_
    refine A_iload_n 1 d_MD_pitchOf_31 rfl rfl ?_
    refine A_imulv (z := (4 * a1)) d_MD_pitchOf_32 (w32_to (by omega) (by unfold i32; omega)) ?_
    refine A_aload_n 0 d_MD_pitchOf_33 rfl rfl ?_
    refine A_getAv (z := some 204) T_ok d_MD_pitchOf_34 f_MD_115 (mi_s k7.1 sf_170) (mi_r k7.1 rfm_47) ?_
    refine A_pc (pc' := 37) rfl ?_
    refine A_iload_n 1 d_MD_pitchOf_37 rfl rfl ?_
    refine A_ialoadn (lo := 0) (hi := 4) d_MD_pitchOf_38 (mi_s k7.1 sf_204) (by omega) (by omega) (mi_g k7.1 (by decide) (mr_204 _)) (fun x9 ex9 _ _ => ?_)
    have wx9 := ex9.trans ((eh6.1 204 a1.toNat (fun q => absurd q (by decide))))
    have yx9 : x9 ≤ 3 := (by omega)
    refine A_iaddv (z := (4 * a1 + x9)) d_MD_pitchOf_39 (w32_to (by omega) (by unfold i32; omega)) ?_
    refine A_istore_n 2 (L' := [some (av_R (some 170)), some (av_I a1), some (av_I (4 * a1 + x9))]) d_MD_pitchOf_40 rfl (Nat.le_of_ble_eq_true rfl) rfl ?_
    refine A_aload_n 0 d_MD_pitchOf_41 rfl rfl ?_
    refine A_getAv (z := some 205) T_ok d_MD_pitchOf_42 f_MD_118 (mi_s k7.1 sf_170) (mi_r k7.1 rfm_48) ?_
    refine A_pc (pc' := 45) rfl ?_
    refine A_iload_n 2 d_MD_pitchOf_45 rfl rfl ?_
    refine A_aload_n 0 d_MD_pitchOf_46 rfl rfl ?_
    refine A_getIn (lo := (-2)) (hi := 109) T_ok d_MD_pitchOf_47 f_MD_284 (mi_s k7.1 sf_170) (mi_g k7.1 (by decide) mr_170_8) (fun x11 ex11 _ _ => ?_)
    refine A_iastorek (KR := kM (pm [3, 4, 5, 6, 7, 8, 9, 10, 11, 12, 64] [204, 205, 206, 207]) h) d_MD_pitchOf_50 (mi_s k7.1 sf_205) (by omega) (by omega) (kM_i k7 (by decide) rfl (mr_205 _) (by omega) (by omega)) (fun h12 k13 eh12 => ?_)
    refine A_aload_n 0 d_MD_pitchOf_51 rfl rfl ?_
    refine A_getAv (z := some 206) T_ok d_MD_pitchOf_52 f_MD_121 (mi_s k13.1 sf_170) (mi_r k13.1 rfm_49) ?_
    refine A_pc (pc' := 55) rfl ?_
    refine A_iload_n 2 d_MD_pitchOf_55 rfl rfl ?_
    refine A_aload_n 0 d_MD_pitchOf_56 rfl rfl ?_
    refine A_getIn (lo := 0) (hi := 62) T_ok d_MD_pitchOf_57 f_MD_287 (mi_s k13.1 sf_170) (mi_g k13.1 (by decide) mr_170_9) (fun x15 ex15 _ _ => ?_)
    refine A_iastorek (KR := kM (pm [3, 4, 5, 6, 7, 8, 9, 10, 11, 12, 64] [204, 205, 206, 207]) h) d_MD_pitchOf_60 (mi_s k13.1 sf_206) (by omega) (by omega) (kM_i k13 (by decide) rfl (mr_206 _) (by omega) (by omega)) (fun h16 k17 eh16 => ?_)
    refine A_aload_n 0 d_MD_pitchOf_61 rfl rfl ?_
    refine A_getAv (z := some 207) T_ok d_MD_pitchOf_62 f_MD_124 (mi_s k17.1 sf_170) (mi_r k17.1 rfm_50) ?_
    refine A_pc (pc' := 65) rfl ?_
    refine A_iload_n 1 d_MD_pitchOf_65 rfl rfl ?_
    refine A_dup2RI d_MD_pitchOf_66 ?_
    refine A_ialoadf d_MD_pitchOf_67 (mi_s k17.1 sf_207) (by omega) (by omega) (fun x19 ex19 _ _ => ?_)
    refine A_aload_n 0 d_MD_pitchOf_68 rfl rfl ?_
    refine A_getIn (lo := 0) (hi := 2) T_ok d_MD_pitchOf_69 f_MD_278 (mi_s k17.1 sf_170) (mi_g k17.1 (by decide) mr_170_10) (fun x20 ex20 _ _ => ?_)
    refine A_iaddw d_MD_pitchOf_72 (fun x21 _ _ _ => ?_)
    refine A_pc (pc' := 73) rfl ?_
    refine A_iastorek (KR := kM (pm [3, 4, 5, 6, 7, 8, 9, 10, 11, 12, 64] [204, 205, 206, 207]) h) d_MD_pitchOf_73 (mi_s k17.1 sf_207) (by omega) (by omega) (kM_i k17 (by decide) rfl (mr_207 _) (by omega) (by omega)) (fun h22 k23 eh22 => ?_)
    refine A_aload_n 0 d_MD_pitchOf_74 rfl rfl ?_
    refine A_getAv (z := some 204) T_ok d_MD_pitchOf_75 f_MD_115 (mi_s k23.1 sf_170) (mi_r k23.1 rfm_47) ?_
    refine A_iload_n 1 d_MD_pitchOf_78 rfl rfl ?_
    refine A_dup2RI d_MD_pitchOf_79 ?_
    refine A_ialoadv (z := x9) d_MD_pitchOf_80 (mi_s k23.1 sf_204) (by omega) (by omega) ((eh22.1 _ _ (fun q => absurd q (by decide))).trans ((eh16.1 _ _ (fun q => absurd q (by decide))).trans ((eh12.1 _ _ (fun q => absurd q (by decide))).trans ex9.symm))) ?_
    refine A_pc (pc' := 81) rfl ?_
    refine A_iconst d_MD_pitchOf_81 rfl ?_
    refine A_iaddv (z := (x9 + 1)) d_MD_pitchOf_82 (w32_to (by omega) (by unfold i32; omega)) ?_
    refine A_iastorek (KR := kM (pm [3, 4, 5, 6, 7, 8, 9, 10, 11, 12, 64] [204, 205, 206, 207]) h) d_MD_pitchOf_83 (mi_s k23.1 sf_204) (by omega) (by omega) (kM_i k23 (by decide) rfl (mr_204 _) (by omega) (by omega)) (fun h26 k27 eh26 => ?_)
    refine A_aload_n 0 d_MD_pitchOf_84 rfl rfl ?_
    have zf29 := ((eh26.1 _ _ (fun q => absurd q (by decide))).trans ((eh22.1 _ _ (fun q => absurd q (by decide))).trans ((eh16.1 _ _ (fun q => absurd q (by decide))).trans ((eh12.1 _ _ (fun q => absurd q (by decide))).trans ((eh6.1 _ _ (fun _ => by decide)).trans esd1.symm)))))
    have zf30 := ((eh26.1 _ _ (fun q => absurd q (by decide))).trans ((eh22.1 _ _ (fun q => absurd q (by decide))).trans ((eh16.1 _ _ (fun q => absurd q (by decide))).trans ((eh12.1 _ _ (fun q => absurd q (by decide))).trans ((eh6.1 _ _ (fun _ => by decide)).trans esd2.symm)))))
    refine A_callV0 m_MD_next T_ok d_MD_pitchOf_85 l_MD_309 k_MD_next (mi_s k27.1 sf_170) rfl (by decide +kernel) (by decide) (Nat.le_of_ble_eq_true rfl) (s_MD_next k27.1 (by have qq0 := ((eh26.1 _ _ (fun q => absurd q (by decide))).trans ((eh22.1 _ _ (fun q => absurd q (by decide))).trans ((eh16.1 _ _ (fun q => absurd q (by decide))).trans ((eh12.1 _ _ (fun q => absurd q (by decide))).trans ((eh6.1 _ _ (fun _ => by decide)).trans esd1.symm))))); have qq1 := ((eh26.1 _ _ (fun q => absurd q (by decide))).trans ((eh22.1 _ _ (fun q => absurd q (by decide))).trans ((eh16.1 _ _ (fun q => absurd q (by decide))).trans ((eh12.1 _ _ (fun q => absurd q (by decide))).trans ((eh6.1 _ _ (fun _ => by decide)).trans esd2.symm))))); omega)) (fun r h28 hq => ?_)
    obtain ⟨x32, rfl, ⟨_, _⟩, xx32, k31⟩ := hq
    have xa32 := xx32.1
    have xb32 := xx32.2.1
    have k33 := kM_t k27 k31 (pm_s (by decide) (by decide))
    obtain ⟨sd34, esd34⟩ : ∃ x, x = h28.2.1 170 3 := ⟨_, rfl⟩
    have rsd34 : 0 ≤ sd34 ∧ sd34 ≤ 2000 := (by rw [esd34]; exact mi_g k33.1 (by decide) mr_170_3)
    exact A_zret d_MD_pitchOf_88 (by decide) rfl (by omega) ⟨_, rfl, by omega, (fun _ => ⟨by have qq0 := esd34.symm; have qq1 := ((k31.2.2.1 _ _ rfl).trans ((eh26.1 _ _ (fun q => absurd q (by decide))).trans ((eh22.1 _ _ (fun q => absurd q (by decide))).trans ((eh16.1 _ _ (fun q => absurd q (by decide))).trans ((eh12.1 _ _ (fun q => absurd q (by decide))).trans ((eh6.1 _ _ (fun _ => by decide)).trans esd2.symm)))))); exact ⟨by omega, by omega, by omega, by omega⟩, by have q1 := ((k31.2.2.1 _ _ rfl).trans eh26.2.1); omega⟩), k33⟩
  · refine A_aload_n 0 d_MD_pitchOf_10 rfl rfl ?_
    refine A_iconst d_MD_pitchOf_11 rfl ?_
    refine A_aload_n 0 d_MD_pitchOf_12 rfl rfl ?_
    refine A_getIn (lo := 0) (hi := 2000) T_ok d_MD_pitchOf_13 f_MD_242 (mi_s k0.1 sf_170) (mi_g k0.1 (by decide) mr_170_5) (fun x35 ex35 _ _ => ?_)
    have zf37 := esd1.symm
    have zf38 := esd2.symm
    refine A_callV2 m_MD_wrong T_ok d_MD_pitchOf_16 l_MD_245 k_MD_wrong (mi_s k0.1 sf_170) rfl (by decide +kernel) (by decide) (Nat.le_of_ble_eq_true rfl) (s_MD_wrong k0.1 (by omega) (by omega) (by omega) (by omega)) (fun r h36 hq => ?_)
    obtain ⟨x40, rfl, ⟨_, _⟩, k39⟩ := hq
    have k41 := kM_t k0 k39 (pm_s (by decide) (by decide))
    obtain rfl : x40 = 0 := by omega
    exact A_zret d_MD_pitchOf_19 (by decide) rfl (by omega) ⟨_, rfl, by omega, (fun q => absurd q (by decide)), k41⟩
theorem s_MD_timesPart {G : cx_T} {h : ah_T} (hx : mi h)  (hse : h.2.1 170 3 ≤ h.2.1 170 2) (hps : h.2.1 170 43 ≤ h.2.1 170 3 ∧ (h.2.1 170 4 ≠ 0 → h.2.1 170 4 ≠ 6 → h.2.1 170 43 + 1 ≤ h.2.1 170 3)) (hgd : h.2.1 170 4 ≠ 0 ∧ h.2.1 170 4 ≠ 6) (hVH : VHx h) (hm6 : h.2.1 170 63 ≤ 6) : con G 4 0 0 m_MD_timesPart [av_R (some 170)] h (fun r h' => ∃ z, r = some (av_I z) ∧ (z = 0 ∨ z = 1) ∧ (z = 1 → (h.2.1 170 3 ≤ h'.2.1 170 3 ∧ h'.2.1 170 3 ≤ h.2.1 170 2 ∧ (h'.2.1 170 4 ≠ 0 → h'.2.1 170 4 ≠ 6 → h.2.1 170 3 < h'.2.1 170 3) ∧ (h'.2.1 170 4 = 0 → h'.2.1 170 3 = h.2.1 170 2)) ∧ (h'.2.1 170 43 ≤ h'.2.1 170 3 ∧ (h'.2.1 170 4 ≠ 0 → h'.2.1 170 4 ≠ 6 → h'.2.1 170 43 + 1 ≤ h'.2.1 170 3)) ∧ VHx h') ∧ kM (pm [3, 4, 5, 6, 7, 8, 9, 10, 11, 12, 43, 63] [201, 202, 203, 215, 216]) h h') := by
  refine con_of (L := [some (av_R (some 170)), none]) (by decide +kernel) (Nat.le_of_ble_eq_true rfl) rfl ?_
  have hpA := hps.1
  have hpB := hps.2 hgd.1 hgd.2
  have k0 : kM (pm [3, 4, 5, 6, 7, 8, 9, 10, 11, 12, 43, 63] [201, 202, 203, 215, 216]) h h := kM_0 hx
  obtain ⟨sd1, esd1⟩ : ∃ x, x = h.2.1 170 3 := ⟨_, rfl⟩
  have rsd1 : 0 ≤ sd1 ∧ sd1 ≤ 2000 := (by rw [esd1]; exact mi_g k0.1 (by decide) mr_170_3)
  obtain ⟨sd2, esd2⟩ : ∃ x, x = h.2.1 170 2 := ⟨_, rfl⟩
  have rsd2 : 0 ≤ sd2 ∧ sd2 ≤ 2000 := (by rw [esd2]; exact mi_g k0.1 (by decide) mr_170_2)
  obtain ⟨sd3, esd3⟩ : ∃ x, x = h.2.1 170 43 := ⟨_, rfl⟩
  have rsd3 : 0 ≤ sd3 ∧ sd3 ≤ 2001 := (by rw [esd3]; exact mi_g k0.1 (by decide) mr_170_43)
  obtain ⟨sd4, esd4⟩ : ∃ x, x = h.2.1 170 63 := ⟨_, rfl⟩
  have rsd4 : 0 ≤ sd4 ∧ sd4 ≤ 7 := (by rw [esd4]; exact mi_g k0.1 (by decide) mr_170_63)
  obtain ⟨sd5, esd5⟩ : ∃ x, x = h.2.1 170 4 := ⟨_, rfl⟩
  have rsd5 : 0 ≤ sd5 ∧ sd5 ≤ 6 := (by rw [esd5]; exact mi_g k0.1 (by decide) mr_170_4)
  refine A_aload_n 0 d_MD_timesPart_0 rfl rfl ?_
  refine A_getIv (z := sd3) T_ok d_MD_timesPart_1 f_MD_354 (mi_s k0.1 sf_170) esd3.symm ?_
  refine A_istore_n 1 (L' := [some (av_R (some 170)), some (av_I sd3)]) d_MD_timesPart_4 rfl (Nat.le_of_ble_eq_true rfl) rfl ?_
  refine A_aload_n 0 d_MD_timesPart_5 rfl rfl ?_
  refine A_getAv (z := some 215) T_ok d_MD_timesPart_6 f_MD_148 (mi_s k0.1 sf_170) (mi_r k0.1 rfm_58) ?_
  refine A_pc (pc' := 9) rfl ?_
  refine A_aload_n 0 d_MD_timesPart_9 rfl rfl ?_
  refine A_getIv (z := sd4) T_ok d_MD_timesPart_10 f_MD_357 (mi_s k0.1 sf_170) esd4.symm ?_
  refine A_aload_n 0 d_MD_timesPart_13 rfl rfl ?_
  refine A_getIv (z := sd3) T_ok d_MD_timesPart_14 f_MD_354 (mi_s k0.1 sf_170) esd3.symm ?_
  refine A_iastorek (KR := kM (pm [3, 4, 5, 6, 7, 8, 9, 10, 11, 12, 43, 63] [201, 202, 203, 215, 216]) h) d_MD_timesPart_17 (mi_s k0.1 sf_215) (by first | (clear hps hgd; omega) | omega) (by first | (clear hps hgd; omega) | omega) (kM_i k0 (by decide) rfl (mr_215 _) (by first | (clear hps hgd; omega) | omega) (by first | (clear hps hgd; omega) | omega)) (fun h10 k11 eh10 => ?_)
  refine A_aload_n 0 d_MD_timesPart_18 rfl rfl ?_
  refine A_pc (pc' := 19) rfl ?_
  refine A_iconst d_MD_timesPart_19 rfl ?_
  have zf13 := ((eh10.1 _ _ (fun q => absurd q (by decide))).trans esd1.symm)
  have zf14 := ((eh10.1 _ _ (fun q => absurd q (by decide))).trans esd2.symm)
  have zf15 := ((eh10.1 _ _ (fun q => absurd q (by decide))).trans esd3.symm)
  have zf16 := ((eh10.1 _ _ (fun q => absurd q (by decide))).trans esd4.symm)
  have zf17 := ((eh10.1 _ _ (fun q => absurd q (by decide))).trans esd5.symm)
  refine A_callV1 m_MD_put T_ok d_MD_timesPart_20 l_MD_369 k_MD_put (mi_s k11.1 sf_170) rfl (by decide +kernel) (by decide) (Nat.le_of_ble_eq_true rfl) (s_MD_put k11.1 (by first | (clear hps hgd; omega) | omega) (by first | (clear hps hgd; omega) | omega) ((eh10.1 _ _ (fun q => absurd q (by decide))).trans esd3.symm) (by first | (clear hps hgd; omega) | omega)) (fun r h12 hq => ?_)
  obtain ⟨rfl, xk18, k18⟩ := hq
  have k19 := kM_t k11 k18 (pm_s (by decide) (by decide))
  refine A_aload_n 0 d_MD_timesPart_23 rfl rfl ?_
  refine A_getAv (z := some 216) T_ok d_MD_timesPart_24 f_MD_151 (mi_s k19.1 sf_170) (mi_r k19.1 rfm_62) ?_
  refine A_aload_n 0 d_MD_timesPart_27 rfl rfl ?_
  refine A_getIv (z := sd4) T_ok d_MD_timesPart_28 f_MD_357 (mi_s k19.1 sf_170) ((k18.2.2.1 _ _ rfl).trans ((eh10.1 _ _ (fun q => absurd q (by decide))).trans esd4.symm)) ?_
  refine A_iconst d_MD_timesPart_31 rfl ?_
  refine A_pc (pc' := 32) rfl ?_
  refine A_iastorek (KR := kM (pm [3, 4, 5, 6, 7, 8, 9, 10, 11, 12, 43, 63] [201, 202, 203, 215, 216]) h) d_MD_timesPart_32 (mi_s k19.1 sf_216) (by first | (clear hps hgd; omega) | omega) (by first | (clear hps hgd; omega) | omega) (kM_i k19 (by decide) rfl (mr_216 _) (by first | (clear hps hgd; omega) | omega) (by first | (clear hps hgd; omega) | omega)) (fun h22 k23 eh22 => ?_)
  refine A_aload_n 0 d_MD_timesPart_33 rfl rfl ?_
  refine A_dupR d_MD_timesPart_34 ?_
  refine A_getIv (z := sd4) T_ok d_MD_timesPart_35 f_MD_357 (mi_s k23.1 sf_170) ((eh22.1 _ _ (fun q => absurd q (by decide))).trans ((k18.2.2.1 _ _ rfl).trans ((eh10.1 _ _ (fun q => absurd q (by decide))).trans esd4.symm))) ?_
  refine A_iconst d_MD_timesPart_38 rfl ?_
  refine A_iaddv (z := (sd4 + 1)) d_MD_timesPart_39 (w32_to (by first | (clear hps hgd; omega) | omega) (by unfold i32; first | (clear hps hgd; omega) | omega)) ?_
  refine A_pc (pc' := 40) rfl ?_
  refine A_putIk (KR := kM (pm [3, 4, 5, 6, 7, 8, 9, 10, 11, 12, 43, 63] [201, 202, 203, 215, 216]) h) T_ok d_MD_timesPart_40 f_MD_357 (mi_s k23.1 sf_170) fin_f (kM_i k23 (by decide) (by decide) mr_170_63 (by first | (clear hps hgd; omega) | omega) (by first | (clear hps hgd; omega) | omega)) (fun h25 k26 eh25 => ?_)
  refine A_aload_n 0 d_MD_timesPart_43 rfl rfl ?_
  have zf28 := ((eh25.1 _ _ (fun _ => by decide)).trans ((eh22.1 _ _ (fun q => absurd q (by decide))).trans ((k18.2.2.1 _ _ rfl).trans ((eh10.1 _ _ (fun q => absurd q (by decide))).trans esd1.symm))))
  have zf29 := ((eh25.1 _ _ (fun _ => by decide)).trans ((eh22.1 _ _ (fun q => absurd q (by decide))).trans ((k18.2.2.1 _ _ rfl).trans ((eh10.1 _ _ (fun q => absurd q (by decide))).trans esd2.symm))))
  have zf30 := ((eh25.1 _ _ (fun _ => by decide)).trans ((eh22.1 _ _ (fun q => absurd q (by decide))).trans xk18.1))
  have zf31 := eh25.2.1
  have zf32 := ((eh25.1 _ _ (fun _ => by decide)).trans ((eh22.1 _ _ (fun q => absurd q (by decide))).trans ((k18.2.2.1 _ _ rfl).trans ((eh10.1 _ _ (fun q => absurd q (by decide))).trans esd5.symm))))
  refine A_callV0 m_MD_next T_ok d_MD_timesPart_44 l_MD_309 k_MD_next (mi_s k26.1 sf_170) rfl (by decide +kernel) (by decide) (Nat.le_of_ble_eq_true rfl) (s_MD_next k26.1 (by have qq0 := ((eh25.1 _ _ (fun _ => by decide)).trans ((eh22.1 _ _ (fun q => absurd q (by decide))).trans ((k18.2.2.1 _ _ rfl).trans ((eh10.1 _ _ (fun q => absurd q (by decide))).trans esd1.symm)))); have qq1 := ((eh25.1 _ _ (fun _ => by decide)).trans ((eh22.1 _ _ (fun q => absurd q (by decide))).trans ((k18.2.2.1 _ _ rfl).trans ((eh10.1 _ _ (fun q => absurd q (by decide))).trans esd2.symm)))); first | (clear hps hgd; omega) | omega)) (fun r h27 hq => ?_)
  obtain ⟨x34, rfl, ⟨_, _⟩, xx34, k33⟩ := hq
  have xa34 := xx34.1
  have xb34 := xx34.2.1
  have k35 := kM_t k26 k33 (pm_s (by decide) (by decide))
  obtain ⟨sd36, esd36⟩ : ∃ x, x = h27.2.1 170 3 := ⟨_, rfl⟩
  have rsd36 : 0 ≤ sd36 ∧ sd36 ≤ 2000 := (by rw [esd36]; exact mi_g k35.1 (by decide) mr_170_3)
  obtain ⟨sd37, esd37⟩ : ∃ x, x = h27.2.1 170 4 := ⟨_, rfl⟩
  have rsd37 : 0 ≤ sd37 ∧ sd37 ≤ 6 := (by rw [esd37]; exact mi_g k35.1 (by decide) mr_170_4)
  refine A_popI d_MD_timesPart_47 ?_
  refine A_aload_n 0 d_MD_timesPart_48 rfl rfl ?_
  refine A_getIv (z := sd37) T_ok d_MD_timesPart_49 f_MD_239 (mi_s k35.1 sf_170) esd37.symm ?_
  refine A_iconst d_MD_timesPart_52 rfl ?_
  refine A_icmp_eq (tgt := 61) d_MD_timesPart_53 (by decide) (fun c39 => ?_) (fun c39 => ?_)
  · refine A_aload_n 0 d_MD_timesPart_61 rfl rfl ?_
    refine A_getIn (lo := 0) (hi := 9999) T_ok d_MD_timesPart_62 f_MD_271 (mi_s k35.1 sf_170) (mi_g k35.1 (by decide) mr_170_6) (fun x40 ex40 _ _ => ?_)
    refine A_iconst d_MD_timesPart_65 rfl ?_
    refine A_icmp_lt (tgt := 78) d_MD_timesPart_66 (by decide) (fun c41 => ?_) (fun c41 => ?_)
    · refine A_aload_n 0 d_MD_timesPart_78 rfl rfl ?_
      refine A_iconst d_MD_timesPart_79 rfl ?_
      refine A_aload_n 0 d_MD_timesPart_80 rfl rfl ?_
      refine A_getIn (lo := 0) (hi := 2000) T_ok d_MD_timesPart_81 f_MD_242 (mi_s k35.1 sf_170) (mi_g k35.1 (by decide) mr_170_5) (fun x42 ex42 _ _ => ?_)
      have zf44 := esd36.symm
      have zf45 := ((k33.2.2.1 _ _ rfl).trans ((eh25.1 _ _ (fun _ => by decide)).trans ((eh22.1 _ _ (fun q => absurd q (by decide))).trans ((k18.2.2.1 _ _ rfl).trans ((eh10.1 _ _ (fun q => absurd q (by decide))).trans esd2.symm)))))
      have zf46 := ((k33.2.2.1 _ _ rfl).trans ((eh25.1 _ _ (fun _ => by decide)).trans ((eh22.1 _ _ (fun q => absurd q (by decide))).trans xk18.1)))
      have zf47 := ((k33.2.2.1 _ _ rfl).trans eh25.2.1)
      have zf48 := esd37.symm
      refine A_callV2 m_MD_wrong T_ok d_MD_timesPart_84 l_MD_245 k_MD_wrong (mi_s k35.1 sf_170) rfl (by decide +kernel) (by decide) (Nat.le_of_ble_eq_true rfl) (s_MD_wrong k35.1 (by first | (clear hps hgd; omega) | omega) (by first | (clear hps hgd; omega) | omega) (by first | (clear hps hgd; omega) | omega) (by first | (clear hps hgd; omega) | omega)) (fun r h43 hq => ?_)
      obtain ⟨x50, rfl, ⟨_, _⟩, k49⟩ := hq
      have k51 := kM_t k35 k49 (pm_s (by decide) (by decide))
      obtain rfl : x50 = 0 := by first | (clear hps hgd; omega) | omega
      exact A_zret d_MD_timesPart_87 (by decide) rfl (by first | (clear hps hgd; omega) | omega) ⟨_, rfl, by first | (clear hps hgd; omega) | omega, (fun q => absurd q (by decide)), k51⟩
    · refine A_aload_n 0 d_MD_timesPart_69 rfl rfl ?_
      refine A_getIv (z := x40) T_ok d_MD_timesPart_70 f_MD_271 (mi_s k35.1 sf_170) ex40.symm ?_
      refine A_bipush d_MD_timesPart_73 rfl ?_
      refine A_icmp_le (tgt := 88) d_MD_timesPart_75 (by decide) (fun c53 => ?_) (fun c53 => ?_)
      · refine A_aload_n 0 d_MD_timesPart_88 rfl rfl ?_
        refine A_getAv (z := some 202) T_ok d_MD_timesPart_89 f_MD_109 (mi_s k35.1 sf_170) (mi_r k35.1 rfm_45) ?_
        refine A_iload_n 1 d_MD_timesPart_92 rfl rfl ?_
        refine A_aload_n 0 d_MD_timesPart_93 rfl rfl ?_
        refine A_getIv (z := x40) T_ok d_MD_timesPart_94 f_MD_271 (mi_s k35.1 sf_170) ex40.symm ?_
        refine A_pc (pc' := 97) rfl ?_
        refine A_iastorek (KR := kM (pm [3, 4, 5, 6, 7, 8, 9, 10, 11, 12, 43, 63] [201, 202, 203, 215, 216]) h) d_MD_timesPart_97 (mi_s k35.1 sf_202) (by first | (clear hps hgd; omega) | omega) (by first | (clear hps hgd; omega) | omega) (kM_i k35 (by decide) rfl (mr_202 _) (by first | (clear hps hgd; omega) | omega) (by first | (clear hps hgd; omega) | omega)) (fun h56 k57 eh56 => ?_)
        refine A_aload_n 0 d_MD_timesPart_98 rfl rfl ?_
        have zf59 := ((eh56.1 _ _ (fun q => absurd q (by decide))).trans esd36.symm)
        have zf60 := ((eh56.1 _ _ (fun q => absurd q (by decide))).trans ((k33.2.2.1 _ _ rfl).trans ((eh25.1 _ _ (fun _ => by decide)).trans ((eh22.1 _ _ (fun q => absurd q (by decide))).trans ((k18.2.2.1 _ _ rfl).trans ((eh10.1 _ _ (fun q => absurd q (by decide))).trans esd2.symm))))))
        have zf61 := ((eh56.1 _ _ (fun q => absurd q (by decide))).trans ((k33.2.2.1 _ _ rfl).trans ((eh25.1 _ _ (fun _ => by decide)).trans ((eh22.1 _ _ (fun q => absurd q (by decide))).trans xk18.1))))
        have zf62 := ((eh56.1 _ _ (fun q => absurd q (by decide))).trans ((k33.2.2.1 _ _ rfl).trans eh25.2.1))
        have zf63 := ((eh56.1 _ _ (fun q => absurd q (by decide))).trans esd37.symm)
        refine A_callV0 m_MD_next T_ok d_MD_timesPart_99 l_MD_309 k_MD_next (mi_s k57.1 sf_170) rfl (by decide +kernel) (by decide) (Nat.le_of_ble_eq_true rfl) (s_MD_next k57.1 (by have qq0 := ((eh56.1 _ _ (fun q => absurd q (by decide))).trans esd36.symm); have qq1 := ((eh56.1 _ _ (fun q => absurd q (by decide))).trans ((k33.2.2.1 _ _ rfl).trans ((eh25.1 _ _ (fun _ => by decide)).trans ((eh22.1 _ _ (fun q => absurd q (by decide))).trans ((k18.2.2.1 _ _ rfl).trans ((eh10.1 _ _ (fun q => absurd q (by decide))).trans esd2.symm)))))); first | (clear hps hgd; omega) | omega)) (fun r h58 hq => ?_)
        obtain ⟨x65, rfl, ⟨_, _⟩, xx65, k64⟩ := hq
        have xa65 := xx65.1
        have xb65 := xx65.2.1
        have k66 := kM_t k57 k64 (pm_s (by decide) (by decide))
        obtain ⟨sd67, esd67⟩ : ∃ x, x = h58.2.1 170 3 := ⟨_, rfl⟩
        have rsd67 : 0 ≤ sd67 ∧ sd67 ≤ 2000 := (by rw [esd67]; exact mi_g k66.1 (by decide) mr_170_3)
        obtain ⟨sd68, esd68⟩ : ∃ x, x = h58.2.1 170 4 := ⟨_, rfl⟩
        have rsd68 : 0 ≤ sd68 ∧ sd68 ≤ 6 := (by rw [esd68]; exact mi_g k66.1 (by decide) mr_170_4)
        refine A_popI d_MD_timesPart_102 ?_
        refine A_aload_n 0 d_MD_timesPart_103 rfl rfl ?_
        refine A_bipush d_MD_timesPart_104 rfl ?_
        have zf70 := esd67.symm
        have zf71 := ((k64.2.2.1 _ _ rfl).trans ((eh56.1 _ _ (fun q => absurd q (by decide))).trans ((k33.2.2.1 _ _ rfl).trans ((eh25.1 _ _ (fun _ => by decide)).trans ((eh22.1 _ _ (fun q => absurd q (by decide))).trans ((k18.2.2.1 _ _ rfl).trans ((eh10.1 _ _ (fun q => absurd q (by decide))).trans esd2.symm)))))))
        have zf72 := ((k64.2.2.1 _ _ rfl).trans ((eh56.1 _ _ (fun q => absurd q (by decide))).trans ((k33.2.2.1 _ _ rfl).trans ((eh25.1 _ _ (fun _ => by decide)).trans ((eh22.1 _ _ (fun q => absurd q (by decide))).trans xk18.1)))))
        have zf73 := ((k64.2.2.1 _ _ rfl).trans ((eh56.1 _ _ (fun q => absurd q (by decide))).trans ((k33.2.2.1 _ _ rfl).trans eh25.2.1)))
        have zf74 := esd68.symm
        refine A_callV1 m_MD_want T_ok d_MD_timesPart_106 l_MD_344 k_MD_want (mi_s k66.1 sf_170) rfl (by decide +kernel) (by decide) (Nat.le_of_ble_eq_true rfl) (s_MD_want k66.1 (by have qq0 := esd67.symm; have qq1 := ((k64.2.2.1 _ _ rfl).trans ((eh56.1 _ _ (fun q => absurd q (by decide))).trans ((k33.2.2.1 _ _ rfl).trans ((eh25.1 _ _ (fun _ => by decide)).trans ((eh22.1 _ _ (fun q => absurd q (by decide))).trans ((k18.2.2.1 _ _ rfl).trans ((eh10.1 _ _ (fun q => absurd q (by decide))).trans esd2.symm))))))); first | (clear xx34 hps hgd; omega) | (clear xx34; omega) | omega)) (fun r h69 hq => ?_)
        obtain ⟨x76, rfl, bx76, xx76, k75⟩ := hq
        have k77 := kM_t k66 k75 (pm_s (by decide) (by decide))
        obtain ⟨sd78, esd78⟩ : ∃ x, x = h69.2.1 170 3 := ⟨_, rfl⟩
        have rsd78 : 0 ≤ sd78 ∧ sd78 ≤ 2000 := (by rw [esd78]; exact mi_g k77.1 (by decide) mr_170_3)
        obtain ⟨sd79, esd79⟩ : ∃ x, x = h69.2.1 170 4 := ⟨_, rfl⟩
        have rsd79 : 0 ≤ sd79 ∧ sd79 ≤ 6 := (by rw [esd79]; exact mi_g k77.1 (by decide) mr_170_4)
        refine A_if_ne (tgt := 114) d_MD_timesPart_109 (by decide) (fun c80 => ?_) (fun c80 => ?_)
        · have xw76 := xx76 (bx76.resolve_left c80)
          have xa76 := xw76.1
          have xb76 := xw76.2.1
          refine A_aload_n 0 d_MD_timesPart_114 rfl rfl ?_
          refine A_getIv (z := sd79) T_ok d_MD_timesPart_115 f_MD_239 (mi_s k77.1 sf_170) esd79.symm ?_
          refine A_iconst d_MD_timesPart_118 rfl ?_
          refine A_icmp_eq (tgt := 127) d_MD_timesPart_119 (by decide) (fun c82 => ?_) (fun c82 => ?_)
          · refine A_aload_n 0 d_MD_timesPart_127 rfl rfl ?_
            refine A_getIn (lo := 0) (hi := 9999) T_ok d_MD_timesPart_128 f_MD_271 (mi_s k77.1 sf_170) (mi_g k77.1 (by decide) mr_170_6) (fun x83 ex83 _ _ => ?_)
            refine A_iconst d_MD_timesPart_131 rfl ?_
            refine A_icmp_lt (tgt := 144) d_MD_timesPart_132 (by decide) (fun c84 => ?_) (fun c84 => ?_)
            · refine A_aload_n 0 d_MD_timesPart_144 rfl rfl ?_
              refine A_iconst d_MD_timesPart_145 rfl ?_
              refine A_aload_n 0 d_MD_timesPart_146 rfl rfl ?_
              refine A_getIn (lo := 0) (hi := 2000) T_ok d_MD_timesPart_147 f_MD_242 (mi_s k77.1 sf_170) (mi_g k77.1 (by decide) mr_170_5) (fun x85 ex85 _ _ => ?_)
              have zf87 := esd78.symm
              have zf88 := ((k75.2.2.1 _ _ rfl).trans ((k64.2.2.1 _ _ rfl).trans ((eh56.1 _ _ (fun q => absurd q (by decide))).trans ((k33.2.2.1 _ _ rfl).trans ((eh25.1 _ _ (fun _ => by decide)).trans ((eh22.1 _ _ (fun q => absurd q (by decide))).trans ((k18.2.2.1 _ _ rfl).trans ((eh10.1 _ _ (fun q => absurd q (by decide))).trans esd2.symm))))))))
              have zf89 := ((k75.2.2.1 _ _ rfl).trans ((k64.2.2.1 _ _ rfl).trans ((eh56.1 _ _ (fun q => absurd q (by decide))).trans ((k33.2.2.1 _ _ rfl).trans ((eh25.1 _ _ (fun _ => by decide)).trans ((eh22.1 _ _ (fun q => absurd q (by decide))).trans xk18.1))))))
              have zf90 := ((k75.2.2.1 _ _ rfl).trans ((k64.2.2.1 _ _ rfl).trans ((eh56.1 _ _ (fun q => absurd q (by decide))).trans ((k33.2.2.1 _ _ rfl).trans eh25.2.1))))
              have zf91 := esd79.symm
              refine A_callV2 m_MD_wrong T_ok d_MD_timesPart_150 l_MD_245 k_MD_wrong (mi_s k77.1 sf_170) rfl (by decide +kernel) (by decide) (Nat.le_of_ble_eq_true rfl) (s_MD_wrong k77.1 (by first | (clear xx34 xx65 xx76 hps hgd; omega) | (clear xx34 xx65 xx76; omega) | omega) (by first | (clear xx34 xx65 xx76 hps hgd; omega) | (clear xx34 xx65 xx76; omega) | omega) (by first | (clear xx34 xx65 xx76 hps hgd; omega) | (clear xx34 xx65 xx76; omega) | omega) (by first | (clear xx34 xx65 xx76 hps hgd; omega) | (clear xx34 xx65 xx76; omega) | omega)) (fun r h86 hq => ?_)
              obtain ⟨x93, rfl, ⟨_, _⟩, k92⟩ := hq
              have k94 := kM_t k77 k92 (pm_s (by decide) (by decide))
              obtain rfl : x93 = 0 := by first | (clear xx34 xx65 xx76 hps hgd; omega) | (clear xx34 xx65 xx76; omega) | omega
              exact A_zret d_MD_timesPart_153 (by decide) rfl (by first | (clear xx34 xx65 xx76 hps hgd; omega) | (clear xx34 xx65 xx76; omega) | omega) ⟨_, rfl, by first | (clear xx34 xx65 xx76 hps hgd; omega) | (clear xx34 xx65 xx76; omega) | omega, (fun q => absurd q (by decide)), k94⟩
            · refine A_aload_n 0 d_MD_timesPart_135 rfl rfl ?_
              refine A_getIv (z := x83) T_ok d_MD_timesPart_136 f_MD_271 (mi_s k77.1 sf_170) ex83.symm ?_
              refine A_bipush d_MD_timesPart_139 rfl ?_
              refine A_icmp_le (tgt := 154) d_MD_timesPart_141 (by decide) (fun c96 => ?_) (fun c96 => ?_)
              · refine A_aload_n 0 d_MD_timesPart_154 rfl rfl ?_
                refine A_getAv (z := some 203) T_ok d_MD_timesPart_155 f_MD_112 (mi_s k77.1 sf_170) (mi_r k77.1 rfm_46) ?_
                refine A_iload_n 1 d_MD_timesPart_158 rfl rfl ?_
                refine A_aload_n 0 d_MD_timesPart_159 rfl rfl ?_
                refine A_getIv (z := x83) T_ok d_MD_timesPart_160 f_MD_271 (mi_s k77.1 sf_170) ex83.symm ?_
                refine A_pc (pc' := 163) rfl ?_
                refine A_iastorek (KR := kM (pm [3, 4, 5, 6, 7, 8, 9, 10, 11, 12, 43, 63] [201, 202, 203, 215, 216]) h) d_MD_timesPart_163 (mi_s k77.1 sf_203) (by first | (clear xx34 xx65 xx76 hps hgd; omega) | (clear xx34 xx65 xx76; omega) | omega) (by first | (clear xx34 xx65 xx76 hps hgd; omega) | (clear xx34 xx65 xx76; omega) | omega) (kM_i k77 (by decide) rfl (mr_203 _) (by first | (clear xx34 xx65 xx76 hps hgd; omega) | (clear xx34 xx65 xx76; omega) | omega) (by first | (clear xx34 xx65 xx76 hps hgd; omega) | (clear xx34 xx65 xx76; omega) | omega)) (fun h99 k100 eh99 => ?_)
                refine A_aload_n 0 d_MD_timesPart_164 rfl rfl ?_
                have zf102 := ((eh99.1 _ _ (fun q => absurd q (by decide))).trans esd78.symm)
                have zf103 := ((eh99.1 _ _ (fun q => absurd q (by decide))).trans ((k75.2.2.1 _ _ rfl).trans ((k64.2.2.1 _ _ rfl).trans ((eh56.1 _ _ (fun q => absurd q (by decide))).trans ((k33.2.2.1 _ _ rfl).trans ((eh25.1 _ _ (fun _ => by decide)).trans ((eh22.1 _ _ (fun q => absurd q (by decide))).trans ((k18.2.2.1 _ _ rfl).trans ((eh10.1 _ _ (fun q => absurd q (by decide))).trans esd2.symm)))))))))
                have zf104 := ((eh99.1 _ _ (fun q => absurd q (by decide))).trans ((k75.2.2.1 _ _ rfl).trans ((k64.2.2.1 _ _ rfl).trans ((eh56.1 _ _ (fun q => absurd q (by decide))).trans ((k33.2.2.1 _ _ rfl).trans ((eh25.1 _ _ (fun _ => by decide)).trans ((eh22.1 _ _ (fun q => absurd q (by decide))).trans xk18.1)))))))
                have zf105 := ((eh99.1 _ _ (fun q => absurd q (by decide))).trans ((k75.2.2.1 _ _ rfl).trans ((k64.2.2.1 _ _ rfl).trans ((eh56.1 _ _ (fun q => absurd q (by decide))).trans ((k33.2.2.1 _ _ rfl).trans eh25.2.1)))))
                have zf106 := ((eh99.1 _ _ (fun q => absurd q (by decide))).trans esd79.symm)
                refine A_callV0 m_MD_next T_ok d_MD_timesPart_165 l_MD_309 k_MD_next (mi_s k100.1 sf_170) rfl (by decide +kernel) (by decide) (Nat.le_of_ble_eq_true rfl) (s_MD_next k100.1 (by have qq0 := ((eh99.1 _ _ (fun q => absurd q (by decide))).trans esd78.symm); have qq1 := ((eh99.1 _ _ (fun q => absurd q (by decide))).trans ((k75.2.2.1 _ _ rfl).trans ((k64.2.2.1 _ _ rfl).trans ((eh56.1 _ _ (fun q => absurd q (by decide))).trans ((k33.2.2.1 _ _ rfl).trans ((eh25.1 _ _ (fun _ => by decide)).trans ((eh22.1 _ _ (fun q => absurd q (by decide))).trans ((k18.2.2.1 _ _ rfl).trans ((eh10.1 _ _ (fun q => absurd q (by decide))).trans esd2.symm))))))))); first | (clear xx34 xx65 xx76 hps hgd; omega) | (clear xx34 xx65 xx76; omega) | omega)) (fun r h101 hq => ?_)
                obtain ⟨x108, rfl, ⟨_, _⟩, xx108, k107⟩ := hq
                have xa108 := xx108.1
                have xb108 := xx108.2.1
                have k109 := kM_t k100 k107 (pm_s (by decide) (by decide))
                obtain ⟨sd110, esd110⟩ : ∃ x, x = h101.2.1 170 3 := ⟨_, rfl⟩
                have rsd110 : 0 ≤ sd110 ∧ sd110 ≤ 2000 := (by rw [esd110]; exact mi_g k109.1 (by decide) mr_170_3)
                obtain ⟨sd111, esd111⟩ : ∃ x, x = h101.2.1 170 4 := ⟨_, rfl⟩
                have rsd111 : 0 ≤ sd111 ∧ sd111 ≤ 6 := (by rw [esd111]; exact mi_g k109.1 (by decide) mr_170_4)
                refine A_popI d_MD_timesPart_168 ?_
                refine A_aload_n 0 d_MD_timesPart_169 rfl rfl ?_
                refine A_bipush d_MD_timesPart_170 rfl ?_
                have zf113 := esd110.symm
                have zf114 := ((k107.2.2.1 _ _ rfl).trans ((eh99.1 _ _ (fun q => absurd q (by decide))).trans ((k75.2.2.1 _ _ rfl).trans ((k64.2.2.1 _ _ rfl).trans ((eh56.1 _ _ (fun q => absurd q (by decide))).trans ((k33.2.2.1 _ _ rfl).trans ((eh25.1 _ _ (fun _ => by decide)).trans ((eh22.1 _ _ (fun q => absurd q (by decide))).trans ((k18.2.2.1 _ _ rfl).trans ((eh10.1 _ _ (fun q => absurd q (by decide))).trans esd2.symm))))))))))
                have zf115 := ((k107.2.2.1 _ _ rfl).trans ((eh99.1 _ _ (fun q => absurd q (by decide))).trans ((k75.2.2.1 _ _ rfl).trans ((k64.2.2.1 _ _ rfl).trans ((eh56.1 _ _ (fun q => absurd q (by decide))).trans ((k33.2.2.1 _ _ rfl).trans ((eh25.1 _ _ (fun _ => by decide)).trans ((eh22.1 _ _ (fun q => absurd q (by decide))).trans xk18.1))))))))
                have zf116 := ((k107.2.2.1 _ _ rfl).trans ((eh99.1 _ _ (fun q => absurd q (by decide))).trans ((k75.2.2.1 _ _ rfl).trans ((k64.2.2.1 _ _ rfl).trans ((eh56.1 _ _ (fun q => absurd q (by decide))).trans ((k33.2.2.1 _ _ rfl).trans eh25.2.1))))))
                have zf117 := esd111.symm
                refine A_callV1 m_MD_want T_ok d_MD_timesPart_172 l_MD_344 k_MD_want (mi_s k109.1 sf_170) rfl (by decide +kernel) (by decide) (Nat.le_of_ble_eq_true rfl) (s_MD_want k109.1 (by have qq0 := esd110.symm; have qq1 := ((k107.2.2.1 _ _ rfl).trans ((eh99.1 _ _ (fun q => absurd q (by decide))).trans ((k75.2.2.1 _ _ rfl).trans ((k64.2.2.1 _ _ rfl).trans ((eh56.1 _ _ (fun q => absurd q (by decide))).trans ((k33.2.2.1 _ _ rfl).trans ((eh25.1 _ _ (fun _ => by decide)).trans ((eh22.1 _ _ (fun q => absurd q (by decide))).trans ((k18.2.2.1 _ _ rfl).trans ((eh10.1 _ _ (fun q => absurd q (by decide))).trans esd2.symm)))))))))); first | (clear xx34 xx65 xx76 xw76 hps hgd; omega) | (clear xx34 xx65 xx76 xw76; omega) | omega)) (fun r h112 hq => ?_)
                obtain ⟨x119, rfl, bx119, xx119, k118⟩ := hq
                have k120 := kM_t k109 k118 (pm_s (by decide) (by decide))
                obtain ⟨sd121, esd121⟩ : ∃ x, x = h112.2.1 170 3 := ⟨_, rfl⟩
                have rsd121 : 0 ≤ sd121 ∧ sd121 ≤ 2000 := (by rw [esd121]; exact mi_g k120.1 (by decide) mr_170_3)
                obtain ⟨sd122, esd122⟩ : ∃ x, x = h112.2.1 170 4 := ⟨_, rfl⟩
                have rsd122 : 0 ≤ sd122 ∧ sd122 ≤ 6 := (by rw [esd122]; exact mi_g k120.1 (by decide) mr_170_4)
                exact A_zret d_MD_timesPart_175 (by decide) rfl (by first | (clear xx34 xx65 xx76 xw76 xx108 hps hgd; omega) | (clear xx34 xx65 xx76 xw76 xx108; omega) | omega) ⟨_, rfl, by first | (clear xx34 xx65 xx76 xw76 xx108 hps hgd; omega) | (clear xx34 xx65 xx76 xw76 xx108; omega) | omega, (fun _ => ⟨by have qq0 := esd121.symm; have qq1 := ((k118.2.2.1 _ _ rfl).trans ((k107.2.2.1 _ _ rfl).trans ((eh99.1 _ _ (fun q => absurd q (by decide))).trans ((k75.2.2.1 _ _ rfl).trans ((k64.2.2.1 _ _ rfl).trans ((eh56.1 _ _ (fun q => absurd q (by decide))).trans ((k33.2.2.1 _ _ rfl).trans ((eh25.1 _ _ (fun _ => by decide)).trans ((eh22.1 _ _ (fun q => absurd q (by decide))).trans ((k18.2.2.1 _ _ rfl).trans ((eh10.1 _ _ (fun q => absurd q (by decide))).trans esd2.symm))))))))))); have qq2 := esd122.symm; have qq3 := ((k118.2.2.1 _ _ rfl).trans ((k107.2.2.1 _ _ rfl).trans ((eh99.1 _ _ (fun q => absurd q (by decide))).trans ((k75.2.2.1 _ _ rfl).trans ((k64.2.2.1 _ _ rfl).trans ((eh56.1 _ _ (fun q => absurd q (by decide))).trans ((k33.2.2.1 _ _ rfl).trans ((eh25.1 _ _ (fun _ => by decide)).trans ((eh22.1 _ _ (fun q => absurd q (by decide))).trans xk18.1))))))))); exact ⟨by first | (clear xx34 xx65 xx76 xw76 xx108 hps hgd; omega) | (clear xx34 xx65 xx76 xw76 xx108; omega) | omega, by first | (clear xx34 xx65 xx76 xw76 xx108 hps hgd; omega) | (clear xx34 xx65 xx76 xw76 xx108; omega) | omega, by first | (clear xx34 xx65 xx76 xw76 xx108 hps hgd; omega) | (clear xx34 xx65 xx76 xw76 xx108; omega) | omega, by first | (clear xx34 xx65 xx76 xw76 xx108 hps hgd; omega) | (clear xx34 xx65 xx76 xw76 xx108; omega) | omega⟩, by have qq0 := esd121.symm; have qq1 := ((k118.2.2.1 _ _ rfl).trans ((k107.2.2.1 _ _ rfl).trans ((eh99.1 _ _ (fun q => absurd q (by decide))).trans ((k75.2.2.1 _ _ rfl).trans ((k64.2.2.1 _ _ rfl).trans ((eh56.1 _ _ (fun q => absurd q (by decide))).trans ((k33.2.2.1 _ _ rfl).trans ((eh25.1 _ _ (fun _ => by decide)).trans ((eh22.1 _ _ (fun q => absurd q (by decide))).trans ((k18.2.2.1 _ _ rfl).trans ((eh10.1 _ _ (fun q => absurd q (by decide))).trans esd2.symm))))))))))); have qq2 := esd122.symm; have qq3 := ((k118.2.2.1 _ _ rfl).trans ((k107.2.2.1 _ _ rfl).trans ((eh99.1 _ _ (fun q => absurd q (by decide))).trans ((k75.2.2.1 _ _ rfl).trans ((k64.2.2.1 _ _ rfl).trans ((eh56.1 _ _ (fun q => absurd q (by decide))).trans ((k33.2.2.1 _ _ rfl).trans ((eh25.1 _ _ (fun _ => by decide)).trans ((eh22.1 _ _ (fun q => absurd q (by decide))).trans xk18.1))))))))); exact ⟨by first | (clear xx34 xx65 xx76 xw76 xx108 hps hgd; omega) | (clear xx34 xx65 xx76 xw76 xx108; omega) | omega, by first | (clear xx34 xx65 xx76 xw76 xx108 hps hgd; omega) | (clear xx34 xx65 xx76 xw76 xx108; omega) | omega⟩, VH_o (x := sd3) (m := sd4) (c := 5) hVH esd3.symm esd4.symm (by first | (clear xx34 xx65 xx76 xw76 xx108 hps hgd; omega) | (clear xx34 xx65 xx76 xw76 xx108; omega) | omega) ((k118.2.2.1 _ _ rfl).trans ((k107.2.2.1 _ _ rfl).trans ((eh99.1 _ _ (fun q => absurd q (by decide))).trans ((k75.2.2.1 _ _ rfl).trans ((k64.2.2.1 _ _ rfl).trans ((eh56.1 _ _ (fun q => absurd q (by decide))).trans ((k33.2.2.1 _ _ rfl).trans ((eh25.1 _ _ (fun _ => by decide)).trans ((eh22.1 _ _ (fun q => absurd q (by decide))).trans xk18.1))))))))) ((k118.2.2.1 _ _ rfl).trans ((k107.2.2.1 _ _ rfl).trans ((eh99.1 _ _ (fun q => absurd q (by decide))).trans ((k75.2.2.1 _ _ rfl).trans ((k64.2.2.1 _ _ rfl).trans ((eh56.1 _ _ (fun q => absurd q (by decide))).trans ((k33.2.2.1 _ _ rfl).trans eh25.2.1))))))) (by decide) (fun k hk => ((k118.2.2.1 201 k rfl).trans ((k107.2.2.1 201 k rfl).trans ((eh99.1 201 k (fun q => absurd q (by decide))).trans ((k75.2.2.1 201 k rfl).trans ((k64.2.2.1 201 k rfl).trans ((eh56.1 201 k (fun q => absurd q (by decide))).trans ((k33.2.2.1 201 k rfl).trans ((eh25.1 201 k (fun q => absurd q (by decide))).trans ((eh22.1 201 k (fun q => absurd q (by decide))).trans ((xk18.2.1 k hk).trans (eh10.1 201 k (fun q => absurd q (by decide)))))))))))))) ((k118.2.2.1 _ _ rfl).trans ((k107.2.2.1 _ _ rfl).trans ((eh99.1 _ _ (fun q => absurd q (by decide))).trans ((k75.2.2.1 _ _ rfl).trans ((k64.2.2.1 _ _ rfl).trans ((eh56.1 _ _ (fun q => absurd q (by decide))).trans ((k33.2.2.1 _ _ rfl).trans ((eh25.1 _ _ (fun q => absurd q (by decide))).trans ((eh22.1 _ _ (fun q => absurd q (by decide))).trans xk18.2.2))))))))) (fun k hk => ((k118.2.2.1 202 k rfl).trans ((k107.2.2.1 202 k rfl).trans ((eh99.1 202 k (fun q => absurd q (by decide))).trans ((k75.2.2.1 202 k rfl).trans ((k64.2.2.1 202 k rfl).trans ((eh56.1 202 k (fun _ => hk)).trans ((k33.2.2.1 202 k rfl).trans ((eh25.1 202 k (fun q => absurd q (by decide))).trans ((eh22.1 202 k (fun q => absurd q (by decide))).trans ((k18.2.2.1 202 k rfl).trans (eh10.1 202 k (fun q => absurd q (by decide)))))))))))))) (fun k hk => ((k118.2.2.1 203 k rfl).trans ((k107.2.2.1 203 k rfl).trans ((eh99.1 203 k (fun _ => hk)).trans ((k75.2.2.1 203 k rfl).trans ((k64.2.2.1 203 k rfl).trans ((eh56.1 203 k (fun q => absurd q (by decide))).trans ((k33.2.2.1 203 k rfl).trans ((eh25.1 203 k (fun q => absurd q (by decide))).trans ((eh22.1 203 k (fun q => absurd q (by decide))).trans ((k18.2.2.1 203 k rfl).trans (eh10.1 203 k (fun q => absurd q (by decide)))))))))))))) (fun _ => by have q1 := ((k118.2.2.1 _ _ rfl).trans ((k107.2.2.1 _ _ rfl).trans ((eh99.1 _ _ (fun q => absurd q (by decide))).trans ((k75.2.2.1 _ _ rfl).trans ((k64.2.2.1 _ _ rfl).trans eh56.2.1))))); have q2 := ((k118.2.2.1 _ _ rfl).trans ((k107.2.2.1 _ _ rfl).trans eh99.2.1)); exact ⟨⟨by first | (clear xx34 xx65 xx76 xw76 xx108 hps hgd; omega) | (clear xx34 xx65 xx76 xw76 xx108; omega) | omega, by first | (clear xx34 xx65 xx76 xw76 xx108 hps hgd; omega) | (clear xx34 xx65 xx76 xw76 xx108; omega) | omega⟩, by first | (clear xx34 xx65 xx76 xw76 xx108 hps hgd; omega) | (clear xx34 xx65 xx76 xw76 xx108; omega) | omega, by first | (clear xx34 xx65 xx76 xw76 xx108 hps hgd; omega) | (clear xx34 xx65 xx76 xw76 xx108; omega) | omega⟩) (fun k hk => ((k118.2.2.1 214 k rfl).trans ((k107.2.2.1 214 k rfl).trans ((eh99.1 214 k (fun q => absurd q (by decide))).trans ((k75.2.2.1 214 k rfl).trans ((k64.2.2.1 214 k rfl).trans ((eh56.1 214 k (fun q => absurd q (by decide))).trans ((k33.2.2.1 214 k rfl).trans ((eh25.1 214 k (fun q => absurd q (by decide))).trans ((eh22.1 214 k (fun q => absurd q (by decide))).trans ((k18.2.2.1 214 k rfl).trans (eh10.1 214 k (fun q => absurd q (by decide)))))))))))))) (fun q => absurd q (by decide)) (fun k hk => ((k118.2.2.1 215 k rfl).trans ((k107.2.2.1 215 k rfl).trans ((eh99.1 215 k (fun q => absurd q (by decide))).trans ((k75.2.2.1 215 k rfl).trans ((k64.2.2.1 215 k rfl).trans ((eh56.1 215 k (fun q => absurd q (by decide))).trans ((k33.2.2.1 215 k rfl).trans ((eh25.1 215 k (fun q => absurd q (by decide))).trans ((eh22.1 215 k (fun q => absurd q (by decide))).trans ((k18.2.2.1 215 k rfl).trans (eh10.1 215 k (fun _ => hk))))))))))))) ((k118.2.2.1 _ _ rfl).trans ((k107.2.2.1 _ _ rfl).trans ((eh99.1 _ _ (fun q => absurd q (by decide))).trans ((k75.2.2.1 _ _ rfl).trans ((k64.2.2.1 _ _ rfl).trans ((eh56.1 _ _ (fun q => absurd q (by decide))).trans ((k33.2.2.1 _ _ rfl).trans ((eh25.1 _ _ (fun q => absurd q (by decide))).trans ((eh22.1 _ _ (fun q => absurd q (by decide))).trans ((k18.2.2.1 _ _ rfl).trans eh10.2.1)))))))))) (fun k hk => ((k118.2.2.1 216 k rfl).trans ((k107.2.2.1 216 k rfl).trans ((eh99.1 216 k (fun q => absurd q (by decide))).trans ((k75.2.2.1 216 k rfl).trans ((k64.2.2.1 216 k rfl).trans ((eh56.1 216 k (fun q => absurd q (by decide))).trans ((k33.2.2.1 216 k rfl).trans ((eh25.1 216 k (fun q => absurd q (by decide))).trans ((eh22.1 216 k (fun _ => hk)).trans ((k18.2.2.1 216 k rfl).trans (eh10.1 216 k (fun q => absurd q (by decide)))))))))))))) ((k118.2.2.1 _ _ rfl).trans ((k107.2.2.1 _ _ rfl).trans ((eh99.1 _ _ (fun q => absurd q (by decide))).trans ((k75.2.2.1 _ _ rfl).trans ((k64.2.2.1 _ _ rfl).trans ((eh56.1 _ _ (fun q => absurd q (by decide))).trans ((k33.2.2.1 _ _ rfl).trans ((eh25.1 _ _ (fun q => absurd q (by decide))).trans eh22.2.1)))))))) (by intro a ha; simp only [List.mem_cons, List.not_mem_nil, or_false] at ha; rcases ha with rfl | rfl | rfl | rfl ; exact (funext (fun k => ((k118.2.2.1 210 k rfl).trans ((k107.2.2.1 210 k rfl).trans ((eh99.1 210 k (fun q => absurd q (by decide))).trans ((k75.2.2.1 210 k rfl).trans ((k64.2.2.1 210 k rfl).trans ((eh56.1 210 k (fun q => absurd q (by decide))).trans ((k33.2.2.1 210 k rfl).trans ((eh25.1 210 k (fun q => absurd q (by decide))).trans ((eh22.1 210 k (fun q => absurd q (by decide))).trans ((k18.2.2.1 210 k rfl).trans (eh10.1 210 k (fun q => absurd q (by decide))))))))))))))) ; exact (funext (fun k => ((k118.2.2.1 211 k rfl).trans ((k107.2.2.1 211 k rfl).trans ((eh99.1 211 k (fun q => absurd q (by decide))).trans ((k75.2.2.1 211 k rfl).trans ((k64.2.2.1 211 k rfl).trans ((eh56.1 211 k (fun q => absurd q (by decide))).trans ((k33.2.2.1 211 k rfl).trans ((eh25.1 211 k (fun q => absurd q (by decide))).trans ((eh22.1 211 k (fun q => absurd q (by decide))).trans ((k18.2.2.1 211 k rfl).trans (eh10.1 211 k (fun q => absurd q (by decide))))))))))))))) ; exact (funext (fun k => ((k118.2.2.1 212 k rfl).trans ((k107.2.2.1 212 k rfl).trans ((eh99.1 212 k (fun q => absurd q (by decide))).trans ((k75.2.2.1 212 k rfl).trans ((k64.2.2.1 212 k rfl).trans ((eh56.1 212 k (fun q => absurd q (by decide))).trans ((k33.2.2.1 212 k rfl).trans ((eh25.1 212 k (fun q => absurd q (by decide))).trans ((eh22.1 212 k (fun q => absurd q (by decide))).trans ((k18.2.2.1 212 k rfl).trans (eh10.1 212 k (fun q => absurd q (by decide))))))))))))))) ; exact (funext (fun k => ((k118.2.2.1 213 k rfl).trans ((k107.2.2.1 213 k rfl).trans ((eh99.1 213 k (fun q => absurd q (by decide))).trans ((k75.2.2.1 213 k rfl).trans ((k64.2.2.1 213 k rfl).trans ((eh56.1 213 k (fun q => absurd q (by decide))).trans ((k33.2.2.1 213 k rfl).trans ((eh25.1 213 k (fun q => absurd q (by decide))).trans ((eh22.1 213 k (fun q => absurd q (by decide))).trans ((k18.2.2.1 213 k rfl).trans (eh10.1 213 k (fun q => absurd q (by decide))))))))))))))))⟩), k120⟩
              · refine A_aload_n 0 d_MD_timesPart_144 rfl rfl ?_
                refine A_iconst d_MD_timesPart_145 rfl ?_
                refine A_aload_n 0 d_MD_timesPart_146 rfl rfl ?_
                refine A_getIn (lo := 0) (hi := 2000) T_ok d_MD_timesPart_147 f_MD_242 (mi_s k77.1 sf_170) (mi_g k77.1 (by decide) mr_170_5) (fun x123 ex123 _ _ => ?_)
                have zf125 := esd78.symm
                have zf126 := ((k75.2.2.1 _ _ rfl).trans ((k64.2.2.1 _ _ rfl).trans ((eh56.1 _ _ (fun q => absurd q (by decide))).trans ((k33.2.2.1 _ _ rfl).trans ((eh25.1 _ _ (fun _ => by decide)).trans ((eh22.1 _ _ (fun q => absurd q (by decide))).trans ((k18.2.2.1 _ _ rfl).trans ((eh10.1 _ _ (fun q => absurd q (by decide))).trans esd2.symm))))))))
                have zf127 := ((k75.2.2.1 _ _ rfl).trans ((k64.2.2.1 _ _ rfl).trans ((eh56.1 _ _ (fun q => absurd q (by decide))).trans ((k33.2.2.1 _ _ rfl).trans ((eh25.1 _ _ (fun _ => by decide)).trans ((eh22.1 _ _ (fun q => absurd q (by decide))).trans xk18.1))))))
                have zf128 := ((k75.2.2.1 _ _ rfl).trans ((k64.2.2.1 _ _ rfl).trans ((eh56.1 _ _ (fun q => absurd q (by decide))).trans ((k33.2.2.1 _ _ rfl).trans eh25.2.1))))
                have zf129 := esd79.symm
                refine A_callV2 m_MD_wrong T_ok d_MD_timesPart_150 l_MD_245 k_MD_wrong (mi_s k77.1 sf_170) rfl (by decide +kernel) (by decide) (Nat.le_of_ble_eq_true rfl) (s_MD_wrong k77.1 (by first | (clear xx34 xx65 xx76 hps hgd; omega) | (clear xx34 xx65 xx76; omega) | omega) (by first | (clear xx34 xx65 xx76 hps hgd; omega) | (clear xx34 xx65 xx76; omega) | omega) (by first | (clear xx34 xx65 xx76 hps hgd; omega) | (clear xx34 xx65 xx76; omega) | omega) (by first | (clear xx34 xx65 xx76 hps hgd; omega) | (clear xx34 xx65 xx76; omega) | omega)) (fun r h124 hq => ?_)
                obtain ⟨x131, rfl, ⟨_, _⟩, k130⟩ := hq
                have k132 := kM_t k77 k130 (pm_s (by decide) (by decide))
                obtain rfl : x131 = 0 := by first | (clear xx34 xx65 xx76 hps hgd; omega) | (clear xx34 xx65 xx76; omega) | omega
                exact A_zret d_MD_timesPart_153 (by decide) rfl (by first | (clear xx34 xx65 xx76 hps hgd; omega) | (clear xx34 xx65 xx76; omega) | omega) ⟨_, rfl, by first | (clear xx34 xx65 xx76 hps hgd; omega) | (clear xx34 xx65 xx76; omega) | omega, (fun q => absurd q (by decide)), k132⟩
          · refine A_aload_n 0 d_MD_timesPart_122 rfl rfl ?_
            have zf134 := esd78.symm
            have zf135 := ((k75.2.2.1 _ _ rfl).trans ((k64.2.2.1 _ _ rfl).trans ((eh56.1 _ _ (fun q => absurd q (by decide))).trans ((k33.2.2.1 _ _ rfl).trans ((eh25.1 _ _ (fun _ => by decide)).trans ((eh22.1 _ _ (fun q => absurd q (by decide))).trans ((k18.2.2.1 _ _ rfl).trans ((eh10.1 _ _ (fun q => absurd q (by decide))).trans esd2.symm))))))))
            have zf136 := ((k75.2.2.1 _ _ rfl).trans ((k64.2.2.1 _ _ rfl).trans ((eh56.1 _ _ (fun q => absurd q (by decide))).trans ((k33.2.2.1 _ _ rfl).trans ((eh25.1 _ _ (fun _ => by decide)).trans ((eh22.1 _ _ (fun q => absurd q (by decide))).trans xk18.1))))))
            have zf137 := ((k75.2.2.1 _ _ rfl).trans ((k64.2.2.1 _ _ rfl).trans ((eh56.1 _ _ (fun q => absurd q (by decide))).trans ((k33.2.2.1 _ _ rfl).trans eh25.2.1))))
            have zf138 := esd79.symm
            refine A_callV0 m_MD_cant T_ok d_MD_timesPart_123 l_MD_313 k_MD_cant (mi_s k77.1 sf_170) rfl (by decide +kernel) (by decide) (Nat.le_of_ble_eq_true rfl) (s_MD_cant k77.1 ) (fun r h133 hq => ?_)
            obtain ⟨x140, rfl, ⟨_, _⟩, k139⟩ := hq
            have k141 := kM_t k77 k139 (pm_s (by decide) (by decide))
            obtain rfl : x140 = 0 := by first | (clear xx34 xx65 xx76 hps hgd; omega) | (clear xx34 xx65 xx76; omega) | omega
            exact A_zret d_MD_timesPart_126 (by decide) rfl (by first | (clear xx34 xx65 xx76 hps hgd; omega) | (clear xx34 xx65 xx76; omega) | omega) ⟨_, rfl, by first | (clear xx34 xx65 xx76 hps hgd; omega) | (clear xx34 xx65 xx76; omega) | omega, (fun q => absurd q (by decide)), k141⟩
        · refine A_iconst d_MD_timesPart_112 rfl ?_
          exact A_zret d_MD_timesPart_113 (by decide) rfl (by first | (clear xx34 xx65 hps hgd; omega) | (clear xx34 xx65; omega) | omega) ⟨_, rfl, by first | (clear xx34 xx65 hps hgd; omega) | (clear xx34 xx65; omega) | omega, (fun q => absurd q (by decide)), k77⟩
      · refine A_aload_n 0 d_MD_timesPart_78 rfl rfl ?_
        refine A_iconst d_MD_timesPart_79 rfl ?_
        refine A_aload_n 0 d_MD_timesPart_80 rfl rfl ?_
        refine A_getIn (lo := 0) (hi := 2000) T_ok d_MD_timesPart_81 f_MD_242 (mi_s k35.1 sf_170) (mi_g k35.1 (by decide) mr_170_5) (fun x142 ex142 _ _ => ?_)
        have zf144 := esd36.symm
        have zf145 := ((k33.2.2.1 _ _ rfl).trans ((eh25.1 _ _ (fun _ => by decide)).trans ((eh22.1 _ _ (fun q => absurd q (by decide))).trans ((k18.2.2.1 _ _ rfl).trans ((eh10.1 _ _ (fun q => absurd q (by decide))).trans esd2.symm)))))
        have zf146 := ((k33.2.2.1 _ _ rfl).trans ((eh25.1 _ _ (fun _ => by decide)).trans ((eh22.1 _ _ (fun q => absurd q (by decide))).trans xk18.1)))
        have zf147 := ((k33.2.2.1 _ _ rfl).trans eh25.2.1)
        have zf148 := esd37.symm
        refine A_callV2 m_MD_wrong T_ok d_MD_timesPart_84 l_MD_245 k_MD_wrong (mi_s k35.1 sf_170) rfl (by decide +kernel) (by decide) (Nat.le_of_ble_eq_true rfl) (s_MD_wrong k35.1 (by first | (clear hps hgd; omega) | omega) (by first | (clear hps hgd; omega) | omega) (by first | (clear hps hgd; omega) | omega) (by first | (clear hps hgd; omega) | omega)) (fun r h143 hq => ?_)
        obtain ⟨x150, rfl, ⟨_, _⟩, k149⟩ := hq
        have k151 := kM_t k35 k149 (pm_s (by decide) (by decide))
        obtain rfl : x150 = 0 := by first | (clear hps hgd; omega) | omega
        exact A_zret d_MD_timesPart_87 (by decide) rfl (by first | (clear hps hgd; omega) | omega) ⟨_, rfl, by first | (clear hps hgd; omega) | omega, (fun q => absurd q (by decide)), k151⟩
  · refine A_aload_n 0 d_MD_timesPart_56 rfl rfl ?_
    have zf153 := esd36.symm
    have zf154 := ((k33.2.2.1 _ _ rfl).trans ((eh25.1 _ _ (fun _ => by decide)).trans ((eh22.1 _ _ (fun q => absurd q (by decide))).trans ((k18.2.2.1 _ _ rfl).trans ((eh10.1 _ _ (fun q => absurd q (by decide))).trans esd2.symm)))))
    have zf155 := ((k33.2.2.1 _ _ rfl).trans ((eh25.1 _ _ (fun _ => by decide)).trans ((eh22.1 _ _ (fun q => absurd q (by decide))).trans xk18.1)))
    have zf156 := ((k33.2.2.1 _ _ rfl).trans eh25.2.1)
    have zf157 := esd37.symm
    refine A_callV0 m_MD_cant T_ok d_MD_timesPart_57 l_MD_313 k_MD_cant (mi_s k35.1 sf_170) rfl (by decide +kernel) (by decide) (Nat.le_of_ble_eq_true rfl) (s_MD_cant k35.1 ) (fun r h152 hq => ?_)
    obtain ⟨x159, rfl, ⟨_, _⟩, k158⟩ := hq
    have k160 := kM_t k35 k158 (pm_s (by decide) (by decide))
    obtain rfl : x159 = 0 := by first | (clear hps hgd; omega) | omega
    exact A_zret d_MD_timesPart_60 (by decide) rfl (by first | (clear hps hgd; omega) | omega) ⟨_, rfl, by first | (clear hps hgd; omega) | omega, (fun q => absurd q (by decide)), k160⟩
