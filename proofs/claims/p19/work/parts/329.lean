/-! ===== the reference's methods, 329 ===== -/
def m_MD_pageBars : mr_T := (⟨"PlainMusicModel", "pageBars", "()I"⟩, prog_14_method_49_code, 3, some .int)
theorem d_MD_pageBars_0 : decode prog_14_method_49_code 0 = .ok (.iconst 0, 1) := by decide +kernel
theorem d_MD_pageBars_1 : decode prog_14_method_49_code 1 = .ok (.istore_n 1, 1) := by decide +kernel
theorem d_MD_pageBars_2 : decode prog_14_method_49_code 2 = .ok (.iconst 0, 1) := by decide +kernel
theorem d_MD_pageBars_3 : decode prog_14_method_49_code 3 = .ok (.istore_n 2, 1) := by decide +kernel
theorem d_MD_pageBars_4 : decode prog_14_method_49_code 4 = .ok (.iload_n 2, 1) := by decide +kernel
theorem d_MD_pageBars_5 : decode prog_14_method_49_code 5 = .ok (.aload_n 0, 1) := by decide +kernel
theorem d_MD_pageBars_6 : decode prog_14_method_49_code 6 = .ok (.getfield 17, 3) := by decide +kernel
theorem rfm_14 : (14, 172) ∈ mf_L := by decide +kernel
theorem d_MD_pageBars_9 : decode prog_14_method_49_code 9 = .ok (.iconst 0, 1) := by decide +kernel
theorem d_MD_pageBars_10 : decode prog_14_method_49_code 10 = .ok (.iaload, 1) := by decide +kernel
theorem sf_172 : sh_L[172]? = some (0, 2) := by decide +kernel
theorem mr_172 (k : Nat) : mr 172 k = (0, 4) := rfl
theorem d_MD_pageBars_11 : decode prog_14_method_49_code 11 = .ok (.if_icmp .ge 30, 3) := by decide +kernel
theorem d_MD_pageBars_41 : decode prog_14_method_49_code 41 = .ok (.iload_n 1, 1) := by decide +kernel
theorem d_MD_pageBars_42 : decode prog_14_method_49_code 42 = .ok (.ireturn, 1) := by decide +kernel
theorem d_MD_pageBars_14 : decode prog_14_method_49_code 14 = .ok (.aload_n 0, 1) := by decide +kernel
theorem d_MD_pageBars_15 : decode prog_14_method_49_code 15 = .ok (.getfield 60, 3) := by decide +kernel
theorem rfm_28 : (28, 186) ∈ mf_L := by decide +kernel
theorem d_MD_pageBars_18 : decode prog_14_method_49_code 18 = .ok (.iload_n 2, 1) := by decide +kernel
theorem d_MD_pageBars_19 : decode prog_14_method_49_code 19 = .ok (.iaload, 1) := by decide +kernel
theorem sf_186 : sh_L[186]? = some (0, 8) := by decide +kernel
theorem mr_186 (k : Nat) : mr 186 k = (0, 101) := rfl
theorem d_MD_pageBars_20 : decode prog_14_method_49_code 20 = .ok (.iload_n 1, 1) := by decide +kernel
theorem d_MD_pageBars_21 : decode prog_14_method_49_code 21 = .ok (.if_icmp .le 12, 3) := by decide +kernel
theorem d_MD_pageBars_33 : decode prog_14_method_49_code 33 = .ok (.iload_n 1, 1) := by decide +kernel
theorem d_MD_pageBars_34 : decode prog_14_method_49_code 34 = .ok (.istore_n 1, 1) := by decide +kernel
theorem d_MD_pageBars_35 : decode prog_14_method_49_code 35 = .ok (.iinc 2 1, 3) := by decide +kernel
theorem d_MD_pageBars_38 : decode prog_14_method_49_code 38 = .ok (.goto (-34), 3) := by decide +kernel
theorem d_MD_pageBars_24 : decode prog_14_method_49_code 24 = .ok (.aload_n 0, 1) := by decide +kernel
theorem d_MD_pageBars_25 : decode prog_14_method_49_code 25 = .ok (.getfield 60, 3) := by decide +kernel
theorem d_MD_pageBars_28 : decode prog_14_method_49_code 28 = .ok (.iload_n 2, 1) := by decide +kernel
theorem d_MD_pageBars_29 : decode prog_14_method_49_code 29 = .ok (.iaload, 1) := by decide +kernel
theorem d_MD_pageBars_30 : decode prog_14_method_49_code 30 = .ok (.goto 4, 3) := by decide +kernel
def m_MD_told : mr_T := (⟨"PlainMusicModel", "told", "(I)I"⟩, prog_14_method_50_code, 2, some .int)
theorem d_MD_told_0 : decode prog_14_method_50_code 0 = .ok (.iload_n 1, 1) := by decide +kernel
theorem d_MD_told_1 : decode prog_14_method_50_code 1 = .ok (.tableswitch 116 0 6 #[43, 50, 57, 64, 71, 76, 96], 43) := by decide +kernel
theorem d_MD_told_117 : decode prog_14_method_50_code 117 = .ok (.iconst (-1), 1) := by decide +kernel
theorem d_MD_told_118 : decode prog_14_method_50_code 118 = .ok (.ireturn, 1) := by decide +kernel
theorem d_MD_told_44 : decode prog_14_method_50_code 44 = .ok (.aload_n 0, 1) := by decide +kernel
theorem d_MD_told_45 : decode prog_14_method_50_code 45 = .ok (.getfield 17, 3) := by decide +kernel
theorem d_MD_told_48 : decode prog_14_method_50_code 48 = .ok (.iconst 0, 1) := by decide +kernel
theorem d_MD_told_49 : decode prog_14_method_50_code 49 = .ok (.iaload, 1) := by decide +kernel
theorem d_MD_told_50 : decode prog_14_method_50_code 50 = .ok (.ireturn, 1) := by decide +kernel
theorem d_MD_told_51 : decode prog_14_method_50_code 51 = .ok (.aload_n 0, 1) := by decide +kernel
theorem d_MD_told_52 : decode prog_14_method_50_code 52 = .ok (.getfield 26, 3) := by decide +kernel
theorem d_MD_told_55 : decode prog_14_method_50_code 55 = .ok (.iconst 0, 1) := by decide +kernel
theorem d_MD_told_56 : decode prog_14_method_50_code 56 = .ok (.iaload, 1) := by decide +kernel
theorem d_MD_told_57 : decode prog_14_method_50_code 57 = .ok (.ireturn, 1) := by decide +kernel
theorem d_MD_told_58 : decode prog_14_method_50_code 58 = .ok (.aload_n 0, 1) := by decide +kernel
theorem d_MD_told_59 : decode prog_14_method_50_code 59 = .ok (.getfield 32, 3) := by decide +kernel
theorem d_MD_told_62 : decode prog_14_method_50_code 62 = .ok (.iconst 0, 1) := by decide +kernel
theorem d_MD_told_63 : decode prog_14_method_50_code 63 = .ok (.iaload, 1) := by decide +kernel
theorem d_MD_told_64 : decode prog_14_method_50_code 64 = .ok (.ireturn, 1) := by decide +kernel
theorem d_MD_told_65 : decode prog_14_method_50_code 65 = .ok (.aload_n 0, 1) := by decide +kernel
theorem d_MD_told_66 : decode prog_14_method_50_code 66 = .ok (.getfield 44, 3) := by decide +kernel
theorem d_MD_told_69 : decode prog_14_method_50_code 69 = .ok (.iconst 0, 1) := by decide +kernel
theorem d_MD_told_70 : decode prog_14_method_50_code 70 = .ok (.iaload, 1) := by decide +kernel
theorem d_MD_told_71 : decode prog_14_method_50_code 71 = .ok (.ireturn, 1) := by decide +kernel
theorem d_MD_told_72 : decode prog_14_method_50_code 72 = .ok (.aload_n 0, 1) := by decide +kernel
theorem d_MD_told_73 : decode prog_14_method_50_code 73 = .ok (.invokevirtual 492, 3) := by decide +kernel
theorem k_MD_pageBars : mt_OK m_MD_pageBars 0 1 := ⟨gwi_2016, gwi_146, ⟨by decide +kernel, by decide +kernel, by decide +kernel⟩, fun h => absurd h (by decide), fun _ => ⟨gwi_2015, gwi_101⟩, fun h => absurd h (by decide)⟩
theorem l_MD_492 : ml_OK "PlainMusicModel" 492 ⟨"PlainMusicModel", "pageBars", "()I"⟩ := Or.inl gwi_2013
theorem d_MD_told_76 : decode prog_14_method_50_code 76 = .ok (.ireturn, 1) := by decide +kernel
theorem d_MD_told_77 : decode prog_14_method_50_code 77 = .ok (.aload_n 0, 1) := by decide +kernel
theorem d_MD_told_78 : decode prog_14_method_50_code 78 = .ok (.getfield 20, 3) := by decide +kernel
theorem d_MD_told_81 : decode prog_14_method_50_code 81 = .ok (.iconst 0, 1) := by decide +kernel
theorem d_MD_told_82 : decode prog_14_method_50_code 82 = .ok (.iaload, 1) := by decide +kernel
theorem d_MD_told_83 : decode prog_14_method_50_code 83 = .ok (.ifCond .ne 7, 3) := by decide +kernel
theorem d_MD_told_90 : decode prog_14_method_50_code 90 = .ok (.aload_n 0, 1) := by decide +kernel
theorem d_MD_told_91 : decode prog_14_method_50_code 91 = .ok (.getfield 20, 3) := by decide +kernel
theorem d_MD_told_94 : decode prog_14_method_50_code 94 = .ok (.iconst 0, 1) := by decide +kernel
theorem d_MD_told_95 : decode prog_14_method_50_code 95 = .ok (.iaload, 1) := by decide +kernel
theorem d_MD_told_96 : decode prog_14_method_50_code 96 = .ok (.ireturn, 1) := by decide +kernel
theorem d_MD_told_86 : decode prog_14_method_50_code 86 = .ok (.iconst 4, 1) := by decide +kernel
theorem d_MD_told_87 : decode prog_14_method_50_code 87 = .ok (.goto 9, 3) := by decide +kernel
theorem d_MD_told_97 : decode prog_14_method_50_code 97 = .ok (.aload_n 0, 1) := by decide +kernel
theorem d_MD_told_98 : decode prog_14_method_50_code 98 = .ok (.getfield 23, 3) := by decide +kernel
theorem d_MD_told_101 : decode prog_14_method_50_code 101 = .ok (.iconst 0, 1) := by decide +kernel
theorem d_MD_told_102 : decode prog_14_method_50_code 102 = .ok (.iaload, 1) := by decide +kernel
theorem d_MD_told_103 : decode prog_14_method_50_code 103 = .ok (.ifCond .ne 7, 3) := by decide +kernel
theorem d_MD_told_110 : decode prog_14_method_50_code 110 = .ok (.aload_n 0, 1) := by decide +kernel
theorem d_MD_told_111 : decode prog_14_method_50_code 111 = .ok (.getfield 23, 3) := by decide +kernel
theorem d_MD_told_114 : decode prog_14_method_50_code 114 = .ok (.iconst 0, 1) := by decide +kernel
theorem d_MD_told_115 : decode prog_14_method_50_code 115 = .ok (.iaload, 1) := by decide +kernel
theorem d_MD_told_116 : decode prog_14_method_50_code 116 = .ok (.ireturn, 1) := by decide +kernel
theorem d_MD_told_106 : decode prog_14_method_50_code 106 = .ok (.iconst 4, 1) := by decide +kernel
theorem d_MD_told_107 : decode prog_14_method_50_code 107 = .ok (.goto 9, 3) := by decide +kernel
def m_MD_isVoice : mr_T := (⟨"PlainMusicModel", "isVoice", "(I)Z"⟩, prog_14_method_51_code, 2, some .boolean)
theorem d_MD_isVoice_0 : decode prog_14_method_51_code 0 = .ok (.iload_n 1, 1) := by decide +kernel
theorem d_MD_isVoice_1 : decode prog_14_method_51_code 1 = .ok (.ifCond .lt 17, 3) := by decide +kernel
theorem d_MD_isVoice_18 : decode prog_14_method_51_code 18 = .ok (.iconst 0, 1) := by decide +kernel
theorem d_MD_isVoice_19 : decode prog_14_method_51_code 19 = .ok (.ireturn, 1) := by decide +kernel
theorem d_MD_isVoice_4 : decode prog_14_method_51_code 4 = .ok (.iload_n 1, 1) := by decide +kernel
theorem d_MD_isVoice_5 : decode prog_14_method_51_code 5 = .ok (.aload_n 0, 1) := by decide +kernel
theorem d_MD_isVoice_6 : decode prog_14_method_51_code 6 = .ok (.getfield 17, 3) := by decide +kernel
theorem d_MD_isVoice_9 : decode prog_14_method_51_code 9 = .ok (.iconst 0, 1) := by decide +kernel
theorem d_MD_isVoice_10 : decode prog_14_method_51_code 10 = .ok (.iaload, 1) := by decide +kernel
theorem d_MD_isVoice_11 : decode prog_14_method_51_code 11 = .ok (.if_icmp .ge 7, 3) := by decide +kernel
theorem d_MD_isVoice_14 : decode prog_14_method_51_code 14 = .ok (.iconst 1, 1) := by decide +kernel
theorem d_MD_isVoice_15 : decode prog_14_method_51_code 15 = .ok (.goto 4, 3) := by decide +kernel
def m_MD_count : mr_T := (⟨"PlainMusicModel", "count", "(II)I"⟩, prog_14_method_52_code, 3, some .int)
theorem d_MD_count_0 : decode prog_14_method_52_code 0 = .ok (.aload_n 0, 1) := by decide +kernel
theorem d_MD_count_1 : decode prog_14_method_52_code 1 = .ok (.iload_n 1, 1) := by decide +kernel
theorem d_MD_count_2 : decode prog_14_method_52_code 2 = .ok (.invokevirtual 495, 3) := by decide +kernel
theorem k_MD_isVoice : mt_OK m_MD_isVoice 1 1 := ⟨gwi_2024, gwi_146, ⟨by decide +kernel, by decide +kernel, by decide +kernel⟩, fun h => absurd h (by decide), fun _ => ⟨gwi_2023, gwi_102⟩, fun h => absurd h (by decide)⟩
theorem l_MD_495 : ml_OK "PlainMusicModel" 495 ⟨"PlainMusicModel", "isVoice", "(I)Z"⟩ := Or.inl gwi_2021
theorem d_MD_count_5 : decode prog_14_method_52_code 5 = .ok (.ifCond .eq 12, 3) := by decide +kernel
theorem d_MD_count_17 : decode prog_14_method_52_code 17 = .ok (.iconst (-1), 1) := by decide +kernel
theorem d_MD_count_18 : decode prog_14_method_52_code 18 = .ok (.ireturn, 1) := by decide +kernel
theorem d_MD_count_8 : decode prog_14_method_52_code 8 = .ok (.iload_n 2, 1) := by decide +kernel
theorem d_MD_count_9 : decode prog_14_method_52_code 9 = .ok (.ifCond .lt 8, 3) := by decide +kernel
theorem d_MD_count_12 : decode prog_14_method_52_code 12 = .ok (.iload_n 2, 1) := by decide +kernel
theorem d_MD_count_13 : decode prog_14_method_52_code 13 = .ok (.iconst 1, 1) := by decide +kernel
theorem d_MD_count_14 : decode prog_14_method_52_code 14 = .ok (.if_icmp .le 5, 3) := by decide +kernel
theorem d_MD_count_19 : decode prog_14_method_52_code 19 = .ok (.iload_n 2, 1) := by decide +kernel
theorem d_MD_count_20 : decode prog_14_method_52_code 20 = .ok (.ifCond .ne 12, 3) := by decide +kernel
theorem d_MD_count_32 : decode prog_14_method_52_code 32 = .ok (.aload_n 0, 1) := by decide +kernel
theorem d_MD_count_33 : decode prog_14_method_52_code 33 = .ok (.getfield 60, 3) := by decide +kernel
theorem d_MD_count_36 : decode prog_14_method_52_code 36 = .ok (.iload_n 1, 1) := by decide +kernel
theorem d_MD_count_37 : decode prog_14_method_52_code 37 = .ok (.iaload, 1) := by decide +kernel
theorem d_MD_count_38 : decode prog_14_method_52_code 38 = .ok (.ireturn, 1) := by decide +kernel
theorem d_MD_count_23 : decode prog_14_method_52_code 23 = .ok (.aload_n 0, 1) := by decide +kernel
theorem d_MD_count_24 : decode prog_14_method_52_code 24 = .ok (.getfield 57, 3) := by decide +kernel
theorem rfm_27 : (27, 185) ∈ mf_L := by decide +kernel
theorem d_MD_count_27 : decode prog_14_method_52_code 27 = .ok (.iload_n 1, 1) := by decide +kernel
theorem d_MD_count_28 : decode prog_14_method_52_code 28 = .ok (.iaload, 1) := by decide +kernel
theorem sf_185 : sh_L[185]? = some (0, 8) := by decide +kernel
theorem mr_185 (k : Nat) : mr 185 k = (0, 300) := rfl
theorem d_MD_count_29 : decode prog_14_method_52_code 29 = .ok (.goto 9, 3) := by decide +kernel
def m_MD_event_IIIJ : mr_T := (⟨"PlainMusicModel", "event", "(III)J"⟩, prog_14_method_53_code, 5, some .long)
theorem d_MD_event_IIIJ_0 : decode prog_14_method_53_code 0 = .ok (.aload_n 0, 1) := by decide +kernel
theorem d_MD_event_IIIJ_1 : decode prog_14_method_53_code 1 = .ok (.iload_n 1, 1) := by decide +kernel
theorem d_MD_event_IIIJ_2 : decode prog_14_method_53_code 2 = .ok (.invokevirtual 495, 3) := by decide +kernel
theorem d_MD_event_IIIJ_5 : decode prog_14_method_53_code 5 = .ok (.ifCond .eq 17, 3) := by decide +kernel
theorem d_MD_event_IIIJ_22 : decode prog_14_method_53_code 22 = .ok (.ldc2_w 498, 3) := by decide +kernel
theorem cst_MD_498 : Cond.constantLong "PlainMusicModel" 498 (Int64.ofInt 10000) ∈ gw := gwi_2029
theorem d_MD_event_IIIJ_25 : decode prog_14_method_53_code 25 = .ok (.lreturn, 1) := by decide +kernel
theorem d_MD_event_IIIJ_8 : decode prog_14_method_53_code 8 = .ok (.iload_n 2, 1) := by decide +kernel
theorem d_MD_event_IIIJ_9 : decode prog_14_method_53_code 9 = .ok (.ifCond .lt 13, 3) := by decide +kernel
theorem d_MD_event_IIIJ_12 : decode prog_14_method_53_code 12 = .ok (.iload_n 2, 1) := by decide +kernel
theorem d_MD_event_IIIJ_13 : decode prog_14_method_53_code 13 = .ok (.aload_n 0, 1) := by decide +kernel
theorem d_MD_event_IIIJ_14 : decode prog_14_method_53_code 14 = .ok (.getfield 57, 3) := by decide +kernel
theorem d_MD_event_IIIJ_17 : decode prog_14_method_53_code 17 = .ok (.iload_n 1, 1) := by decide +kernel
theorem d_MD_event_IIIJ_18 : decode prog_14_method_53_code 18 = .ok (.iaload, 1) := by decide +kernel
theorem d_MD_event_IIIJ_19 : decode prog_14_method_53_code 19 = .ok (.if_icmp .lt 7, 3) := by decide +kernel
theorem d_MD_event_IIIJ_26 : decode prog_14_method_53_code 26 = .ok (.sipush 300, 3) := by decide +kernel
theorem d_MD_event_IIIJ_29 : decode prog_14_method_53_code 29 = .ok (.iload_n 1, 1) := by decide +kernel
theorem d_MD_event_IIIJ_30 : decode prog_14_method_53_code 30 = .ok (.imul, 1) := by decide +kernel
theorem d_MD_event_IIIJ_31 : decode prog_14_method_53_code 31 = .ok (.iload_n 2, 1) := by decide +kernel
theorem d_MD_event_IIIJ_32 : decode prog_14_method_53_code 32 = .ok (.iadd, 1) := by decide +kernel
theorem d_MD_event_IIIJ_33 : decode prog_14_method_53_code 33 = .ok (.istore 4, 2) := by decide +kernel
theorem d_MD_event_IIIJ_35 : decode prog_14_method_53_code 35 = .ok (.iload_n 3, 1) := by decide +kernel
theorem d_MD_event_IIIJ_36 : decode prog_14_method_53_code 36 = .ok (.tableswitch 136 0 8 #[52, 60, 68, 76, 84, 93, 109, 118, 127], 52) := by decide +kernel
theorem d_MD_event_IIIJ_172 : decode prog_14_method_53_code 172 = .ok (.iload_n 3, 1) := by decide +kernel
theorem d_MD_event_IIIJ_173 : decode prog_14_method_53_code 173 = .ok (.bipush 10, 2) := by decide +kernel
theorem d_MD_event_IIIJ_175 : decode prog_14_method_53_code 175 = .ok (.if_icmp .lt 33, 3) := by decide +kernel
theorem d_MD_event_IIIJ_208 : decode prog_14_method_53_code 208 = .ok (.iload_n 3, 1) := by decide +kernel
theorem d_MD_event_IIIJ_209 : decode prog_14_method_53_code 209 = .ok (.bipush 20, 2) := by decide +kernel
theorem d_MD_event_IIIJ_211 : decode prog_14_method_53_code 211 = .ok (.if_icmp .lt 35, 3) := by decide +kernel
theorem d_MD_event_IIIJ_246 : decode prog_14_method_53_code 246 = .ok (.ldc2_w 498, 3) := by decide +kernel
theorem d_MD_event_IIIJ_249 : decode prog_14_method_53_code 249 = .ok (.lreturn, 1) := by decide +kernel
theorem d_MD_event_IIIJ_88 : decode prog_14_method_53_code 88 = .ok (.aload_n 0, 1) := by decide +kernel
theorem d_MD_event_IIIJ_89 : decode prog_14_method_53_code 89 = .ok (.getfield 63, 3) := by decide +kernel
theorem rfm_29 : (29, 187) ∈ mf_L := by decide +kernel
theorem d_MD_event_IIIJ_92 : decode prog_14_method_53_code 92 = .ok (.iload 4, 2) := by decide +kernel
theorem d_MD_event_IIIJ_94 : decode prog_14_method_53_code 94 = .ok (.laload, 1) := by decide +kernel
theorem sf_187 : sh_L[187]? = some (1, 2400) := by decide +kernel
theorem mq_187 (k : Nat) : mq 187 k = (0, 2000000000000000) := rfl
theorem d_MD_event_IIIJ_95 : decode prog_14_method_53_code 95 = .ok (.lreturn, 1) := by decide +kernel
theorem d_MD_event_IIIJ_96 : decode prog_14_method_53_code 96 = .ok (.aload_n 0, 1) := by decide +kernel
theorem d_MD_event_IIIJ_97 : decode prog_14_method_53_code 97 = .ok (.getfield 66, 3) := by decide +kernel
theorem rfm_30 : (30, 188) ∈ mf_L := by decide +kernel
theorem d_MD_event_IIIJ_100 : decode prog_14_method_53_code 100 = .ok (.iload 4, 2) := by decide +kernel
theorem d_MD_event_IIIJ_102 : decode prog_14_method_53_code 102 = .ok (.laload, 1) := by decide +kernel
theorem sf_188 : sh_L[188]? = some (1, 2400) := by decide +kernel
theorem mq_188 (k : Nat) : mq 188 k = (0, 1000000000000) := rfl
theorem d_MD_event_IIIJ_103 : decode prog_14_method_53_code 103 = .ok (.lreturn, 1) := by decide +kernel
theorem d_MD_event_IIIJ_104 : decode prog_14_method_53_code 104 = .ok (.aload_n 0, 1) := by decide +kernel
theorem d_MD_event_IIIJ_105 : decode prog_14_method_53_code 105 = .ok (.getfield 69, 3) := by decide +kernel
theorem rfm_31 : (31, 189) ∈ mf_L := by decide +kernel
theorem d_MD_event_IIIJ_108 : decode prog_14_method_53_code 108 = .ok (.iload 4, 2) := by decide +kernel
theorem d_MD_event_IIIJ_110 : decode prog_14_method_53_code 110 = .ok (.laload, 1) := by decide +kernel
theorem sf_189 : sh_L[189]? = some (1, 2400) := by decide +kernel
theorem mq_189 (k : Nat) : mq 189 k = (0, 4294967296) := rfl
theorem d_MD_event_IIIJ_111 : decode prog_14_method_53_code 111 = .ok (.lreturn, 1) := by decide +kernel
theorem d_MD_event_IIIJ_112 : decode prog_14_method_53_code 112 = .ok (.aload_n 0, 1) := by decide +kernel
theorem d_MD_event_IIIJ_113 : decode prog_14_method_53_code 113 = .ok (.getfield 72, 3) := by decide +kernel
theorem rfm_32 : (32, 190) ∈ mf_L := by decide +kernel
theorem d_MD_event_IIIJ_116 : decode prog_14_method_53_code 116 = .ok (.iload 4, 2) := by decide +kernel
theorem d_MD_event_IIIJ_118 : decode prog_14_method_53_code 118 = .ok (.laload, 1) := by decide +kernel
theorem sf_190 : sh_L[190]? = some (1, 2400) := by decide +kernel
theorem mq_190 (k : Nat) : mq 190 k = (0, 137438953472) := rfl
theorem d_MD_event_IIIJ_119 : decode prog_14_method_53_code 119 = .ok (.lreturn, 1) := by decide +kernel
theorem d_MD_event_IIIJ_120 : decode prog_14_method_53_code 120 = .ok (.aload_n 0, 1) := by decide +kernel
theorem d_MD_event_IIIJ_121 : decode prog_14_method_53_code 121 = .ok (.getfield 75, 3) := by decide +kernel
theorem rfm_33 : (33, 191) ∈ mf_L := by decide +kernel
theorem d_MD_event_IIIJ_124 : decode prog_14_method_53_code 124 = .ok (.iload 4, 2) := by decide +kernel
theorem d_MD_event_IIIJ_126 : decode prog_14_method_53_code 126 = .ok (.iaload, 1) := by decide +kernel
theorem sf_191 : sh_L[191]? = some (0, 2400) := by decide +kernel
theorem mr_191 (k : Nat) : mr 191 k = (0, 4) := rfl
theorem d_MD_event_IIIJ_127 : decode prog_14_method_53_code 127 = .ok (.i2l, 1) := by decide +kernel
theorem d_MD_event_IIIJ_128 : decode prog_14_method_53_code 128 = .ok (.lreturn, 1) := by decide +kernel
theorem d_MD_event_IIIJ_129 : decode prog_14_method_53_code 129 = .ok (.aload_n 0, 1) := by decide +kernel
theorem d_MD_event_IIIJ_130 : decode prog_14_method_53_code 130 = .ok (.getfield 87, 3) := by decide +kernel
theorem rfm_37 : (37, 195) ∈ mf_L := by decide +kernel
theorem d_MD_event_IIIJ_133 : decode prog_14_method_53_code 133 = .ok (.iload 4, 2) := by decide +kernel
theorem d_MD_event_IIIJ_135 : decode prog_14_method_53_code 135 = .ok (.baload, 1) := by decide +kernel
theorem sf_195 : sh_L[195]? = some (2, 2400) := by decide +kernel
theorem d_MD_event_IIIJ_136 : decode prog_14_method_53_code 136 = .ok (.ifCond .eq 7, 3) := by decide +kernel
theorem d_MD_event_IIIJ_143 : decode prog_14_method_53_code 143 = .ok (.lconst 0, 1) := by decide +kernel
theorem d_MD_event_IIIJ_144 : decode prog_14_method_53_code 144 = .ok (.lreturn, 1) := by decide +kernel
theorem d_MD_event_IIIJ_139 : decode prog_14_method_53_code 139 = .ok (.lconst 1, 1) := by decide +kernel
theorem d_MD_event_IIIJ_140 : decode prog_14_method_53_code 140 = .ok (.goto 4, 3) := by decide +kernel
theorem d_MD_event_IIIJ_145 : decode prog_14_method_53_code 145 = .ok (.aload_n 0, 1) := by decide +kernel
theorem d_MD_event_IIIJ_146 : decode prog_14_method_53_code 146 = .ok (.getfield 91, 3) := by decide +kernel
theorem rfm_38 : (38, 196) ∈ mf_L := by decide +kernel
theorem d_MD_event_IIIJ_149 : decode prog_14_method_53_code 149 = .ok (.iload 4, 2) := by decide +kernel
theorem d_MD_event_IIIJ_151 : decode prog_14_method_53_code 151 = .ok (.iaload, 1) := by decide +kernel
theorem sf_196 : sh_L[196]? = some (0, 2400) := by decide +kernel
theorem mr_196 (k : Nat) : mr 196 k = (0, 101) := rfl
theorem d_MD_event_IIIJ_152 : decode prog_14_method_53_code 152 = .ok (.i2l, 1) := by decide +kernel
theorem d_MD_event_IIIJ_153 : decode prog_14_method_53_code 153 = .ok (.lreturn, 1) := by decide +kernel
theorem d_MD_event_IIIJ_154 : decode prog_14_method_53_code 154 = .ok (.aload_n 0, 1) := by decide +kernel
theorem d_MD_event_IIIJ_155 : decode prog_14_method_53_code 155 = .ok (.getfield 94, 3) := by decide +kernel
theorem rfm_39 : (39, 197) ∈ mf_L := by decide +kernel
theorem d_MD_event_IIIJ_158 : decode prog_14_method_53_code 158 = .ok (.iload 4, 2) := by decide +kernel
theorem d_MD_event_IIIJ_160 : decode prog_14_method_53_code 160 = .ok (.iaload, 1) := by decide +kernel
theorem sf_197 : sh_L[197]? = some (0, 2400) := by decide +kernel
theorem mr_197 (k : Nat) : mr 197 k = (0, 64) := rfl
theorem d_MD_event_IIIJ_161 : decode prog_14_method_53_code 161 = .ok (.i2l, 1) := by decide +kernel
theorem d_MD_event_IIIJ_162 : decode prog_14_method_53_code 162 = .ok (.lreturn, 1) := by decide +kernel
theorem d_MD_event_IIIJ_163 : decode prog_14_method_53_code 163 = .ok (.aload_n 0, 1) := by decide +kernel
theorem d_MD_event_IIIJ_164 : decode prog_14_method_53_code 164 = .ok (.getfield 97, 3) := by decide +kernel
theorem rfm_40 : (40, 198) ∈ mf_L := by decide +kernel
theorem d_MD_event_IIIJ_167 : decode prog_14_method_53_code 167 = .ok (.iload 4, 2) := by decide +kernel
theorem d_MD_event_IIIJ_169 : decode prog_14_method_53_code 169 = .ok (.iaload, 1) := by decide +kernel
theorem sf_198 : sh_L[198]? = some (0, 2400) := by decide +kernel
theorem mr_198 (k : Nat) : mr 198 k = (0, 3) := rfl
theorem d_MD_event_IIIJ_170 : decode prog_14_method_53_code 170 = .ok (.i2l, 1) := by decide +kernel
theorem d_MD_event_IIIJ_171 : decode prog_14_method_53_code 171 = .ok (.lreturn, 1) := by decide +kernel
theorem d_MD_event_IIIJ_178 : decode prog_14_method_53_code 178 = .ok (.iload_n 3, 1) := by decide +kernel
theorem d_MD_event_IIIJ_179 : decode prog_14_method_53_code 179 = .ok (.bipush 10, 2) := by decide +kernel
theorem d_MD_event_IIIJ_181 : decode prog_14_method_53_code 181 = .ok (.aload_n 0, 1) := by decide +kernel
theorem d_MD_event_IIIJ_182 : decode prog_14_method_53_code 182 = .ok (.getfield 75, 3) := by decide +kernel
theorem d_MD_event_IIIJ_185 : decode prog_14_method_53_code 185 = .ok (.iload 4, 2) := by decide +kernel
theorem d_MD_event_IIIJ_187 : decode prog_14_method_53_code 187 = .ok (.iaload, 1) := by decide +kernel
theorem d_MD_event_IIIJ_188 : decode prog_14_method_53_code 188 = .ok (.iadd, 1) := by decide +kernel
theorem d_MD_event_IIIJ_189 : decode prog_14_method_53_code 189 = .ok (.if_icmp .ge 19, 3) := by decide +kernel
theorem d_MD_event_IIIJ_214 : decode prog_14_method_53_code 214 = .ok (.iload_n 3, 1) := by decide +kernel
theorem d_MD_event_IIIJ_215 : decode prog_14_method_53_code 215 = .ok (.bipush 20, 2) := by decide +kernel
theorem d_MD_event_IIIJ_217 : decode prog_14_method_53_code 217 = .ok (.aload_n 0, 1) := by decide +kernel
theorem d_MD_event_IIIJ_218 : decode prog_14_method_53_code 218 = .ok (.getfield 75, 3) := by decide +kernel
theorem d_MD_event_IIIJ_221 : decode prog_14_method_53_code 221 = .ok (.iload 4, 2) := by decide +kernel
theorem d_MD_event_IIIJ_223 : decode prog_14_method_53_code 223 = .ok (.iaload, 1) := by decide +kernel
theorem d_MD_event_IIIJ_224 : decode prog_14_method_53_code 224 = .ok (.iadd, 1) := by decide +kernel
theorem d_MD_event_IIIJ_225 : decode prog_14_method_53_code 225 = .ok (.if_icmp .ge 21, 3) := by decide +kernel
theorem d_MD_event_IIIJ_228 : decode prog_14_method_53_code 228 = .ok (.aload_n 0, 1) := by decide +kernel
theorem d_MD_event_IIIJ_229 : decode prog_14_method_53_code 229 = .ok (.getfield 81, 3) := by decide +kernel
theorem rfm_35 : (35, 193) ∈ mf_L := by decide +kernel
theorem d_MD_event_IIIJ_232 : decode prog_14_method_53_code 232 = .ok (.iconst 4, 1) := by decide +kernel
theorem d_MD_event_IIIJ_233 : decode prog_14_method_53_code 233 = .ok (.iload 4, 2) := by decide +kernel
theorem d_MD_event_IIIJ_235 : decode prog_14_method_53_code 235 = .ok (.imul, 1) := by decide +kernel
theorem d_MD_event_IIIJ_236 : decode prog_14_method_53_code 236 = .ok (.iload_n 3, 1) := by decide +kernel
theorem d_MD_event_IIIJ_237 : decode prog_14_method_53_code 237 = .ok (.iadd, 1) := by decide +kernel
theorem d_MD_event_IIIJ_238 : decode prog_14_method_53_code 238 = .ok (.bipush 20, 2) := by decide +kernel
theorem d_MD_event_IIIJ_240 : decode prog_14_method_53_code 240 = .ok (.isub, 1) := by decide +kernel
theorem d_MD_event_IIIJ_241 : decode prog_14_method_53_code 241 = .ok (.iaload, 1) := by decide +kernel
theorem sf_193 : sh_L[193]? = some (0, 9600) := by decide +kernel
theorem mr_193 (k : Nat) : mr 193 k = (0, 62) := rfl
theorem d_MD_event_IIIJ_242 : decode prog_14_method_53_code 242 = .ok (.i2l, 1) := by decide +kernel
theorem d_MD_event_IIIJ_243 : decode prog_14_method_53_code 243 = .ok (.goto 6, 3) := by decide +kernel
theorem d_MD_event_IIIJ_192 : decode prog_14_method_53_code 192 = .ok (.aload_n 0, 1) := by decide +kernel
theorem d_MD_event_IIIJ_193 : decode prog_14_method_53_code 193 = .ok (.getfield 78, 3) := by decide +kernel
theorem rfm_34 : (34, 192) ∈ mf_L := by decide +kernel
theorem d_MD_event_IIIJ_196 : decode prog_14_method_53_code 196 = .ok (.iconst 4, 1) := by decide +kernel
theorem d_MD_event_IIIJ_197 : decode prog_14_method_53_code 197 = .ok (.iload 4, 2) := by decide +kernel
theorem d_MD_event_IIIJ_199 : decode prog_14_method_53_code 199 = .ok (.imul, 1) := by decide +kernel
theorem d_MD_event_IIIJ_200 : decode prog_14_method_53_code 200 = .ok (.iload_n 3, 1) := by decide +kernel
theorem d_MD_event_IIIJ_201 : decode prog_14_method_53_code 201 = .ok (.iadd, 1) := by decide +kernel
theorem d_MD_event_IIIJ_202 : decode prog_14_method_53_code 202 = .ok (.bipush 10, 2) := by decide +kernel
theorem d_MD_event_IIIJ_204 : decode prog_14_method_53_code 204 = .ok (.isub, 1) := by decide +kernel
theorem d_MD_event_IIIJ_205 : decode prog_14_method_53_code 205 = .ok (.iaload, 1) := by decide +kernel
theorem sf_192 : sh_L[192]? = some (0, 9600) := by decide +kernel
theorem mr_192 (k : Nat) : mr 192 k = ((-2), 109) := rfl
theorem d_MD_event_IIIJ_206 : decode prog_14_method_53_code 206 = .ok (.i2l, 1) := by decide +kernel
theorem d_MD_event_IIIJ_207 : decode prog_14_method_53_code 207 = .ok (.lreturn, 1) := by decide +kernel
def m_MD_tell : mr_T := (⟨"PlainMusicModel", "tell", "(IIII)V"⟩, prog_14_method_54_code, 5, none)
theorem mr_170_80 : mr 170 80 = (0, 2000000000) := by decide +kernel
theorem d_MD_tell_0 : decode prog_14_method_54_code 0 = .ok (.aload_n 0, 1) := by decide +kernel
theorem d_MD_tell_1 : decode prog_14_method_54_code 1 = .ok (.getfield 471, 3) := by decide +kernel
theorem f_MD_471 : fl_OK "PlainMusicModel" 471 12 80 .int false := ⟨_, rfl, by decide, gwi_1562, rfl, rfl⟩
theorem d_MD_tell_4 : decode prog_14_method_54_code 4 = .ok (.sipush 8000, 3) := by decide +kernel
theorem d_MD_tell_7 : decode prog_14_method_54_code 7 = .ok (.if_icmp .ge 44, 3) := by decide +kernel
theorem d_MD_tell_51 : decode prog_14_method_54_code 51 = .ok (.aload_n 0, 1) := by decide +kernel
theorem d_MD_tell_52 : decode prog_14_method_54_code 52 = .ok (.dup, 1) := by decide +kernel
theorem d_MD_tell_53 : decode prog_14_method_54_code 53 = .ok (.getfield 471, 3) := by decide +kernel
theorem d_MD_tell_56 : decode prog_14_method_54_code 56 = .ok (.iconst 1, 1) := by decide +kernel
theorem d_MD_tell_57 : decode prog_14_method_54_code 57 = .ok (.iadd, 1) := by decide +kernel
theorem d_MD_tell_58 : decode prog_14_method_54_code 58 = .ok (.putfield 471, 3) := by decide +kernel
theorem d_MD_tell_61 : decode prog_14_method_54_code 61 = .ok (.return_, 1) := by decide +kernel
theorem d_MD_tell_10 : decode prog_14_method_54_code 10 = .ok (.aload_n 0, 1) := by decide +kernel
theorem d_MD_tell_11 : decode prog_14_method_54_code 11 = .ok (.getfield 166, 3) := by decide +kernel
theorem rfm_81 : (81, 221) ∈ mf_L := by decide +kernel
theorem d_MD_tell_14 : decode prog_14_method_54_code 14 = .ok (.aload_n 0, 1) := by decide +kernel
theorem d_MD_tell_15 : decode prog_14_method_54_code 15 = .ok (.getfield 471, 3) := by decide +kernel
theorem d_MD_tell_18 : decode prog_14_method_54_code 18 = .ok (.iload_n 1, 1) := by decide +kernel
theorem d_MD_tell_19 : decode prog_14_method_54_code 19 = .ok (.iastore, 1) := by decide +kernel
theorem sf_221 : sh_L[221]? = some (0, 8000) := by decide +kernel
theorem mr_221 (k : Nat) : mr 221 k = ((-2147483648), 2147483647) := rfl
theorem d_MD_tell_20 : decode prog_14_method_54_code 20 = .ok (.aload_n 0, 1) := by decide +kernel
theorem d_MD_tell_21 : decode prog_14_method_54_code 21 = .ok (.getfield 169, 3) := by decide +kernel
theorem rfm_82 : (82, 222) ∈ mf_L := by decide +kernel
theorem d_MD_tell_24 : decode prog_14_method_54_code 24 = .ok (.aload_n 0, 1) := by decide +kernel
theorem d_MD_tell_25 : decode prog_14_method_54_code 25 = .ok (.getfield 471, 3) := by decide +kernel
theorem d_MD_tell_28 : decode prog_14_method_54_code 28 = .ok (.iload_n 2, 1) := by decide +kernel
theorem d_MD_tell_29 : decode prog_14_method_54_code 29 = .ok (.iastore, 1) := by decide +kernel
theorem sf_222 : sh_L[222]? = some (0, 8000) := by decide +kernel
theorem mr_222 (k : Nat) : mr 222 k = ((-2147483648), 2147483647) := rfl
theorem d_MD_tell_30 : decode prog_14_method_54_code 30 = .ok (.aload_n 0, 1) := by decide +kernel
theorem d_MD_tell_31 : decode prog_14_method_54_code 31 = .ok (.getfield 172, 3) := by decide +kernel
theorem rfm_83 : (83, 223) ∈ mf_L := by decide +kernel
theorem d_MD_tell_34 : decode prog_14_method_54_code 34 = .ok (.aload_n 0, 1) := by decide +kernel
theorem d_MD_tell_35 : decode prog_14_method_54_code 35 = .ok (.getfield 471, 3) := by decide +kernel
theorem d_MD_tell_38 : decode prog_14_method_54_code 38 = .ok (.iload_n 3, 1) := by decide +kernel
theorem d_MD_tell_39 : decode prog_14_method_54_code 39 = .ok (.iastore, 1) := by decide +kernel
theorem sf_223 : sh_L[223]? = some (0, 8000) := by decide +kernel
theorem mr_223 (k : Nat) : mr 223 k = ((-2147483648), 2147483647) := rfl
theorem d_MD_tell_40 : decode prog_14_method_54_code 40 = .ok (.aload_n 0, 1) := by decide +kernel
theorem d_MD_tell_41 : decode prog_14_method_54_code 41 = .ok (.getfield 175, 3) := by decide +kernel
theorem rfm_84 : (84, 224) ∈ mf_L := by decide +kernel
theorem d_MD_tell_44 : decode prog_14_method_54_code 44 = .ok (.aload_n 0, 1) := by decide +kernel
theorem d_MD_tell_45 : decode prog_14_method_54_code 45 = .ok (.getfield 471, 3) := by decide +kernel
theorem d_MD_tell_48 : decode prog_14_method_54_code 48 = .ok (.iload 4, 2) := by decide +kernel
theorem d_MD_tell_50 : decode prog_14_method_54_code 50 = .ok (.iastore, 1) := by decide +kernel
theorem sf_224 : sh_L[224]? = some (0, 8000) := by decide +kernel
theorem mr_224 (k : Nat) : mr 224 k = ((-2147483648), 2147483647) := rfl
def m_MD_lowest : mr_T := (⟨"PlainMusicModel", "lowest", "(I)I"⟩, prog_14_method_55_code, 2, some .int)
theorem d_MD_lowest_0 : decode prog_14_method_55_code 0 = .ok (.aload_n 0, 1) := by decide +kernel
theorem d_MD_lowest_1 : decode prog_14_method_55_code 1 = .ok (.getfield 78, 3) := by decide +kernel
theorem d_MD_lowest_4 : decode prog_14_method_55_code 4 = .ok (.iconst 4, 1) := by decide +kernel
theorem d_MD_lowest_5 : decode prog_14_method_55_code 5 = .ok (.iload_n 1, 1) := by decide +kernel
theorem d_MD_lowest_6 : decode prog_14_method_55_code 6 = .ok (.imul, 1) := by decide +kernel
theorem d_MD_lowest_7 : decode prog_14_method_55_code 7 = .ok (.iaload, 1) := by decide +kernel
theorem d_MD_lowest_8 : decode prog_14_method_55_code 8 = .ok (.ireturn, 1) := by decide +kernel
def m_MD_highest : mr_T := (⟨"PlainMusicModel", "highest", "(I)I"⟩, prog_14_method_56_code, 2, some .int)
theorem d_MD_highest_0 : decode prog_14_method_56_code 0 = .ok (.aload_n 0, 1) := by decide +kernel
theorem d_MD_highest_1 : decode prog_14_method_56_code 1 = .ok (.getfield 78, 3) := by decide +kernel
theorem d_MD_highest_4 : decode prog_14_method_56_code 4 = .ok (.iconst 4, 1) := by decide +kernel
theorem d_MD_highest_5 : decode prog_14_method_56_code 5 = .ok (.iload_n 1, 1) := by decide +kernel
theorem d_MD_highest_6 : decode prog_14_method_56_code 6 = .ok (.imul, 1) := by decide +kernel
theorem d_MD_highest_7 : decode prog_14_method_56_code 7 = .ok (.aload_n 0, 1) := by decide +kernel
theorem d_MD_highest_8 : decode prog_14_method_56_code 8 = .ok (.getfield 75, 3) := by decide +kernel
theorem d_MD_highest_11 : decode prog_14_method_56_code 11 = .ok (.iload_n 1, 1) := by decide +kernel
theorem d_MD_highest_12 : decode prog_14_method_56_code 12 = .ok (.iaload, 1) := by decide +kernel
theorem d_MD_highest_13 : decode prog_14_method_56_code 13 = .ok (.iadd, 1) := by decide +kernel
theorem d_MD_highest_14 : decode prog_14_method_56_code 14 = .ok (.iconst 1, 1) := by decide +kernel
theorem d_MD_highest_15 : decode prog_14_method_56_code 15 = .ok (.isub, 1) := by decide +kernel
theorem d_MD_highest_16 : decode prog_14_method_56_code 16 = .ok (.iaload, 1) := by decide +kernel
theorem d_MD_highest_17 : decode prog_14_method_56_code 17 = .ok (.ireturn, 1) := by decide +kernel
def m_MD_isWhole : mr_T := (⟨"PlainMusicModel", "isWhole", "(II)Z"⟩, prog_14_method_57_code, 5, some .boolean)
theorem d_MD_isWhole_0 : decode prog_14_method_57_code 0 = .ok (.bipush 102, 2) := by decide +kernel
theorem d_MD_isWhole_2 : decode prog_14_method_57_code 2 = .ok (.iload_n 1, 1) := by decide +kernel
theorem d_MD_isWhole_3 : decode prog_14_method_57_code 3 = .ok (.imul, 1) := by decide +kernel
theorem d_MD_isWhole_4 : decode prog_14_method_57_code 4 = .ok (.iload_n 2, 1) := by decide +kernel
theorem d_MD_isWhole_5 : decode prog_14_method_57_code 5 = .ok (.iadd, 1) := by decide +kernel
theorem d_MD_isWhole_6 : decode prog_14_method_57_code 6 = .ok (.istore_n 3, 1) := by decide +kernel
theorem d_MD_isWhole_7 : decode prog_14_method_57_code 7 = .ok (.aload_n 0, 1) := by decide +kernel
theorem d_MD_isWhole_8 : decode prog_14_method_57_code 8 = .ok (.aload_n 0, 1) := by decide +kernel
theorem d_MD_isWhole_9 : decode prog_14_method_57_code 9 = .ok (.getfield 100, 3) := by decide +kernel
theorem rfm_41 : (41, 199) ∈ mf_L := by decide +kernel
theorem d_MD_isWhole_12 : decode prog_14_method_57_code 12 = .ok (.iload_n 3, 1) := by decide +kernel
theorem d_MD_isWhole_13 : decode prog_14_method_57_code 13 = .ok (.iconst 1, 1) := by decide +kernel
theorem d_MD_isWhole_14 : decode prog_14_method_57_code 14 = .ok (.iadd, 1) := by decide +kernel
theorem d_MD_isWhole_15 : decode prog_14_method_57_code 15 = .ok (.laload, 1) := by decide +kernel
theorem sf_199 : sh_L[199]? = some (1, 816) := by decide +kernel
theorem mq_199 (k : Nat) : mq 199 k = (0, 2000000000000000) := rfl
theorem d_MD_isWhole_16 : decode prog_14_method_57_code 16 = .ok (.aload_n 0, 1) := by decide +kernel
theorem d_MD_isWhole_17 : decode prog_14_method_57_code 17 = .ok (.getfield 103, 3) := by decide +kernel
theorem rfm_42 : (42, 200) ∈ mf_L := by decide +kernel
theorem d_MD_isWhole_20 : decode prog_14_method_57_code 20 = .ok (.iload_n 3, 1) := by decide +kernel
theorem d_MD_isWhole_21 : decode prog_14_method_57_code 21 = .ok (.iconst 1, 1) := by decide +kernel
theorem d_MD_isWhole_22 : decode prog_14_method_57_code 22 = .ok (.iadd, 1) := by decide +kernel
theorem d_MD_isWhole_23 : decode prog_14_method_57_code 23 = .ok (.laload, 1) := by decide +kernel
theorem sf_200 : sh_L[200]? = some (1, 816) := by decide +kernel
theorem mq_200 (k : Nat) : mq 200 k = (0, 1000000000000) := rfl
theorem d_MD_isWhole_24 : decode prog_14_method_57_code 24 = .ok (.aload_n 0, 1) := by decide +kernel
theorem d_MD_isWhole_25 : decode prog_14_method_57_code 25 = .ok (.getfield 100, 3) := by decide +kernel
theorem d_MD_isWhole_28 : decode prog_14_method_57_code 28 = .ok (.iload_n 3, 1) := by decide +kernel
theorem d_MD_isWhole_29 : decode prog_14_method_57_code 29 = .ok (.laload, 1) := by decide +kernel
theorem d_MD_isWhole_30 : decode prog_14_method_57_code 30 = .ok (.lneg, 1) := by decide +kernel
theorem d_MD_isWhole_31 : decode prog_14_method_57_code 31 = .ok (.aload_n 0, 1) := by decide +kernel
theorem d_MD_isWhole_32 : decode prog_14_method_57_code 32 = .ok (.getfield 103, 3) := by decide +kernel
theorem d_MD_isWhole_35 : decode prog_14_method_57_code 35 = .ok (.iload_n 3, 1) := by decide +kernel
theorem d_MD_isWhole_36 : decode prog_14_method_57_code 36 = .ok (.laload, 1) := by decide +kernel
theorem d_MD_isWhole_37 : decode prog_14_method_57_code 37 = .ok (.invokevirtual 458, 3) := by decide +kernel
theorem k_MD_sum : mt_OK m_MD_sum 4 1 := ⟨gwi_1952, gwi_146, ⟨by decide +kernel, by decide +kernel, by decide +kernel⟩, fun h => absurd h (by decide), fun _ => ⟨gwi_1951, gwi_87⟩, fun h => absurd h (by decide)⟩
theorem l_MD_458 : ml_OK "PlainMusicModel" 458 ⟨"PlainMusicModel", "sum", "(JJJJ)V"⟩ := Or.inl gwi_1949
theorem d_MD_isWhole_40 : decode prog_14_method_57_code 40 = .ok (.aload_n 0, 1) := by decide +kernel
theorem d_MD_isWhole_41 : decode prog_14_method_57_code 41 = .ok (.aload_n 0, 1) := by decide +kernel
theorem d_MD_isWhole_42 : decode prog_14_method_57_code 42 = .ok (.getfield 385, 3) := by decide +kernel
theorem d_MD_isWhole_45 : decode prog_14_method_57_code 45 = .ok (.aload_n 0, 1) := by decide +kernel
theorem d_MD_isWhole_46 : decode prog_14_method_57_code 46 = .ok (.getfield 388, 3) := by decide +kernel
theorem d_MD_isWhole_49 : decode prog_14_method_57_code 49 = .ok (.aload_n 0, 1) := by decide +kernel
theorem d_MD_isWhole_50 : decode prog_14_method_57_code 50 = .ok (.getfield 20, 3) := by decide +kernel
theorem d_MD_isWhole_53 : decode prog_14_method_57_code 53 = .ok (.iconst 0, 1) := by decide +kernel
theorem d_MD_isWhole_54 : decode prog_14_method_57_code 54 = .ok (.iaload, 1) := by decide +kernel
theorem d_MD_isWhole_55 : decode prog_14_method_57_code 55 = .ok (.i2l, 1) := by decide +kernel
theorem d_MD_isWhole_56 : decode prog_14_method_57_code 56 = .ok (.aload_n 0, 1) := by decide +kernel
theorem d_MD_isWhole_57 : decode prog_14_method_57_code 57 = .ok (.getfield 23, 3) := by decide +kernel
theorem d_MD_isWhole_60 : decode prog_14_method_57_code 60 = .ok (.iconst 0, 1) := by decide +kernel
theorem d_MD_isWhole_61 : decode prog_14_method_57_code 61 = .ok (.iaload, 1) := by decide +kernel
theorem d_MD_isWhole_62 : decode prog_14_method_57_code 62 = .ok (.i2l, 1) := by decide +kernel
theorem d_MD_isWhole_63 : decode prog_14_method_57_code 63 = .ok (.invokevirtual 500, 3) := by decide +kernel
theorem k_MD_compare : mt_OK m_MD_compare 4 1 := ⟨gwi_2045, gwi_146, ⟨by decide +kernel, by decide +kernel, by decide +kernel⟩, fun h => absurd h (by decide), fun _ => ⟨gwi_2044, gwi_105⟩, fun h => absurd h (by decide)⟩
theorem l_MD_500 : ml_OK "PlainMusicModel" 500 ⟨"PlainMusicModel", "compare", "(JJJJ)I"⟩ := Or.inl gwi_2042
theorem d_MD_isWhole_66 : decode prog_14_method_57_code 66 = .ok (.istore 4, 2) := by decide +kernel
theorem d_MD_isWhole_68 : decode prog_14_method_57_code 68 = .ok (.iload 4, 2) := by decide +kernel
theorem d_MD_isWhole_70 : decode prog_14_method_57_code 70 = .ok (.ifCond .eq 24, 3) := by decide +kernel
theorem d_MD_isWhole_94 : decode prog_14_method_57_code 94 = .ok (.iconst 1, 1) := by decide +kernel
theorem d_MD_isWhole_95 : decode prog_14_method_57_code 95 = .ok (.goto 4, 3) := by decide +kernel
theorem d_MD_isWhole_99 : decode prog_14_method_57_code 99 = .ok (.ireturn, 1) := by decide +kernel
theorem d_MD_isWhole_73 : decode prog_14_method_57_code 73 = .ok (.iload 4, 2) := by decide +kernel
theorem d_MD_isWhole_75 : decode prog_14_method_57_code 75 = .ok (.ifCond .ge 23, 3) := by decide +kernel
theorem d_MD_isWhole_98 : decode prog_14_method_57_code 98 = .ok (.iconst 0, 1) := by decide +kernel
theorem d_MD_isWhole_78 : decode prog_14_method_57_code 78 = .ok (.iload_n 2, 1) := by decide +kernel
theorem d_MD_isWhole_79 : decode prog_14_method_57_code 79 = .ok (.ifCond .eq 15, 3) := by decide +kernel
theorem d_MD_isWhole_82 : decode prog_14_method_57_code 82 = .ok (.iload_n 2, 1) := by decide +kernel
theorem d_MD_isWhole_83 : decode prog_14_method_57_code 83 = .ok (.aload_n 0, 1) := by decide +kernel
theorem d_MD_isWhole_84 : decode prog_14_method_57_code 84 = .ok (.getfield 60, 3) := by decide +kernel
theorem d_MD_isWhole_87 : decode prog_14_method_57_code 87 = .ok (.iload_n 1, 1) := by decide +kernel
theorem d_MD_isWhole_88 : decode prog_14_method_57_code 88 = .ok (.iaload, 1) := by decide +kernel
theorem d_MD_isWhole_89 : decode prog_14_method_57_code 89 = .ok (.iconst 1, 1) := by decide +kernel
theorem d_MD_isWhole_90 : decode prog_14_method_57_code 90 = .ok (.isub, 1) := by decide +kernel
theorem d_MD_isWhole_91 : decode prog_14_method_57_code 91 = .ok (.if_icmp .ne 7, 3) := by decide +kernel
def m_MD_firstOf : mr_T := (⟨"PlainMusicModel", "firstOf", "(II)I"⟩, prog_14_method_58_code, 4, some .int)
theorem d_MD_firstOf_0 : decode prog_14_method_58_code 0 = .ok (.iconst 0, 1) := by decide +kernel
theorem d_MD_firstOf_1 : decode prog_14_method_58_code 1 = .ok (.istore_n 3, 1) := by decide +kernel
theorem d_MD_firstOf_2 : decode prog_14_method_58_code 2 = .ok (.iload_n 3, 1) := by decide +kernel
theorem d_MD_firstOf_3 : decode prog_14_method_58_code 3 = .ok (.aload_n 0, 1) := by decide +kernel
theorem d_MD_firstOf_4 : decode prog_14_method_58_code 4 = .ok (.getfield 57, 3) := by decide +kernel
theorem d_MD_firstOf_7 : decode prog_14_method_58_code 7 = .ok (.iload_n 1, 1) := by decide +kernel
theorem d_MD_firstOf_8 : decode prog_14_method_58_code 8 = .ok (.iaload, 1) := by decide +kernel
theorem d_MD_firstOf_9 : decode prog_14_method_58_code 9 = .ok (.if_icmp .ge 25, 3) := by decide +kernel
theorem d_MD_firstOf_34 : decode prog_14_method_58_code 34 = .ok (.iload_n 3, 1) := by decide +kernel
theorem d_MD_firstOf_35 : decode prog_14_method_58_code 35 = .ok (.ireturn, 1) := by decide +kernel
theorem d_MD_firstOf_12 : decode prog_14_method_58_code 12 = .ok (.aload_n 0, 1) := by decide +kernel
theorem d_MD_firstOf_13 : decode prog_14_method_58_code 13 = .ok (.getfield 91, 3) := by decide +kernel
theorem d_MD_firstOf_16 : decode prog_14_method_58_code 16 = .ok (.sipush 300, 3) := by decide +kernel
theorem d_MD_firstOf_19 : decode prog_14_method_58_code 19 = .ok (.iload_n 1, 1) := by decide +kernel
theorem d_MD_firstOf_20 : decode prog_14_method_58_code 20 = .ok (.imul, 1) := by decide +kernel
theorem d_MD_firstOf_21 : decode prog_14_method_58_code 21 = .ok (.iload_n 3, 1) := by decide +kernel
theorem d_MD_firstOf_22 : decode prog_14_method_58_code 22 = .ok (.iadd, 1) := by decide +kernel
theorem d_MD_firstOf_23 : decode prog_14_method_58_code 23 = .ok (.iaload, 1) := by decide +kernel
theorem d_MD_firstOf_24 : decode prog_14_method_58_code 24 = .ok (.iload_n 2, 1) := by decide +kernel
theorem d_MD_firstOf_25 : decode prog_14_method_58_code 25 = .ok (.if_icmp .ge 9, 3) := by decide +kernel
theorem d_MD_firstOf_28 : decode prog_14_method_58_code 28 = .ok (.iinc 3 1, 3) := by decide +kernel
theorem d_MD_firstOf_31 : decode prog_14_method_58_code 31 = .ok (.goto (-29), 3) := by decide +kernel
def m_MD_isAhead : mr_T := (⟨"PlainMusicModel", "isAhead", "(II)Z"⟩, prog_14_method_62_code, 3, some .boolean)
theorem d_MD_isAhead_0 : decode prog_14_method_62_code 0 = .ok (.aload_n 0, 1) := by decide +kernel
theorem d_MD_isAhead_1 : decode prog_14_method_62_code 1 = .ok (.aload_n 0, 1) := by decide +kernel
theorem d_MD_isAhead_2 : decode prog_14_method_62_code 2 = .ok (.getfield 63, 3) := by decide +kernel
theorem d_MD_isAhead_5 : decode prog_14_method_62_code 5 = .ok (.iload_n 1, 1) := by decide +kernel
theorem d_MD_isAhead_6 : decode prog_14_method_62_code 6 = .ok (.laload, 1) := by decide +kernel
theorem d_MD_isAhead_7 : decode prog_14_method_62_code 7 = .ok (.aload_n 0, 1) := by decide +kernel
theorem d_MD_isAhead_8 : decode prog_14_method_62_code 8 = .ok (.getfield 66, 3) := by decide +kernel
theorem d_MD_isAhead_11 : decode prog_14_method_62_code 11 = .ok (.iload_n 1, 1) := by decide +kernel
theorem d_MD_isAhead_12 : decode prog_14_method_62_code 12 = .ok (.laload, 1) := by decide +kernel
theorem d_MD_isAhead_13 : decode prog_14_method_62_code 13 = .ok (.aload_n 0, 1) := by decide +kernel
theorem d_MD_isAhead_14 : decode prog_14_method_62_code 14 = .ok (.getfield 69, 3) := by decide +kernel
theorem d_MD_isAhead_17 : decode prog_14_method_62_code 17 = .ok (.iload_n 1, 1) := by decide +kernel
theorem d_MD_isAhead_18 : decode prog_14_method_62_code 18 = .ok (.laload, 1) := by decide +kernel
theorem d_MD_isAhead_19 : decode prog_14_method_62_code 19 = .ok (.aload_n 0, 1) := by decide +kernel
theorem d_MD_isAhead_20 : decode prog_14_method_62_code 20 = .ok (.getfield 72, 3) := by decide +kernel
theorem d_MD_isAhead_23 : decode prog_14_method_62_code 23 = .ok (.iload_n 1, 1) := by decide +kernel
theorem d_MD_isAhead_24 : decode prog_14_method_62_code 24 = .ok (.laload, 1) := by decide +kernel
theorem d_MD_isAhead_25 : decode prog_14_method_62_code 25 = .ok (.invokevirtual 458, 3) := by decide +kernel
theorem d_MD_isAhead_28 : decode prog_14_method_62_code 28 = .ok (.aload_n 0, 1) := by decide +kernel
theorem d_MD_isAhead_29 : decode prog_14_method_62_code 29 = .ok (.aload_n 0, 1) := by decide +kernel
theorem d_MD_isAhead_30 : decode prog_14_method_62_code 30 = .ok (.getfield 385, 3) := by decide +kernel
theorem d_MD_isAhead_33 : decode prog_14_method_62_code 33 = .ok (.aload_n 0, 1) := by decide +kernel
theorem d_MD_isAhead_34 : decode prog_14_method_62_code 34 = .ok (.getfield 388, 3) := by decide +kernel
theorem d_MD_isAhead_37 : decode prog_14_method_62_code 37 = .ok (.aload_n 0, 1) := by decide +kernel
theorem d_MD_isAhead_38 : decode prog_14_method_62_code 38 = .ok (.getfield 63, 3) := by decide +kernel
theorem d_MD_isAhead_41 : decode prog_14_method_62_code 41 = .ok (.iload_n 2, 1) := by decide +kernel
theorem d_MD_isAhead_42 : decode prog_14_method_62_code 42 = .ok (.laload, 1) := by decide +kernel
theorem d_MD_isAhead_43 : decode prog_14_method_62_code 43 = .ok (.aload_n 0, 1) := by decide +kernel
theorem d_MD_isAhead_44 : decode prog_14_method_62_code 44 = .ok (.getfield 66, 3) := by decide +kernel
theorem d_MD_isAhead_47 : decode prog_14_method_62_code 47 = .ok (.iload_n 2, 1) := by decide +kernel
theorem d_MD_isAhead_48 : decode prog_14_method_62_code 48 = .ok (.laload, 1) := by decide +kernel
theorem d_MD_isAhead_49 : decode prog_14_method_62_code 49 = .ok (.invokevirtual 500, 3) := by decide +kernel
theorem d_MD_isAhead_52 : decode prog_14_method_62_code 52 = .ok (.ifCond .gt 7, 3) := by decide +kernel
theorem d_MD_isAhead_59 : decode prog_14_method_62_code 59 = .ok (.iconst 0, 1) := by decide +kernel
theorem d_MD_isAhead_60 : decode prog_14_method_62_code 60 = .ok (.ireturn, 1) := by decide +kernel
theorem d_MD_isAhead_55 : decode prog_14_method_62_code 55 = .ok (.iconst 1, 1) := by decide +kernel
theorem d_MD_isAhead_56 : decode prog_14_method_62_code 56 = .ok (.goto 4, 3) := by decide +kernel
def m_MD_modulo : mr_T := (⟨"PlainMusicModel", "modulo", "(I)I"⟩, prog_14_method_64_code, 2, some .int)
theorem d_MD_modulo_0 : decode prog_14_method_64_code 0 = .ok (.iload_n 1, 1) := by decide +kernel
theorem d_MD_modulo_1 : decode prog_14_method_64_code 1 = .ok (.bipush 12, 2) := by decide +kernel
theorem d_MD_modulo_3 : decode prog_14_method_64_code 3 = .ok (.irem, 1) := by decide +kernel
theorem d_MD_modulo_4 : decode prog_14_method_64_code 4 = .ok (.bipush 12, 2) := by decide +kernel
theorem d_MD_modulo_6 : decode prog_14_method_64_code 6 = .ok (.iadd, 1) := by decide +kernel
theorem d_MD_modulo_7 : decode prog_14_method_64_code 7 = .ok (.bipush 12, 2) := by decide +kernel
theorem d_MD_modulo_9 : decode prog_14_method_64_code 9 = .ok (.irem, 1) := by decide +kernel
theorem d_MD_modulo_10 : decode prog_14_method_64_code 10 = .ok (.ireturn, 1) := by decide +kernel
theorem s_MD_pageBars {G : cx_T} {h : ah_T} (hx : mi h)   : con G 0 0 0 m_MD_pageBars [av_R (some 170)] h (fun r h' => ∃ z, r = some (av_I z) ∧ (0 ≤ z ∧ z ≤ 101) ∧ h = h') := by
  refine con_of (L := [some (av_R (some 170)), none, none]) (by decide +kernel) (Nat.le_of_ble_eq_true rfl) rfl ?_
  refine A_iconst d_MD_pageBars_0 rfl ?_
  refine A_istore_n 1 (L' := [some (av_R (some 170)), some (av_I 0), none]) d_MD_pageBars_1 rfl (Nat.le_of_ble_eq_true rfl) rfl ?_
  refine A_iconst d_MD_pageBars_2 rfl ?_
  refine A_istore_n 2 (L' := [some (av_R (some 170)), some (av_I 0), some (av_I 0)]) d_MD_pageBars_3 rfl (Nat.le_of_ble_eq_true rfl) rfl ?_
  have lp4 : ∀ (n : Nat) (i1 i2 : Int) , 0 ≤ i1 → i1 ≤ 101 → 0 ≤ i2 → i2 ≤ 4 → (5 - i2).toNat < n → aw G (rm_R 0 0 0) m_MD_pageBars 0 0 4 [some (av_R (some 170)), some (av_I i1), some (av_I i2)] [] h (fun r h' => ∃ z, r = some (av_I z) ∧ (0 ≤ z ∧ z ≤ 101) ∧ h = h') := by
    intro n
    induction n with
    | zero => intro i1 i2 _ _ _ _ hm; omega
    | succ n ih4 =>
      intro i1 i2 hl0 hl1 hl2 hl3 hm
      refine A_iload_n 2 d_MD_pageBars_4 rfl rfl ?_
      refine A_aload_n 0 d_MD_pageBars_5 rfl rfl ?_
      refine A_getAv (z := some 172) T_ok d_MD_pageBars_6 f_MD_17 (mi_s hx sf_170) (mi_r hx rfm_14) ?_
      refine A_iconst d_MD_pageBars_9 rfl ?_
      refine A_ialoadn (lo := 0) (hi := 4) d_MD_pageBars_10 (mi_s hx sf_172) (by decide) (by decide) (mi_g hx (by decide) (mr_172 _)) (fun x4 ex4 _ _ => ?_)
      replace ex4 : x4 = h.2.1 172 0 := ex4
      refine A_pc (pc' := 11) rfl ?_
      refine A_icmp_ge (tgt := 41) d_MD_pageBars_11 (by decide) (fun c5 => ?_) (fun c5 => ?_)
      · refine A_iload_n 1 d_MD_pageBars_41 rfl rfl ?_
        exact A_iret d_MD_pageBars_42 (by decide) rfl ⟨_, rfl, ⟨by omega, by omega⟩, rfl⟩
      · refine A_aload_n 0 d_MD_pageBars_14 rfl rfl ?_
        refine A_getAv (z := some 186) T_ok d_MD_pageBars_15 f_MD_60 (mi_s hx sf_170) (mi_r hx rfm_28) ?_
        refine A_iload_n 2 d_MD_pageBars_18 rfl rfl ?_
        refine A_ialoadn (lo := 0) (hi := 101) d_MD_pageBars_19 (mi_s hx sf_186) (by omega) (by omega) (mi_g hx (by decide) (mr_186 _)) (fun x7 ex7 _ _ => ?_)
        refine A_iload_n 1 d_MD_pageBars_20 rfl rfl ?_
        refine A_pc (pc' := 21) rfl ?_
        refine A_icmp_le (tgt := 33) d_MD_pageBars_21 (by decide) (fun c8 => ?_) (fun c8 => ?_)
        · refine A_iload_n 1 d_MD_pageBars_33 rfl rfl ?_
          refine A_istore_n 1 (L' := [some (av_R (some 170)), some (av_I i1), some (av_I i2)]) d_MD_pageBars_34 rfl (Nat.le_of_ble_eq_true rfl) rfl ?_
          refine A_iincv (z := (i2 + 1)) (L' := [some (av_R (some 170)), some (av_I i1), some (av_I (i2 + 1))]) d_MD_pageBars_35 rfl (w32_to (by omega) (by unfold i32; omega)) rfl ?_
          refine A_goto (tgt := 4) d_MD_pageBars_38 (by decide) ?_
          exact ih4 i1 (i2 + 1) (by omega) (by omega) (by omega) (by omega) (by omega)
        · refine A_aload_n 0 d_MD_pageBars_24 rfl rfl ?_
          refine A_getAv (z := some 186) T_ok d_MD_pageBars_25 f_MD_60 (mi_s hx sf_170) (mi_r hx rfm_28) ?_
          refine A_iload_n 2 d_MD_pageBars_28 rfl rfl ?_
          refine A_ialoadv (z := x7) d_MD_pageBars_29 (mi_s hx sf_186) (by omega) (by omega) ex7.symm ?_
          refine A_goto (tgt := 34) d_MD_pageBars_30 (by decide) ?_
          refine A_istore_n 1 (L' := [some (av_R (some 170)), some (av_I x7), some (av_I i2)]) d_MD_pageBars_34 rfl (Nat.le_of_ble_eq_true rfl) rfl ?_
          refine A_iincv (z := (i2 + 1)) (L' := [some (av_R (some 170)), some (av_I x7), some (av_I (i2 + 1))]) d_MD_pageBars_35 rfl (w32_to (by omega) (by unfold i32; omega)) rfl ?_
          refine A_goto (tgt := 4) d_MD_pageBars_38 (by decide) ?_
          exact ih4 x7 (i2 + 1) (by omega) (by omega) (by omega) (by omega) (by omega)
  exact lp4 _ 0 0 (by omega) (by omega) (by omega) (by omega) (Nat.lt_succ_self _)
theorem s_MD_told {G : cx_T} {h : ah_T} (hx : mi h) {a1 : Int}  : con G 1 0 0 m_MD_told [av_R (some 170), av_I a1] h (fun r h' => ∃ z, r = some (av_I z) ∧ ((-2147483648) ≤ z ∧ z ≤ 2147483647) ∧ h = h') := by
  refine con_of (L := [some (av_R (some 170)), some (av_I a1)]) (by decide +kernel) (Nat.le_of_ble_eq_true rfl) rfl ?_
  refine A_locI 1 rfl (fun ra => ?_)
  obtain ⟨_, _⟩ := ra
  refine A_iload_n 1 d_MD_told_0 rfl rfl ?_
  rcases (by omega : a1 < 0 ∨ a1 = 0 ∨ a1 = 1 ∨ a1 = 2 ∨ a1 = 3 ∨ a1 = 4 ∨ a1 = 5 ∨ a1 = 6 ∨ 6 < a1) with c1 | c1 | c1 | c1 | c1 | c1 | c1 | c1 | c1
  · refine A_tabOut (tgt := 117) d_MD_told_1 (by omega) (by decide) ?_
    refine A_iconst d_MD_told_117 rfl ?_
    exact A_iret d_MD_told_118 (by decide) rfl ⟨_, rfl, ⟨by omega, by omega⟩, rfl⟩
  · refine A_tabIn (tgt := 44) d_MD_told_1 (by omega) (by omega) (by rw [c1]; rfl) (by decide) ?_
    refine A_aload_n 0 d_MD_told_44 rfl rfl ?_
    refine A_getAv (z := some 172) T_ok d_MD_told_45 f_MD_17 (mi_s hx sf_170) (mi_r hx rfm_14) ?_
    refine A_iconst d_MD_told_48 rfl ?_
    refine A_ialoadn (lo := 0) (hi := 4) d_MD_told_49 (mi_s hx sf_172) (by decide) (by decide) (mi_g hx (by decide) (mr_172 _)) (fun x3 ex3 _ _ => ?_)
    replace ex3 : x3 = h.2.1 172 0 := ex3
    exact A_iret d_MD_told_50 (by decide) rfl ⟨_, rfl, ⟨by omega, by omega⟩, rfl⟩
  · refine A_tabIn (tgt := 51) d_MD_told_1 (by omega) (by omega) (by rw [c1]; rfl) (by decide) ?_
    refine A_aload_n 0 d_MD_told_51 rfl rfl ?_
    refine A_getAv (z := some 175) T_ok d_MD_told_52 f_MD_26 (mi_s hx sf_170) (mi_r hx rfm_17) ?_
    refine A_iconst d_MD_told_55 rfl ?_
    refine A_ialoadn (lo := 0) (hi := 8) d_MD_told_56 (mi_s hx sf_175) (by decide) (by decide) (mi_g hx (by decide) (mr_175 _)) (fun x5 ex5 _ _ => ?_)
    replace ex5 : x5 = h.2.1 175 0 := ex5
    exact A_iret d_MD_told_57 (by decide) rfl ⟨_, rfl, ⟨by omega, by omega⟩, rfl⟩
  · refine A_tabIn (tgt := 58) d_MD_told_1 (by omega) (by omega) (by rw [c1]; rfl) (by decide) ?_
    refine A_aload_n 0 d_MD_told_58 rfl rfl ?_
    refine A_getAv (z := some 177) T_ok d_MD_told_59 f_MD_32 (mi_s hx sf_170) (mi_r hx rfm_19) ?_
    refine A_iconst d_MD_told_62 rfl ?_
    refine A_ialoadn (lo := 0) (hi := 24) d_MD_told_63 (mi_s hx sf_177) (by decide) (by decide) (mi_g hx (by decide) (mr_177 _)) (fun x7 ex7 _ _ => ?_)
    replace ex7 : x7 = h.2.1 177 0 := ex7
    exact A_iret d_MD_told_64 (by decide) rfl ⟨_, rfl, ⟨by omega, by omega⟩, rfl⟩
  · refine A_tabIn (tgt := 65) d_MD_told_1 (by omega) (by omega) (by rw [c1]; rfl) (by decide) ?_
    refine A_aload_n 0 d_MD_told_65 rfl rfl ?_
    refine A_getAv (z := some 181) T_ok d_MD_told_66 f_MD_44 (mi_s hx sf_170) (mi_r hx rfm_23) ?_
    refine A_iconst d_MD_told_69 rfl ?_
    refine A_ialoadn (lo := 0) (hi := 12) d_MD_told_70 (mi_s hx sf_181) (by decide) (by decide) (mi_g hx (by decide) (mr_181 _)) (fun x9 ex9 _ _ => ?_)
    replace ex9 : x9 = h.2.1 181 0 := ex9
    exact A_iret d_MD_told_71 (by decide) rfl ⟨_, rfl, ⟨by omega, by omega⟩, rfl⟩
  · refine A_tabIn (tgt := 72) d_MD_told_1 (by omega) (by omega) (by rw [c1]; rfl) (by decide) ?_
    refine A_aload_n 0 d_MD_told_72 rfl rfl ?_
    refine A_callV0 m_MD_pageBars T_ok d_MD_told_73 l_MD_492 k_MD_pageBars (mi_s hx sf_170) rfl (by decide +kernel) (by decide) (Nat.le_of_ble_eq_true rfl) (s_MD_pageBars hx ) (fun r h10 hq => ?_)
    obtain ⟨x12, rfl, ⟨_, _⟩, rfl⟩ := hq
    exact A_iret d_MD_told_76 (by decide) rfl ⟨_, rfl, ⟨by omega, by omega⟩, rfl⟩
  · refine A_tabIn (tgt := 77) d_MD_told_1 (by omega) (by omega) (by rw [c1]; rfl) (by decide) ?_
    refine A_aload_n 0 d_MD_told_77 rfl rfl ?_
    refine A_getAv (z := some 173) T_ok d_MD_told_78 f_MD_20 (mi_s hx sf_170) (mi_r hx rfm_15) ?_
    refine A_iconst d_MD_told_81 rfl ?_
    refine A_ialoadn (lo := 0) (hi := 32) d_MD_told_82 (mi_s hx sf_173) (by decide) (by decide) (mi_g hx (by decide) (mr_173 _)) (fun x14 ex14 _ _ => ?_)
    replace ex14 : x14 = h.2.1 173 0 := ex14
    refine A_if_ne (tgt := 90) d_MD_told_83 (by decide) (fun c15 => ?_) (fun c15 => ?_)
    · refine A_aload_n 0 d_MD_told_90 rfl rfl ?_
      refine A_getAv (z := some 173) T_ok d_MD_told_91 f_MD_20 (mi_s hx sf_170) (mi_r hx rfm_15) ?_
      refine A_iconst d_MD_told_94 rfl ?_
      refine A_ialoadv (z := x14) d_MD_told_95 (mi_s hx sf_173) (by decide) (by decide) ex14.symm ?_
      exact A_iret d_MD_told_96 (by decide) rfl ⟨_, rfl, ⟨by omega, by omega⟩, rfl⟩
    · refine A_iconst d_MD_told_86 rfl ?_
      refine A_goto (tgt := 96) d_MD_told_87 (by decide) ?_
      exact A_iret d_MD_told_96 (by decide) rfl ⟨_, rfl, ⟨by omega, by omega⟩, rfl⟩
  · refine A_tabIn (tgt := 97) d_MD_told_1 (by omega) (by omega) (by rw [c1]; rfl) (by decide) ?_
    refine A_aload_n 0 d_MD_told_97 rfl rfl ?_
    refine A_getAv (z := some 174) T_ok d_MD_told_98 f_MD_23 (mi_s hx sf_170) (mi_r hx rfm_16) ?_
    refine A_iconst d_MD_told_101 rfl ?_
    refine A_ialoadn (lo := 0) (hi := 32) d_MD_told_102 (mi_s hx sf_174) (by decide) (by decide) (mi_g hx (by decide) (mr_174 _)) (fun x19 ex19 _ _ => ?_)
    replace ex19 : x19 = h.2.1 174 0 := ex19
    refine A_if_ne (tgt := 110) d_MD_told_103 (by decide) (fun c20 => ?_) (fun c20 => ?_)
    · refine A_aload_n 0 d_MD_told_110 rfl rfl ?_
      refine A_getAv (z := some 174) T_ok d_MD_told_111 f_MD_23 (mi_s hx sf_170) (mi_r hx rfm_16) ?_
      refine A_iconst d_MD_told_114 rfl ?_
      refine A_ialoadv (z := x19) d_MD_told_115 (mi_s hx sf_174) (by decide) (by decide) ex19.symm ?_
      exact A_iret d_MD_told_116 (by decide) rfl ⟨_, rfl, ⟨by omega, by omega⟩, rfl⟩
    · refine A_iconst d_MD_told_106 rfl ?_
      refine A_goto (tgt := 116) d_MD_told_107 (by decide) ?_
      exact A_iret d_MD_told_116 (by decide) rfl ⟨_, rfl, ⟨by omega, by omega⟩, rfl⟩
  · refine A_tabOut (tgt := 117) d_MD_told_1 (by omega) (by decide) ?_
    refine A_iconst d_MD_told_117 rfl ?_
    exact A_iret d_MD_told_118 (by decide) rfl ⟨_, rfl, ⟨by omega, by omega⟩, rfl⟩
theorem s_MD_isVoice {G : cx_T} {h : ah_T} (hx : mi h) {a1 : Int}  : con G 0 0 0 m_MD_isVoice [av_R (some 170), av_I a1] h (fun r h' => ∃ z, r = some (av_I z) ∧ (z = 0 ∨ z = 1) ∧ (z = 1 → 0 ≤ a1 ∧ a1 < h.2.1 172 0 ∧ h.2.1 172 0 ≤ 4) ∧ h = h') := by
  refine con_of (L := [some (av_R (some 170)), some (av_I a1)]) (by decide +kernel) (Nat.le_of_ble_eq_true rfl) rfl ?_
  refine A_locI 1 rfl (fun ra => ?_)
  obtain ⟨_, _⟩ := ra
  refine A_iload_n 1 d_MD_isVoice_0 rfl rfl ?_
  refine A_if_lt (tgt := 18) d_MD_isVoice_1 (by decide) (fun c1 => ?_) (fun c1 => ?_)
  · refine A_iconst d_MD_isVoice_18 rfl ?_
    exact A_zret d_MD_isVoice_19 (by decide) rfl (by omega) ⟨_, rfl, by omega, (fun _ => by omega), rfl⟩
  · refine A_iload_n 1 d_MD_isVoice_4 rfl rfl ?_
    refine A_aload_n 0 d_MD_isVoice_5 rfl rfl ?_
    refine A_getAv (z := some 172) T_ok d_MD_isVoice_6 f_MD_17 (mi_s hx sf_170) (mi_r hx rfm_14) ?_
    refine A_iconst d_MD_isVoice_9 rfl ?_
    refine A_ialoadn (lo := 0) (hi := 4) d_MD_isVoice_10 (mi_s hx sf_172) (by decide) (by decide) (mi_g hx (by decide) (mr_172 _)) (fun x3 ex3 _ _ => ?_)
    replace ex3 : x3 = h.2.1 172 0 := ex3
    refine A_pc (pc' := 11) rfl ?_
    refine A_icmp_ge (tgt := 18) d_MD_isVoice_11 (by decide) (fun c4 => ?_) (fun c4 => ?_)
    · refine A_iconst d_MD_isVoice_18 rfl ?_
      exact A_zret d_MD_isVoice_19 (by decide) rfl (by omega) ⟨_, rfl, by omega, (fun _ => by have qq0 := ex3.symm; omega), rfl⟩
    · refine A_iconst d_MD_isVoice_14 rfl ?_
      refine A_goto (tgt := 19) d_MD_isVoice_15 (by decide) ?_
      exact A_zret d_MD_isVoice_19 (by decide) rfl (by omega) ⟨_, rfl, by omega, (fun _ => by have qq0 := ex3.symm; omega), rfl⟩
theorem s_MD_count {G : cx_T} {h : ah_T} (hx : mi h) {a1 : Int} {a2 : Int}  : con G 1 0 0 m_MD_count [av_R (some 170), av_I a1, av_I a2] h (fun r h' => ∃ z, r = some (av_I z) ∧ ((-2147483648) ≤ z ∧ z ≤ 2147483647) ∧ h = h') := by
  refine con_of (L := [some (av_R (some 170)), some (av_I a1), some (av_I a2)]) (by decide +kernel) (Nat.le_of_ble_eq_true rfl) rfl ?_
  refine A_locI 1 rfl (fun ra => ?_)
  obtain ⟨_, _⟩ := ra
  refine A_locI 2 rfl (fun ra => ?_)
  obtain ⟨_, _⟩ := ra
  refine A_aload_n 0 d_MD_count_0 rfl rfl ?_
  refine A_iload_n 1 d_MD_count_1 rfl rfl ?_
  refine A_callV1 m_MD_isVoice T_ok d_MD_count_2 l_MD_495 k_MD_isVoice (mi_s hx sf_170) rfl (by decide +kernel) (by decide) (Nat.le_of_ble_eq_true rfl) (s_MD_isVoice hx ) (fun r h1 hq => ?_)
  obtain ⟨x3, rfl, bx3, xx3, rfl⟩ := hq
  refine A_if_eq (tgt := 17) d_MD_count_5 (by decide) (fun c4 => ?_) (fun c4 => ?_)
  · refine A_iconst d_MD_count_17 rfl ?_
    exact A_iret d_MD_count_18 (by decide) rfl ⟨_, rfl, ⟨by omega, by omega⟩, rfl⟩
  · refine A_iload_n 2 d_MD_count_8 rfl rfl ?_
    refine A_if_lt (tgt := 17) d_MD_count_9 (by decide) (fun c5 => ?_) (fun c5 => ?_)
    · refine A_iconst d_MD_count_17 rfl ?_
      exact A_iret d_MD_count_18 (by decide) rfl ⟨_, rfl, ⟨by omega, by omega⟩, rfl⟩
    · refine A_iload_n 2 d_MD_count_12 rfl rfl ?_
      refine A_iconst d_MD_count_13 rfl ?_
      refine A_icmp_le (tgt := 19) d_MD_count_14 (by decide) (fun c6 => ?_) (fun c6 => ?_)
      · refine A_iload_n 2 d_MD_count_19 rfl rfl ?_
        refine A_if_ne (tgt := 32) d_MD_count_20 (by decide) (fun c7 => ?_) (fun c7 => ?_)
        · refine A_aload_n 0 d_MD_count_32 rfl rfl ?_
          refine A_getAv (z := some 186) T_ok d_MD_count_33 f_MD_60 (mi_s hx sf_170) (mi_r hx rfm_28) ?_
          refine A_iload_n 1 d_MD_count_36 rfl rfl ?_
          refine A_ialoadn (lo := 0) (hi := 101) d_MD_count_37 (mi_s hx sf_186) (by omega) (by omega) (mi_g hx (by decide) (mr_186 _)) (fun x9 ex9 _ _ => ?_)
          exact A_iret d_MD_count_38 (by decide) rfl ⟨_, rfl, ⟨by omega, by omega⟩, rfl⟩
        · refine A_aload_n 0 d_MD_count_23 rfl rfl ?_
          refine A_getAv (z := some 185) T_ok d_MD_count_24 f_MD_57 (mi_s hx sf_170) (mi_r hx rfm_27) ?_
          refine A_iload_n 1 d_MD_count_27 rfl rfl ?_
          refine A_ialoadn (lo := 0) (hi := 300) d_MD_count_28 (mi_s hx sf_185) (by omega) (by omega) (mi_g hx (by decide) (mr_185 _)) (fun x11 ex11 _ _ => ?_)
          refine A_goto (tgt := 38) d_MD_count_29 (by decide) ?_
          exact A_iret d_MD_count_38 (by decide) rfl ⟨_, rfl, ⟨by omega, by omega⟩, rfl⟩
      · refine A_iconst d_MD_count_17 rfl ?_
        exact A_iret d_MD_count_18 (by decide) rfl ⟨_, rfl, ⟨by omega, by omega⟩, rfl⟩
theorem s_MD_event_IIIJ {G : cx_T} {h : ah_T} (hx : mi h) {a1 : Int} {a2 : Int} {a3 : Int}  : con G 1 0 0 m_MD_event_IIIJ [av_R (some 170), av_I a1, av_I a2, av_I a3] h (fun r h' => ∃ z, r = some (av_L z) ∧ ((-9223372036854775808) ≤ z ∧ z ≤ 9223372036854775807) ∧ h = h') := by
  refine con_of (L := [some (av_R (some 170)), some (av_I a1), some (av_I a2), some (av_I a3), none]) (by decide +kernel) (Nat.le_of_ble_eq_true rfl) rfl ?_
  refine A_locI 1 rfl (fun ra => ?_)
  obtain ⟨_, _⟩ := ra
  refine A_locI 2 rfl (fun ra => ?_)
  obtain ⟨_, _⟩ := ra
  refine A_locI 3 rfl (fun ra => ?_)
  obtain ⟨_, _⟩ := ra
  refine A_aload_n 0 d_MD_event_IIIJ_0 rfl rfl ?_
  refine A_iload_n 1 d_MD_event_IIIJ_1 rfl rfl ?_
  refine A_callV1 m_MD_isVoice T_ok d_MD_event_IIIJ_2 l_MD_495 k_MD_isVoice (mi_s hx sf_170) rfl (by decide +kernel) (by decide) (Nat.le_of_ble_eq_true rfl) (s_MD_isVoice hx ) (fun r h1 hq => ?_)
  obtain ⟨x3, rfl, bx3, xx3, rfl⟩ := hq
  refine A_if_eq (tgt := 22) d_MD_event_IIIJ_5 (by decide) (fun c4 => ?_) (fun c4 => ?_)
  · refine A_ldc2 (z := 10000) d_MD_event_IIIJ_22 cst_MD_498 rfl ?_
    exact A_lret d_MD_event_IIIJ_25 (by decide) rfl ⟨_, rfl, ⟨by omega, by omega⟩, rfl⟩
  · refine A_iload_n 2 d_MD_event_IIIJ_8 rfl rfl ?_
    refine A_if_lt (tgt := 22) d_MD_event_IIIJ_9 (by decide) (fun c5 => ?_) (fun c5 => ?_)
    · refine A_ldc2 (z := 10000) d_MD_event_IIIJ_22 cst_MD_498 rfl ?_
      exact A_lret d_MD_event_IIIJ_25 (by decide) rfl ⟨_, rfl, ⟨by omega, by omega⟩, rfl⟩
    · refine A_iload_n 2 d_MD_event_IIIJ_12 rfl rfl ?_
      refine A_aload_n 0 d_MD_event_IIIJ_13 rfl rfl ?_
      refine A_getAv (z := some 185) T_ok d_MD_event_IIIJ_14 f_MD_57 (mi_s hx sf_170) (mi_r hx rfm_27) ?_
      refine A_iload_n 1 d_MD_event_IIIJ_17 rfl rfl ?_
      refine A_ialoadn (lo := 0) (hi := 300) d_MD_event_IIIJ_18 (mi_s hx sf_185) (by omega) (by omega) (mi_g hx (by decide) (mr_185 _)) (fun x7 ex7 _ _ => ?_)
      refine A_pc (pc' := 19) rfl ?_
      refine A_icmp_lt (tgt := 26) d_MD_event_IIIJ_19 (by decide) (fun c8 => ?_) (fun c8 => ?_)
      · refine A_sipush d_MD_event_IIIJ_26 rfl ?_
        refine A_iload_n 1 d_MD_event_IIIJ_29 rfl rfl ?_
        refine A_imulv (z := (300 * a1)) d_MD_event_IIIJ_30 (w32_to (by omega) (by unfold i32; omega)) ?_
        refine A_iload_n 2 d_MD_event_IIIJ_31 rfl rfl ?_
        refine A_iaddv (z := (300 * a1 + a2)) d_MD_event_IIIJ_32 (w32_to (by omega) (by unfold i32; omega)) ?_
        refine A_pc (pc' := 33) rfl ?_
        refine A_istore (L' := [some (av_R (some 170)), some (av_I a1), some (av_I a2), some (av_I a3), some (av_I (300 * a1 + a2))]) d_MD_event_IIIJ_33 (Nat.le_of_ble_eq_true rfl) rfl ?_
        refine A_iload_n 3 d_MD_event_IIIJ_35 rfl rfl ?_
        rcases (by omega : a3 < 0 ∨ a3 = 0 ∨ a3 = 1 ∨ a3 = 2 ∨ a3 = 3 ∨ a3 = 4 ∨ a3 = 5 ∨ a3 = 6 ∨ a3 = 7 ∨ a3 = 8 ∨ 8 < a3) with c9 | c9 | c9 | c9 | c9 | c9 | c9 | c9 | c9 | c9 | c9
        · refine A_tabOut (tgt := 172) d_MD_event_IIIJ_36 (by omega) (by decide) ?_
          refine A_iload_n 3 d_MD_event_IIIJ_172 rfl rfl ?_
          refine A_bipush d_MD_event_IIIJ_173 rfl ?_
          refine A_icmp_lt (tgt := 208) d_MD_event_IIIJ_175 (by decide) (fun c10 => ?_) (fun c => False.elim (by omega))
          refine A_iload_n 3 d_MD_event_IIIJ_208 rfl rfl ?_
          refine A_bipush d_MD_event_IIIJ_209 rfl ?_
          refine A_icmp_lt (tgt := 246) d_MD_event_IIIJ_211 (by decide) (fun c11 => ?_) (fun c => False.elim (by omega))
          refine A_ldc2 (z := 10000) d_MD_event_IIIJ_246 cst_MD_498 rfl ?_
          exact A_lret d_MD_event_IIIJ_249 (by decide) rfl ⟨_, rfl, ⟨by omega, by omega⟩, rfl⟩
        · refine A_tabIn (tgt := 88) d_MD_event_IIIJ_36 (by omega) (by omega) (by rw [c9]; rfl) (by decide) ?_
          refine A_aload_n 0 d_MD_event_IIIJ_88 rfl rfl ?_
          refine A_getAv (z := some 187) T_ok d_MD_event_IIIJ_89 f_MD_63 (mi_s hx sf_170) (mi_r hx rfm_29) ?_
          refine A_iload d_MD_event_IIIJ_92 rfl ?_
          refine A_laloadn (lo := 0) (hi := 2000000000000000) d_MD_event_IIIJ_94 (mi_s hx sf_187) (by omega) (by omega) (mi_l hx (by decide) (mq_187 _)) (fun x13 ex13 _ _ => ?_)
          exact A_lret d_MD_event_IIIJ_95 (by decide) rfl ⟨_, rfl, ⟨by omega, by omega⟩, rfl⟩
        · refine A_tabIn (tgt := 96) d_MD_event_IIIJ_36 (by omega) (by omega) (by rw [c9]; rfl) (by decide) ?_
          refine A_aload_n 0 d_MD_event_IIIJ_96 rfl rfl ?_
          refine A_getAv (z := some 188) T_ok d_MD_event_IIIJ_97 f_MD_66 (mi_s hx sf_170) (mi_r hx rfm_30) ?_
          refine A_iload d_MD_event_IIIJ_100 rfl ?_
          refine A_laloadn (lo := 0) (hi := 1000000000000) d_MD_event_IIIJ_102 (mi_s hx sf_188) (by omega) (by omega) (mi_l hx (by decide) (mq_188 _)) (fun x15 ex15 _ _ => ?_)
          exact A_lret d_MD_event_IIIJ_103 (by decide) rfl ⟨_, rfl, ⟨by omega, by omega⟩, rfl⟩
        · refine A_tabIn (tgt := 104) d_MD_event_IIIJ_36 (by omega) (by omega) (by rw [c9]; rfl) (by decide) ?_
          refine A_aload_n 0 d_MD_event_IIIJ_104 rfl rfl ?_
          refine A_getAv (z := some 189) T_ok d_MD_event_IIIJ_105 f_MD_69 (mi_s hx sf_170) (mi_r hx rfm_31) ?_
          refine A_iload d_MD_event_IIIJ_108 rfl ?_
          refine A_laloadn (lo := 0) (hi := 4294967296) d_MD_event_IIIJ_110 (mi_s hx sf_189) (by omega) (by omega) (mi_l hx (by decide) (mq_189 _)) (fun x17 ex17 _ _ => ?_)
          exact A_lret d_MD_event_IIIJ_111 (by decide) rfl ⟨_, rfl, ⟨by omega, by omega⟩, rfl⟩
        · refine A_tabIn (tgt := 112) d_MD_event_IIIJ_36 (by omega) (by omega) (by rw [c9]; rfl) (by decide) ?_
          refine A_aload_n 0 d_MD_event_IIIJ_112 rfl rfl ?_
          refine A_getAv (z := some 190) T_ok d_MD_event_IIIJ_113 f_MD_72 (mi_s hx sf_170) (mi_r hx rfm_32) ?_
          refine A_iload d_MD_event_IIIJ_116 rfl ?_
          refine A_laloadn (lo := 0) (hi := 137438953472) d_MD_event_IIIJ_118 (mi_s hx sf_190) (by omega) (by omega) (mi_l hx (by decide) (mq_190 _)) (fun x19 ex19 _ _ => ?_)
          exact A_lret d_MD_event_IIIJ_119 (by decide) rfl ⟨_, rfl, ⟨by omega, by omega⟩, rfl⟩
        · refine A_tabIn (tgt := 120) d_MD_event_IIIJ_36 (by omega) (by omega) (by rw [c9]; rfl) (by decide) ?_
          refine A_aload_n 0 d_MD_event_IIIJ_120 rfl rfl ?_
          refine A_getAv (z := some 191) T_ok d_MD_event_IIIJ_121 f_MD_75 (mi_s hx sf_170) (mi_r hx rfm_33) ?_
          refine A_iload d_MD_event_IIIJ_124 rfl ?_
          refine A_ialoadn (lo := 0) (hi := 4) d_MD_event_IIIJ_126 (mi_s hx sf_191) (by omega) (by omega) (mi_g hx (by decide) (mr_191 _)) (fun x21 ex21 _ _ => ?_)
          refine A_i2l d_MD_event_IIIJ_127 ?_
          refine A_pc (pc' := 128) rfl ?_
          exact A_lret d_MD_event_IIIJ_128 (by decide) rfl ⟨_, rfl, ⟨by omega, by omega⟩, rfl⟩
        · refine A_tabIn (tgt := 129) d_MD_event_IIIJ_36 (by omega) (by omega) (by rw [c9]; rfl) (by decide) ?_
          refine A_aload_n 0 d_MD_event_IIIJ_129 rfl rfl ?_
          refine A_getAv (z := some 195) T_ok d_MD_event_IIIJ_130 f_MD_87 (mi_s hx sf_170) (mi_r hx rfm_37) ?_
          refine A_iload d_MD_event_IIIJ_133 rfl ?_
          refine A_zaloadn d_MD_event_IIIJ_135 (mi_s hx sf_195) (by omega) (by omega) (fun x23 ex23 bx23 => ?_)
          refine A_if_eq (tgt := 143) d_MD_event_IIIJ_136 (by decide) (fun c24 => ?_) (fun c24 => ?_)
          · refine A_lconst_0 d_MD_event_IIIJ_143 ?_
            exact A_lret d_MD_event_IIIJ_144 (by decide) rfl ⟨_, rfl, ⟨by omega, by omega⟩, rfl⟩
          · refine A_lconst_1 d_MD_event_IIIJ_139 ?_
            refine A_goto (tgt := 144) d_MD_event_IIIJ_140 (by decide) ?_
            exact A_lret d_MD_event_IIIJ_144 (by decide) rfl ⟨_, rfl, ⟨by omega, by omega⟩, rfl⟩
        · refine A_tabIn (tgt := 145) d_MD_event_IIIJ_36 (by omega) (by omega) (by rw [c9]; rfl) (by decide) ?_
          refine A_aload_n 0 d_MD_event_IIIJ_145 rfl rfl ?_
          refine A_getAv (z := some 196) T_ok d_MD_event_IIIJ_146 f_MD_91 (mi_s hx sf_170) (mi_r hx rfm_38) ?_
          refine A_iload d_MD_event_IIIJ_149 rfl ?_
          refine A_ialoadn (lo := 0) (hi := 101) d_MD_event_IIIJ_151 (mi_s hx sf_196) (by omega) (by omega) (mi_g hx (by decide) (mr_196 _)) (fun x26 ex26 _ _ => ?_)
          refine A_i2l d_MD_event_IIIJ_152 ?_
          refine A_pc (pc' := 153) rfl ?_
          exact A_lret d_MD_event_IIIJ_153 (by decide) rfl ⟨_, rfl, ⟨by omega, by omega⟩, rfl⟩
        · refine A_tabIn (tgt := 154) d_MD_event_IIIJ_36 (by omega) (by omega) (by rw [c9]; rfl) (by decide) ?_
          refine A_aload_n 0 d_MD_event_IIIJ_154 rfl rfl ?_
          refine A_getAv (z := some 197) T_ok d_MD_event_IIIJ_155 f_MD_94 (mi_s hx sf_170) (mi_r hx rfm_39) ?_
          refine A_iload d_MD_event_IIIJ_158 rfl ?_
          refine A_ialoadn (lo := 0) (hi := 64) d_MD_event_IIIJ_160 (mi_s hx sf_197) (by omega) (by omega) (mi_g hx (by decide) (mr_197 _)) (fun x28 ex28 _ _ => ?_)
          refine A_i2l d_MD_event_IIIJ_161 ?_
          refine A_pc (pc' := 162) rfl ?_
          exact A_lret d_MD_event_IIIJ_162 (by decide) rfl ⟨_, rfl, ⟨by omega, by omega⟩, rfl⟩
        · refine A_tabIn (tgt := 163) d_MD_event_IIIJ_36 (by omega) (by omega) (by rw [c9]; rfl) (by decide) ?_
          refine A_aload_n 0 d_MD_event_IIIJ_163 rfl rfl ?_
          refine A_getAv (z := some 198) T_ok d_MD_event_IIIJ_164 f_MD_97 (mi_s hx sf_170) (mi_r hx rfm_40) ?_
          refine A_iload d_MD_event_IIIJ_167 rfl ?_
          refine A_ialoadn (lo := 0) (hi := 3) d_MD_event_IIIJ_169 (mi_s hx sf_198) (by omega) (by omega) (mi_g hx (by decide) (mr_198 _)) (fun x30 ex30 _ _ => ?_)
          refine A_i2l d_MD_event_IIIJ_170 ?_
          refine A_pc (pc' := 171) rfl ?_
          exact A_lret d_MD_event_IIIJ_171 (by decide) rfl ⟨_, rfl, ⟨by omega, by omega⟩, rfl⟩
        · refine A_tabOut (tgt := 172) d_MD_event_IIIJ_36 (by omega) (by decide) ?_
          refine A_iload_n 3 d_MD_event_IIIJ_172 rfl rfl ?_
          refine A_bipush d_MD_event_IIIJ_173 rfl ?_
          refine A_icmp_lt (tgt := 208) d_MD_event_IIIJ_175 (by decide) (fun c31 => ?_) (fun c31 => ?_)
          · refine A_iload_n 3 d_MD_event_IIIJ_208 rfl rfl ?_
            refine A_bipush d_MD_event_IIIJ_209 rfl ?_
            refine A_icmp_lt (tgt := 246) d_MD_event_IIIJ_211 (by decide) (fun c32 => ?_) (fun c => False.elim (by omega))
            refine A_ldc2 (z := 10000) d_MD_event_IIIJ_246 cst_MD_498 rfl ?_
            exact A_lret d_MD_event_IIIJ_249 (by decide) rfl ⟨_, rfl, ⟨by omega, by omega⟩, rfl⟩
          · refine A_iload_n 3 d_MD_event_IIIJ_178 rfl rfl ?_
            refine A_bipush d_MD_event_IIIJ_179 rfl ?_
            refine A_aload_n 0 d_MD_event_IIIJ_181 rfl rfl ?_
            refine A_getAv (z := some 191) T_ok d_MD_event_IIIJ_182 f_MD_75 (mi_s hx sf_170) (mi_r hx rfm_33) ?_
            refine A_iload d_MD_event_IIIJ_185 rfl ?_
            refine A_pc (pc' := 187) rfl ?_
            refine A_ialoadn (lo := 0) (hi := 4) d_MD_event_IIIJ_187 (mi_s hx sf_191) (by omega) (by omega) (mi_g hx (by decide) (mr_191 _)) (fun x34 ex34 _ _ => ?_)
            refine A_iaddv (z := (x34 + 10)) d_MD_event_IIIJ_188 (w32_to (by omega) (by unfold i32; omega)) ?_
            refine A_icmp_ge (tgt := 208) d_MD_event_IIIJ_189 (by decide) (fun c35 => ?_) (fun c35 => ?_)
            · refine A_iload_n 3 d_MD_event_IIIJ_208 rfl rfl ?_
              refine A_bipush d_MD_event_IIIJ_209 rfl ?_
              refine A_icmp_lt (tgt := 246) d_MD_event_IIIJ_211 (by decide) (fun c36 => ?_) (fun c36 => ?_)
              · refine A_ldc2 (z := 10000) d_MD_event_IIIJ_246 cst_MD_498 rfl ?_
                exact A_lret d_MD_event_IIIJ_249 (by decide) rfl ⟨_, rfl, ⟨by omega, by omega⟩, rfl⟩
              · refine A_iload_n 3 d_MD_event_IIIJ_214 rfl rfl ?_
                refine A_bipush d_MD_event_IIIJ_215 rfl ?_
                refine A_aload_n 0 d_MD_event_IIIJ_217 rfl rfl ?_
                refine A_getAv (z := some 191) T_ok d_MD_event_IIIJ_218 f_MD_75 (mi_s hx sf_170) (mi_r hx rfm_33) ?_
                refine A_iload d_MD_event_IIIJ_221 rfl ?_
                refine A_pc (pc' := 223) rfl ?_
                refine A_ialoadv (z := x34) d_MD_event_IIIJ_223 (mi_s hx sf_191) (by omega) (by omega) ex34.symm ?_
                refine A_iaddv (z := (x34 + 20)) d_MD_event_IIIJ_224 (w32_to (by omega) (by unfold i32; omega)) ?_
                refine A_icmp_ge (tgt := 246) d_MD_event_IIIJ_225 (by decide) (fun c39 => ?_) (fun c39 => ?_)
                · refine A_ldc2 (z := 10000) d_MD_event_IIIJ_246 cst_MD_498 rfl ?_
                  exact A_lret d_MD_event_IIIJ_249 (by decide) rfl ⟨_, rfl, ⟨by omega, by omega⟩, rfl⟩
                · refine A_aload_n 0 d_MD_event_IIIJ_228 rfl rfl ?_
                  refine A_getAv (z := some 193) T_ok d_MD_event_IIIJ_229 f_MD_81 (mi_s hx sf_170) (mi_r hx rfm_35) ?_
                  refine A_iconst d_MD_event_IIIJ_232 rfl ?_
                  refine A_iload d_MD_event_IIIJ_233 rfl ?_
                  refine A_imulv (z := (1200 * a1 + 4 * a2)) d_MD_event_IIIJ_235 (w32_to (by omega) (by unfold i32; omega)) ?_
                  refine A_pc (pc' := 236) rfl ?_
                  refine A_iload_n 3 d_MD_event_IIIJ_236 rfl rfl ?_
                  refine A_iaddv (z := (1200 * a1 + 4 * a2 + a3)) d_MD_event_IIIJ_237 (w32_to (by omega) (by unfold i32; omega)) ?_
                  refine A_bipush d_MD_event_IIIJ_238 rfl ?_
                  refine A_isubv (z := (1200 * a1 + 4 * a2 + a3 - 20)) d_MD_event_IIIJ_240 (w32_to (by omega) (by unfold i32; omega)) ?_
                  refine A_ialoadn (lo := 0) (hi := 62) d_MD_event_IIIJ_241 (mi_s hx sf_193) (by omega) (by omega) (mi_g hx (by decide) (mr_193 _)) (fun x41 ex41 _ _ => ?_)
                  refine A_i2l d_MD_event_IIIJ_242 ?_
                  refine A_pc (pc' := 243) rfl ?_
                  refine A_goto (tgt := 249) d_MD_event_IIIJ_243 (by decide) ?_
                  exact A_lret d_MD_event_IIIJ_249 (by decide) rfl ⟨_, rfl, ⟨by omega, by omega⟩, rfl⟩
            · refine A_aload_n 0 d_MD_event_IIIJ_192 rfl rfl ?_
              refine A_getAv (z := some 192) T_ok d_MD_event_IIIJ_193 f_MD_78 (mi_s hx sf_170) (mi_r hx rfm_34) ?_
              refine A_iconst d_MD_event_IIIJ_196 rfl ?_
              refine A_iload d_MD_event_IIIJ_197 rfl ?_
              refine A_imulv (z := (1200 * a1 + 4 * a2)) d_MD_event_IIIJ_199 (w32_to (by omega) (by unfold i32; omega)) ?_
              refine A_pc (pc' := 200) rfl ?_
              refine A_iload_n 3 d_MD_event_IIIJ_200 rfl rfl ?_
              refine A_iaddv (z := (1200 * a1 + 4 * a2 + a3)) d_MD_event_IIIJ_201 (w32_to (by omega) (by unfold i32; omega)) ?_
              refine A_bipush d_MD_event_IIIJ_202 rfl ?_
              refine A_isubv (z := (1200 * a1 + 4 * a2 + a3 - 10)) d_MD_event_IIIJ_204 (w32_to (by omega) (by unfold i32; omega)) ?_
              refine A_ialoadn (lo := (-2)) (hi := 109) d_MD_event_IIIJ_205 (mi_s hx sf_192) (by omega) (by omega) (mi_g hx (by decide) (mr_192 _)) (fun x43 ex43 _ _ => ?_)
              refine A_i2l d_MD_event_IIIJ_206 ?_
              refine A_pc (pc' := 207) rfl ?_
              exact A_lret d_MD_event_IIIJ_207 (by decide) rfl ⟨_, rfl, ⟨by omega, by omega⟩, rfl⟩
      · refine A_ldc2 (z := 10000) d_MD_event_IIIJ_22 cst_MD_498 rfl ?_
        exact A_lret d_MD_event_IIIJ_25 (by decide) rfl ⟨_, rfl, ⟨by omega, by omega⟩, rfl⟩
theorem s_MD_tell {G : cx_T} {h : ah_T} (hx : mi h) {a1 : Int} {a2 : Int} {a3 : Int} {a4 : Int} (hft : h.2.1 170 80 ≤ 1000000000) : con G 0 0 0 m_MD_tell [av_R (some 170), av_I a1, av_I a2, av_I a3, av_I a4] h (fun r h' => r = none ∧ (h'.2.1 170 80 = h.2.1 170 80 + 1) ∧ kM (pm [80] [221, 222, 223, 224]) h h') := by
  refine con_of (L := [some (av_R (some 170)), some (av_I a1), some (av_I a2), some (av_I a3), some (av_I a4)]) (by decide +kernel) (Nat.le_of_ble_eq_true rfl) rfl ?_
  have k0 : kM (pm [80] [221, 222, 223, 224]) h h := kM_0 hx
  obtain ⟨sd1, esd1⟩ : ∃ x, x = h.2.1 170 80 := ⟨_, rfl⟩
  have rsd1 : 0 ≤ sd1 ∧ sd1 ≤ 2000000000 := (by rw [esd1]; exact mi_g k0.1 (by decide) mr_170_80)
  refine A_locI 1 rfl (fun ra => ?_)
  obtain ⟨_, _⟩ := ra
  refine A_locI 2 rfl (fun ra => ?_)
  obtain ⟨_, _⟩ := ra
  refine A_locI 3 rfl (fun ra => ?_)
  obtain ⟨_, _⟩ := ra
  refine A_locI 4 rfl (fun ra => ?_)
  obtain ⟨_, _⟩ := ra
  refine A_aload_n 0 d_MD_tell_0 rfl rfl ?_
  refine A_getIv (z := sd1) T_ok d_MD_tell_1 f_MD_471 (mi_s k0.1 sf_170) esd1.symm ?_
  refine A_sipush d_MD_tell_4 rfl ?_
  refine A_icmp_ge (tgt := 51) d_MD_tell_7 (by decide) (fun c3 => ?_) (fun c3 => ?_)
  · refine A_aload_n 0 d_MD_tell_51 rfl rfl ?_
    refine A_dupR d_MD_tell_52 ?_
    refine A_getIv (z := sd1) T_ok d_MD_tell_53 f_MD_471 (mi_s k0.1 sf_170) esd1.symm ?_
    refine A_iconst d_MD_tell_56 rfl ?_
    refine A_iaddv (z := (sd1 + 1)) d_MD_tell_57 (w32_to (by omega) (by unfold i32; omega)) ?_
    refine A_pc (pc' := 58) rfl ?_
    refine A_putIk (KR := kM (pm [80] [221, 222, 223, 224]) h) T_ok d_MD_tell_58 f_MD_471 (mi_s k0.1 sf_170) fin_f (kM_i k0 (by decide) (by decide) mr_170_80 (by omega) (by omega)) (fun h5 k6 eh5 => ?_)
    exact A_vret d_MD_tell_61 (by decide) rfl ⟨rfl, (by have qq0 := eh5.2.1; omega), k6⟩
  · refine A_aload_n 0 d_MD_tell_10 rfl rfl ?_
    refine A_getAv (z := some 221) T_ok d_MD_tell_11 f_MD_166 (mi_s k0.1 sf_170) (mi_r k0.1 rfm_81) ?_
    refine A_aload_n 0 d_MD_tell_14 rfl rfl ?_
    refine A_getIv (z := sd1) T_ok d_MD_tell_15 f_MD_471 (mi_s k0.1 sf_170) esd1.symm ?_
    refine A_iload_n 1 d_MD_tell_18 rfl rfl ?_
    refine A_pc (pc' := 19) rfl ?_
    refine A_iastorek (KR := kM (pm [80] [221, 222, 223, 224]) h) d_MD_tell_19 (mi_s k0.1 sf_221) (by omega) (by omega) (kM_i k0 (by decide) rfl (mr_221 _) (by omega) (by omega)) (fun h9 k10 eh9 => ?_)
    refine A_aload_n 0 d_MD_tell_20 rfl rfl ?_
    refine A_getAv (z := some 222) T_ok d_MD_tell_21 f_MD_169 (mi_s k10.1 sf_170) (mi_r k10.1 rfm_82) ?_
    refine A_aload_n 0 d_MD_tell_24 rfl rfl ?_
    refine A_getIv (z := sd1) T_ok d_MD_tell_25 f_MD_471 (mi_s k10.1 sf_170) ((eh9.1 _ _ (fun q => absurd q (by decide))).trans esd1.symm) ?_
    refine A_iload_n 2 d_MD_tell_28 rfl rfl ?_
    refine A_pc (pc' := 29) rfl ?_
    refine A_iastorek (KR := kM (pm [80] [221, 222, 223, 224]) h) d_MD_tell_29 (mi_s k10.1 sf_222) (by omega) (by omega) (kM_i k10 (by decide) rfl (mr_222 _) (by omega) (by omega)) (fun h13 k14 eh13 => ?_)
    refine A_aload_n 0 d_MD_tell_30 rfl rfl ?_
    refine A_getAv (z := some 223) T_ok d_MD_tell_31 f_MD_172 (mi_s k14.1 sf_170) (mi_r k14.1 rfm_83) ?_
    refine A_aload_n 0 d_MD_tell_34 rfl rfl ?_
    refine A_getIv (z := sd1) T_ok d_MD_tell_35 f_MD_471 (mi_s k14.1 sf_170) ((eh13.1 _ _ (fun q => absurd q (by decide))).trans ((eh9.1 _ _ (fun q => absurd q (by decide))).trans esd1.symm)) ?_
    refine A_iload_n 3 d_MD_tell_38 rfl rfl ?_
    refine A_pc (pc' := 39) rfl ?_
    refine A_iastorek (KR := kM (pm [80] [221, 222, 223, 224]) h) d_MD_tell_39 (mi_s k14.1 sf_223) (by omega) (by omega) (kM_i k14 (by decide) rfl (mr_223 _) (by omega) (by omega)) (fun h17 k18 eh17 => ?_)
    refine A_aload_n 0 d_MD_tell_40 rfl rfl ?_
    refine A_getAv (z := some 224) T_ok d_MD_tell_41 f_MD_175 (mi_s k18.1 sf_170) (mi_r k18.1 rfm_84) ?_
    refine A_aload_n 0 d_MD_tell_44 rfl rfl ?_
    refine A_getIv (z := sd1) T_ok d_MD_tell_45 f_MD_471 (mi_s k18.1 sf_170) ((eh17.1 _ _ (fun q => absurd q (by decide))).trans ((eh13.1 _ _ (fun q => absurd q (by decide))).trans ((eh9.1 _ _ (fun q => absurd q (by decide))).trans esd1.symm))) ?_
    refine A_iload d_MD_tell_48 rfl ?_
    refine A_pc (pc' := 50) rfl ?_
    refine A_iastorek (KR := kM (pm [80] [221, 222, 223, 224]) h) d_MD_tell_50 (mi_s k18.1 sf_224) (by omega) (by omega) (kM_i k18 (by decide) rfl (mr_224 _) (by omega) (by omega)) (fun h21 k22 eh21 => ?_)
    refine A_aload_n 0 d_MD_tell_51 rfl rfl ?_
    refine A_dupR d_MD_tell_52 ?_
    refine A_getIv (z := sd1) T_ok d_MD_tell_53 f_MD_471 (mi_s k22.1 sf_170) ((eh21.1 _ _ (fun q => absurd q (by decide))).trans ((eh17.1 _ _ (fun q => absurd q (by decide))).trans ((eh13.1 _ _ (fun q => absurd q (by decide))).trans ((eh9.1 _ _ (fun q => absurd q (by decide))).trans esd1.symm)))) ?_
    refine A_iconst d_MD_tell_56 rfl ?_
    refine A_iaddv (z := (sd1 + 1)) d_MD_tell_57 (w32_to (by omega) (by unfold i32; omega)) ?_
    refine A_pc (pc' := 58) rfl ?_
    refine A_putIk (KR := kM (pm [80] [221, 222, 223, 224]) h) T_ok d_MD_tell_58 f_MD_471 (mi_s k22.1 sf_170) fin_f (kM_i k22 (by decide) (by decide) mr_170_80 (by omega) (by omega)) (fun h24 k25 eh24 => ?_)
    exact A_vret d_MD_tell_61 (by decide) rfl ⟨rfl, (by have qq0 := eh24.2.1; omega), k25⟩
theorem s_MD_lowest {G : cx_T} {h : ah_T} (hx : mi h) {a1 : Int} (la1 : 0 ≤ a1) (ua1 : a1 ≤ 1199) : con G 0 0 0 m_MD_lowest [av_R (some 170), av_I a1] h (fun r h' => ∃ z, r = some (av_I z) ∧ ((-2) ≤ z ∧ z ≤ 109) ∧ h = h') := by
  refine con_of (L := [some (av_R (some 170)), some (av_I a1)]) (by decide +kernel) (Nat.le_of_ble_eq_true rfl) rfl ?_
  refine A_aload_n 0 d_MD_lowest_0 rfl rfl ?_
  refine A_getAv (z := some 192) T_ok d_MD_lowest_1 f_MD_78 (mi_s hx sf_170) (mi_r hx rfm_34) ?_
  refine A_iconst d_MD_lowest_4 rfl ?_
  refine A_iload_n 1 d_MD_lowest_5 rfl rfl ?_
  refine A_imulv (z := (4 * a1)) d_MD_lowest_6 (w32_to (by omega) (by unfold i32; omega)) ?_
  refine A_pc (pc' := 7) rfl ?_
  refine A_ialoadn (lo := (-2)) (hi := 109) d_MD_lowest_7 (mi_s hx sf_192) (by omega) (by omega) (mi_g hx (by decide) (mr_192 _)) (fun x2 ex2 _ _ => ?_)
  exact A_iret d_MD_lowest_8 (by decide) rfl ⟨_, rfl, ⟨by omega, by omega⟩, rfl⟩
theorem s_MD_highest {G : cx_T} {h : ah_T} (hx : mi h) {a1 : Int} (la1 : 0 ≤ a1) (ua1 : a1 ≤ 1199) (hp1 : 1 ≤ h.2.1 191 a1.toNat) : con G 0 0 0 m_MD_highest [av_R (some 170), av_I a1] h (fun r h' => ∃ z, r = some (av_I z) ∧ ((-2) ≤ z ∧ z ≤ 109) ∧ h = h') := by
  refine con_of (L := [some (av_R (some 170)), some (av_I a1)]) (by decide +kernel) (Nat.le_of_ble_eq_true rfl) rfl ?_
  refine A_aload_n 0 d_MD_highest_0 rfl rfl ?_
  refine A_getAv (z := some 192) T_ok d_MD_highest_1 f_MD_78 (mi_s hx sf_170) (mi_r hx rfm_34) ?_
  refine A_iconst d_MD_highest_4 rfl ?_
  refine A_iload_n 1 d_MD_highest_5 rfl rfl ?_
  refine A_imulv (z := (4 * a1)) d_MD_highest_6 (w32_to (by omega) (by unfold i32; omega)) ?_
  refine A_pc (pc' := 7) rfl ?_
  refine A_aload_n 0 d_MD_highest_7 rfl rfl ?_
  refine A_getAv (z := some 191) T_ok d_MD_highest_8 f_MD_75 (mi_s hx sf_170) (mi_r hx rfm_33) ?_
  refine A_iload_n 1 d_MD_highest_11 rfl rfl ?_
  refine A_ialoadn (lo := 0) (hi := 4) d_MD_highest_12 (mi_s hx sf_191) (by omega) (by omega) (mi_g hx (by decide) (mr_191 _)) (fun x3 ex3 _ _ => ?_)
  refine A_iaddv (z := (4 * a1 + x3)) d_MD_highest_13 (w32_to (by omega) (by unfold i32; omega)) ?_
  refine A_iconst d_MD_highest_14 rfl ?_
  refine A_pc (pc' := 15) rfl ?_
  refine A_isubv (z := (4 * a1 + x3 - 1)) d_MD_highest_15 (w32_to (by omega) (by unfold i32; omega)) ?_
  refine A_ialoadn (lo := (-2)) (hi := 109) d_MD_highest_16 (mi_s hx sf_192) (by omega) (by omega) (mi_g hx (by decide) (mr_192 _)) (fun x4 ex4 _ _ => ?_)
  exact A_iret d_MD_highest_17 (by decide) rfl ⟨_, rfl, ⟨by omega, by omega⟩, rfl⟩
theorem s_MD_isWhole {G : cx_T} {h : ah_T} (hx : mi h) {a1 : Int} {a2 : Int} (la1 : 0 ≤ a1) (ua1 : a1 ≤ 3) (la2 : 0 ≤ a2) (ua2 : a2 ≤ 100) (hKS : KS h) (hv : a1 < h.2.1 172 0) (hb : a2 < h.2.1 186 a1.toNat) : con G 3 0 0 m_MD_isWhole [av_R (some 170), av_I a1, av_I a2] h (fun r h' => ∃ z, r = some (av_I z) ∧ (z = 0 ∨ z = 1) ∧ kM (pm [65, 66] []) h h') := by
  refine con_of (L := [some (av_R (some 170)), some (av_I a1), some (av_I a2), none, none]) (by decide +kernel) (Nat.le_of_ble_eq_true rfl) rfl ?_
  have k0 : kM (pm [65, 66] []) h h := kM_0 hx
  refine A_bipush d_MD_isWhole_0 rfl ?_
  refine A_iload_n 1 d_MD_isWhole_2 rfl rfl ?_
  refine A_imulv (z := (102 * a1)) d_MD_isWhole_3 (w32_to (by omega) (by unfold i32; omega)) ?_
  refine A_iload_n 2 d_MD_isWhole_4 rfl rfl ?_
  refine A_iaddv (z := (102 * a1 + a2)) d_MD_isWhole_5 (w32_to (by omega) (by unfold i32; omega)) ?_
  refine A_pc (pc' := 6) rfl ?_
  refine A_istore_n 3 (L' := [some (av_R (some 170)), some (av_I a1), some (av_I a2), some (av_I (102 * a1 + a2)), none]) d_MD_isWhole_6 rfl (Nat.le_of_ble_eq_true rfl) rfl ?_
  refine A_aload_n 0 d_MD_isWhole_7 rfl rfl ?_
  refine A_aload_n 0 d_MD_isWhole_8 rfl rfl ?_
  refine A_getAv (z := some 199) T_ok d_MD_isWhole_9 f_MD_100 (mi_s k0.1 sf_170) (mi_r k0.1 rfm_41) ?_
  refine A_iload_n 3 d_MD_isWhole_12 rfl rfl ?_
  refine A_iconst d_MD_isWhole_13 rfl ?_
  refine A_pc (pc' := 14) rfl ?_
  refine A_iaddv (z := (102 * a1 + a2 + 1)) d_MD_isWhole_14 (w32_to (by omega) (by unfold i32; omega)) ?_
  refine A_laloadn (lo := 0) (hi := 2000000000000000) d_MD_isWhole_15 (mi_s k0.1 sf_199) (by omega) (by omega) (mi_l k0.1 (by decide) (mq_199 _)) (fun x2 ex2 _ _ => ?_)
  have yx2 : BV h ((102 * a1 + a2 + 1)).toNat := (hKS (a1).toNat (by omega)).2 _ (by omega) (by omega)
  unfold BV at yx2
  refine A_aload_n 0 d_MD_isWhole_16 rfl rfl ?_
  refine A_getAv (z := some 200) T_ok d_MD_isWhole_17 f_MD_103 (mi_s k0.1 sf_170) (mi_r k0.1 rfm_42) ?_
  refine A_iload_n 3 d_MD_isWhole_20 rfl rfl ?_
  refine A_iconst d_MD_isWhole_21 rfl ?_
  refine A_pc (pc' := 22) rfl ?_
  refine A_iaddv (z := (102 * a1 + a2 + 1)) d_MD_isWhole_22 (w32_to (by omega) (by unfold i32; omega)) ?_
  refine A_laloadn (lo := 0) (hi := 1000000000000) d_MD_isWhole_23 (mi_s k0.1 sf_200) (by omega) (by omega) (mi_l k0.1 (by decide) (mq_200 _)) (fun x4 ex4 _ _ => ?_)
  have yx4 : BV h ((102 * a1 + a2 + 1)).toNat := (hKS (a1).toNat (by omega)).2 _ (by omega) (by omega)
  unfold BV at yx4
  refine A_aload_n 0 d_MD_isWhole_24 rfl rfl ?_
  refine A_getAv (z := some 199) T_ok d_MD_isWhole_25 f_MD_100 (mi_s k0.1 sf_170) (mi_r k0.1 rfm_41) ?_
  refine A_iload_n 3 d_MD_isWhole_28 rfl rfl ?_
  refine A_laloadn (lo := 0) (hi := 2000000000000000) d_MD_isWhole_29 (mi_s k0.1 sf_199) (by omega) (by omega) (mi_l k0.1 (by decide) (mq_199 _)) (fun x6 ex6 _ _ => ?_)
  have yx6 : BV h ((102 * a1 + a2)).toNat := (hKS (a1).toNat (by omega)).2 _ (by omega) (by omega)
  unfold BV at yx6
  refine A_pc (pc' := 30) rfl ?_
  refine A_lnegv (z := (-x6)) d_MD_isWhole_30 (w64_to (by omega) (by unfold i64; omega)) ?_
  refine A_aload_n 0 d_MD_isWhole_31 rfl rfl ?_
  refine A_getAv (z := some 200) T_ok d_MD_isWhole_32 f_MD_103 (mi_s k0.1 sf_170) (mi_r k0.1 rfm_42) ?_
  refine A_iload_n 3 d_MD_isWhole_35 rfl rfl ?_
  refine A_laloadn (lo := 0) (hi := 1000000000000) d_MD_isWhole_36 (mi_s k0.1 sf_200) (by omega) (by omega) (mi_l k0.1 (by decide) (mq_200 _)) (fun x8 ex8 _ _ => ?_)
  have yx8 : BV h ((102 * a1 + a2)).toNat := (hKS (a1).toNat (by omega)).2 _ (by omega) (by omega)
  unfold BV at yx8
  refine A_callV4 m_MD_sum T_ok d_MD_isWhole_37 l_MD_458 k_MD_sum (mi_s k0.1 sf_170) rfl (by decide +kernel) (by decide) (Nat.le_of_ble_eq_true rfl) (s_MD_sum k0.1 (by omega) (by omega) (by omega) (by omega) (by omega) (by omega) (by omega) (by omega)) (fun r h9 hq => ?_)
  obtain ⟨rfl, xk10, k10⟩ := hq
  have k11 := kM_t k0 k10 (pm_s (by decide) (by decide))
  refine A_aload_n 0 d_MD_isWhole_40 rfl rfl ?_
  refine A_aload_n 0 d_MD_isWhole_41 rfl rfl ?_
  refine A_getLf T_ok d_MD_isWhole_42 f_MD_385 (mi_s k11.1 sf_170) (fun x12 ex12 _ _ => ?_)
  refine A_aload_n 0 d_MD_isWhole_45 rfl rfl ?_
  refine A_getLf T_ok d_MD_isWhole_46 f_MD_388 (mi_s k11.1 sf_170) (fun x13 ex13 _ _ => ?_)
  refine A_pc (pc' := 49) rfl ?_
  refine A_aload_n 0 d_MD_isWhole_49 rfl rfl ?_
  refine A_getAv (z := some 173) T_ok d_MD_isWhole_50 f_MD_20 (mi_s k11.1 sf_170) (mi_r k11.1 rfm_15) ?_
  refine A_iconst d_MD_isWhole_53 rfl ?_
  refine A_ialoadn (lo := 0) (hi := 32) d_MD_isWhole_54 (mi_s k11.1 sf_173) (by decide) (by decide) (mi_g k11.1 (by decide) (mr_173 _)) (fun x15 ex15 _ _ => ?_)
  replace ex15 : x15 = h9.2.1 173 0 := ex15
  refine A_i2l d_MD_isWhole_55 ?_
  refine A_aload_n 0 d_MD_isWhole_56 rfl rfl ?_
  refine A_pc (pc' := 57) rfl ?_
  refine A_getAv (z := some 174) T_ok d_MD_isWhole_57 f_MD_23 (mi_s k11.1 sf_170) (mi_r k11.1 rfm_16) ?_
  refine A_iconst d_MD_isWhole_60 rfl ?_
  refine A_ialoadn (lo := 0) (hi := 32) d_MD_isWhole_61 (mi_s k11.1 sf_174) (by decide) (by decide) (mi_g k11.1 (by decide) (mr_174 _)) (fun x17 ex17 _ _ => ?_)
  replace ex17 : x17 = h9.2.1 174 0 := ex17
  refine A_i2l d_MD_isWhole_62 ?_
  refine A_callV4 m_MD_compare T_ok d_MD_isWhole_63 l_MD_500 k_MD_compare (mi_s k11.1 sf_170) rfl (by decide +kernel) (by decide) (Nat.le_of_ble_eq_true rfl) (s_MD_compare  ) (fun r h18 hq => ?_)
  obtain ⟨x20, rfl, ⟨_, _⟩, rfl⟩ := hq
  refine A_istore (L' := [some (av_R (some 170)), some (av_I a1), some (av_I a2), some (av_I (102 * a1 + a2)), some (av_I x20)]) d_MD_isWhole_66 (Nat.le_of_ble_eq_true rfl) rfl ?_
  refine A_iload d_MD_isWhole_68 rfl ?_
  refine A_if_eq (tgt := 94) d_MD_isWhole_70 (by decide) (fun c21 => ?_) (fun c21 => ?_)
  · refine A_iconst d_MD_isWhole_94 rfl ?_
    refine A_goto (tgt := 99) d_MD_isWhole_95 (by decide) ?_
    exact A_zret d_MD_isWhole_99 (by decide) rfl (by omega) ⟨_, rfl, by omega, k11⟩
  · refine A_iload d_MD_isWhole_73 rfl ?_
    refine A_if_ge (tgt := 98) d_MD_isWhole_75 (by decide) (fun c22 => ?_) (fun c22 => ?_)
    · refine A_iconst d_MD_isWhole_98 rfl ?_
      exact A_zret d_MD_isWhole_99 (by decide) rfl (by omega) ⟨_, rfl, by omega, k11⟩
    · refine A_iload_n 2 d_MD_isWhole_78 rfl rfl ?_
      refine A_if_eq (tgt := 94) d_MD_isWhole_79 (by decide) (fun c23 => ?_) (fun c23 => ?_)
      · refine A_iconst d_MD_isWhole_94 rfl ?_
        refine A_goto (tgt := 99) d_MD_isWhole_95 (by decide) ?_
        exact A_zret d_MD_isWhole_99 (by decide) rfl (by omega) ⟨_, rfl, by omega, k11⟩
      · refine A_iload_n 2 d_MD_isWhole_82 rfl rfl ?_
        refine A_aload_n 0 d_MD_isWhole_83 rfl rfl ?_
        refine A_getAv (z := some 186) T_ok d_MD_isWhole_84 f_MD_60 (mi_s k11.1 sf_170) (mi_r k11.1 rfm_28) ?_
        refine A_iload_n 1 d_MD_isWhole_87 rfl rfl ?_
        refine A_ialoadn (lo := 0) (hi := 101) d_MD_isWhole_88 (mi_s k11.1 sf_186) (by omega) (by omega) (mi_g k11.1 (by decide) (mr_186 _)) (fun x25 ex25 _ _ => ?_)
        refine A_pc (pc' := 89) rfl ?_
        refine A_iconst d_MD_isWhole_89 rfl ?_
        refine A_isubv (z := (x25 - 1)) d_MD_isWhole_90 (w32_to (by omega) (by unfold i32; omega)) ?_
        refine A_icmp_ne (tgt := 98) d_MD_isWhole_91 (by decide) (fun c26 => ?_) (fun c26 => ?_)
        · refine A_iconst d_MD_isWhole_98 rfl ?_
          exact A_zret d_MD_isWhole_99 (by decide) rfl (by omega) ⟨_, rfl, by omega, k11⟩
        · refine A_iconst d_MD_isWhole_94 rfl ?_
          refine A_goto (tgt := 99) d_MD_isWhole_95 (by decide) ?_
          exact A_zret d_MD_isWhole_99 (by decide) rfl (by omega) ⟨_, rfl, by omega, k11⟩
theorem s_MD_firstOf {G : cx_T} {h : ah_T} (hx : mi h) {a1 : Int} {a2 : Int} (la1 : 0 ≤ a1) (ua1 : a1 ≤ 3) : con G 0 0 0 m_MD_firstOf [av_R (some 170), av_I a1, av_I a2] h (fun r h' => ∃ z, r = some (av_I z) ∧ (0 ≤ z ∧ z ≤ 300) ∧ (FO h a1 a2 z) ∧ h = h') := by
  refine con_of (L := [some (av_R (some 170)), some (av_I a1), some (av_I a2), none]) (by decide +kernel) (Nat.le_of_ble_eq_true rfl) rfl ?_
  refine A_locI 2 rfl (fun ra => ?_)
  obtain ⟨_, _⟩ := ra
  refine A_iconst d_MD_firstOf_0 rfl ?_
  refine A_istore_n 3 (L' := [some (av_R (some 170)), some (av_I a1), some (av_I a2), some (av_I 0)]) d_MD_firstOf_1 rfl (Nat.le_of_ble_eq_true rfl) rfl ?_
  have lp2 : ∀ (n : Nat) (i1 : Int) , 0 ≤ i1 → i1 ≤ 300 → (i1 ≤ h.2.1 185 a1.toNat ∧ ∀ j : Nat, (j : Int) < i1 → h.2.1 196 (300 * a1 + j).toNat < a2) → (301 - i1).toNat < n → aw G (rm_R 0 0 0) m_MD_firstOf 0 0 2 [some (av_R (some 170)), some (av_I a1), some (av_I a2), some (av_I i1)] [] h (fun r h' => ∃ z, r = some (av_I z) ∧ (0 ≤ z ∧ z ≤ 300) ∧ (FO h a1 a2 z) ∧ h = h') := by
    intro n
    induction n with
    | zero => intro i1 _ _ _ hm; omega
    | succ n ih2 =>
      intro i1 hl0 hl1 hinv hm
      refine A_iload_n 3 d_MD_firstOf_2 rfl rfl ?_
      refine A_aload_n 0 d_MD_firstOf_3 rfl rfl ?_
      refine A_getAv (z := some 185) T_ok d_MD_firstOf_4 f_MD_57 (mi_s hx sf_170) (mi_r hx rfm_27) ?_
      refine A_iload_n 1 d_MD_firstOf_7 rfl rfl ?_
      refine A_ialoadn (lo := 0) (hi := 300) d_MD_firstOf_8 (mi_s hx sf_185) (by omega) (by omega) (mi_g hx (by decide) (mr_185 _)) (fun x3 ex3 _ _ => ?_)
      refine A_pc (pc' := 9) rfl ?_
      refine A_icmp_ge (tgt := 34) d_MD_firstOf_9 (by decide) (fun c4 => ?_) (fun c4 => ?_)
      · refine A_iload_n 3 d_MD_firstOf_34 rfl rfl ?_
        exact A_iret d_MD_firstOf_35 (by decide) rfl ⟨_, rfl, ⟨by omega, by omega⟩, ⟨by omega, hinv.1, hinv.2, fun _ => by omega⟩, rfl⟩
      · refine A_aload_n 0 d_MD_firstOf_12 rfl rfl ?_
        refine A_getAv (z := some 196) T_ok d_MD_firstOf_13 f_MD_91 (mi_s hx sf_170) (mi_r hx rfm_38) ?_
        refine A_sipush d_MD_firstOf_16 rfl ?_
        refine A_iload_n 1 d_MD_firstOf_19 rfl rfl ?_
        refine A_imulv (z := (300 * a1)) d_MD_firstOf_20 (w32_to (by omega) (by unfold i32; omega)) ?_
        refine A_pc (pc' := 21) rfl ?_
        refine A_iload_n 3 d_MD_firstOf_21 rfl rfl ?_
        refine A_iaddv (z := (300 * a1 + i1)) d_MD_firstOf_22 (w32_to (by omega) (by unfold i32; omega)) ?_
        refine A_ialoadn (lo := 0) (hi := 101) d_MD_firstOf_23 (mi_s hx sf_196) (by omega) (by omega) (mi_g hx (by decide) (mr_196 _)) (fun x6 ex6 _ _ => ?_)
        refine A_iload_n 2 d_MD_firstOf_24 rfl rfl ?_
        refine A_icmp_ge (tgt := 34) d_MD_firstOf_25 (by decide) (fun c7 => ?_) (fun c7 => ?_)
        · refine A_iload_n 3 d_MD_firstOf_34 rfl rfl ?_
          exact A_iret d_MD_firstOf_35 (by decide) rfl ⟨_, rfl, ⟨by omega, by omega⟩, ⟨by omega, hinv.1, hinv.2, fun _ => by omega⟩, rfl⟩
        · refine A_iincv (z := (i1 + 1)) (L' := [some (av_R (some 170)), some (av_I a1), some (av_I a2), some (av_I (i1 + 1))]) d_MD_firstOf_28 rfl (w32_to (by omega) (by unfold i32; omega)) rfl ?_
          refine A_goto (tgt := 2) d_MD_firstOf_31 (by decide) ?_
          exact ih2 (i1 + 1) (by omega) (by omega) ⟨by omega, fun j hj => by by_cases hc : (j : Int) < i1; exact hinv.2 j hc; have q1 : (300 * a1 + (j : Int)).toNat = (300 * a1 + i1).toNat := (by omega); rw [q1]; omega⟩ (by omega)
  exact lp2 _ 0 (by omega) (by omega) ⟨(mi_g hx (by decide) (rfl : mr 185 a1.toNat = (0, 300))).1, fun j hj => by omega⟩ (Nat.lt_succ_self _)
theorem s_MD_isAhead {G : cx_T} {h : ah_T} (hx : mi h) {a1 : Int} {a2 : Int} (la1 : 0 ≤ a1) (ua1 : a1 ≤ 1199) (la2 : 0 ≤ a2) (ua2 : a2 ≤ 1199) (he : EV h a1.toNat) (hf : EV h a2.toNat) : con G 3 0 0 m_MD_isAhead [av_R (some 170), av_I a1, av_I a2] h (fun r h' => ∃ z, r = some (av_I z) ∧ (z = 0 ∨ z = 1) ∧ kM (pm [65, 66] []) h h') := by
  refine con_of (L := [some (av_R (some 170)), some (av_I a1), some (av_I a2)]) (by decide +kernel) (Nat.le_of_ble_eq_true rfl) rfl ?_
  have k0 : kM (pm [65, 66] []) h h := kM_0 hx
  refine A_aload_n 0 d_MD_isAhead_0 rfl rfl ?_
  refine A_aload_n 0 d_MD_isAhead_1 rfl rfl ?_
  refine A_getAv (z := some 187) T_ok d_MD_isAhead_2 f_MD_63 (mi_s k0.1 sf_170) (mi_r k0.1 rfm_29) ?_
  refine A_iload_n 1 d_MD_isAhead_5 rfl rfl ?_
  refine A_laloadn (lo := 0) (hi := 2000000000000000) d_MD_isAhead_6 (mi_s k0.1 sf_187) (by omega) (by omega) (mi_l k0.1 (by decide) (mq_187 _)) (fun x2 ex2 _ _ => ?_)
  have yx2 : EV h (a1).toNat := he
  unfold EV at yx2
  refine A_pc (pc' := 7) rfl ?_
  refine A_aload_n 0 d_MD_isAhead_7 rfl rfl ?_
  refine A_getAv (z := some 188) T_ok d_MD_isAhead_8 f_MD_66 (mi_s k0.1 sf_170) (mi_r k0.1 rfm_30) ?_
  refine A_iload_n 1 d_MD_isAhead_11 rfl rfl ?_
  refine A_laloadn (lo := 0) (hi := 1000000000000) d_MD_isAhead_12 (mi_s k0.1 sf_188) (by omega) (by omega) (mi_l k0.1 (by decide) (mq_188 _)) (fun x4 ex4 _ _ => ?_)
  have yx4 : EV h (a1).toNat := he
  unfold EV at yx4
  refine A_aload_n 0 d_MD_isAhead_13 rfl rfl ?_
  refine A_getAv (z := some 189) T_ok d_MD_isAhead_14 f_MD_69 (mi_s k0.1 sf_170) (mi_r k0.1 rfm_31) ?_
  refine A_pc (pc' := 17) rfl ?_
  refine A_iload_n 1 d_MD_isAhead_17 rfl rfl ?_
  refine A_laloadn (lo := 0) (hi := 4294967296) d_MD_isAhead_18 (mi_s k0.1 sf_189) (by omega) (by omega) (mi_l k0.1 (by decide) (mq_189 _)) (fun x6 ex6 _ _ => ?_)
  have yx6 : EV h (a1).toNat := he
  unfold EV at yx6
  refine A_aload_n 0 d_MD_isAhead_19 rfl rfl ?_
  refine A_getAv (z := some 190) T_ok d_MD_isAhead_20 f_MD_72 (mi_s k0.1 sf_170) (mi_r k0.1 rfm_32) ?_
  refine A_iload_n 1 d_MD_isAhead_23 rfl rfl ?_
  refine A_laloadn (lo := 0) (hi := 137438953472) d_MD_isAhead_24 (mi_s k0.1 sf_190) (by omega) (by omega) (mi_l k0.1 (by decide) (mq_190 _)) (fun x8 ex8 _ _ => ?_)
  have yx8 : EV h (a1).toNat := he
  unfold EV at yx8
  refine A_pc (pc' := 25) rfl ?_
  refine A_callV4 m_MD_sum T_ok d_MD_isAhead_25 l_MD_458 k_MD_sum (mi_s k0.1 sf_170) rfl (by decide +kernel) (by decide) (Nat.le_of_ble_eq_true rfl) (s_MD_sum k0.1 (by omega) (by omega) (by omega) (by omega) (by omega) (by omega) (by omega) (by omega)) (fun r h9 hq => ?_)
  obtain ⟨rfl, xk10, k10⟩ := hq
  have k11 := kM_t k0 k10 (pm_s (by decide) (by decide))
  refine A_aload_n 0 d_MD_isAhead_28 rfl rfl ?_
  refine A_aload_n 0 d_MD_isAhead_29 rfl rfl ?_
  refine A_getLf T_ok d_MD_isAhead_30 f_MD_385 (mi_s k11.1 sf_170) (fun x12 ex12 _ _ => ?_)
  refine A_aload_n 0 d_MD_isAhead_33 rfl rfl ?_
  refine A_getLf T_ok d_MD_isAhead_34 f_MD_388 (mi_s k11.1 sf_170) (fun x13 ex13 _ _ => ?_)
  refine A_pc (pc' := 37) rfl ?_
  refine A_aload_n 0 d_MD_isAhead_37 rfl rfl ?_
  refine A_getAv (z := some 187) T_ok d_MD_isAhead_38 f_MD_63 (mi_s k11.1 sf_170) (mi_r k11.1 rfm_29) ?_
  refine A_iload_n 2 d_MD_isAhead_41 rfl rfl ?_
  refine A_laloadn (lo := 0) (hi := 2000000000000000) d_MD_isAhead_42 (mi_s k11.1 sf_187) (by omega) (by omega) (mi_l k11.1 (by decide) (mq_187 _)) (fun x15 ex15 _ _ => ?_)
  have fx15 := ex15.trans (k11.2.2.2 187 _ rfl)
  have yx15 : EV h (a2).toNat := hf
  unfold EV at yx15
  refine A_aload_n 0 d_MD_isAhead_43 rfl rfl ?_
  refine A_getAv (z := some 188) T_ok d_MD_isAhead_44 f_MD_66 (mi_s k11.1 sf_170) (mi_r k11.1 rfm_30) ?_
  refine A_pc (pc' := 47) rfl ?_
  refine A_iload_n 2 d_MD_isAhead_47 rfl rfl ?_
  refine A_laloadn (lo := 0) (hi := 1000000000000) d_MD_isAhead_48 (mi_s k11.1 sf_188) (by omega) (by omega) (mi_l k11.1 (by decide) (mq_188 _)) (fun x17 ex17 _ _ => ?_)
  have fx17 := ex17.trans (k11.2.2.2 188 _ rfl)
  have yx17 : EV h (a2).toNat := hf
  unfold EV at yx17
  refine A_callV4 m_MD_compare T_ok d_MD_isAhead_49 l_MD_500 k_MD_compare (mi_s k11.1 sf_170) rfl (by decide +kernel) (by decide) (Nat.le_of_ble_eq_true rfl) (s_MD_compare  ) (fun r h18 hq => ?_)
  obtain ⟨x20, rfl, ⟨_, _⟩, rfl⟩ := hq
  refine A_if_gt (tgt := 59) d_MD_isAhead_52 (by decide) (fun c21 => ?_) (fun c21 => ?_)
  · refine A_iconst d_MD_isAhead_59 rfl ?_
    exact A_zret d_MD_isAhead_60 (by decide) rfl (by omega) ⟨_, rfl, by omega, k11⟩
  · refine A_iconst d_MD_isAhead_55 rfl ?_
    refine A_goto (tgt := 60) d_MD_isAhead_56 (by decide) ?_
    exact A_zret d_MD_isAhead_60 (by decide) rfl (by omega) ⟨_, rfl, by omega, k11⟩
theorem s_MD_modulo {G : cx_T} {h : ah_T} (hx : mi h) {a1 : Int}  : con G 0 0 0 m_MD_modulo [av_R (some 170), av_I a1] h (fun r h' => ∃ z, r = some (av_I z) ∧ (0 ≤ z ∧ z ≤ 11) ∧ h = h') := by
  refine con_of (L := [some (av_R (some 170)), some (av_I a1)]) (by decide +kernel) (Nat.le_of_ble_eq_true rfl) rfl ?_
  refine A_locI 1 rfl (fun ra => ?_)
  obtain ⟨_, _⟩ := ra
  refine A_iload_n 1 d_MD_modulo_0 rfl rfl ?_
  refine A_bipush d_MD_modulo_1 rfl ?_
  refine A_iremc d_MD_modulo_3 (by decide) (fun x1 ex1 _ _ => ?_)
  have bx1 := rem_p ex1 (by omega)
  refine A_bipush d_MD_modulo_4 rfl ?_
  refine A_iaddv (z := (x1 + 12)) d_MD_modulo_6 (w32_to (by omega) (by unfold i32; omega)) ?_
  refine A_pc (pc' := 7) rfl ?_
  refine A_bipush d_MD_modulo_7 rfl ?_
  refine A_iremc d_MD_modulo_9 (by decide) (fun x2 ex2 _ _ => ?_)
  have bx2 := rem_nn ex2 (by omega) (by omega)
  exact A_iret d_MD_modulo_10 (by decide) rfl ⟨_, rfl, ⟨by omega, by omega⟩, rfl⟩
