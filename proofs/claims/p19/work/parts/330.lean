/-! ===== the reference's methods, 330 ===== -/
def m_MD_closing : mr_T := (⟨"PlainMusicModel", "closing", "(I)I"⟩, prog_14_method_36_code, 2, some .int)
theorem d_MD_closing_0 : decode prog_14_method_36_code 0 = .ok (.aload_n 0, 1) := by decide +kernel
theorem d_MD_closing_1 : decode prog_14_method_36_code 1 = .ok (.getfield 133, 3) := by decide +kernel
theorem d_MD_closing_4 : decode prog_14_method_36_code 4 = .ok (.iload_n 1, 1) := by decide +kernel
theorem d_MD_closing_5 : decode prog_14_method_36_code 5 = .ok (.iaload, 1) := by decide +kernel
theorem d_MD_closing_6 : decode prog_14_method_36_code 6 = .ok (.ireturn, 1) := by decide +kernel
def m_MD_opening : mr_T := (⟨"PlainMusicModel", "opening", "(I)I"⟩, prog_14_method_42_code, 2, some .int)
theorem d_MD_opening_0 : decode prog_14_method_42_code 0 = .ok (.aload_n 0, 1) := by decide +kernel
theorem d_MD_opening_1 : decode prog_14_method_42_code 1 = .ok (.getfield 133, 3) := by decide +kernel
theorem d_MD_opening_4 : decode prog_14_method_42_code 4 = .ok (.iload_n 1, 1) := by decide +kernel
theorem d_MD_opening_5 : decode prog_14_method_42_code 5 = .ok (.iaload, 1) := by decide +kernel
theorem d_MD_opening_6 : decode prog_14_method_42_code 6 = .ok (.ireturn, 1) := by decide +kernel
def m_MD_colons : mr_T := (⟨"PlainMusicModel", "colons", "(I)I"⟩, prog_14_method_37_code, 2, some .int)
theorem d_MD_colons_0 : decode prog_14_method_37_code 0 = .ok (.aload_n 0, 1) := by decide +kernel
theorem d_MD_colons_1 : decode prog_14_method_37_code 1 = .ok (.getfield 145, 3) := by decide +kernel
theorem d_MD_colons_4 : decode prog_14_method_37_code 4 = .ok (.iload_n 1, 1) := by decide +kernel
theorem d_MD_colons_5 : decode prog_14_method_37_code 5 = .ok (.iaload, 1) := by decide +kernel
theorem d_MD_colons_6 : decode prog_14_method_37_code 6 = .ok (.ireturn, 1) := by decide +kernel
def m_MD_behindColon : mr_T := (⟨"PlainMusicModel", "behindColon", "(II)I"⟩, prog_14_method_38_code, 5, some .int)
theorem d_MD_behindColon_0 : decode prog_14_method_38_code 0 = .ok (.aload_n 0, 1) := by decide +kernel
theorem d_MD_behindColon_1 : decode prog_14_method_38_code 1 = .ok (.getfield 136, 3) := by decide +kernel
theorem d_MD_behindColon_4 : decode prog_14_method_38_code 4 = .ok (.iload_n 1, 1) := by decide +kernel
theorem d_MD_behindColon_5 : decode prog_14_method_38_code 5 = .ok (.iaload, 1) := by decide +kernel
theorem d_MD_behindColon_6 : decode prog_14_method_38_code 6 = .ok (.istore_n 3, 1) := by decide +kernel
theorem d_MD_behindColon_7 : decode prog_14_method_38_code 7 = .ok (.iconst 1, 1) := by decide +kernel
theorem d_MD_behindColon_8 : decode prog_14_method_38_code 8 = .ok (.istore 4, 2) := by decide +kernel
theorem d_MD_behindColon_10 : decode prog_14_method_38_code 10 = .ok (.iload 4, 2) := by decide +kernel
theorem d_MD_behindColon_12 : decode prog_14_method_38_code 12 = .ok (.iload_n 2, 1) := by decide +kernel
theorem d_MD_behindColon_13 : decode prog_14_method_38_code 13 = .ok (.if_icmp .ge 16, 3) := by decide +kernel
theorem d_MD_behindColon_29 : decode prog_14_method_38_code 29 = .ok (.iload_n 3, 1) := by decide +kernel
theorem d_MD_behindColon_30 : decode prog_14_method_38_code 30 = .ok (.iconst 1, 1) := by decide +kernel
theorem d_MD_behindColon_31 : decode prog_14_method_38_code 31 = .ok (.iadd, 1) := by decide +kernel
theorem d_MD_behindColon_32 : decode prog_14_method_38_code 32 = .ok (.ireturn, 1) := by decide +kernel
theorem d_MD_behindColon_16 : decode prog_14_method_38_code 16 = .ok (.aload_n 0, 1) := by decide +kernel
theorem d_MD_behindColon_17 : decode prog_14_method_38_code 17 = .ok (.getfield 139, 3) := by decide +kernel
theorem d_MD_behindColon_20 : decode prog_14_method_38_code 20 = .ok (.iload_n 3, 1) := by decide +kernel
theorem d_MD_behindColon_21 : decode prog_14_method_38_code 21 = .ok (.iaload, 1) := by decide +kernel
theorem d_MD_behindColon_22 : decode prog_14_method_38_code 22 = .ok (.istore_n 3, 1) := by decide +kernel
theorem d_MD_behindColon_23 : decode prog_14_method_38_code 23 = .ok (.iinc 4 1, 3) := by decide +kernel
theorem d_MD_behindColon_26 : decode prog_14_method_38_code 26 = .ok (.goto (-16), 3) := by decide +kernel
def m_MD_isIn : mr_T := (⟨"PlainMusicModel", "isIn", "(I)Z"⟩, prog_14_method_40_code, 2, some .boolean)
theorem mr_170_70 : mr 170 70 = (0, 10) := by decide +kernel
theorem d_MD_isIn_0 : decode prog_14_method_40_code 0 = .ok (.aload_n 0, 1) := by decide +kernel
theorem d_MD_isIn_1 : decode prog_14_method_40_code 1 = .ok (.getfield 163, 3) := by decide +kernel
theorem rfm_79 : (79, 220) ∈ mf_L := by decide +kernel
theorem d_MD_isIn_4 : decode prog_14_method_40_code 4 = .ok (.aload_n 0, 1) := by decide +kernel
theorem d_MD_isIn_5 : decode prog_14_method_40_code 5 = .ok (.getfield 399, 3) := by decide +kernel
theorem f_MD_399 : fl_OK "PlainMusicModel" 399 12 70 .int false := ⟨_, rfl, by decide, gwi_1552, rfl, rfl⟩
theorem d_MD_isIn_8 : decode prog_14_method_40_code 8 = .ok (.iconst 1, 1) := by decide +kernel
theorem d_MD_isIn_9 : decode prog_14_method_40_code 9 = .ok (.isub, 1) := by decide +kernel
theorem d_MD_isIn_10 : decode prog_14_method_40_code 10 = .ok (.baload, 1) := by decide +kernel
theorem sf_220 : sh_L[220]? = some (2, 10) := by decide +kernel
theorem d_MD_isIn_11 : decode prog_14_method_40_code 11 = .ok (.ireturn, 1) := by decide +kernel
def m_MD_turned : mr_T := (⟨"PlainMusicModel", "turned", "(I)I"⟩, prog_14_method_41_code, 2, some .int)
theorem mr_170_71 : mr 170 71 = (0, 2010) := by decide +kernel
theorem d_MD_turned_0 : decode prog_14_method_41_code 0 = .ok (.aload_n 0, 1) := by decide +kernel
theorem d_MD_turned_1 : decode prog_14_method_41_code 1 = .ok (.getfield 163, 3) := by decide +kernel
theorem d_MD_turned_4 : decode prog_14_method_41_code 4 = .ok (.aload_n 0, 1) := by decide +kernel
theorem d_MD_turned_5 : decode prog_14_method_41_code 5 = .ok (.getfield 399, 3) := by decide +kernel
theorem d_MD_turned_8 : decode prog_14_method_41_code 8 = .ok (.iconst 1, 1) := by decide +kernel
theorem d_MD_turned_9 : decode prog_14_method_41_code 9 = .ok (.isub, 1) := by decide +kernel
theorem d_MD_turned_10 : decode prog_14_method_41_code 10 = .ok (.iconst 0, 1) := by decide +kernel
theorem d_MD_turned_11 : decode prog_14_method_41_code 11 = .ok (.bastore, 1) := by decide +kernel
theorem mr_220 (k : Nat) : mr 220 k = ((-2147483648), 2147483647) := rfl
theorem d_MD_turned_12 : decode prog_14_method_41_code 12 = .ok (.aload_n 0, 1) := by decide +kernel
theorem d_MD_turned_13 : decode prog_14_method_41_code 13 = .ok (.getfield 157, 3) := by decide +kernel
theorem rfm_68 : (68, 218) ∈ mf_L := by decide +kernel
theorem d_MD_turned_16 : decode prog_14_method_41_code 16 = .ok (.aload_n 0, 1) := by decide +kernel
theorem d_MD_turned_17 : decode prog_14_method_41_code 17 = .ok (.getfield 399, 3) := by decide +kernel
theorem d_MD_turned_20 : decode prog_14_method_41_code 20 = .ok (.iconst 1, 1) := by decide +kernel
theorem d_MD_turned_21 : decode prog_14_method_41_code 21 = .ok (.isub, 1) := by decide +kernel
theorem d_MD_turned_22 : decode prog_14_method_41_code 22 = .ok (.iaload, 1) := by decide +kernel
theorem sf_218 : sh_L[218]? = some (0, 10) := by decide +kernel
theorem mr_218 (k : Nat) : mr 218 k = (0, 2001) := rfl
theorem d_MD_turned_23 : decode prog_14_method_41_code 23 = .ok (.aload_n 0, 1) := by decide +kernel
theorem d_MD_turned_24 : decode prog_14_method_41_code 24 = .ok (.getfield 160, 3) := by decide +kernel
theorem rfm_69 : (69, 219) ∈ mf_L := by decide +kernel
theorem d_MD_turned_27 : decode prog_14_method_41_code 27 = .ok (.aload_n 0, 1) := by decide +kernel
theorem d_MD_turned_28 : decode prog_14_method_41_code 28 = .ok (.getfield 399, 3) := by decide +kernel
theorem d_MD_turned_31 : decode prog_14_method_41_code 31 = .ok (.iconst 1, 1) := by decide +kernel
theorem d_MD_turned_32 : decode prog_14_method_41_code 32 = .ok (.isub, 1) := by decide +kernel
theorem d_MD_turned_33 : decode prog_14_method_41_code 33 = .ok (.iaload, 1) := by decide +kernel
theorem sf_219 : sh_L[219]? = some (0, 10) := by decide +kernel
theorem mr_219 (k : Nat) : mr 219 k = (0, 2001) := rfl
theorem d_MD_turned_34 : decode prog_14_method_41_code 34 = .ok (.if_icmp .ge 32, 3) := by decide +kernel
theorem d_MD_turned_66 : decode prog_14_method_41_code 66 = .ok (.aload_n 0, 1) := by decide +kernel
theorem d_MD_turned_67 : decode prog_14_method_41_code 67 = .ok (.dup, 1) := by decide +kernel
theorem d_MD_turned_68 : decode prog_14_method_41_code 68 = .ok (.getfield 399, 3) := by decide +kernel
theorem d_MD_turned_71 : decode prog_14_method_41_code 71 = .ok (.iconst 1, 1) := by decide +kernel
theorem d_MD_turned_72 : decode prog_14_method_41_code 72 = .ok (.isub, 1) := by decide +kernel
theorem d_MD_turned_73 : decode prog_14_method_41_code 73 = .ok (.putfield 399, 3) := by decide +kernel
theorem d_MD_turned_76 : decode prog_14_method_41_code 76 = .ok (.aload_n 0, 1) := by decide +kernel
theorem d_MD_turned_77 : decode prog_14_method_41_code 77 = .ok (.iload_n 1, 1) := by decide +kernel
theorem d_MD_turned_78 : decode prog_14_method_41_code 78 = .ok (.invokevirtual 449, 3) := by decide +kernel
theorem k_MD_closing : mt_OK m_MD_closing 1 1 := ⟨gwi_1980, gwi_146, ⟨by decide +kernel, by decide +kernel, by decide +kernel⟩, fun h => absurd h (by decide), fun _ => ⟨gwi_1979, gwi_94⟩, fun h => absurd h (by decide)⟩
theorem l_MD_449 : ml_OK "PlainMusicModel" 449 ⟨"PlainMusicModel", "closing", "(I)I"⟩ := Or.inl gwi_1977
theorem d_MD_turned_81 : decode prog_14_method_41_code 81 = .ok (.iconst 1, 1) := by decide +kernel
theorem d_MD_turned_82 : decode prog_14_method_41_code 82 = .ok (.iadd, 1) := by decide +kernel
theorem d_MD_turned_83 : decode prog_14_method_41_code 83 = .ok (.ireturn, 1) := by decide +kernel
theorem d_MD_turned_37 : decode prog_14_method_41_code 37 = .ok (.aload_n 0, 1) := by decide +kernel
theorem d_MD_turned_38 : decode prog_14_method_41_code 38 = .ok (.getfield 157, 3) := by decide +kernel
theorem d_MD_turned_41 : decode prog_14_method_41_code 41 = .ok (.aload_n 0, 1) := by decide +kernel
theorem d_MD_turned_42 : decode prog_14_method_41_code 42 = .ok (.getfield 399, 3) := by decide +kernel
theorem d_MD_turned_45 : decode prog_14_method_41_code 45 = .ok (.iconst 1, 1) := by decide +kernel
theorem d_MD_turned_46 : decode prog_14_method_41_code 46 = .ok (.isub, 1) := by decide +kernel
theorem d_MD_turned_47 : decode prog_14_method_41_code 47 = .ok (.dup2, 1) := by decide +kernel
theorem d_MD_turned_48 : decode prog_14_method_41_code 48 = .ok (.iaload, 1) := by decide +kernel
theorem d_MD_turned_49 : decode prog_14_method_41_code 49 = .ok (.iconst 1, 1) := by decide +kernel
theorem d_MD_turned_50 : decode prog_14_method_41_code 50 = .ok (.iadd, 1) := by decide +kernel
theorem d_MD_turned_51 : decode prog_14_method_41_code 51 = .ok (.iastore, 1) := by decide +kernel
theorem d_MD_turned_52 : decode prog_14_method_41_code 52 = .ok (.aload_n 0, 1) := by decide +kernel
theorem d_MD_turned_53 : decode prog_14_method_41_code 53 = .ok (.dup, 1) := by decide +kernel
theorem d_MD_turned_54 : decode prog_14_method_41_code 54 = .ok (.getfield 402, 3) := by decide +kernel
theorem f_MD_402 : fl_OK "PlainMusicModel" 402 12 71 .int false := ⟨_, rfl, by decide, gwi_1553, rfl, rfl⟩
theorem d_MD_turned_57 : decode prog_14_method_41_code 57 = .ok (.iconst 1, 1) := by decide +kernel
theorem d_MD_turned_58 : decode prog_14_method_41_code 58 = .ok (.iadd, 1) := by decide +kernel
theorem d_MD_turned_59 : decode prog_14_method_41_code 59 = .ok (.putfield 402, 3) := by decide +kernel
theorem d_MD_turned_62 : decode prog_14_method_41_code 62 = .ok (.iload_n 1, 1) := by decide +kernel
theorem d_MD_turned_63 : decode prog_14_method_41_code 63 = .ok (.iconst 1, 1) := by decide +kernel
theorem d_MD_turned_64 : decode prog_14_method_41_code 64 = .ok (.iadd, 1) := by decide +kernel
theorem d_MD_turned_65 : decode prog_14_method_41_code 65 = .ok (.ireturn, 1) := by decide +kernel
def m_MD_scale : mr_T := (⟨"PlainMusicModel", "scale", "(II)V"⟩, prog_14_method_43_code, 3, none)
theorem d_MD_scale_0 : decode prog_14_method_43_code 0 = .ok (.aload_n 0, 1) := by decide +kernel
theorem d_MD_scale_1 : decode prog_14_method_43_code 1 = .ok (.aload_n 0, 1) := by decide +kernel
theorem d_MD_scale_2 : decode prog_14_method_43_code 2 = .ok (.getfield 420, 3) := by decide +kernel
theorem f_MD_420 : fl_OK "PlainMusicModel" 420 12 77 .long false := ⟨_, rfl, by decide, gwi_1559, rfl, rfl⟩
theorem d_MD_scale_5 : decode prog_14_method_43_code 5 = .ok (.iload_n 1, 1) := by decide +kernel
theorem d_MD_scale_6 : decode prog_14_method_43_code 6 = .ok (.i2l, 1) := by decide +kernel
theorem d_MD_scale_7 : decode prog_14_method_43_code 7 = .ok (.lmul, 1) := by decide +kernel
theorem d_MD_scale_8 : decode prog_14_method_43_code 8 = .ok (.aload_n 0, 1) := by decide +kernel
theorem d_MD_scale_9 : decode prog_14_method_43_code 9 = .ok (.getfield 423, 3) := by decide +kernel
theorem f_MD_423 : fl_OK "PlainMusicModel" 423 12 78 .long false := ⟨_, rfl, by decide, gwi_1560, rfl, rfl⟩
theorem d_MD_scale_12 : decode prog_14_method_43_code 12 = .ok (.iload_n 2, 1) := by decide +kernel
theorem d_MD_scale_13 : decode prog_14_method_43_code 13 = .ok (.i2l, 1) := by decide +kernel
theorem d_MD_scale_14 : decode prog_14_method_43_code 14 = .ok (.lmul, 1) := by decide +kernel
theorem d_MD_scale_15 : decode prog_14_method_43_code 15 = .ok (.invokevirtual 391, 3) := by decide +kernel
theorem d_MD_scale_18 : decode prog_14_method_43_code 18 = .ok (.aload_n 0, 1) := by decide +kernel
theorem d_MD_scale_19 : decode prog_14_method_43_code 19 = .ok (.aload_n 0, 1) := by decide +kernel
theorem d_MD_scale_20 : decode prog_14_method_43_code 20 = .ok (.getfield 385, 3) := by decide +kernel
theorem d_MD_scale_23 : decode prog_14_method_43_code 23 = .ok (.putfield 420, 3) := by decide +kernel
theorem mq_170_77 : mq 170 77 = ((-9223372036854775808), 9223372036854775807) := by decide +kernel
theorem d_MD_scale_26 : decode prog_14_method_43_code 26 = .ok (.aload_n 0, 1) := by decide +kernel
theorem d_MD_scale_27 : decode prog_14_method_43_code 27 = .ok (.aload_n 0, 1) := by decide +kernel
theorem d_MD_scale_28 : decode prog_14_method_43_code 28 = .ok (.getfield 388, 3) := by decide +kernel
theorem d_MD_scale_31 : decode prog_14_method_43_code 31 = .ok (.putfield 423, 3) := by decide +kernel
theorem mq_170_78 : mq 170 78 = ((-9223372036854775808), 9223372036854775807) := by decide +kernel
theorem d_MD_scale_34 : decode prog_14_method_43_code 34 = .ok (.return_, 1) := by decide +kernel
def m_MD_event_IIV : mr_T := (⟨"PlainMusicModel", "event", "(II)V"⟩, prog_14_method_44_code, 5, none)
theorem mr_170_72 : mr 170 72 = (0, 301) := by decide +kernel
theorem mr_170_73 : mr 170 73 = (0, 101) := by decide +kernel
theorem mr_170_74 : mr 170 74 = ((-2147483648), 2147483647) := by decide +kernel
theorem mq_170_75 : mq 170 75 = (0, 2000000000000000) := by decide +kernel
theorem mq_170_76 : mq 170 76 = (0, 1000000000000) := by decide +kernel
theorem d_MD_event_IIV_0 : decode prog_14_method_44_code 0 = .ok (.sipush 300, 3) := by decide +kernel
theorem d_MD_event_IIV_3 : decode prog_14_method_44_code 3 = .ok (.iload_n 1, 1) := by decide +kernel
theorem d_MD_event_IIV_4 : decode prog_14_method_44_code 4 = .ok (.imul, 1) := by decide +kernel
theorem d_MD_event_IIV_5 : decode prog_14_method_44_code 5 = .ok (.aload_n 0, 1) := by decide +kernel
theorem d_MD_event_IIV_6 : decode prog_14_method_44_code 6 = .ok (.getfield 405, 3) := by decide +kernel
theorem f_MD_405 : fl_OK "PlainMusicModel" 405 12 72 .int false := ⟨_, rfl, by decide, gwi_1554, rfl, rfl⟩
theorem d_MD_event_IIV_9 : decode prog_14_method_44_code 9 = .ok (.iadd, 1) := by decide +kernel
theorem d_MD_event_IIV_10 : decode prog_14_method_44_code 10 = .ok (.istore_n 3, 1) := by decide +kernel
theorem d_MD_event_IIV_11 : decode prog_14_method_44_code 11 = .ok (.aload_n 0, 1) := by decide +kernel
theorem d_MD_event_IIV_12 : decode prog_14_method_44_code 12 = .ok (.getfield 75, 3) := by decide +kernel
theorem d_MD_event_IIV_15 : decode prog_14_method_44_code 15 = .ok (.iload_n 3, 1) := by decide +kernel
theorem d_MD_event_IIV_16 : decode prog_14_method_44_code 16 = .ok (.aload_n 0, 1) := by decide +kernel
theorem d_MD_event_IIV_17 : decode prog_14_method_44_code 17 = .ok (.getfield 115, 3) := by decide +kernel
theorem d_MD_event_IIV_20 : decode prog_14_method_44_code 20 = .ok (.iload_n 2, 1) := by decide +kernel
theorem d_MD_event_IIV_21 : decode prog_14_method_44_code 21 = .ok (.iaload, 1) := by decide +kernel
theorem d_MD_event_IIV_22 : decode prog_14_method_44_code 22 = .ok (.iastore, 1) := by decide +kernel
theorem d_MD_event_IIV_23 : decode prog_14_method_44_code 23 = .ok (.iconst 0, 1) := by decide +kernel
theorem d_MD_event_IIV_24 : decode prog_14_method_44_code 24 = .ok (.istore 4, 2) := by decide +kernel
theorem d_MD_event_IIV_26 : decode prog_14_method_44_code 26 = .ok (.iload 4, 2) := by decide +kernel
theorem d_MD_event_IIV_28 : decode prog_14_method_44_code 28 = .ok (.iconst 4, 1) := by decide +kernel
theorem d_MD_event_IIV_29 : decode prog_14_method_44_code 29 = .ok (.if_icmp .ge 53, 3) := by decide +kernel
theorem d_MD_event_IIV_32 : decode prog_14_method_44_code 32 = .ok (.aload_n 0, 1) := by decide +kernel
theorem d_MD_event_IIV_33 : decode prog_14_method_44_code 33 = .ok (.getfield 78, 3) := by decide +kernel
theorem d_MD_event_IIV_36 : decode prog_14_method_44_code 36 = .ok (.iconst 4, 1) := by decide +kernel
theorem d_MD_event_IIV_37 : decode prog_14_method_44_code 37 = .ok (.iload_n 3, 1) := by decide +kernel
theorem d_MD_event_IIV_38 : decode prog_14_method_44_code 38 = .ok (.imul, 1) := by decide +kernel
theorem d_MD_event_IIV_39 : decode prog_14_method_44_code 39 = .ok (.iload 4, 2) := by decide +kernel
theorem d_MD_event_IIV_41 : decode prog_14_method_44_code 41 = .ok (.iadd, 1) := by decide +kernel
theorem d_MD_event_IIV_42 : decode prog_14_method_44_code 42 = .ok (.aload_n 0, 1) := by decide +kernel
theorem d_MD_event_IIV_43 : decode prog_14_method_44_code 43 = .ok (.getfield 118, 3) := by decide +kernel
theorem d_MD_event_IIV_46 : decode prog_14_method_44_code 46 = .ok (.iconst 4, 1) := by decide +kernel
theorem d_MD_event_IIV_47 : decode prog_14_method_44_code 47 = .ok (.iload_n 2, 1) := by decide +kernel
theorem d_MD_event_IIV_48 : decode prog_14_method_44_code 48 = .ok (.imul, 1) := by decide +kernel
theorem d_MD_event_IIV_49 : decode prog_14_method_44_code 49 = .ok (.iload 4, 2) := by decide +kernel
theorem d_MD_event_IIV_51 : decode prog_14_method_44_code 51 = .ok (.iadd, 1) := by decide +kernel
theorem d_MD_event_IIV_52 : decode prog_14_method_44_code 52 = .ok (.iaload, 1) := by decide +kernel
theorem d_MD_event_IIV_53 : decode prog_14_method_44_code 53 = .ok (.iastore, 1) := by decide +kernel
theorem d_MD_event_IIV_54 : decode prog_14_method_44_code 54 = .ok (.aload_n 0, 1) := by decide +kernel
theorem d_MD_event_IIV_55 : decode prog_14_method_44_code 55 = .ok (.getfield 81, 3) := by decide +kernel
theorem d_MD_event_IIV_58 : decode prog_14_method_44_code 58 = .ok (.iconst 4, 1) := by decide +kernel
theorem d_MD_event_IIV_59 : decode prog_14_method_44_code 59 = .ok (.iload_n 3, 1) := by decide +kernel
theorem d_MD_event_IIV_60 : decode prog_14_method_44_code 60 = .ok (.imul, 1) := by decide +kernel
theorem d_MD_event_IIV_61 : decode prog_14_method_44_code 61 = .ok (.iload 4, 2) := by decide +kernel
theorem d_MD_event_IIV_63 : decode prog_14_method_44_code 63 = .ok (.iadd, 1) := by decide +kernel
theorem d_MD_event_IIV_64 : decode prog_14_method_44_code 64 = .ok (.aload_n 0, 1) := by decide +kernel
theorem d_MD_event_IIV_65 : decode prog_14_method_44_code 65 = .ok (.getfield 121, 3) := by decide +kernel
theorem d_MD_event_IIV_68 : decode prog_14_method_44_code 68 = .ok (.iconst 4, 1) := by decide +kernel
theorem d_MD_event_IIV_69 : decode prog_14_method_44_code 69 = .ok (.iload_n 2, 1) := by decide +kernel
theorem d_MD_event_IIV_70 : decode prog_14_method_44_code 70 = .ok (.imul, 1) := by decide +kernel
theorem d_MD_event_IIV_71 : decode prog_14_method_44_code 71 = .ok (.iload 4, 2) := by decide +kernel
theorem d_MD_event_IIV_73 : decode prog_14_method_44_code 73 = .ok (.iadd, 1) := by decide +kernel
theorem d_MD_event_IIV_74 : decode prog_14_method_44_code 74 = .ok (.iaload, 1) := by decide +kernel
theorem d_MD_event_IIV_75 : decode prog_14_method_44_code 75 = .ok (.iastore, 1) := by decide +kernel
theorem d_MD_event_IIV_76 : decode prog_14_method_44_code 76 = .ok (.iinc 4 1, 3) := by decide +kernel
theorem d_MD_event_IIV_79 : decode prog_14_method_44_code 79 = .ok (.goto (-53), 3) := by decide +kernel
theorem d_MD_event_IIV_82 : decode prog_14_method_44_code 82 = .ok (.aload_n 0, 1) := by decide +kernel
theorem d_MD_event_IIV_83 : decode prog_14_method_44_code 83 = .ok (.getfield 84, 3) := by decide +kernel
theorem rfm_36 : (36, 194) ∈ mf_L := by decide +kernel
theorem d_MD_event_IIV_86 : decode prog_14_method_44_code 86 = .ok (.iload_n 3, 1) := by decide +kernel
theorem d_MD_event_IIV_87 : decode prog_14_method_44_code 87 = .ok (.aload_n 0, 1) := by decide +kernel
theorem d_MD_event_IIV_88 : decode prog_14_method_44_code 88 = .ok (.getfield 124, 3) := by decide +kernel
theorem d_MD_event_IIV_91 : decode prog_14_method_44_code 91 = .ok (.iload_n 2, 1) := by decide +kernel
theorem d_MD_event_IIV_92 : decode prog_14_method_44_code 92 = .ok (.iaload, 1) := by decide +kernel
theorem d_MD_event_IIV_93 : decode prog_14_method_44_code 93 = .ok (.iastore, 1) := by decide +kernel
theorem sf_194 : sh_L[194]? = some (0, 2400) := by decide +kernel
theorem mr_194 (k : Nat) : mr 194 k = ((-2147483648), 2147483647) := rfl
theorem d_MD_event_IIV_94 : decode prog_14_method_44_code 94 = .ok (.aload_n 0, 1) := by decide +kernel
theorem d_MD_event_IIV_95 : decode prog_14_method_44_code 95 = .ok (.getfield 87, 3) := by decide +kernel
theorem d_MD_event_IIV_98 : decode prog_14_method_44_code 98 = .ok (.iload_n 3, 1) := by decide +kernel
theorem d_MD_event_IIV_99 : decode prog_14_method_44_code 99 = .ok (.aload_n 0, 1) := by decide +kernel
theorem d_MD_event_IIV_100 : decode prog_14_method_44_code 100 = .ok (.getfield 127, 3) := by decide +kernel
theorem d_MD_event_IIV_103 : decode prog_14_method_44_code 103 = .ok (.iload_n 2, 1) := by decide +kernel
theorem d_MD_event_IIV_104 : decode prog_14_method_44_code 104 = .ok (.baload, 1) := by decide +kernel
theorem d_MD_event_IIV_105 : decode prog_14_method_44_code 105 = .ok (.bastore, 1) := by decide +kernel
theorem mr_195 (k : Nat) : mr 195 k = ((-2147483648), 2147483647) := rfl
theorem d_MD_event_IIV_106 : decode prog_14_method_44_code 106 = .ok (.aload_n 0, 1) := by decide +kernel
theorem d_MD_event_IIV_107 : decode prog_14_method_44_code 107 = .ok (.getfield 94, 3) := by decide +kernel
theorem d_MD_event_IIV_110 : decode prog_14_method_44_code 110 = .ok (.iload_n 3, 1) := by decide +kernel
theorem d_MD_event_IIV_111 : decode prog_14_method_44_code 111 = .ok (.aload_n 0, 1) := by decide +kernel
theorem d_MD_event_IIV_112 : decode prog_14_method_44_code 112 = .ok (.getfield 109, 3) := by decide +kernel
theorem d_MD_event_IIV_115 : decode prog_14_method_44_code 115 = .ok (.iload_n 2, 1) := by decide +kernel
theorem d_MD_event_IIV_116 : decode prog_14_method_44_code 116 = .ok (.iaload, 1) := by decide +kernel
theorem d_MD_event_IIV_117 : decode prog_14_method_44_code 117 = .ok (.iastore, 1) := by decide +kernel
theorem d_MD_event_IIV_118 : decode prog_14_method_44_code 118 = .ok (.aload_n 0, 1) := by decide +kernel
theorem d_MD_event_IIV_119 : decode prog_14_method_44_code 119 = .ok (.getfield 97, 3) := by decide +kernel
theorem d_MD_event_IIV_122 : decode prog_14_method_44_code 122 = .ok (.iload_n 3, 1) := by decide +kernel
theorem d_MD_event_IIV_123 : decode prog_14_method_44_code 123 = .ok (.aload_n 0, 1) := by decide +kernel
theorem d_MD_event_IIV_124 : decode prog_14_method_44_code 124 = .ok (.getfield 130, 3) := by decide +kernel
theorem d_MD_event_IIV_127 : decode prog_14_method_44_code 127 = .ok (.iload_n 2, 1) := by decide +kernel
theorem d_MD_event_IIV_128 : decode prog_14_method_44_code 128 = .ok (.iaload, 1) := by decide +kernel
theorem d_MD_event_IIV_129 : decode prog_14_method_44_code 129 = .ok (.iastore, 1) := by decide +kernel
theorem d_MD_event_IIV_130 : decode prog_14_method_44_code 130 = .ok (.aload_n 0, 1) := by decide +kernel
theorem d_MD_event_IIV_131 : decode prog_14_method_44_code 131 = .ok (.getfield 91, 3) := by decide +kernel
theorem d_MD_event_IIV_134 : decode prog_14_method_44_code 134 = .ok (.iload_n 3, 1) := by decide +kernel
theorem d_MD_event_IIV_135 : decode prog_14_method_44_code 135 = .ok (.aload_n 0, 1) := by decide +kernel
theorem d_MD_event_IIV_136 : decode prog_14_method_44_code 136 = .ok (.getfield 408, 3) := by decide +kernel
theorem f_MD_408 : fl_OK "PlainMusicModel" 408 12 73 .int false := ⟨_, rfl, by decide, gwi_1555, rfl, rfl⟩
theorem d_MD_event_IIV_139 : decode prog_14_method_44_code 139 = .ok (.iastore, 1) := by decide +kernel
theorem d_MD_event_IIV_140 : decode prog_14_method_44_code 140 = .ok (.aload_n 0, 1) := by decide +kernel
theorem d_MD_event_IIV_141 : decode prog_14_method_44_code 141 = .ok (.getfield 63, 3) := by decide +kernel
theorem d_MD_event_IIV_144 : decode prog_14_method_44_code 144 = .ok (.iload_n 3, 1) := by decide +kernel
theorem d_MD_event_IIV_145 : decode prog_14_method_44_code 145 = .ok (.aload_n 0, 1) := by decide +kernel
theorem d_MD_event_IIV_146 : decode prog_14_method_44_code 146 = .ok (.getfield 414, 3) := by decide +kernel
theorem f_MD_414 : fl_OK "PlainMusicModel" 414 12 75 .long false := ⟨_, rfl, by decide, gwi_1557, rfl, rfl⟩
theorem d_MD_event_IIV_149 : decode prog_14_method_44_code 149 = .ok (.lastore, 1) := by decide +kernel
theorem d_MD_event_IIV_150 : decode prog_14_method_44_code 150 = .ok (.aload_n 0, 1) := by decide +kernel
theorem d_MD_event_IIV_151 : decode prog_14_method_44_code 151 = .ok (.getfield 66, 3) := by decide +kernel
theorem d_MD_event_IIV_154 : decode prog_14_method_44_code 154 = .ok (.iload_n 3, 1) := by decide +kernel
theorem d_MD_event_IIV_155 : decode prog_14_method_44_code 155 = .ok (.aload_n 0, 1) := by decide +kernel
theorem d_MD_event_IIV_156 : decode prog_14_method_44_code 156 = .ok (.getfield 417, 3) := by decide +kernel
theorem f_MD_417 : fl_OK "PlainMusicModel" 417 12 76 .long false := ⟨_, rfl, by decide, gwi_1558, rfl, rfl⟩
theorem d_MD_event_IIV_159 : decode prog_14_method_44_code 159 = .ok (.lastore, 1) := by decide +kernel
theorem d_MD_event_IIV_160 : decode prog_14_method_44_code 160 = .ok (.aload_n 0, 1) := by decide +kernel
theorem d_MD_event_IIV_161 : decode prog_14_method_44_code 161 = .ok (.getfield 130, 3) := by decide +kernel
theorem d_MD_event_IIV_164 : decode prog_14_method_44_code 164 = .ok (.iload_n 2, 1) := by decide +kernel
theorem d_MD_event_IIV_165 : decode prog_14_method_44_code 165 = .ok (.iaload, 1) := by decide +kernel
theorem d_MD_event_IIV_166 : decode prog_14_method_44_code 166 = .ok (.istore 4, 2) := by decide +kernel
theorem d_MD_event_IIV_168 : decode prog_14_method_44_code 168 = .ok (.aload_n 0, 1) := by decide +kernel
theorem d_MD_event_IIV_169 : decode prog_14_method_44_code 169 = .ok (.ldc2_w 452, 3) := by decide +kernel
theorem cst_MD_452 : Cond.constantLong "PlainMusicModel" 452 (Int64.ofInt 2) ∈ gw := gwi_1934
theorem d_MD_event_IIV_172 : decode prog_14_method_44_code 172 = .ok (.iload 4, 2) := by decide +kernel
theorem d_MD_event_IIV_174 : decode prog_14_method_44_code 174 = .ok (.lshl, 1) := by decide +kernel
theorem d_MD_event_IIV_175 : decode prog_14_method_44_code 175 = .ok (.lconst 1, 1) := by decide +kernel
theorem d_MD_event_IIV_176 : decode prog_14_method_44_code 176 = .ok (.lsub, 1) := by decide +kernel
theorem d_MD_event_IIV_177 : decode prog_14_method_44_code 177 = .ok (.aload_n 0, 1) := by decide +kernel
theorem d_MD_event_IIV_178 : decode prog_14_method_44_code 178 = .ok (.getfield 420, 3) := by decide +kernel
theorem d_MD_event_IIV_181 : decode prog_14_method_44_code 181 = .ok (.lmul, 1) := by decide +kernel
theorem d_MD_event_IIV_182 : decode prog_14_method_44_code 182 = .ok (.aload_n 0, 1) := by decide +kernel
theorem d_MD_event_IIV_183 : decode prog_14_method_44_code 183 = .ok (.getfield 109, 3) := by decide +kernel
theorem d_MD_event_IIV_186 : decode prog_14_method_44_code 186 = .ok (.iload_n 2, 1) := by decide +kernel
theorem d_MD_event_IIV_187 : decode prog_14_method_44_code 187 = .ok (.iaload, 1) := by decide +kernel
theorem d_MD_event_IIV_188 : decode prog_14_method_44_code 188 = .ok (.i2l, 1) := by decide +kernel
theorem d_MD_event_IIV_189 : decode prog_14_method_44_code 189 = .ok (.lconst 1, 1) := by decide +kernel
theorem d_MD_event_IIV_190 : decode prog_14_method_44_code 190 = .ok (.iload 4, 2) := by decide +kernel
theorem d_MD_event_IIV_192 : decode prog_14_method_44_code 192 = .ok (.lshl, 1) := by decide +kernel
theorem d_MD_event_IIV_193 : decode prog_14_method_44_code 193 = .ok (.lmul, 1) := by decide +kernel
theorem d_MD_event_IIV_194 : decode prog_14_method_44_code 194 = .ok (.aload_n 0, 1) := by decide +kernel
theorem d_MD_event_IIV_195 : decode prog_14_method_44_code 195 = .ok (.getfield 423, 3) := by decide +kernel
theorem d_MD_event_IIV_198 : decode prog_14_method_44_code 198 = .ok (.lmul, 1) := by decide +kernel
theorem d_MD_event_IIV_199 : decode prog_14_method_44_code 199 = .ok (.invokevirtual 391, 3) := by decide +kernel
theorem d_MD_event_IIV_202 : decode prog_14_method_44_code 202 = .ok (.aload_n 0, 1) := by decide +kernel
theorem d_MD_event_IIV_203 : decode prog_14_method_44_code 203 = .ok (.getfield 69, 3) := by decide +kernel
theorem d_MD_event_IIV_206 : decode prog_14_method_44_code 206 = .ok (.iload_n 3, 1) := by decide +kernel
theorem d_MD_event_IIV_207 : decode prog_14_method_44_code 207 = .ok (.aload_n 0, 1) := by decide +kernel
theorem d_MD_event_IIV_208 : decode prog_14_method_44_code 208 = .ok (.getfield 385, 3) := by decide +kernel
theorem d_MD_event_IIV_211 : decode prog_14_method_44_code 211 = .ok (.lastore, 1) := by decide +kernel
theorem d_MD_event_IIV_212 : decode prog_14_method_44_code 212 = .ok (.aload_n 0, 1) := by decide +kernel
theorem d_MD_event_IIV_213 : decode prog_14_method_44_code 213 = .ok (.getfield 72, 3) := by decide +kernel
theorem d_MD_event_IIV_216 : decode prog_14_method_44_code 216 = .ok (.iload_n 3, 1) := by decide +kernel
theorem d_MD_event_IIV_217 : decode prog_14_method_44_code 217 = .ok (.aload_n 0, 1) := by decide +kernel
theorem d_MD_event_IIV_218 : decode prog_14_method_44_code 218 = .ok (.getfield 388, 3) := by decide +kernel
theorem d_MD_event_IIV_221 : decode prog_14_method_44_code 221 = .ok (.lastore, 1) := by decide +kernel
theorem d_MD_event_IIV_222 : decode prog_14_method_44_code 222 = .ok (.aload_n 0, 1) := by decide +kernel
theorem d_MD_event_IIV_223 : decode prog_14_method_44_code 223 = .ok (.getfield 411, 3) := by decide +kernel
theorem f_MD_411 : fl_OK "PlainMusicModel" 411 12 74 .boolean false := ⟨_, rfl, by decide, gwi_1556, rfl, rfl⟩
theorem d_MD_event_IIV_226 : decode prog_14_method_44_code 226 = .ok (.ifCond .ne 18, 3) := by decide +kernel
theorem d_MD_event_IIV_244 : decode prog_14_method_44_code 244 = .ok (.aload_n 0, 1) := by decide +kernel
theorem d_MD_event_IIV_245 : decode prog_14_method_44_code 245 = .ok (.iconst 1, 1) := by decide +kernel
theorem d_MD_event_IIV_246 : decode prog_14_method_44_code 246 = .ok (.putfield 411, 3) := by decide +kernel
theorem d_MD_event_IIV_249 : decode prog_14_method_44_code 249 = .ok (.return_, 1) := by decide +kernel
theorem d_MD_event_IIV_229 : decode prog_14_method_44_code 229 = .ok (.aload_n 0, 1) := by decide +kernel
theorem d_MD_event_IIV_230 : decode prog_14_method_44_code 230 = .ok (.aload_n 0, 1) := by decide +kernel
theorem d_MD_event_IIV_231 : decode prog_14_method_44_code 231 = .ok (.getfield 385, 3) := by decide +kernel
theorem d_MD_event_IIV_234 : decode prog_14_method_44_code 234 = .ok (.aload_n 0, 1) := by decide +kernel
theorem d_MD_event_IIV_235 : decode prog_14_method_44_code 235 = .ok (.getfield 388, 3) := by decide +kernel
theorem d_MD_event_IIV_238 : decode prog_14_method_44_code 238 = .ok (.invokevirtual 454, 3) := by decide +kernel
theorem k_MD_isFar : mt_OK m_MD_isFar 2 1 := ⟨gwi_1946, gwi_146, ⟨by decide +kernel, by decide +kernel, by decide +kernel⟩, fun h => absurd h (by decide), fun _ => ⟨gwi_1945, gwi_86⟩, fun h => absurd h (by decide)⟩
theorem l_MD_454 : ml_OK "PlainMusicModel" 454 ⟨"PlainMusicModel", "isFar", "(JJ)Z"⟩ := Or.inl gwi_1943
theorem d_MD_event_IIV_241 : decode prog_14_method_44_code 241 = .ok (.ifCond .eq 9, 3) := by decide +kernel
theorem d_MD_event_IIV_250 : decode prog_14_method_44_code 250 = .ok (.aload_n 0, 1) := by decide +kernel
theorem d_MD_event_IIV_251 : decode prog_14_method_44_code 251 = .ok (.aload_n 0, 1) := by decide +kernel
theorem d_MD_event_IIV_252 : decode prog_14_method_44_code 252 = .ok (.getfield 414, 3) := by decide +kernel
theorem d_MD_event_IIV_255 : decode prog_14_method_44_code 255 = .ok (.aload_n 0, 1) := by decide +kernel
theorem d_MD_event_IIV_256 : decode prog_14_method_44_code 256 = .ok (.getfield 417, 3) := by decide +kernel
theorem d_MD_event_IIV_259 : decode prog_14_method_44_code 259 = .ok (.aload_n 0, 1) := by decide +kernel
theorem d_MD_event_IIV_260 : decode prog_14_method_44_code 260 = .ok (.getfield 385, 3) := by decide +kernel
theorem d_MD_event_IIV_263 : decode prog_14_method_44_code 263 = .ok (.aload_n 0, 1) := by decide +kernel
theorem d_MD_event_IIV_264 : decode prog_14_method_44_code 264 = .ok (.getfield 388, 3) := by decide +kernel
theorem d_MD_event_IIV_267 : decode prog_14_method_44_code 267 = .ok (.invokevirtual 458, 3) := by decide +kernel
theorem d_MD_event_IIV_270 : decode prog_14_method_44_code 270 = .ok (.aload_n 0, 1) := by decide +kernel
theorem d_MD_event_IIV_271 : decode prog_14_method_44_code 271 = .ok (.aload_n 0, 1) := by decide +kernel
theorem d_MD_event_IIV_272 : decode prog_14_method_44_code 272 = .ok (.getfield 385, 3) := by decide +kernel
theorem d_MD_event_IIV_275 : decode prog_14_method_44_code 275 = .ok (.putfield 414, 3) := by decide +kernel
theorem d_MD_event_IIV_278 : decode prog_14_method_44_code 278 = .ok (.aload_n 0, 1) := by decide +kernel
theorem d_MD_event_IIV_279 : decode prog_14_method_44_code 279 = .ok (.aload_n 0, 1) := by decide +kernel
theorem d_MD_event_IIV_280 : decode prog_14_method_44_code 280 = .ok (.getfield 388, 3) := by decide +kernel
theorem d_MD_event_IIV_283 : decode prog_14_method_44_code 283 = .ok (.putfield 417, 3) := by decide +kernel
theorem d_MD_event_IIV_286 : decode prog_14_method_44_code 286 = .ok (.aload_n 0, 1) := by decide +kernel
theorem d_MD_event_IIV_287 : decode prog_14_method_44_code 287 = .ok (.aload_n 0, 1) := by decide +kernel
theorem d_MD_event_IIV_288 : decode prog_14_method_44_code 288 = .ok (.aload_n 0, 1) := by decide +kernel
theorem d_MD_event_IIV_289 : decode prog_14_method_44_code 289 = .ok (.getfield 385, 3) := by decide +kernel
theorem d_MD_event_IIV_292 : decode prog_14_method_44_code 292 = .ok (.aload_n 0, 1) := by decide +kernel
theorem d_MD_event_IIV_293 : decode prog_14_method_44_code 293 = .ok (.getfield 388, 3) := by decide +kernel
theorem d_MD_event_IIV_296 : decode prog_14_method_44_code 296 = .ok (.invokevirtual 454, 3) := by decide +kernel
theorem d_MD_event_IIV_299 : decode prog_14_method_44_code 299 = .ok (.putfield 411, 3) := by decide +kernel
theorem d_MD_event_IIV_302 : decode prog_14_method_44_code 302 = .ok (.return_, 1) := by decide +kernel
theorem s_MD_closing {G : cx_T} {h : ah_T} (hx : mi h) {a1 : Int} (la1 : 0 ≤ a1) (ua1 : a1 ≤ 1999) : con G 0 0 0 m_MD_closing [av_R (some 170), av_I a1] h (fun r h' => ∃ z, r = some (av_I z) ∧ (0 ≤ z ∧ z ≤ 2000) ∧ (z = h.2.1 210 a1.toNat) ∧ h = h') := by
  refine con_of (L := [some (av_R (some 170)), some (av_I a1)]) (by decide +kernel) (Nat.le_of_ble_eq_true rfl) rfl ?_
  refine A_aload_n 0 d_MD_closing_0 rfl rfl ?_
  refine A_getAv (z := some 210) T_ok d_MD_closing_1 f_MD_133 (mi_s hx sf_170) (mi_r hx rfm_53) ?_
  refine A_iload_n 1 d_MD_closing_4 rfl rfl ?_
  refine A_ialoadn (lo := 0) (hi := 2000) d_MD_closing_5 (mi_s hx sf_210) (by omega) (by omega) (mi_g hx (by decide) (mr_210 _)) (fun x2 ex2 _ _ => ?_)
  exact A_iret d_MD_closing_6 (by decide) rfl ⟨_, rfl, ⟨by omega, by omega⟩, (by omega), rfl⟩
theorem s_MD_opening {G : cx_T} {h : ah_T} (hx : mi h) {a1 : Int} (la1 : 0 ≤ a1) (ua1 : a1 ≤ 1999) : con G 0 0 0 m_MD_opening [av_R (some 170), av_I a1] h (fun r h' => ∃ z, r = some (av_I z) ∧ (0 ≤ z ∧ z ≤ 2000) ∧ (z = h.2.1 210 a1.toNat) ∧ h = h') := by
  refine con_of (L := [some (av_R (some 170)), some (av_I a1)]) (by decide +kernel) (Nat.le_of_ble_eq_true rfl) rfl ?_
  refine A_aload_n 0 d_MD_opening_0 rfl rfl ?_
  refine A_getAv (z := some 210) T_ok d_MD_opening_1 f_MD_133 (mi_s hx sf_170) (mi_r hx rfm_53) ?_
  refine A_iload_n 1 d_MD_opening_4 rfl rfl ?_
  refine A_ialoadn (lo := 0) (hi := 2000) d_MD_opening_5 (mi_s hx sf_210) (by omega) (by omega) (mi_g hx (by decide) (mr_210 _)) (fun x2 ex2 _ _ => ?_)
  exact A_iret d_MD_opening_6 (by decide) rfl ⟨_, rfl, ⟨by omega, by omega⟩, (by omega), rfl⟩
theorem s_MD_colons {G : cx_T} {h : ah_T} (hx : mi h) {a1 : Int} (la1 : 0 ≤ a1) (ua1 : a1 ≤ 1999) : con G 0 0 0 m_MD_colons [av_R (some 170), av_I a1] h (fun r h' => ∃ z, r = some (av_I z) ∧ (0 ≤ z ∧ z ≤ 2000) ∧ (z = h.2.1 214 a1.toNat) ∧ h = h') := by
  refine con_of (L := [some (av_R (some 170)), some (av_I a1)]) (by decide +kernel) (Nat.le_of_ble_eq_true rfl) rfl ?_
  refine A_aload_n 0 d_MD_colons_0 rfl rfl ?_
  refine A_getAv (z := some 214) T_ok d_MD_colons_1 f_MD_145 (mi_s hx sf_170) (mi_r hx rfm_57) ?_
  refine A_iload_n 1 d_MD_colons_4 rfl rfl ?_
  refine A_ialoadn (lo := 0) (hi := 2000) d_MD_colons_5 (mi_s hx sf_214) (by omega) (by omega) (mi_g hx (by decide) (mr_214 _)) (fun x2 ex2 _ _ => ?_)
  exact A_iret d_MD_colons_6 (by decide) rfl ⟨_, rfl, ⟨by omega, by omega⟩, (by omega), rfl⟩
theorem s_MD_behindColon {G : cx_T} {h : ah_T} (hx : mi h) {a1 : Int} {a2 : Int} (la1 : 0 ≤ a1) (ua1 : a1 ≤ 1999) (la2 : 1 ≤ a2) (ua2 : a2 ≤ 2000) (hcl : ∀ j : Nat, (j : Int) < a2 → col (h.2.1 211) (h.2.1 212) a1.toNat j < 2000) : con G 0 0 0 m_MD_behindColon [av_R (some 170), av_I a1, av_I a2] h (fun r h' => ∃ z, r = some (av_I z) ∧ (1 ≤ z ∧ z ≤ 2000) ∧ (z = (col (h.2.1 211) (h.2.1 212) a1.toNat (a2 - 1).toNat : Int) + 1) ∧ h = h') := by
  refine con_of (L := [some (av_R (some 170)), some (av_I a1), some (av_I a2), none, none]) (by decide +kernel) (Nat.le_of_ble_eq_true rfl) rfl ?_
  refine A_aload_n 0 d_MD_behindColon_0 rfl rfl ?_
  refine A_getAv (z := some 211) T_ok d_MD_behindColon_1 f_MD_136 (mi_s hx sf_170) (mi_r hx rfm_54) ?_
  refine A_iload_n 1 d_MD_behindColon_4 rfl rfl ?_
  refine A_ialoadn (lo := 0) (hi := 2000) d_MD_behindColon_5 (mi_s hx sf_211) (by omega) (by omega) (mi_g hx (by decide) (mr_211 _)) (fun x2 ex2 _ _ => ?_)
  refine A_istore_n 3 (L' := [some (av_R (some 170)), some (av_I a1), some (av_I a2), some (av_I x2), none]) d_MD_behindColon_6 rfl (Nat.le_of_ble_eq_true rfl) rfl ?_
  refine A_pc (pc' := 7) rfl ?_
  refine A_iconst d_MD_behindColon_7 rfl ?_
  refine A_istore (L' := [some (av_R (some 170)), some (av_I a1), some (av_I a2), some (av_I x2), some (av_I 1)]) d_MD_behindColon_8 (Nat.le_of_ble_eq_true rfl) rfl ?_
  have lp10 : ∀ (n : Nat) (i3 i4 : Int) , 0 ≤ i3 → i3 ≤ 2000 → 1 ≤ i4 → i4 ≤ 2000 → (1 ≤ i4 ∧ i4 ≤ a2 ∧ i3 = (col (h.2.1 211) (h.2.1 212) a1.toNat (i4 - 1).toNat : Int)) → (2001 - i4).toNat < n → aw G (rm_R 0 0 0) m_MD_behindColon 0 0 10 [some (av_R (some 170)), some (av_I a1), some (av_I a2), some (av_I i3), some (av_I i4)] [] h (fun r h' => ∃ z, r = some (av_I z) ∧ (1 ≤ z ∧ z ≤ 2000) ∧ (z = (col (h.2.1 211) (h.2.1 212) a1.toNat (a2 - 1).toNat : Int) + 1) ∧ h = h') := by
    intro n
    induction n with
    | zero => intro i3 i4 _ _ _ _ _ hm; omega
    | succ n ih10 =>
      intro i3 i4 hl0 hl1 hl2 hl3 hinv hm
      refine A_iload d_MD_behindColon_10 rfl ?_
      refine A_iload_n 2 d_MD_behindColon_12 rfl rfl ?_
      refine A_icmp_ge (tgt := 29) d_MD_behindColon_13 (by decide) (fun c5 => ?_) (fun c5 => ?_)
      · have yc := hcl (i4 - 1).toNat (by omega)
        refine A_iload_n 3 d_MD_behindColon_29 rfl rfl ?_
        refine A_iconst d_MD_behindColon_30 rfl ?_
        refine A_iaddv (z := (i3 + 1)) d_MD_behindColon_31 (w32_to (by omega) (by unfold i32; omega)) ?_
        exact A_iret d_MD_behindColon_32 (by decide) rfl ⟨_, rfl, ⟨by omega, by omega⟩, (by have q1 : i4 = a2 := (by omega); rw [← q1]; omega), rfl⟩
      · have yc := hcl (i4 - 1).toNat (by omega)
        refine A_aload_n 0 d_MD_behindColon_16 rfl rfl ?_
        refine A_getAv (z := some 212) T_ok d_MD_behindColon_17 f_MD_139 (mi_s hx sf_170) (mi_r hx rfm_55) ?_
        refine A_iload_n 3 d_MD_behindColon_20 rfl rfl ?_
        refine A_ialoadn (lo := 0) (hi := 2000) d_MD_behindColon_21 (mi_s hx sf_212) (by omega) (by omega) (mi_g hx (by decide) (mr_212 _)) (fun x7 ex7 _ _ => ?_)
        refine A_istore_n 3 (L' := [some (av_R (some 170)), some (av_I a1), some (av_I a2), some (av_I x7), some (av_I i4)]) d_MD_behindColon_22 rfl (Nat.le_of_ble_eq_true rfl) rfl ?_
        refine A_pc (pc' := 23) rfl ?_
        refine A_iincv (z := (i4 + 1)) (L' := [some (av_R (some 170)), some (av_I a1), some (av_I a2), some (av_I x7), some (av_I (i4 + 1))]) d_MD_behindColon_23 rfl (w32_to (by omega) (by unfold i32; omega)) rfl ?_
        refine A_goto (tgt := 10) d_MD_behindColon_26 (by decide) ?_
        exact ih10 x7 (i4 + 1) (by omega) (by omega) (by omega) (by omega) ⟨by omega, by omega, col_n (i := i4) hinv.2.2 (by omega) ex7 (by omega)⟩ (by omega)
  exact lp10 _ x2 1 (by omega) (by omega) (by omega) (by omega) ⟨by omega, by omega, col_z ex2 (by omega)⟩ (Nat.lt_succ_self _)
theorem s_MD_isIn {G : cx_T} {h : ah_T} (hx : mi h) {a1 : Int} (hd : 1 ≤ h.2.1 170 70 ∧ h.2.1 170 70 ≤ 7) : con G 0 0 0 m_MD_isIn [av_R (some 170), av_I a1] h (fun r h' => ∃ z, r = some (av_I z) ∧ (z = 0 ∨ z = 1) ∧ h = h') := by
  refine con_of (L := [some (av_R (some 170)), some (av_I a1)]) (by decide +kernel) (Nat.le_of_ble_eq_true rfl) rfl ?_
  obtain ⟨sd1, esd1⟩ : ∃ x, x = h.2.1 170 70 := ⟨_, rfl⟩
  have rsd1 : 0 ≤ sd1 ∧ sd1 ≤ 10 := (by rw [esd1]; exact mi_g hx (by decide) mr_170_70)
  refine A_locI 1 rfl (fun ra => ?_)
  obtain ⟨_, _⟩ := ra
  refine A_aload_n 0 d_MD_isIn_0 rfl rfl ?_
  refine A_getAv (z := some 220) T_ok d_MD_isIn_1 f_MD_163 (mi_s hx sf_170) (mi_r hx rfm_79) ?_
  refine A_aload_n 0 d_MD_isIn_4 rfl rfl ?_
  refine A_getIv (z := sd1) T_ok d_MD_isIn_5 f_MD_399 (mi_s hx sf_170) esd1.symm ?_
  refine A_iconst d_MD_isIn_8 rfl ?_
  refine A_pc (pc' := 9) rfl ?_
  refine A_isubv (z := (sd1 - 1)) d_MD_isIn_9 (w32_to (by omega) (by unfold i32; omega)) ?_
  refine A_zaloadn d_MD_isIn_10 (mi_s hx sf_220) (by omega) (by omega) (fun x4 ex4 bx4 => ?_)
  exact A_zret d_MD_isIn_11 (by decide) rfl (by omega) ⟨_, rfl, by omega, rfl⟩
theorem s_MD_turned {G : cx_T} {h : ah_T} (hx : mi h) {a1 : Int} (la1 : 0 ≤ a1) (ua1 : a1 ≤ 1999) (hd : 1 ≤ h.2.1 170 70 ∧ h.2.1 170 70 ≤ 7) (hcm : h.2.1 170 71 ≤ 2005) : con G 1 0 0 m_MD_turned [av_R (some 170), av_I a1] h (fun r h' => ∃ z, r = some (av_I z) ∧ (1 ≤ z ∧ z ≤ 2001) ∧ ((h.2.1 218 (h.2.1 170 70 - 1).toNat < h.2.1 219 (h.2.1 170 70 - 1).toNat ∧ z = a1 + 1 ∧ h'.2.1 170 70 = h.2.1 170 70 ∧ h'.2.1 170 71 = h.2.1 170 71 + 1 ∧ h'.2.1 218 (h.2.1 170 70 - 1).toNat = h.2.1 218 (h.2.1 170 70 - 1).toNat + 1 ∧ ∀ k, k ≠ (h.2.1 170 70 - 1).toNat → h'.2.1 218 k = h.2.1 218 k) ∨ (h.2.1 219 (h.2.1 170 70 - 1).toNat ≤ h.2.1 218 (h.2.1 170 70 - 1).toNat ∧ z = h.2.1 210 a1.toNat + 1 ∧ h'.2.1 170 70 = h.2.1 170 70 - 1 ∧ h'.2.1 170 71 = h.2.1 170 71 ∧ ∀ k, h'.2.1 218 k = h.2.1 218 k)) ∧ kM (pm [70, 71] [218, 220]) h h') := by
  refine con_of (L := [some (av_R (some 170)), some (av_I a1)]) (by decide +kernel) (Nat.le_of_ble_eq_true rfl) rfl ?_
  have k0 : kM (pm [70, 71] [218, 220]) h h := kM_0 hx
  obtain ⟨sd1, esd1⟩ : ∃ x, x = h.2.1 170 70 := ⟨_, rfl⟩
  have rsd1 : 0 ≤ sd1 ∧ sd1 ≤ 10 := (by rw [esd1]; exact mi_g k0.1 (by decide) mr_170_70)
  obtain ⟨sd2, esd2⟩ : ∃ x, x = h.2.1 170 71 := ⟨_, rfl⟩
  have rsd2 : 0 ≤ sd2 ∧ sd2 ≤ 2010 := (by rw [esd2]; exact mi_g k0.1 (by decide) mr_170_71)
  refine A_aload_n 0 d_MD_turned_0 rfl rfl ?_
  refine A_getAv (z := some 220) T_ok d_MD_turned_1 f_MD_163 (mi_s k0.1 sf_170) (mi_r k0.1 rfm_79) ?_
  refine A_aload_n 0 d_MD_turned_4 rfl rfl ?_
  refine A_getIv (z := sd1) T_ok d_MD_turned_5 f_MD_399 (mi_s k0.1 sf_170) esd1.symm ?_
  refine A_iconst d_MD_turned_8 rfl ?_
  refine A_pc (pc' := 9) rfl ?_
  refine A_isubv (z := (sd1 - 1)) d_MD_turned_9 (w32_to (by omega) (by unfold i32; omega)) ?_
  refine A_iconst d_MD_turned_10 rfl ?_
  refine A_zastorek (KR := kM (pm [70, 71] [218, 220]) h) d_MD_turned_11 (mi_s k0.1 sf_220) (by omega) (by omega) (by omega) (kM_i k0 (by decide) rfl (mr_220 _) (by omega) (by omega)) (fun h5 k6 eh5 => ?_)
  refine A_aload_n 0 d_MD_turned_12 rfl rfl ?_
  refine A_getAv (z := some 218) T_ok d_MD_turned_13 f_MD_157 (mi_s k6.1 sf_170) (mi_r k6.1 rfm_68) ?_
  refine A_aload_n 0 d_MD_turned_16 rfl rfl ?_
  refine A_pc (pc' := 17) rfl ?_
  refine A_getIv (z := sd1) T_ok d_MD_turned_17 f_MD_399 (mi_s k6.1 sf_170) ((eh5.1 _ _ (fun q => absurd q (by decide))).trans esd1.symm) ?_
  refine A_iconst d_MD_turned_20 rfl ?_
  refine A_isubv (z := (sd1 - 1)) d_MD_turned_21 (w32_to (by omega) (by unfold i32; omega)) ?_
  refine A_ialoadn (lo := 0) (hi := 2001) d_MD_turned_22 (mi_s k6.1 sf_218) (by omega) (by omega) (mi_g k6.1 (by decide) (mr_218 _)) (fun x9 ex9 _ _ => ?_)
  have fx9 := ex9.trans ((eh5.1 218 ((sd1 - 1)).toNat (fun q => absurd q (by decide))))
  refine A_aload_n 0 d_MD_turned_23 rfl rfl ?_
  refine A_getAv (z := some 219) T_ok d_MD_turned_24 f_MD_160 (mi_s k6.1 sf_170) (mi_r k6.1 rfm_69) ?_
  refine A_pc (pc' := 27) rfl ?_
  refine A_aload_n 0 d_MD_turned_27 rfl rfl ?_
  refine A_getIv (z := sd1) T_ok d_MD_turned_28 f_MD_399 (mi_s k6.1 sf_170) ((eh5.1 _ _ (fun q => absurd q (by decide))).trans esd1.symm) ?_
  refine A_iconst d_MD_turned_31 rfl ?_
  refine A_isubv (z := (sd1 - 1)) d_MD_turned_32 (w32_to (by omega) (by unfold i32; omega)) ?_
  refine A_ialoadn (lo := 0) (hi := 2001) d_MD_turned_33 (mi_s k6.1 sf_219) (by omega) (by omega) (mi_g k6.1 (by decide) (mr_219 _)) (fun x12 ex12 _ _ => ?_)
  have fx12 := ex12.trans (k6.2.2.1 219 _ rfl)
  refine A_icmp_ge (tgt := 66) d_MD_turned_34 (by decide) (fun c13 => ?_) (fun c13 => ?_)
  · refine A_aload_n 0 d_MD_turned_66 rfl rfl ?_
    refine A_dupR d_MD_turned_67 ?_
    refine A_getIv (z := sd1) T_ok d_MD_turned_68 f_MD_399 (mi_s k6.1 sf_170) ((eh5.1 _ _ (fun q => absurd q (by decide))).trans esd1.symm) ?_
    refine A_iconst d_MD_turned_71 rfl ?_
    refine A_isubv (z := (sd1 - 1)) d_MD_turned_72 (w32_to (by omega) (by unfold i32; omega)) ?_
    refine A_pc (pc' := 73) rfl ?_
    refine A_putIk (KR := kM (pm [70, 71] [218, 220]) h) T_ok d_MD_turned_73 f_MD_399 (mi_s k6.1 sf_170) fin_f (kM_i k6 (by decide) (by decide) mr_170_70 (by omega) (by omega)) (fun h15 k16 eh15 => ?_)
    refine A_aload_n 0 d_MD_turned_76 rfl rfl ?_
    refine A_iload_n 1 d_MD_turned_77 rfl rfl ?_
    have zf18 := eh15.2.1
    have zf19 := ((eh15.1 _ _ (fun _ => by decide)).trans ((eh5.1 _ _ (fun q => absurd q (by decide))).trans esd2.symm))
    refine A_callV1 m_MD_closing T_ok d_MD_turned_78 l_MD_449 k_MD_closing (mi_s k16.1 sf_170) rfl (by decide +kernel) (by decide) (Nat.le_of_ble_eq_true rfl) (s_MD_closing k16.1 (by omega) (by omega)) (fun r h17 hq => ?_)
    obtain ⟨x21, rfl, ⟨_, _⟩, xx21, rfl⟩ := hq
    refine A_iconst d_MD_turned_81 rfl ?_
    refine A_iaddv (z := (x21 + 1)) d_MD_turned_82 (w32_to (by omega) (by unfold i32; omega)) ?_
    exact A_iret d_MD_turned_83 (by decide) rfl ⟨_, rfl, ⟨by omega, by omega⟩, (by rw [← esd1]; exact Or.inr ⟨by omega, by have q1 := ((eh15.1 210 a1.toNat (fun q => absurd q (by decide))).trans (eh5.1 210 a1.toNat (fun q => absurd q (by decide)))); omega, by have qq0 := eh15.2.1; omega, by have qq0 := ((eh15.1 _ _ (fun _ => by decide)).trans ((eh5.1 _ _ (fun q => absurd q (by decide))).trans esd2.symm)); omega, fun k => ((eh15.1 218 k (fun q => absurd q (by decide))).trans (eh5.1 218 k (fun q => absurd q (by decide))))⟩), k16⟩
  · refine A_aload_n 0 d_MD_turned_37 rfl rfl ?_
    refine A_getAv (z := some 218) T_ok d_MD_turned_38 f_MD_157 (mi_s k6.1 sf_170) (mi_r k6.1 rfm_68) ?_
    refine A_aload_n 0 d_MD_turned_41 rfl rfl ?_
    refine A_getIv (z := sd1) T_ok d_MD_turned_42 f_MD_399 (mi_s k6.1 sf_170) ((eh5.1 _ _ (fun q => absurd q (by decide))).trans esd1.symm) ?_
    refine A_iconst d_MD_turned_45 rfl ?_
    refine A_pc (pc' := 46) rfl ?_
    refine A_isubv (z := (sd1 - 1)) d_MD_turned_46 (w32_to (by omega) (by unfold i32; omega)) ?_
    refine A_dup2RI d_MD_turned_47 ?_
    refine A_ialoadv (z := x9) d_MD_turned_48 (mi_s k6.1 sf_218) (by omega) (by omega) ex9.symm ?_
    refine A_iconst d_MD_turned_49 rfl ?_
    refine A_iaddv (z := (x9 + 1)) d_MD_turned_50 (w32_to (by omega) (by unfold i32; omega)) ?_
    refine A_iastorek (KR := kM (pm [70, 71] [218, 220]) h) d_MD_turned_51 (mi_s k6.1 sf_218) (by omega) (by omega) (kM_i k6 (by decide) rfl (mr_218 _) (by omega) (by omega)) (fun h25 k26 eh25 => ?_)
    refine A_pc (pc' := 52) rfl ?_
    refine A_aload_n 0 d_MD_turned_52 rfl rfl ?_
    refine A_dupR d_MD_turned_53 ?_
    refine A_getIv (z := sd2) T_ok d_MD_turned_54 f_MD_402 (mi_s k26.1 sf_170) ((eh25.1 _ _ (fun q => absurd q (by decide))).trans ((eh5.1 _ _ (fun q => absurd q (by decide))).trans esd2.symm)) ?_
    refine A_iconst d_MD_turned_57 rfl ?_
    refine A_iaddv (z := (sd2 + 1)) d_MD_turned_58 (w32_to (by omega) (by unfold i32; omega)) ?_
    refine A_putIk (KR := kM (pm [70, 71] [218, 220]) h) T_ok d_MD_turned_59 f_MD_402 (mi_s k26.1 sf_170) fin_f (kM_i k26 (by decide) (by decide) mr_170_71 (by omega) (by omega)) (fun h28 k29 eh28 => ?_)
    refine A_pc (pc' := 62) rfl ?_
    refine A_iload_n 1 d_MD_turned_62 rfl rfl ?_
    refine A_iconst d_MD_turned_63 rfl ?_
    refine A_iaddv (z := (a1 + 1)) d_MD_turned_64 (w32_to (by omega) (by unfold i32; omega)) ?_
    exact A_iret d_MD_turned_65 (by decide) rfl ⟨_, rfl, ⟨by omega, by omega⟩, (by rw [← esd1]; exact Or.inl ⟨by have q1 := ((eh28.1 _ _ (fun q => absurd q (by decide))).trans eh25.2.1); omega, by omega, by have qq0 := ((eh28.1 _ _ (fun _ => by decide)).trans ((eh25.1 _ _ (fun q => absurd q (by decide))).trans ((eh5.1 _ _ (fun q => absurd q (by decide))).trans esd1.symm))); omega, by have qq0 := eh28.2.1; omega, by have q1 := ((eh28.1 _ _ (fun q => absurd q (by decide))).trans eh25.2.1); omega, (fun k hk => ((eh28.1 218 k (fun q => absurd q (by decide))).trans ((eh25.1 218 k (fun _ => hk)).trans (eh5.1 218 k (fun q => absurd q (by decide))))))⟩), k29⟩
theorem s_MD_scale {G : cx_T} {h : ah_T} (hx : mi h) {a1 : Int} {a2 : Int} (la1 : 1 ≤ a1) (ua1 : a1 ≤ 16) (la2 : 1 ≤ a2) (ua2 : a2 ≤ 16) (hsb : 1 ≤ h.2.2.1 170 77 ∧ h.2.2.1 170 77 ≤ 268435456 ∧ 1 ≤ h.2.2.1 170 78 ∧ h.2.2.1 170 78 ≤ 268435456) : con G 2 0 0 m_MD_scale [av_R (some 170), av_I a1, av_I a2] h (fun r h' => r = none ∧ ((∃ d : Int, d ≠ 0 ∧ h'.2.2.1 170 77 * d = h.2.2.1 170 77 * a1 ∧ h'.2.2.1 170 78 * d = h.2.2.1 170 78 * a2) ∧ 1 ≤ h'.2.2.1 170 77 ∧ 1 ≤ h'.2.2.1 170 78 ∧ Int.gcd (h'.2.2.1 170 77) (h'.2.2.1 170 78) = 1) ∧ kM (pm [65, 66, 77, 78] []) h h') := by
  refine con_of (L := [some (av_R (some 170)), some (av_I a1), some (av_I a2)]) (by decide +kernel) (Nat.le_of_ble_eq_true rfl) rfl ?_
  have k0 : kM (pm [65, 66, 77, 78] []) h h := kM_0 hx
  obtain ⟨sl1, esl1⟩ : ∃ x, x = h.2.2.1 170 77 := ⟨_, rfl⟩
  have rsl1 : 1 ≤ sl1 ∧ sl1 ≤ 268435456 := (by omega)
  obtain ⟨sl2, esl2⟩ : ∃ x, x = h.2.2.1 170 78 := ⟨_, rfl⟩
  have rsl2 : 1 ≤ sl2 ∧ sl2 ≤ 268435456 := (by omega)
  obtain ⟨sl3, esl3⟩ : ∃ x, x = h.2.2.1 170 65 := ⟨_, rfl⟩
  have rsl3 : (-9223372036854775808) ≤ sl3 ∧ sl3 ≤ 9223372036854775807 := (by rw [esl3]; exact mi_l k0.1 (by decide) mq_170_65)
  obtain ⟨sl4, esl4⟩ : ∃ x, x = h.2.2.1 170 66 := ⟨_, rfl⟩
  have rsl4 : (-9223372036854775808) ≤ sl4 ∧ sl4 ≤ 9223372036854775807 := (by rw [esl4]; exact mi_l k0.1 (by decide) mq_170_66)
  refine A_aload_n 0 d_MD_scale_0 rfl rfl ?_
  refine A_aload_n 0 d_MD_scale_1 rfl rfl ?_
  refine A_getLv (z := sl1) T_ok d_MD_scale_2 f_MD_420 (mi_s k0.1 sf_170) esl1.symm ?_
  refine A_iload_n 1 d_MD_scale_5 rfl rfl ?_
  refine A_i2l d_MD_scale_6 ?_
  refine A_pc (pc' := 7) rfl ?_
  refine A_lmulw d_MD_scale_7 (fun x6 ex6 _ _ => ?_)
  have cx6 := mul_pp64 (ux := 268435456) (uy := 16) ex6 (by omega) (by omega) (by omega) (by omega) (by decide)
  have bx6 := mul_b64 (ux := 268435456) (uy := 16) ex6 (by omega) (by omega) (by omega) (by omega) (by decide)
  refine A_aload_n 0 d_MD_scale_8 rfl rfl ?_
  refine A_getLv (z := sl2) T_ok d_MD_scale_9 f_MD_423 (mi_s k0.1 sf_170) esl2.symm ?_
  refine A_iload_n 2 d_MD_scale_12 rfl rfl ?_
  refine A_i2l d_MD_scale_13 ?_
  refine A_lmulw d_MD_scale_14 (fun x8 ex8 _ _ => ?_)
  have cx8 := mul_pp64 (ux := 268435456) (uy := 16) ex8 (by omega) (by omega) (by omega) (by omega) (by decide)
  have bx8 := mul_b64 (ux := 268435456) (uy := 16) ex8 (by omega) (by omega) (by omega) (by omega) (by decide)
  refine A_pc (pc' := 15) rfl ?_
  refine A_callV2 m_MD_fraction T_ok d_MD_scale_15 l_MD_391 k_MD_fraction (mi_s k0.1 sf_170) rfl (by decide +kernel) (by decide) (Nat.le_of_ble_eq_true rfl) (s_MD_fraction k0.1 (by omega) (by omega) (by omega) (by omega)) (fun r h9 hq => ?_)
  obtain ⟨rfl, xk10, k10⟩ := hq
  have k11 := kM_t k0 k10 (pm_s (by decide) (by decide))
  obtain ⟨sl12, esl12⟩ : ∃ x, x = h9.2.2.1 170 65 := ⟨_, rfl⟩
  have rsl12 : (-9223372036854775808) ≤ sl12 ∧ sl12 ≤ 9223372036854775807 := (by rw [esl12]; exact mi_l k11.1 (by decide) mq_170_65)
  obtain ⟨sl13, esl13⟩ : ∃ x, x = h9.2.2.1 170 66 := ⟨_, rfl⟩
  have rsl13 : (-9223372036854775808) ≤ sl13 ∧ sl13 ≤ 9223372036854775807 := (by rw [esl13]; exact mi_l k11.1 (by decide) mq_170_66)
  refine A_aload_n 0 d_MD_scale_18 rfl rfl ?_
  refine A_aload_n 0 d_MD_scale_19 rfl rfl ?_
  refine A_getLv (z := sl12) T_ok d_MD_scale_20 f_MD_385 (mi_s k11.1 sf_170) esl12.symm ?_
  refine A_putLk (KR := kM (pm [65, 66, 77, 78] []) h) T_ok d_MD_scale_23 f_MD_420 (mi_s k11.1 sf_170) fin_f (kM_l k11 (by decide) (by decide) mq_170_77 (by omega) (by omega)) (fun h15 k16 eh15 => ?_)
  refine A_aload_n 0 d_MD_scale_26 rfl rfl ?_
  refine A_pc (pc' := 27) rfl ?_
  refine A_aload_n 0 d_MD_scale_27 rfl rfl ?_
  refine A_getLv (z := sl13) T_ok d_MD_scale_28 f_MD_388 (mi_s k16.1 sf_170) ((eh15.2.1 _ _ (fun _ => by decide)).trans esl13.symm) ?_
  refine A_putLk (KR := kM (pm [65, 66, 77, 78] []) h) T_ok d_MD_scale_31 f_MD_423 (mi_s k16.1 sf_170) fin_f (kM_l k16 (by decide) (by decide) mq_170_78 (by omega) (by omega)) (fun h18 k19 eh18 => ?_)
  exact A_vret d_MD_scale_34 (by decide) rfl ⟨rfl, (by obtain ⟨⟨dd, o1, o2, o3⟩, o4, o5, o6, o7, o8, o9⟩ := xk10; rw [((eh18.2.1 _ _ (fun _ => by decide)).trans eh15.2.2), eh18.2.2]; exact sc_ok o1 o2 o4 o8 o9 bx6.2.2 bx8.2.2 esl1 esl2 esl12 esl13 (by omega)), k19⟩
theorem s_MD_event_IIV {G : cx_T} {h : ah_T} (hx : mi h) {a1 : Int} {a2 : Int} (la1 : 4 ≤ a1) (ua1 : a1 ≤ 7) (la2 : 0 ≤ a2) (ua2 : a2 ≤ 1999) (hev : h.2.1 170 72 ≤ 299) (hsb : 1 ≤ h.2.2.1 170 77 ∧ h.2.2.1 170 77 ≤ 268435456 ∧ 1 ≤ h.2.2.1 170 78 ∧ h.2.2.1 170 78 ≤ 268435456) (hgn : h.2.1 170 74 = 0 → (0 ≤ h.2.2.1 170 75 ∧ h.2.2.1 170 75 ≤ 1000000000) ∧ 1 ≤ h.2.2.1 170 76 ∧ h.2.2.1 170 76 ≤ 1000000) (hpt : 1 ≤ h.2.1 202 a2.toNat ∧ h.2.1 202 a2.toNat ≤ 64) : con G 3 0 0 m_MD_event_IIV [av_R (some 170), av_I a1, av_I a2] h (fun r h' => r = none ∧ ((h'.2.1 170 74 = 0 → h.2.1 170 74 = 0 ∧ ((0 ≤ h'.2.2.1 170 75 ∧ h'.2.2.1 170 75 ≤ 1000000000) ∧ 1 ≤ h'.2.2.1 170 76 ∧ h'.2.2.1 170 76 ≤ 1000000) ∧ EV h' (300 * a1 + h.2.1 170 72).toNat) ∧ (∀ k, k ≠ (300 * a1 + h.2.1 170 72).toNat → h'.2.2.1 187 k = h.2.2.1 187 k) ∧ (∀ k, k ≠ (300 * a1 + h.2.1 170 72).toNat → h'.2.2.1 188 k = h.2.2.1 188 k) ∧ (∀ k, k ≠ (300 * a1 + h.2.1 170 72).toNat → h'.2.2.1 189 k = h.2.2.1 189 k) ∧ (∀ k, k ≠ (300 * a1 + h.2.1 170 72).toNat → h'.2.2.1 190 k = h.2.2.1 190 k) ∧ (∀ k, k ≠ (300 * a1 + h.2.1 170 72).toNat → h'.2.1 196 k = h.2.1 196 k) ∧ h'.2.1 196 (300 * a1 + h.2.1 170 72).toNat = h.2.1 170 73) ∧ kM (pm [65, 66, 74, 75, 76] [187, 188, 189, 190, 191, 192, 193, 194, 195, 196, 197, 198]) h h') := by
  refine con_of (L := [some (av_R (some 170)), some (av_I a1), some (av_I a2), none, none]) (by decide +kernel) (Nat.le_of_ble_eq_true rfl) rfl ?_
  have k0 : kM (pm [65, 66, 74, 75, 76] [187, 188, 189, 190, 191, 192, 193, 194, 195, 196, 197, 198]) h h := kM_0 hx
  obtain ⟨sd1, esd1⟩ : ∃ x, x = h.2.1 170 72 := ⟨_, rfl⟩
  have rsd1 : 0 ≤ sd1 ∧ sd1 ≤ 301 := (by rw [esd1]; exact mi_g k0.1 (by decide) mr_170_72)
  obtain ⟨sd2, esd2⟩ : ∃ x, x = h.2.1 170 73 := ⟨_, rfl⟩
  have rsd2 : 0 ≤ sd2 ∧ sd2 ≤ 101 := (by rw [esd2]; exact mi_g k0.1 (by decide) mr_170_73)
  obtain ⟨sd3, esd3⟩ : ∃ x, x = h.2.1 170 74 := ⟨_, rfl⟩
  obtain ⟨sl4, esl4⟩ : ∃ x, x = h.2.2.1 170 75 := ⟨_, rfl⟩
  have rsl4 : 0 ≤ sl4 ∧ sl4 ≤ 2000000000000000 := (by rw [esl4]; exact mi_l k0.1 (by decide) mq_170_75)
  obtain ⟨sl5, esl5⟩ : ∃ x, x = h.2.2.1 170 76 := ⟨_, rfl⟩
  have rsl5 : 0 ≤ sl5 ∧ sl5 ≤ 1000000000000 := (by rw [esl5]; exact mi_l k0.1 (by decide) mq_170_76)
  obtain ⟨sl6, esl6⟩ : ∃ x, x = h.2.2.1 170 77 := ⟨_, rfl⟩
  have rsl6 : 1 ≤ sl6 ∧ sl6 ≤ 268435456 := (by omega)
  obtain ⟨sl7, esl7⟩ : ∃ x, x = h.2.2.1 170 78 := ⟨_, rfl⟩
  have rsl7 : 1 ≤ sl7 ∧ sl7 ≤ 268435456 := (by omega)
  obtain ⟨sl8, esl8⟩ : ∃ x, x = h.2.2.1 170 65 := ⟨_, rfl⟩
  have rsl8 : (-9223372036854775808) ≤ sl8 ∧ sl8 ≤ 9223372036854775807 := (by rw [esl8]; exact mi_l k0.1 (by decide) mq_170_65)
  obtain ⟨sl9, esl9⟩ : ∃ x, x = h.2.2.1 170 66 := ⟨_, rfl⟩
  have rsl9 : (-9223372036854775808) ≤ sl9 ∧ sl9 ≤ 9223372036854775807 := (by rw [esl9]; exact mi_l k0.1 (by decide) mq_170_66)
  refine A_sipush d_MD_event_IIV_0 rfl ?_
  refine A_iload_n 1 d_MD_event_IIV_3 rfl rfl ?_
  refine A_imulv (z := (300 * a1)) d_MD_event_IIV_4 (w32_to (by omega) (by unfold i32; omega)) ?_
  refine A_aload_n 0 d_MD_event_IIV_5 rfl rfl ?_
  refine A_getIv (z := sd1) T_ok d_MD_event_IIV_6 f_MD_405 (mi_s k0.1 sf_170) esd1.symm ?_
  refine A_pc (pc' := 9) rfl ?_
  refine A_iaddv (z := (300 * a1 + sd1)) d_MD_event_IIV_9 (w32_to (by omega) (by unfold i32; omega)) ?_
  refine A_istore_n 3 (L' := [some (av_R (some 170)), some (av_I a1), some (av_I a2), some (av_I (300 * a1 + sd1)), none]) d_MD_event_IIV_10 rfl (Nat.le_of_ble_eq_true rfl) rfl ?_
  refine A_aload_n 0 d_MD_event_IIV_11 rfl rfl ?_
  refine A_getAv (z := some 191) T_ok d_MD_event_IIV_12 f_MD_75 (mi_s k0.1 sf_170) (mi_r k0.1 rfm_33) ?_
  refine A_iload_n 3 d_MD_event_IIV_15 rfl rfl ?_
  refine A_aload_n 0 d_MD_event_IIV_16 rfl rfl ?_
  refine A_pc (pc' := 17) rfl ?_
  refine A_getAv (z := some 204) T_ok d_MD_event_IIV_17 f_MD_115 (mi_s k0.1 sf_170) (mi_r k0.1 rfm_47) ?_
  refine A_iload_n 2 d_MD_event_IIV_20 rfl rfl ?_
  refine A_ialoadn (lo := 0) (hi := 4) d_MD_event_IIV_21 (mi_s k0.1 sf_204) (by omega) (by omega) (mi_g k0.1 (by decide) (mr_204 _)) (fun x13 ex13 _ _ => ?_)
  refine A_iastorek (KR := kM (pm [65, 66, 74, 75, 76] [187, 188, 189, 190, 191, 192, 193, 194, 195, 196, 197, 198]) h) d_MD_event_IIV_22 (mi_s k0.1 sf_191) (by omega) (by omega) (kM_i k0 (by decide) rfl (mr_191 _) (by omega) (by omega)) (fun h14 k15 eh14 => ?_)
  refine A_iconst d_MD_event_IIV_23 rfl ?_
  refine A_istore (L' := [some (av_R (some 170)), some (av_I a1), some (av_I a2), some (av_I (300 * a1 + sd1)), some (av_I 0)]) d_MD_event_IIV_24 (Nat.le_of_ble_eq_true rfl) rfl ?_
  have lp26 : ∀ (n : Nat) (i16 : Int) (h17 : ah_T) , 0 ≤ i16 → i16 ≤ 4 → (h17.2.1 170 74 = h.2.1 170 74 ∧ h17.2.2.1 = h.2.2.1 ∧ h17.2.1 196 = h.2.1 196) → kM (pm [65, 66, 74, 75, 76] [187, 188, 189, 190, 191, 192, 193, 194, 195, 196, 197, 198]) h h17 → (5 - i16).toNat < n → aw G (rm_R 3 0 0) m_MD_event_IIV 0 0 26 [some (av_R (some 170)), some (av_I a1), some (av_I a2), some (av_I (300 * a1 + sd1)), some (av_I i16)] [] h17 (fun r h' => r = none ∧ ((h'.2.1 170 74 = 0 → h.2.1 170 74 = 0 ∧ ((0 ≤ h'.2.2.1 170 75 ∧ h'.2.2.1 170 75 ≤ 1000000000) ∧ 1 ≤ h'.2.2.1 170 76 ∧ h'.2.2.1 170 76 ≤ 1000000) ∧ EV h' (300 * a1 + h.2.1 170 72).toNat) ∧ (∀ k, k ≠ (300 * a1 + h.2.1 170 72).toNat → h'.2.2.1 187 k = h.2.2.1 187 k) ∧ (∀ k, k ≠ (300 * a1 + h.2.1 170 72).toNat → h'.2.2.1 188 k = h.2.2.1 188 k) ∧ (∀ k, k ≠ (300 * a1 + h.2.1 170 72).toNat → h'.2.2.1 189 k = h.2.2.1 189 k) ∧ (∀ k, k ≠ (300 * a1 + h.2.1 170 72).toNat → h'.2.2.1 190 k = h.2.2.1 190 k) ∧ (∀ k, k ≠ (300 * a1 + h.2.1 170 72).toNat → h'.2.1 196 k = h.2.1 196 k) ∧ h'.2.1 196 (300 * a1 + h.2.1 170 72).toNat = h.2.1 170 73) ∧ kM (pm [65, 66, 74, 75, 76] [187, 188, 189, 190, 191, 192, 193, 194, 195, 196, 197, 198]) h h') := by
    intro n
    induction n with
    | zero => intro i16 h17 _ _ _ _ hm; omega
    | succ n ih26 =>
      intro i16 h17 hl0 hl1 hinv k18 hm
      obtain ⟨sl19, esl19⟩ : ∃ x, x = h17.2.2.1 170 65 := ⟨_, rfl⟩
      have rsl19 : (-9223372036854775808) ≤ sl19 ∧ sl19 ≤ 9223372036854775807 := (by rw [esl19]; exact mi_l k18.1 (by decide) mq_170_65)
      obtain ⟨sl20, esl20⟩ : ∃ x, x = h17.2.2.1 170 66 := ⟨_, rfl⟩
      have rsl20 : (-9223372036854775808) ≤ sl20 ∧ sl20 ≤ 9223372036854775807 := (by rw [esl20]; exact mi_l k18.1 (by decide) mq_170_66)
      refine A_iload d_MD_event_IIV_26 rfl ?_
      refine A_iconst d_MD_event_IIV_28 rfl ?_
      refine A_icmp_ge (tgt := 82) d_MD_event_IIV_29 (by decide) (fun c21 => ?_) (fun c21 => ?_)
      · refine A_aload_n 0 d_MD_event_IIV_82 rfl rfl ?_
        refine A_getAv (z := some 194) T_ok d_MD_event_IIV_83 f_MD_84 (mi_s k18.1 sf_170) (mi_r k18.1 rfm_36) ?_
        refine A_iload_n 3 d_MD_event_IIV_86 rfl rfl ?_
        refine A_aload_n 0 d_MD_event_IIV_87 rfl rfl ?_
        refine A_getAv (z := some 207) T_ok d_MD_event_IIV_88 f_MD_124 (mi_s k18.1 sf_170) (mi_r k18.1 rfm_50) ?_
        refine A_pc (pc' := 91) rfl ?_
        refine A_iload_n 2 d_MD_event_IIV_91 rfl rfl ?_
        refine A_ialoadf d_MD_event_IIV_92 (mi_s k18.1 sf_207) (by omega) (by omega) (fun x24 ex24 _ _ => ?_)
        refine A_iastorek (KR := kM (pm [65, 66, 74, 75, 76] [187, 188, 189, 190, 191, 192, 193, 194, 195, 196, 197, 198]) h) d_MD_event_IIV_93 (mi_s k18.1 sf_194) (by omega) (by omega) (kM_i k18 (by decide) rfl (mr_194 _) (by omega) (by omega)) (fun h25 k26 eh25 => ?_)
        refine A_aload_n 0 d_MD_event_IIV_94 rfl rfl ?_
        refine A_getAv (z := some 195) T_ok d_MD_event_IIV_95 f_MD_87 (mi_s k26.1 sf_170) (mi_r k26.1 rfm_37) ?_
        refine A_iload_n 3 d_MD_event_IIV_98 rfl rfl ?_
        refine A_pc (pc' := 99) rfl ?_
        refine A_aload_n 0 d_MD_event_IIV_99 rfl rfl ?_
        refine A_getAv (z := some 208) T_ok d_MD_event_IIV_100 f_MD_127 (mi_s k26.1 sf_170) (mi_r k26.1 rfm_51) ?_
        refine A_iload_n 2 d_MD_event_IIV_103 rfl rfl ?_
        refine A_zaloadn d_MD_event_IIV_104 (mi_s k26.1 sf_208) (by omega) (by omega) (fun x29 ex29 bx29 => ?_)
        refine A_zastorek (KR := kM (pm [65, 66, 74, 75, 76] [187, 188, 189, 190, 191, 192, 193, 194, 195, 196, 197, 198]) h) d_MD_event_IIV_105 (mi_s k26.1 sf_195) (by omega) (by omega) (by omega) (kM_i k26 (by decide) rfl (mr_195 _) (by omega) (by omega)) (fun h30 k31 eh30 => ?_)
        refine A_aload_n 0 d_MD_event_IIV_106 rfl rfl ?_
        refine A_pc (pc' := 107) rfl ?_
        refine A_getAv (z := some 197) T_ok d_MD_event_IIV_107 f_MD_94 (mi_s k31.1 sf_170) (mi_r k31.1 rfm_39) ?_
        refine A_iload_n 3 d_MD_event_IIV_110 rfl rfl ?_
        refine A_aload_n 0 d_MD_event_IIV_111 rfl rfl ?_
        refine A_getAv (z := some 202) T_ok d_MD_event_IIV_112 f_MD_109 (mi_s k31.1 sf_170) (mi_r k31.1 rfm_45) ?_
        refine A_iload_n 2 d_MD_event_IIV_115 rfl rfl ?_
        refine A_ialoadn (lo := 0) (hi := 64) d_MD_event_IIV_116 (mi_s k31.1 sf_202) (by omega) (by omega) (mi_g k31.1 (by decide) (mr_202 _)) (fun x34 ex34 _ _ => ?_)
        have fx34 := ex34.trans (k31.2.2.1 202 _ rfl)
        have yx34 : 1 ≤ x34 ∧ x34 ≤ 64 := (by omega)
        refine A_pc (pc' := 117) rfl ?_
        refine A_iastorek (KR := kM (pm [65, 66, 74, 75, 76] [187, 188, 189, 190, 191, 192, 193, 194, 195, 196, 197, 198]) h) d_MD_event_IIV_117 (mi_s k31.1 sf_197) (by omega) (by omega) (kM_i k31 (by decide) rfl (mr_197 _) (by omega) (by omega)) (fun h35 k36 eh35 => ?_)
        refine A_aload_n 0 d_MD_event_IIV_118 rfl rfl ?_
        refine A_getAv (z := some 198) T_ok d_MD_event_IIV_119 f_MD_97 (mi_s k36.1 sf_170) (mi_r k36.1 rfm_40) ?_
        refine A_iload_n 3 d_MD_event_IIV_122 rfl rfl ?_
        refine A_aload_n 0 d_MD_event_IIV_123 rfl rfl ?_
        refine A_getAv (z := some 209) T_ok d_MD_event_IIV_124 f_MD_130 (mi_s k36.1 sf_170) (mi_r k36.1 rfm_52) ?_
        refine A_pc (pc' := 127) rfl ?_
        refine A_iload_n 2 d_MD_event_IIV_127 rfl rfl ?_
        refine A_ialoadn (lo := 0) (hi := 3) d_MD_event_IIV_128 (mi_s k36.1 sf_209) (by omega) (by omega) (mi_g k36.1 (by decide) (mr_209 _)) (fun x39 ex39 _ _ => ?_)
        refine A_iastorek (KR := kM (pm [65, 66, 74, 75, 76] [187, 188, 189, 190, 191, 192, 193, 194, 195, 196, 197, 198]) h) d_MD_event_IIV_129 (mi_s k36.1 sf_198) (by omega) (by omega) (kM_i k36 (by decide) rfl (mr_198 _) (by omega) (by omega)) (fun h40 k41 eh40 => ?_)
        refine A_aload_n 0 d_MD_event_IIV_130 rfl rfl ?_
        refine A_getAv (z := some 196) T_ok d_MD_event_IIV_131 f_MD_91 (mi_s k41.1 sf_170) (mi_r k41.1 rfm_38) ?_
        refine A_iload_n 3 d_MD_event_IIV_134 rfl rfl ?_
        refine A_pc (pc' := 135) rfl ?_
        refine A_aload_n 0 d_MD_event_IIV_135 rfl rfl ?_
        refine A_getIv (z := sd2) T_ok d_MD_event_IIV_136 f_MD_408 (mi_s k41.1 sf_170) ((eh40.1 _ _ (fun q => absurd q (by decide))).trans ((eh35.1 _ _ (fun q => absurd q (by decide))).trans ((eh30.1 _ _ (fun q => absurd q (by decide))).trans ((eh25.1 _ _ (fun q => absurd q (by decide))).trans ((k18.2.2.1 _ _ rfl).trans esd2.symm))))) ?_
        refine A_iastorek (KR := kM (pm [65, 66, 74, 75, 76] [187, 188, 189, 190, 191, 192, 193, 194, 195, 196, 197, 198]) h) d_MD_event_IIV_139 (mi_s k41.1 sf_196) (by omega) (by omega) (kM_i k41 (by decide) rfl (mr_196 _) (by omega) (by omega)) (fun h44 k45 eh44 => ?_)
        refine A_aload_n 0 d_MD_event_IIV_140 rfl rfl ?_
        refine A_getAv (z := some 187) T_ok d_MD_event_IIV_141 f_MD_63 (mi_s k45.1 sf_170) (mi_r k45.1 rfm_29) ?_
        refine A_iload_n 3 d_MD_event_IIV_144 rfl rfl ?_
        refine A_pc (pc' := 145) rfl ?_
        refine A_aload_n 0 d_MD_event_IIV_145 rfl rfl ?_
        refine A_getLv (z := sl4) T_ok d_MD_event_IIV_146 f_MD_414 (mi_s k45.1 sf_170) ((congrFun (congrFun eh44.2.2 _) _).trans ((congrFun (congrFun eh40.2.2 _) _).trans ((congrFun (congrFun eh35.2.2 _) _).trans ((congrFun (congrFun eh30.2.2 _) _).trans ((congrFun (congrFun eh25.2.2 _) _).trans ((congrFun (congrFun hinv.2.1 _) _).trans esl4.symm)))))) ?_
        refine A_lastorek (KR := kM (pm [65, 66, 74, 75, 76] [187, 188, 189, 190, 191, 192, 193, 194, 195, 196, 197, 198]) h) d_MD_event_IIV_149 (mi_s k45.1 sf_187) (by omega) (by omega) (kM_l k45 (by decide) rfl (mq_187 _) (by omega) (by omega)) (fun h48 k49 eh48 => ?_)
        refine A_aload_n 0 d_MD_event_IIV_150 rfl rfl ?_
        refine A_getAv (z := some 188) T_ok d_MD_event_IIV_151 f_MD_66 (mi_s k49.1 sf_170) (mi_r k49.1 rfm_30) ?_
        refine A_iload_n 3 d_MD_event_IIV_154 rfl rfl ?_
        refine A_pc (pc' := 155) rfl ?_
        refine A_aload_n 0 d_MD_event_IIV_155 rfl rfl ?_
        refine A_getLv (z := sl5) T_ok d_MD_event_IIV_156 f_MD_417 (mi_s k49.1 sf_170) ((eh48.2.1 _ _ (fun q => absurd q (by decide))).trans ((congrFun (congrFun eh44.2.2 _) _).trans ((congrFun (congrFun eh40.2.2 _) _).trans ((congrFun (congrFun eh35.2.2 _) _).trans ((congrFun (congrFun eh30.2.2 _) _).trans ((congrFun (congrFun eh25.2.2 _) _).trans ((congrFun (congrFun hinv.2.1 _) _).trans esl5.symm))))))) ?_
        refine A_lastorek (KR := kM (pm [65, 66, 74, 75, 76] [187, 188, 189, 190, 191, 192, 193, 194, 195, 196, 197, 198]) h) d_MD_event_IIV_159 (mi_s k49.1 sf_188) (by omega) (by omega) (kM_l k49 (by decide) rfl (mq_188 _) (by omega) (by omega)) (fun h52 k53 eh52 => ?_)
        refine A_aload_n 0 d_MD_event_IIV_160 rfl rfl ?_
        refine A_getAv (z := some 209) T_ok d_MD_event_IIV_161 f_MD_130 (mi_s k53.1 sf_170) (mi_r k53.1 rfm_52) ?_
        refine A_iload_n 2 d_MD_event_IIV_164 rfl rfl ?_
        refine A_pc (pc' := 165) rfl ?_
        refine A_ialoadv (z := x39) d_MD_event_IIV_165 (mi_s k53.1 sf_209) (by omega) (by omega) ((congrFun (congrFun eh52.1 _) _).trans ((congrFun (congrFun eh48.1 _) _).trans ((eh44.1 _ _ (fun q => absurd q (by decide))).trans ((eh40.1 _ _ (fun q => absurd q (by decide))).trans ex39.symm)))) ?_
        refine A_istore (L' := [some (av_R (some 170)), some (av_I a1), some (av_I a2), some (av_I (300 * a1 + sd1)), some (av_I x39)]) d_MD_event_IIV_166 (Nat.le_of_ble_eq_true rfl) rfl ?_
        refine A_aload_n 0 d_MD_event_IIV_168 rfl rfl ?_
        refine A_ldc2 (z := 2) d_MD_event_IIV_169 cst_MD_452 rfl ?_
        refine A_iload d_MD_event_IIV_172 rfl ?_
        refine A_lshl d_MD_event_IIV_174 ?_
        refine A_nrL (fun x56 ex56 _ _ => ?_)
        have bx56 := lshl_s (by decide) ex56 (by omega) (by omega)
        refine A_pc (pc' := 175) rfl ?_
        refine A_lconst_1 d_MD_event_IIV_175 ?_
        refine A_lsubv (z := (x56 - 1)) d_MD_event_IIV_176 (w64_to (by omega) (by unfold i64; omega)) ?_
        refine A_aload_n 0 d_MD_event_IIV_177 rfl rfl ?_
        refine A_getLv (z := sl6) T_ok d_MD_event_IIV_178 f_MD_420 (mi_s k53.1 sf_170) ((eh52.2.1 _ _ (fun q => absurd q (by decide))).trans ((eh48.2.1 _ _ (fun q => absurd q (by decide))).trans ((congrFun (congrFun eh44.2.2 _) _).trans ((congrFun (congrFun eh40.2.2 _) _).trans ((congrFun (congrFun eh35.2.2 _) _).trans ((congrFun (congrFun eh30.2.2 _) _).trans ((congrFun (congrFun eh25.2.2 _) _).trans ((k18.2.2.2 _ _ rfl).trans esl6.symm)))))))) ?_
        refine A_lmulw d_MD_event_IIV_181 (fun x58 ex58 _ _ => ?_)
        have bx58 := mul_pp64 (ux := 15) (uy := 268435456) ex58 (by omega) (by omega) (by omega) (by omega) (by decide)
        refine A_aload_n 0 d_MD_event_IIV_182 rfl rfl ?_
        refine A_pc (pc' := 183) rfl ?_
        refine A_getAv (z := some 202) T_ok d_MD_event_IIV_183 f_MD_109 (mi_s k53.1 sf_170) (mi_r k53.1 rfm_45) ?_
        refine A_iload_n 2 d_MD_event_IIV_186 rfl rfl ?_
        refine A_ialoadv (z := x34) d_MD_event_IIV_187 (mi_s k53.1 sf_202) (by omega) (by omega) ((congrFun (congrFun eh52.1 _) _).trans ((congrFun (congrFun eh48.1 _) _).trans ((eh44.1 _ _ (fun q => absurd q (by decide))).trans ((eh40.1 _ _ (fun q => absurd q (by decide))).trans ((eh35.1 _ _ (fun q => absurd q (by decide))).trans ex34.symm))))) ?_
        refine A_i2l d_MD_event_IIV_188 ?_
        refine A_lconst_1 d_MD_event_IIV_189 ?_
        refine A_iload d_MD_event_IIV_190 rfl ?_
        refine A_pc (pc' := 192) rfl ?_
        refine A_lshl d_MD_event_IIV_192 ?_
        refine A_nrL (fun x61 ex61 _ _ => ?_)
        have bx61 := lshl_s (by decide) ex61 (by omega) (by omega)
        refine A_lmulw d_MD_event_IIV_193 (fun x62 ex62 _ _ => ?_)
        have bx62 := mul_pp64 (ux := 64) (uy := 8) ex62 (by omega) (by omega) (by omega) (by omega) (by decide)
        refine A_aload_n 0 d_MD_event_IIV_194 rfl rfl ?_
        refine A_getLv (z := sl7) T_ok d_MD_event_IIV_195 f_MD_423 (mi_s k53.1 sf_170) ((eh52.2.1 _ _ (fun q => absurd q (by decide))).trans ((eh48.2.1 _ _ (fun q => absurd q (by decide))).trans ((congrFun (congrFun eh44.2.2 _) _).trans ((congrFun (congrFun eh40.2.2 _) _).trans ((congrFun (congrFun eh35.2.2 _) _).trans ((congrFun (congrFun eh30.2.2 _) _).trans ((congrFun (congrFun eh25.2.2 _) _).trans ((k18.2.2.2 _ _ rfl).trans esl7.symm)))))))) ?_
        refine A_lmulw d_MD_event_IIV_198 (fun x64 ex64 _ _ => ?_)
        have bx64 := mul_pp64 (ux := 512) (uy := 268435456) ex64 (by omega) (by omega) (by omega) (by omega) (by decide)
        have zf66 := ((congrFun (congrFun eh52.1 _) _).trans ((congrFun (congrFun eh48.1 _) _).trans ((eh44.1 _ _ (fun q => absurd q (by decide))).trans ((eh40.1 _ _ (fun q => absurd q (by decide))).trans ((eh35.1 _ _ (fun q => absurd q (by decide))).trans ((eh30.1 _ _ (fun q => absurd q (by decide))).trans ((eh25.1 _ _ (fun q => absurd q (by decide))).trans ((k18.2.2.1 _ _ rfl).trans esd1.symm))))))))
        have zf67 := ((congrFun (congrFun eh52.1 _) _).trans ((congrFun (congrFun eh48.1 _) _).trans ((eh44.1 _ _ (fun q => absurd q (by decide))).trans ((eh40.1 _ _ (fun q => absurd q (by decide))).trans ((eh35.1 _ _ (fun q => absurd q (by decide))).trans ((eh30.1 _ _ (fun q => absurd q (by decide))).trans ((eh25.1 _ _ (fun q => absurd q (by decide))).trans ((k18.2.2.1 _ _ rfl).trans esd2.symm))))))))
        have zf68 := ((congrFun (congrFun eh52.1 _) _).trans ((congrFun (congrFun eh48.1 _) _).trans ((eh44.1 _ _ (fun q => absurd q (by decide))).trans ((eh40.1 _ _ (fun q => absurd q (by decide))).trans ((eh35.1 _ _ (fun q => absurd q (by decide))).trans ((eh30.1 _ _ (fun q => absurd q (by decide))).trans ((eh25.1 _ _ (fun q => absurd q (by decide))).trans (hinv.1.trans esd3.symm))))))))
        refine A_callV2 m_MD_fraction T_ok d_MD_event_IIV_199 l_MD_391 k_MD_fraction (mi_s k53.1 sf_170) rfl (by decide +kernel) (by decide) (Nat.le_of_ble_eq_true rfl) (s_MD_fraction k53.1 (by omega) (by omega) (by omega) (by omega)) (fun r h65 hq => ?_)
        obtain ⟨rfl, xk69, k69⟩ := hq
        have k70 := kM_t k53 k69 (pm_s (by decide) (by decide))
        obtain ⟨sl71, esl71⟩ : ∃ x, x = h65.2.2.1 170 65 := ⟨_, rfl⟩
        have rsl71 : (-9223372036854775808) ≤ sl71 ∧ sl71 ≤ 9223372036854775807 := (by rw [esl71]; exact mi_l k70.1 (by decide) mq_170_65)
        obtain ⟨sl72, esl72⟩ : ∃ x, x = h65.2.2.1 170 66 := ⟨_, rfl⟩
        have rsl72 : (-9223372036854775808) ≤ sl72 ∧ sl72 ≤ 9223372036854775807 := (by rw [esl72]; exact mi_l k70.1 (by decide) mq_170_66)
        refine A_aload_n 0 d_MD_event_IIV_202 rfl rfl ?_
        refine A_getAv (z := some 189) T_ok d_MD_event_IIV_203 f_MD_69 (mi_s k70.1 sf_170) (mi_r k70.1 rfm_31) ?_
        refine A_iload_n 3 d_MD_event_IIV_206 rfl rfl ?_
        refine A_aload_n 0 d_MD_event_IIV_207 rfl rfl ?_
        refine A_getLv (z := sl71) T_ok d_MD_event_IIV_208 f_MD_385 (mi_s k70.1 sf_170) esl71.symm ?_
        refine A_pc (pc' := 211) rfl ?_
        refine A_lastorek (KR := kM (pm [65, 66, 74, 75, 76] [187, 188, 189, 190, 191, 192, 193, 194, 195, 196, 197, 198]) h) d_MD_event_IIV_211 (mi_s k70.1 sf_189) (by omega) (by omega) (kM_l k70 (by decide) rfl (mq_189 _) (by omega) (by omega)) (fun h75 k76 eh75 => ?_)
        refine A_aload_n 0 d_MD_event_IIV_212 rfl rfl ?_
        refine A_getAv (z := some 190) T_ok d_MD_event_IIV_213 f_MD_72 (mi_s k76.1 sf_170) (mi_r k76.1 rfm_32) ?_
        refine A_iload_n 3 d_MD_event_IIV_216 rfl rfl ?_
        refine A_aload_n 0 d_MD_event_IIV_217 rfl rfl ?_
        refine A_getLv (z := sl72) T_ok d_MD_event_IIV_218 f_MD_388 (mi_s k76.1 sf_170) ((eh75.2.1 _ _ (fun q => absurd q (by decide))).trans esl72.symm) ?_
        refine A_pc (pc' := 221) rfl ?_
        refine A_lastorek (KR := kM (pm [65, 66, 74, 75, 76] [187, 188, 189, 190, 191, 192, 193, 194, 195, 196, 197, 198]) h) d_MD_event_IIV_221 (mi_s k76.1 sf_190) (by omega) (by omega) (kM_l k76 (by decide) rfl (mq_190 _) (by omega) (by omega)) (fun h79 k80 eh79 => ?_)
        refine A_aload_n 0 d_MD_event_IIV_222 rfl rfl ?_
        refine A_getZv (z := sd3) T_ok d_MD_event_IIV_223 f_MD_411 (mi_s k80.1 sf_170) ((congrFun (congrFun eh79.1 _) _).trans ((congrFun (congrFun eh75.1 _) _).trans ((k69.2.2.1 _ _ rfl).trans ((congrFun (congrFun eh52.1 _) _).trans ((congrFun (congrFun eh48.1 _) _).trans ((eh44.1 _ _ (fun q => absurd q (by decide))).trans ((eh40.1 _ _ (fun q => absurd q (by decide))).trans ((eh35.1 _ _ (fun q => absurd q (by decide))).trans ((eh30.1 _ _ (fun q => absurd q (by decide))).trans ((eh25.1 _ _ (fun q => absurd q (by decide))).trans (hinv.1.trans esd3.symm))))))))))) (fun _ => ?_)
        refine A_if_ne (tgt := 244) d_MD_event_IIV_226 (by decide) (fun c82 => ?_) (fun c82 => ?_)
        · refine A_aload_n 0 d_MD_event_IIV_244 rfl rfl ?_
          refine A_iconst d_MD_event_IIV_245 rfl ?_
          refine A_putZk (KR := kM (pm [65, 66, 74, 75, 76] [187, 188, 189, 190, 191, 192, 193, 194, 195, 196, 197, 198]) h) T_ok d_MD_event_IIV_246 f_MD_411 (mi_s k80.1 sf_170) fin_f (by omega) (kM_i k80 (by decide) (by decide) mr_170_74 (by omega) (by omega)) (fun h83 k84 eh83 => ?_)
          exact A_vret d_MD_event_IIV_249 (by decide) rfl ⟨rfl, (by rw [← esd1]; exact ⟨(fun q => absurd (eh83.2.1.symm.trans q) (by decide)), (fun k hk => ((congrFun (congrFun eh83.2.2 187) k).trans ((eh79.2.1 187 k (fun q => absurd q (by decide))).trans ((eh75.2.1 187 k (fun q => absurd q (by decide))).trans ((k69.2.2.2 187 k rfl).trans ((eh52.2.1 187 k (fun q => absurd q (by decide))).trans ((eh48.2.1 187 k (fun _ => hk)).trans ((congrFun (congrFun eh44.2.2 187) k).trans ((congrFun (congrFun eh40.2.2 187) k).trans ((congrFun (congrFun eh35.2.2 187) k).trans ((congrFun (congrFun eh30.2.2 187) k).trans ((congrFun (congrFun eh25.2.2 187) k).trans (congrFun (congrFun hinv.2.1 187) k))))))))))))), (fun k hk => ((congrFun (congrFun eh83.2.2 188) k).trans ((eh79.2.1 188 k (fun q => absurd q (by decide))).trans ((eh75.2.1 188 k (fun q => absurd q (by decide))).trans ((k69.2.2.2 188 k rfl).trans ((eh52.2.1 188 k (fun _ => hk)).trans ((eh48.2.1 188 k (fun q => absurd q (by decide))).trans ((congrFun (congrFun eh44.2.2 188) k).trans ((congrFun (congrFun eh40.2.2 188) k).trans ((congrFun (congrFun eh35.2.2 188) k).trans ((congrFun (congrFun eh30.2.2 188) k).trans ((congrFun (congrFun eh25.2.2 188) k).trans (congrFun (congrFun hinv.2.1 188) k))))))))))))), (fun k hk => ((congrFun (congrFun eh83.2.2 189) k).trans ((eh79.2.1 189 k (fun q => absurd q (by decide))).trans ((eh75.2.1 189 k (fun _ => hk)).trans ((k69.2.2.2 189 k rfl).trans ((eh52.2.1 189 k (fun q => absurd q (by decide))).trans ((eh48.2.1 189 k (fun q => absurd q (by decide))).trans ((congrFun (congrFun eh44.2.2 189) k).trans ((congrFun (congrFun eh40.2.2 189) k).trans ((congrFun (congrFun eh35.2.2 189) k).trans ((congrFun (congrFun eh30.2.2 189) k).trans ((congrFun (congrFun eh25.2.2 189) k).trans (congrFun (congrFun hinv.2.1 189) k))))))))))))), (fun k hk => ((congrFun (congrFun eh83.2.2 190) k).trans ((eh79.2.1 190 k (fun _ => hk)).trans ((eh75.2.1 190 k (fun q => absurd q (by decide))).trans ((k69.2.2.2 190 k rfl).trans ((eh52.2.1 190 k (fun q => absurd q (by decide))).trans ((eh48.2.1 190 k (fun q => absurd q (by decide))).trans ((congrFun (congrFun eh44.2.2 190) k).trans ((congrFun (congrFun eh40.2.2 190) k).trans ((congrFun (congrFun eh35.2.2 190) k).trans ((congrFun (congrFun eh30.2.2 190) k).trans ((congrFun (congrFun eh25.2.2 190) k).trans (congrFun (congrFun hinv.2.1 190) k))))))))))))), (fun k hk => ((eh83.1 196 k (fun q => absurd q (by decide))).trans ((congrFun (congrFun eh79.1 196) k).trans ((congrFun (congrFun eh75.1 196) k).trans ((k69.2.2.1 196 k rfl).trans ((congrFun (congrFun eh52.1 196) k).trans ((congrFun (congrFun eh48.1 196) k).trans ((eh44.1 196 k (fun _ => hk)).trans ((eh40.1 196 k (fun q => absurd q (by decide))).trans ((eh35.1 196 k (fun q => absurd q (by decide))).trans ((eh30.1 196 k (fun q => absurd q (by decide))).trans ((eh25.1 196 k (fun q => absurd q (by decide))).trans (congrFun hinv.2.2 k))))))))))))), ((eh83.1 _ _ (fun q => absurd q (by decide))).trans ((congrFun (congrFun eh79.1 _) _).trans ((congrFun (congrFun eh75.1 _) _).trans ((k69.2.2.1 _ _ rfl).trans ((congrFun (congrFun eh52.1 _) _).trans ((congrFun (congrFun eh48.1 _) _).trans eh44.2.1)))))).trans esd2⟩), k84⟩
        · refine A_aload_n 0 d_MD_event_IIV_229 rfl rfl ?_
          refine A_aload_n 0 d_MD_event_IIV_230 rfl rfl ?_
          refine A_getLv (z := sl71) T_ok d_MD_event_IIV_231 f_MD_385 (mi_s k80.1 sf_170) ((eh79.2.1 _ _ (fun q => absurd q (by decide))).trans ((eh75.2.1 _ _ (fun q => absurd q (by decide))).trans esl71.symm)) ?_
          refine A_aload_n 0 d_MD_event_IIV_234 rfl rfl ?_
          refine A_getLv (z := sl72) T_ok d_MD_event_IIV_235 f_MD_388 (mi_s k80.1 sf_170) ((eh79.2.1 _ _ (fun q => absurd q (by decide))).trans ((eh75.2.1 _ _ (fun q => absurd q (by decide))).trans esl72.symm)) ?_
          refine A_pc (pc' := 238) rfl ?_
          refine A_callV2 m_MD_isFar T_ok d_MD_event_IIV_238 l_MD_454 k_MD_isFar (mi_s k80.1 sf_170) rfl (by decide +kernel) (by decide) (Nat.le_of_ble_eq_true rfl) (s_MD_isFar  (by omega) (by omega) (by omega) (by omega)) (fun r h87 hq => ?_)
          obtain ⟨x89, rfl, bx89, xx89, rfl⟩ := hq
          refine A_if_eq (tgt := 250) d_MD_event_IIV_241 (by decide) (fun c90 => ?_) (fun c90 => ?_)
          · refine A_aload_n 0 d_MD_event_IIV_250 rfl rfl ?_
            refine A_aload_n 0 d_MD_event_IIV_251 rfl rfl ?_
            refine A_getLv (z := sl4) T_ok d_MD_event_IIV_252 f_MD_414 (mi_s k80.1 sf_170) ((eh79.2.1 _ _ (fun q => absurd q (by decide))).trans ((eh75.2.1 _ _ (fun q => absurd q (by decide))).trans ((k69.2.2.2 _ _ rfl).trans ((eh52.2.1 _ _ (fun q => absurd q (by decide))).trans ((eh48.2.1 _ _ (fun q => absurd q (by decide))).trans ((congrFun (congrFun eh44.2.2 _) _).trans ((congrFun (congrFun eh40.2.2 _) _).trans ((congrFun (congrFun eh35.2.2 _) _).trans ((congrFun (congrFun eh30.2.2 _) _).trans ((congrFun (congrFun eh25.2.2 _) _).trans ((congrFun (congrFun hinv.2.1 _) _).trans esl4.symm))))))))))) ?_
            refine A_aload_n 0 d_MD_event_IIV_255 rfl rfl ?_
            refine A_getLv (z := sl5) T_ok d_MD_event_IIV_256 f_MD_417 (mi_s k80.1 sf_170) ((eh79.2.1 _ _ (fun q => absurd q (by decide))).trans ((eh75.2.1 _ _ (fun q => absurd q (by decide))).trans ((k69.2.2.2 _ _ rfl).trans ((eh52.2.1 _ _ (fun q => absurd q (by decide))).trans ((eh48.2.1 _ _ (fun q => absurd q (by decide))).trans ((congrFun (congrFun eh44.2.2 _) _).trans ((congrFun (congrFun eh40.2.2 _) _).trans ((congrFun (congrFun eh35.2.2 _) _).trans ((congrFun (congrFun eh30.2.2 _) _).trans ((congrFun (congrFun eh25.2.2 _) _).trans ((congrFun (congrFun hinv.2.1 _) _).trans esl5.symm))))))))))) ?_
            refine A_pc (pc' := 259) rfl ?_
            refine A_aload_n 0 d_MD_event_IIV_259 rfl rfl ?_
            refine A_getLv (z := sl71) T_ok d_MD_event_IIV_260 f_MD_385 (mi_s k80.1 sf_170) ((eh79.2.1 _ _ (fun q => absurd q (by decide))).trans ((eh75.2.1 _ _ (fun q => absurd q (by decide))).trans esl71.symm)) ?_
            refine A_aload_n 0 d_MD_event_IIV_263 rfl rfl ?_
            refine A_getLv (z := sl72) T_ok d_MD_event_IIV_264 f_MD_388 (mi_s k80.1 sf_170) ((eh79.2.1 _ _ (fun q => absurd q (by decide))).trans ((eh75.2.1 _ _ (fun q => absurd q (by decide))).trans esl72.symm)) ?_
            have zf96 := ((congrFun (congrFun eh79.1 _) _).trans ((congrFun (congrFun eh75.1 _) _).trans ((k69.2.2.1 _ _ rfl).trans ((congrFun (congrFun eh52.1 _) _).trans ((congrFun (congrFun eh48.1 _) _).trans ((eh44.1 _ _ (fun q => absurd q (by decide))).trans ((eh40.1 _ _ (fun q => absurd q (by decide))).trans ((eh35.1 _ _ (fun q => absurd q (by decide))).trans ((eh30.1 _ _ (fun q => absurd q (by decide))).trans ((eh25.1 _ _ (fun q => absurd q (by decide))).trans ((k18.2.2.1 _ _ rfl).trans esd1.symm)))))))))))
            have zf97 := ((congrFun (congrFun eh79.1 _) _).trans ((congrFun (congrFun eh75.1 _) _).trans ((k69.2.2.1 _ _ rfl).trans ((congrFun (congrFun eh52.1 _) _).trans ((congrFun (congrFun eh48.1 _) _).trans ((eh44.1 _ _ (fun q => absurd q (by decide))).trans ((eh40.1 _ _ (fun q => absurd q (by decide))).trans ((eh35.1 _ _ (fun q => absurd q (by decide))).trans ((eh30.1 _ _ (fun q => absurd q (by decide))).trans ((eh25.1 _ _ (fun q => absurd q (by decide))).trans ((k18.2.2.1 _ _ rfl).trans esd2.symm)))))))))))
            have zf98 := ((congrFun (congrFun eh79.1 _) _).trans ((congrFun (congrFun eh75.1 _) _).trans ((k69.2.2.1 _ _ rfl).trans ((congrFun (congrFun eh52.1 _) _).trans ((congrFun (congrFun eh48.1 _) _).trans ((eh44.1 _ _ (fun q => absurd q (by decide))).trans ((eh40.1 _ _ (fun q => absurd q (by decide))).trans ((eh35.1 _ _ (fun q => absurd q (by decide))).trans ((eh30.1 _ _ (fun q => absurd q (by decide))).trans ((eh25.1 _ _ (fun q => absurd q (by decide))).trans (hinv.1.trans esd3.symm)))))))))))
            refine A_callV4 m_MD_sum T_ok d_MD_event_IIV_267 l_MD_458 k_MD_sum (mi_s k80.1 sf_170) rfl (by decide +kernel) (by decide) (Nat.le_of_ble_eq_true rfl) (s_MD_sum k80.1 (by omega) (by omega) (by omega) (by omega) (by omega) (by omega) (by omega) (by omega)) (fun r h95 hq => ?_)
            obtain ⟨rfl, xk99, k99⟩ := hq
            have k100 := kM_t k80 k99 (pm_s (by decide) (by decide))
            obtain ⟨sl101, esl101⟩ : ∃ x, x = h95.2.2.1 170 65 := ⟨_, rfl⟩
            have rsl101 : (-9223372036854775808) ≤ sl101 ∧ sl101 ≤ 9223372036854775807 := (by rw [esl101]; exact mi_l k100.1 (by decide) mq_170_65)
            obtain ⟨sl102, esl102⟩ : ∃ x, x = h95.2.2.1 170 66 := ⟨_, rfl⟩
            have rsl102 : (-9223372036854775808) ≤ sl102 ∧ sl102 ≤ 9223372036854775807 := (by rw [esl102]; exact mi_l k100.1 (by decide) mq_170_66)
            refine A_aload_n 0 d_MD_event_IIV_270 rfl rfl ?_
            refine A_aload_n 0 d_MD_event_IIV_271 rfl rfl ?_
            refine A_getLv (z := sl101) T_ok d_MD_event_IIV_272 f_MD_385 (mi_s k100.1 sf_170) esl101.symm ?_
            refine A_putLk (KR := kM (pm [65, 66, 74, 75, 76] [187, 188, 189, 190, 191, 192, 193, 194, 195, 196, 197, 198]) h) T_ok d_MD_event_IIV_275 f_MD_414 (mi_s k100.1 sf_170) fin_f (kM_l k100 (by decide) (by decide) mq_170_75 (by omega) (by omega)) (fun h104 k105 eh104 => ?_)
            refine A_aload_n 0 d_MD_event_IIV_278 rfl rfl ?_
            refine A_pc (pc' := 279) rfl ?_
            refine A_aload_n 0 d_MD_event_IIV_279 rfl rfl ?_
            refine A_getLv (z := sl102) T_ok d_MD_event_IIV_280 f_MD_388 (mi_s k105.1 sf_170) ((eh104.2.1 _ _ (fun _ => by decide)).trans esl102.symm) ?_
            refine A_putLk (KR := kM (pm [65, 66, 74, 75, 76] [187, 188, 189, 190, 191, 192, 193, 194, 195, 196, 197, 198]) h) T_ok d_MD_event_IIV_283 f_MD_417 (mi_s k105.1 sf_170) fin_f (kM_l k105 (by decide) (by decide) mq_170_76 (by omega) (by omega)) (fun h107 k108 eh107 => ?_)
            refine A_aload_n 0 d_MD_event_IIV_286 rfl rfl ?_
            refine A_aload_n 0 d_MD_event_IIV_287 rfl rfl ?_
            refine A_aload_n 0 d_MD_event_IIV_288 rfl rfl ?_
            refine A_pc (pc' := 289) rfl ?_
            refine A_getLv (z := sl101) T_ok d_MD_event_IIV_289 f_MD_385 (mi_s k108.1 sf_170) ((eh107.2.1 _ _ (fun _ => by decide)).trans ((eh104.2.1 _ _ (fun _ => by decide)).trans esl101.symm)) ?_
            refine A_aload_n 0 d_MD_event_IIV_292 rfl rfl ?_
            refine A_getLv (z := sl102) T_ok d_MD_event_IIV_293 f_MD_388 (mi_s k108.1 sf_170) ((eh107.2.1 _ _ (fun _ => by decide)).trans ((eh104.2.1 _ _ (fun _ => by decide)).trans esl102.symm)) ?_
            refine A_callV2 m_MD_isFar T_ok d_MD_event_IIV_296 l_MD_454 k_MD_isFar (mi_s k108.1 sf_170) rfl (by decide +kernel) (by decide) (Nat.le_of_ble_eq_true rfl) (s_MD_isFar  (by omega) (by omega) (by omega) (by omega)) (fun r h111 hq => ?_)
            obtain ⟨x113, rfl, bx113, xx113, rfl⟩ := hq
            refine A_putZk (KR := kM (pm [65, 66, 74, 75, 76] [187, 188, 189, 190, 191, 192, 193, 194, 195, 196, 197, 198]) h) T_ok d_MD_event_IIV_299 f_MD_411 (mi_s k108.1 sf_170) fin_f (by omega) (kM_i k108 (by decide) (by decide) mr_170_74 (by omega) (by omega)) (fun h114 k115 eh114 => ?_)
            exact A_vret d_MD_event_IIV_302 (by decide) rfl ⟨rfl, (by rw [← esd1]; exact ⟨(fun q => ⟨by have q1 := eh114.2.1; omega, (by rw [((congrFun (congrFun eh114.2.2 _) _).trans ((eh107.2.1 _ _ (fun _ => by decide)).trans eh104.2.2)), ((congrFun (congrFun eh114.2.2 _) _).trans eh107.2.2)]; have q1 := eh114.2.1; exact ⟨⟨by omega, by omega⟩, by omega, by omega⟩), (by unfold EV; rw [((congrFun (congrFun eh114.2.2 _) _).trans ((eh107.2.1 _ _ (fun q => absurd q (by decide))).trans ((eh104.2.1 _ _ (fun q => absurd q (by decide))).trans ((k99.2.2.2 _ _ rfl).trans ((eh79.2.1 _ _ (fun q => absurd q (by decide))).trans ((eh75.2.1 _ _ (fun q => absurd q (by decide))).trans ((k69.2.2.2 _ _ rfl).trans ((eh52.2.1 _ _ (fun q => absurd q (by decide))).trans eh48.2.2)))))))), ((congrFun (congrFun eh114.2.2 _) _).trans ((eh107.2.1 _ _ (fun q => absurd q (by decide))).trans ((eh104.2.1 _ _ (fun q => absurd q (by decide))).trans ((k99.2.2.2 _ _ rfl).trans ((eh79.2.1 _ _ (fun q => absurd q (by decide))).trans ((eh75.2.1 _ _ (fun q => absurd q (by decide))).trans ((k69.2.2.2 _ _ rfl).trans eh52.2.2))))))), ((congrFun (congrFun eh114.2.2 _) _).trans ((eh107.2.1 _ _ (fun q => absurd q (by decide))).trans ((eh104.2.1 _ _ (fun q => absurd q (by decide))).trans ((k99.2.2.2 _ _ rfl).trans ((eh79.2.1 _ _ (fun q => absurd q (by decide))).trans eh75.2.2))))), ((congrFun (congrFun eh114.2.2 _) _).trans ((eh107.2.1 _ _ (fun q => absurd q (by decide))).trans ((eh104.2.1 _ _ (fun q => absurd q (by decide))).trans ((k99.2.2.2 _ _ rfl).trans eh79.2.2))))]; have q1 := eh114.2.1; exact ⟨by omega, ⟨by omega, by omega⟩, ⟨by omega, by omega⟩, by omega, by omega⟩)⟩), (fun k hk => ((congrFun (congrFun eh114.2.2 187) k).trans ((eh107.2.1 187 k (fun q => absurd q (by decide))).trans ((eh104.2.1 187 k (fun q => absurd q (by decide))).trans ((k99.2.2.2 187 k rfl).trans ((eh79.2.1 187 k (fun q => absurd q (by decide))).trans ((eh75.2.1 187 k (fun q => absurd q (by decide))).trans ((k69.2.2.2 187 k rfl).trans ((eh52.2.1 187 k (fun q => absurd q (by decide))).trans ((eh48.2.1 187 k (fun _ => hk)).trans ((congrFun (congrFun eh44.2.2 187) k).trans ((congrFun (congrFun eh40.2.2 187) k).trans ((congrFun (congrFun eh35.2.2 187) k).trans ((congrFun (congrFun eh30.2.2 187) k).trans ((congrFun (congrFun eh25.2.2 187) k).trans (congrFun (congrFun hinv.2.1 187) k)))))))))))))))), (fun k hk => ((congrFun (congrFun eh114.2.2 188) k).trans ((eh107.2.1 188 k (fun q => absurd q (by decide))).trans ((eh104.2.1 188 k (fun q => absurd q (by decide))).trans ((k99.2.2.2 188 k rfl).trans ((eh79.2.1 188 k (fun q => absurd q (by decide))).trans ((eh75.2.1 188 k (fun q => absurd q (by decide))).trans ((k69.2.2.2 188 k rfl).trans ((eh52.2.1 188 k (fun _ => hk)).trans ((eh48.2.1 188 k (fun q => absurd q (by decide))).trans ((congrFun (congrFun eh44.2.2 188) k).trans ((congrFun (congrFun eh40.2.2 188) k).trans ((congrFun (congrFun eh35.2.2 188) k).trans ((congrFun (congrFun eh30.2.2 188) k).trans ((congrFun (congrFun eh25.2.2 188) k).trans (congrFun (congrFun hinv.2.1 188) k)))))))))))))))), (fun k hk => ((congrFun (congrFun eh114.2.2 189) k).trans ((eh107.2.1 189 k (fun q => absurd q (by decide))).trans ((eh104.2.1 189 k (fun q => absurd q (by decide))).trans ((k99.2.2.2 189 k rfl).trans ((eh79.2.1 189 k (fun q => absurd q (by decide))).trans ((eh75.2.1 189 k (fun _ => hk)).trans ((k69.2.2.2 189 k rfl).trans ((eh52.2.1 189 k (fun q => absurd q (by decide))).trans ((eh48.2.1 189 k (fun q => absurd q (by decide))).trans ((congrFun (congrFun eh44.2.2 189) k).trans ((congrFun (congrFun eh40.2.2 189) k).trans ((congrFun (congrFun eh35.2.2 189) k).trans ((congrFun (congrFun eh30.2.2 189) k).trans ((congrFun (congrFun eh25.2.2 189) k).trans (congrFun (congrFun hinv.2.1 189) k)))))))))))))))), (fun k hk => ((congrFun (congrFun eh114.2.2 190) k).trans ((eh107.2.1 190 k (fun q => absurd q (by decide))).trans ((eh104.2.1 190 k (fun q => absurd q (by decide))).trans ((k99.2.2.2 190 k rfl).trans ((eh79.2.1 190 k (fun _ => hk)).trans ((eh75.2.1 190 k (fun q => absurd q (by decide))).trans ((k69.2.2.2 190 k rfl).trans ((eh52.2.1 190 k (fun q => absurd q (by decide))).trans ((eh48.2.1 190 k (fun q => absurd q (by decide))).trans ((congrFun (congrFun eh44.2.2 190) k).trans ((congrFun (congrFun eh40.2.2 190) k).trans ((congrFun (congrFun eh35.2.2 190) k).trans ((congrFun (congrFun eh30.2.2 190) k).trans ((congrFun (congrFun eh25.2.2 190) k).trans (congrFun (congrFun hinv.2.1 190) k)))))))))))))))), (fun k hk => ((eh114.1 196 k (fun q => absurd q (by decide))).trans ((congrFun (congrFun eh107.1 196) k).trans ((congrFun (congrFun eh104.1 196) k).trans ((k99.2.2.1 196 k rfl).trans ((congrFun (congrFun eh79.1 196) k).trans ((congrFun (congrFun eh75.1 196) k).trans ((k69.2.2.1 196 k rfl).trans ((congrFun (congrFun eh52.1 196) k).trans ((congrFun (congrFun eh48.1 196) k).trans ((eh44.1 196 k (fun _ => hk)).trans ((eh40.1 196 k (fun q => absurd q (by decide))).trans ((eh35.1 196 k (fun q => absurd q (by decide))).trans ((eh30.1 196 k (fun q => absurd q (by decide))).trans ((eh25.1 196 k (fun q => absurd q (by decide))).trans (congrFun hinv.2.2 k)))))))))))))))), ((eh114.1 _ _ (fun q => absurd q (by decide))).trans ((congrFun (congrFun eh107.1 _) _).trans ((congrFun (congrFun eh104.1 _) _).trans ((k99.2.2.1 _ _ rfl).trans ((congrFun (congrFun eh79.1 _) _).trans ((congrFun (congrFun eh75.1 _) _).trans ((k69.2.2.1 _ _ rfl).trans ((congrFun (congrFun eh52.1 _) _).trans ((congrFun (congrFun eh48.1 _) _).trans eh44.2.1))))))))).trans esd2⟩), k115⟩
          · refine A_aload_n 0 d_MD_event_IIV_244 rfl rfl ?_
            refine A_iconst d_MD_event_IIV_245 rfl ?_
            refine A_putZk (KR := kM (pm [65, 66, 74, 75, 76] [187, 188, 189, 190, 191, 192, 193, 194, 195, 196, 197, 198]) h) T_ok d_MD_event_IIV_246 f_MD_411 (mi_s k80.1 sf_170) fin_f (by omega) (kM_i k80 (by decide) (by decide) mr_170_74 (by omega) (by omega)) (fun h116 k117 eh116 => ?_)
            exact A_vret d_MD_event_IIV_249 (by decide) rfl ⟨rfl, (by rw [← esd1]; exact ⟨(fun q => absurd (eh116.2.1.symm.trans q) (by decide)), (fun k hk => ((congrFun (congrFun eh116.2.2 187) k).trans ((eh79.2.1 187 k (fun q => absurd q (by decide))).trans ((eh75.2.1 187 k (fun q => absurd q (by decide))).trans ((k69.2.2.2 187 k rfl).trans ((eh52.2.1 187 k (fun q => absurd q (by decide))).trans ((eh48.2.1 187 k (fun _ => hk)).trans ((congrFun (congrFun eh44.2.2 187) k).trans ((congrFun (congrFun eh40.2.2 187) k).trans ((congrFun (congrFun eh35.2.2 187) k).trans ((congrFun (congrFun eh30.2.2 187) k).trans ((congrFun (congrFun eh25.2.2 187) k).trans (congrFun (congrFun hinv.2.1 187) k))))))))))))), (fun k hk => ((congrFun (congrFun eh116.2.2 188) k).trans ((eh79.2.1 188 k (fun q => absurd q (by decide))).trans ((eh75.2.1 188 k (fun q => absurd q (by decide))).trans ((k69.2.2.2 188 k rfl).trans ((eh52.2.1 188 k (fun _ => hk)).trans ((eh48.2.1 188 k (fun q => absurd q (by decide))).trans ((congrFun (congrFun eh44.2.2 188) k).trans ((congrFun (congrFun eh40.2.2 188) k).trans ((congrFun (congrFun eh35.2.2 188) k).trans ((congrFun (congrFun eh30.2.2 188) k).trans ((congrFun (congrFun eh25.2.2 188) k).trans (congrFun (congrFun hinv.2.1 188) k))))))))))))), (fun k hk => ((congrFun (congrFun eh116.2.2 189) k).trans ((eh79.2.1 189 k (fun q => absurd q (by decide))).trans ((eh75.2.1 189 k (fun _ => hk)).trans ((k69.2.2.2 189 k rfl).trans ((eh52.2.1 189 k (fun q => absurd q (by decide))).trans ((eh48.2.1 189 k (fun q => absurd q (by decide))).trans ((congrFun (congrFun eh44.2.2 189) k).trans ((congrFun (congrFun eh40.2.2 189) k).trans ((congrFun (congrFun eh35.2.2 189) k).trans ((congrFun (congrFun eh30.2.2 189) k).trans ((congrFun (congrFun eh25.2.2 189) k).trans (congrFun (congrFun hinv.2.1 189) k))))))))))))), (fun k hk => ((congrFun (congrFun eh116.2.2 190) k).trans ((eh79.2.1 190 k (fun _ => hk)).trans ((eh75.2.1 190 k (fun q => absurd q (by decide))).trans ((k69.2.2.2 190 k rfl).trans ((eh52.2.1 190 k (fun q => absurd q (by decide))).trans ((eh48.2.1 190 k (fun q => absurd q (by decide))).trans ((congrFun (congrFun eh44.2.2 190) k).trans ((congrFun (congrFun eh40.2.2 190) k).trans ((congrFun (congrFun eh35.2.2 190) k).trans ((congrFun (congrFun eh30.2.2 190) k).trans ((congrFun (congrFun eh25.2.2 190) k).trans (congrFun (congrFun hinv.2.1 190) k))))))))))))), (fun k hk => ((eh116.1 196 k (fun q => absurd q (by decide))).trans ((congrFun (congrFun eh79.1 196) k).trans ((congrFun (congrFun eh75.1 196) k).trans ((k69.2.2.1 196 k rfl).trans ((congrFun (congrFun eh52.1 196) k).trans ((congrFun (congrFun eh48.1 196) k).trans ((eh44.1 196 k (fun _ => hk)).trans ((eh40.1 196 k (fun q => absurd q (by decide))).trans ((eh35.1 196 k (fun q => absurd q (by decide))).trans ((eh30.1 196 k (fun q => absurd q (by decide))).trans ((eh25.1 196 k (fun q => absurd q (by decide))).trans (congrFun hinv.2.2 k))))))))))))), ((eh116.1 _ _ (fun q => absurd q (by decide))).trans ((congrFun (congrFun eh79.1 _) _).trans ((congrFun (congrFun eh75.1 _) _).trans ((k69.2.2.1 _ _ rfl).trans ((congrFun (congrFun eh52.1 _) _).trans ((congrFun (congrFun eh48.1 _) _).trans eh44.2.1)))))).trans esd2⟩), k117⟩
      · refine A_aload_n 0 d_MD_event_IIV_32 rfl rfl ?_
        refine A_getAv (z := some 192) T_ok d_MD_event_IIV_33 f_MD_78 (mi_s k18.1 sf_170) (mi_r k18.1 rfm_34) ?_
        refine A_iconst d_MD_event_IIV_36 rfl ?_
        refine A_iload_n 3 d_MD_event_IIV_37 rfl rfl ?_
        refine A_imulv (z := (1200 * a1 + 4 * sd1)) d_MD_event_IIV_38 (w32_to (by omega) (by unfold i32; omega)) ?_
        refine A_pc (pc' := 39) rfl ?_
        refine A_iload d_MD_event_IIV_39 rfl ?_
        refine A_iaddv (z := (1200 * a1 + 4 * sd1 + i16)) d_MD_event_IIV_41 (w32_to (by omega) (by unfold i32; omega)) ?_
        refine A_aload_n 0 d_MD_event_IIV_42 rfl rfl ?_
        refine A_getAv (z := some 205) T_ok d_MD_event_IIV_43 f_MD_118 (mi_s k18.1 sf_170) (mi_r k18.1 rfm_48) ?_
        refine A_iconst d_MD_event_IIV_46 rfl ?_
        refine A_iload_n 2 d_MD_event_IIV_47 rfl rfl ?_
        refine A_pc (pc' := 48) rfl ?_
        refine A_imulv (z := (4 * a2)) d_MD_event_IIV_48 (w32_to (by omega) (by unfold i32; omega)) ?_
        refine A_iload d_MD_event_IIV_49 rfl ?_
        refine A_iaddv (z := (4 * a2 + i16)) d_MD_event_IIV_51 (w32_to (by omega) (by unfold i32; omega)) ?_
        refine A_ialoadn (lo := (-2)) (hi := 109) d_MD_event_IIV_52 (mi_s k18.1 sf_205) (by omega) (by omega) (mi_g k18.1 (by decide) (mr_205 _)) (fun x120 ex120 _ _ => ?_)
        refine A_iastorek (KR := kM (pm [65, 66, 74, 75, 76] [187, 188, 189, 190, 191, 192, 193, 194, 195, 196, 197, 198]) h) d_MD_event_IIV_53 (mi_s k18.1 sf_192) (by omega) (by omega) (kM_i k18 (by decide) rfl (mr_192 _) (by omega) (by omega)) (fun h121 k122 eh121 => ?_)
        refine A_aload_n 0 d_MD_event_IIV_54 rfl rfl ?_
        refine A_pc (pc' := 55) rfl ?_
        refine A_getAv (z := some 193) T_ok d_MD_event_IIV_55 f_MD_81 (mi_s k122.1 sf_170) (mi_r k122.1 rfm_35) ?_
        refine A_iconst d_MD_event_IIV_58 rfl ?_
        refine A_iload_n 3 d_MD_event_IIV_59 rfl rfl ?_
        refine A_imulv (z := (1200 * a1 + 4 * sd1)) d_MD_event_IIV_60 (w32_to (by omega) (by unfold i32; omega)) ?_
        refine A_iload d_MD_event_IIV_61 rfl ?_
        refine A_iaddv (z := (1200 * a1 + 4 * sd1 + i16)) d_MD_event_IIV_63 (w32_to (by omega) (by unfold i32; omega)) ?_
        refine A_pc (pc' := 64) rfl ?_
        refine A_aload_n 0 d_MD_event_IIV_64 rfl rfl ?_
        refine A_getAv (z := some 206) T_ok d_MD_event_IIV_65 f_MD_121 (mi_s k122.1 sf_170) (mi_r k122.1 rfm_49) ?_
        refine A_iconst d_MD_event_IIV_68 rfl ?_
        refine A_iload_n 2 d_MD_event_IIV_69 rfl rfl ?_
        refine A_imulv (z := (4 * a2)) d_MD_event_IIV_70 (w32_to (by omega) (by unfold i32; omega)) ?_
        refine A_iload d_MD_event_IIV_71 rfl ?_
        refine A_pc (pc' := 73) rfl ?_
        refine A_iaddv (z := (4 * a2 + i16)) d_MD_event_IIV_73 (w32_to (by omega) (by unfold i32; omega)) ?_
        refine A_ialoadn (lo := 0) (hi := 62) d_MD_event_IIV_74 (mi_s k122.1 sf_206) (by omega) (by omega) (mi_g k122.1 (by decide) (mr_206 _)) (fun x125 ex125 _ _ => ?_)
        refine A_iastorek (KR := kM (pm [65, 66, 74, 75, 76] [187, 188, 189, 190, 191, 192, 193, 194, 195, 196, 197, 198]) h) d_MD_event_IIV_75 (mi_s k122.1 sf_193) (by omega) (by omega) (kM_i k122 (by decide) rfl (mr_193 _) (by omega) (by omega)) (fun h126 k127 eh126 => ?_)
        refine A_iincv (z := (i16 + 1)) (L' := [some (av_R (some 170)), some (av_I a1), some (av_I a2), some (av_I (300 * a1 + sd1)), some (av_I (i16 + 1))]) d_MD_event_IIV_76 rfl (w32_to (by omega) (by unfold i32; omega)) rfl ?_
        refine A_goto (tgt := 26) d_MD_event_IIV_79 (by decide) ?_
        exact ih26 (i16 + 1) h126 (by omega) (by omega) ⟨((eh126.1 _ _ (fun q => absurd q (by decide))).trans ((eh121.1 _ _ (fun q => absurd q (by decide))).trans (hinv.1.trans esd3.symm))).trans esd3, (eh126.2.2.trans (eh121.2.2.trans hinv.2.1)), funext (fun k => ((eh126.1 196 k (fun q => absurd q (by decide))).trans ((eh121.1 196 k (fun q => absurd q (by decide))).trans (congrFun hinv.2.2 k))))⟩ k127 (by omega)
  exact lp26 _ 0 h14 (by omega) (by omega) ⟨((eh14.1 _ _ (fun q => absurd q (by decide))).trans esd3.symm).trans esd3, eh14.2.2, funext (fun k => (eh14.1 196 k (fun q => absurd q (by decide))))⟩ k15 (Nat.lt_succ_self _)
