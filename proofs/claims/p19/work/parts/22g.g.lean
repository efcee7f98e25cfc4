/-! ===== the class's methods, 22g ===== -/
def m_Judge_forget : mr_T := (⟨"PlainMusic$Judge", "forget", "()V"⟩, prog_3_method_2_code, 1, none)
theorem d_Judge_forget_0 : decode prog_3_method_2_code 0 = .ok (.aload_n 0, 1) := by decide +kernel
theorem d_Judge_forget_1 : decode prog_3_method_2_code 1 = .ok (.iconst 0, 1) := by decide +kernel
theorem d_Judge_forget_2 : decode prog_3_method_2_code 2 = .ok (.putfield 18, 3) := by decide +kernel
theorem f_Judge_18 : fl_OK "PlainMusic$Judge" 18 1 1 .int false := ⟨_, rfl, by decide, gwi_447, rfl, rfl⟩
theorem sf_143 : sh_L[143]? = some (1 + 4, 3) := by decide +kernel
theorem rgf_143_1 : rg 143 1 = (0, 6404) := by decide +kernel
theorem d_Judge_forget_5 : decode prog_3_method_2_code 5 = .ok (.return_, 1) := by decide +kernel
def m_Judge_add : mr_T := (⟨"PlainMusic$Judge", "add", "(IIII)V"⟩, prog_3_method_5_code, 5, none)
theorem d_Judge_add_0 : decode prog_3_method_5_code 0 = .ok (.aload_n 0, 1) := by decide +kernel
theorem d_Judge_add_1 : decode prog_3_method_5_code 1 = .ok (.getfield 18, 3) := by decide +kernel
theorem d_Judge_add_4 : decode prog_3_method_5_code 4 = .ok (.aload_n 0, 1) := by decide +kernel
theorem d_Judge_add_5 : decode prog_3_method_5_code 5 = .ok (.getfield 11, 3) := by decide +kernel
theorem rff_143_0 : (143, 0, 144) ∈ rf_L := by decide +kernel
theorem d_Judge_add_8 : decode prog_3_method_5_code 8 = .ok (.arraylength, 1) := by decide +kernel
theorem sf_144 : sh_L[144]? = some (0, 6404) := by decide +kernel
theorem d_Judge_add_9 : decode prog_3_method_5_code 9 = .ok (.if_icmp .ge 37, 3) := by decide +kernel
theorem d_Judge_add_46 : decode prog_3_method_5_code 46 = .ok (.return_, 1) := by decide +kernel
theorem d_Judge_add_12 : decode prog_3_method_5_code 12 = .ok (.aload_n 0, 1) := by decide +kernel
theorem d_Judge_add_13 : decode prog_3_method_5_code 13 = .ok (.getfield 11, 3) := by decide +kernel
theorem d_Judge_add_16 : decode prog_3_method_5_code 16 = .ok (.aload_n 0, 1) := by decide +kernel
theorem d_Judge_add_17 : decode prog_3_method_5_code 17 = .ok (.getfield 18, 3) := by decide +kernel
theorem d_Judge_add_20 : decode prog_3_method_5_code 20 = .ok (.iload_n 1, 1) := by decide +kernel
theorem d_Judge_add_21 : decode prog_3_method_5_code 21 = .ok (.iload_n 2, 1) := by decide +kernel
theorem d_Judge_add_22 : decode prog_3_method_5_code 22 = .ok (.iconst 3, 1) := by decide +kernel
theorem d_Judge_add_23 : decode prog_3_method_5_code 23 = .ok (.ishl, 1) := by decide +kernel
theorem d_Judge_add_24 : decode prog_3_method_5_code 24 = .ok (.ior, 1) := by decide +kernel
theorem d_Judge_add_25 : decode prog_3_method_5_code 25 = .ok (.iload_n 3, 1) := by decide +kernel
theorem d_Judge_add_26 : decode prog_3_method_5_code 26 = .ok (.iconst 5, 1) := by decide +kernel
theorem d_Judge_add_27 : decode prog_3_method_5_code 27 = .ok (.ishl, 1) := by decide +kernel
theorem d_Judge_add_28 : decode prog_3_method_5_code 28 = .ok (.ior, 1) := by decide +kernel
theorem d_Judge_add_29 : decode prog_3_method_5_code 29 = .ok (.iload 4, 2) := by decide +kernel
theorem d_Judge_add_31 : decode prog_3_method_5_code 31 = .ok (.bipush 14, 2) := by decide +kernel
theorem d_Judge_add_33 : decode prog_3_method_5_code 33 = .ok (.ishl, 1) := by decide +kernel
theorem d_Judge_add_34 : decode prog_3_method_5_code 34 = .ok (.ior, 1) := by decide +kernel
theorem d_Judge_add_35 : decode prog_3_method_5_code 35 = .ok (.iastore, 1) := by decide +kernel
theorem rgf_144 (k : Nat) : rg 144 k = ((-2147483648), 2147483647) := rfl
theorem d_Judge_add_36 : decode prog_3_method_5_code 36 = .ok (.aload_n 0, 1) := by decide +kernel
theorem d_Judge_add_37 : decode prog_3_method_5_code 37 = .ok (.dup, 1) := by decide +kernel
theorem d_Judge_add_38 : decode prog_3_method_5_code 38 = .ok (.getfield 18, 3) := by decide +kernel
theorem d_Judge_add_41 : decode prog_3_method_5_code 41 = .ok (.iconst 1, 1) := by decide +kernel
theorem d_Judge_add_42 : decode prog_3_method_5_code 42 = .ok (.iadd, 1) := by decide +kernel
theorem d_Judge_add_43 : decode prog_3_method_5_code 43 = .ok (.putfield 18, 3) := by decide +kernel
def m_Judge_detailOf : mr_T := (⟨"PlainMusic$Judge", "detailOf", "(II)I"⟩, prog_3_method_4_code, 4, some .int)
theorem d_Judge_detailOf_0 : decode prog_3_method_4_code 0 = .ok (.iload_n 1, 1) := by decide +kernel
theorem d_Judge_detailOf_1 : decode prog_3_method_4_code 1 = .ok (.ifCond .lt 20, 3) := by decide +kernel
theorem d_Judge_detailOf_21 : decode prog_3_method_4_code 21 = .ok (.iconst (-1), 1) := by decide +kernel
theorem d_Judge_detailOf_22 : decode prog_3_method_4_code 22 = .ok (.ireturn, 1) := by decide +kernel
theorem d_Judge_detailOf_4 : decode prog_3_method_4_code 4 = .ok (.iload_n 1, 1) := by decide +kernel
theorem d_Judge_detailOf_5 : decode prog_3_method_4_code 5 = .ok (.aload_n 0, 1) := by decide +kernel
theorem d_Judge_detailOf_6 : decode prog_3_method_4_code 6 = .ok (.getfield 18, 3) := by decide +kernel
theorem d_Judge_detailOf_9 : decode prog_3_method_4_code 9 = .ok (.if_icmp .ge 12, 3) := by decide +kernel
theorem d_Judge_detailOf_12 : decode prog_3_method_4_code 12 = .ok (.iload_n 1, 1) := by decide +kernel
theorem d_Judge_detailOf_13 : decode prog_3_method_4_code 13 = .ok (.aload_n 0, 1) := by decide +kernel
theorem d_Judge_detailOf_14 : decode prog_3_method_4_code 14 = .ok (.getfield 11, 3) := by decide +kernel
theorem d_Judge_detailOf_17 : decode prog_3_method_4_code 17 = .ok (.arraylength, 1) := by decide +kernel
theorem d_Judge_detailOf_18 : decode prog_3_method_4_code 18 = .ok (.if_icmp .lt 5, 3) := by decide +kernel
theorem d_Judge_detailOf_23 : decode prog_3_method_4_code 23 = .ok (.aload_n 0, 1) := by decide +kernel
theorem d_Judge_detailOf_24 : decode prog_3_method_4_code 24 = .ok (.getfield 11, 3) := by decide +kernel
theorem d_Judge_detailOf_27 : decode prog_3_method_4_code 27 = .ok (.iload_n 1, 1) := by decide +kernel
theorem d_Judge_detailOf_28 : decode prog_3_method_4_code 28 = .ok (.iaload, 1) := by decide +kernel
theorem d_Judge_detailOf_29 : decode prog_3_method_4_code 29 = .ok (.istore_n 3, 1) := by decide +kernel
theorem d_Judge_detailOf_30 : decode prog_3_method_4_code 30 = .ok (.iload_n 2, 1) := by decide +kernel
theorem d_Judge_detailOf_31 : decode prog_3_method_4_code 31 = .ok (.tableswitch 53 0 3 #[29, 34, 40, 48], 29) := by decide +kernel
theorem d_Judge_detailOf_84 : decode prog_3_method_4_code 84 = .ok (.iconst (-1), 1) := by decide +kernel
theorem d_Judge_detailOf_85 : decode prog_3_method_4_code 85 = .ok (.ireturn, 1) := by decide +kernel
theorem d_Judge_detailOf_60 : decode prog_3_method_4_code 60 = .ok (.iload_n 3, 1) := by decide +kernel
theorem d_Judge_detailOf_61 : decode prog_3_method_4_code 61 = .ok (.bipush 7, 2) := by decide +kernel
theorem d_Judge_detailOf_63 : decode prog_3_method_4_code 63 = .ok (.iand, 1) := by decide +kernel
theorem d_Judge_detailOf_64 : decode prog_3_method_4_code 64 = .ok (.ireturn, 1) := by decide +kernel
theorem d_Judge_detailOf_65 : decode prog_3_method_4_code 65 = .ok (.iload_n 3, 1) := by decide +kernel
theorem d_Judge_detailOf_66 : decode prog_3_method_4_code 66 = .ok (.iconst 3, 1) := by decide +kernel
theorem d_Judge_detailOf_67 : decode prog_3_method_4_code 67 = .ok (.ishr, 1) := by decide +kernel
theorem d_Judge_detailOf_68 : decode prog_3_method_4_code 68 = .ok (.iconst 3, 1) := by decide +kernel
theorem d_Judge_detailOf_69 : decode prog_3_method_4_code 69 = .ok (.iand, 1) := by decide +kernel
theorem d_Judge_detailOf_70 : decode prog_3_method_4_code 70 = .ok (.ireturn, 1) := by decide +kernel
theorem d_Judge_detailOf_71 : decode prog_3_method_4_code 71 = .ok (.iload_n 3, 1) := by decide +kernel
theorem d_Judge_detailOf_72 : decode prog_3_method_4_code 72 = .ok (.iconst 5, 1) := by decide +kernel
theorem d_Judge_detailOf_73 : decode prog_3_method_4_code 73 = .ok (.ishr, 1) := by decide +kernel
theorem d_Judge_detailOf_74 : decode prog_3_method_4_code 74 = .ok (.sipush 511, 3) := by decide +kernel
theorem d_Judge_detailOf_77 : decode prog_3_method_4_code 77 = .ok (.iand, 1) := by decide +kernel
theorem d_Judge_detailOf_78 : decode prog_3_method_4_code 78 = .ok (.ireturn, 1) := by decide +kernel
theorem d_Judge_detailOf_79 : decode prog_3_method_4_code 79 = .ok (.iload_n 3, 1) := by decide +kernel
theorem d_Judge_detailOf_80 : decode prog_3_method_4_code 80 = .ok (.bipush 14, 2) := by decide +kernel
theorem d_Judge_detailOf_82 : decode prog_3_method_4_code 82 = .ok (.ishr, 1) := by decide +kernel
theorem d_Judge_detailOf_83 : decode prog_3_method_4_code 83 = .ok (.ireturn, 1) := by decide +kernel
def m_Judge_isWhole : mr_T := (⟨"PlainMusic$Judge", "isWhole", "(LPlainMusic$Score;LPlainMusic$Voice;I)Z"⟩, prog_3_method_7_code, 4, some .boolean)
theorem d_Judge_isWhole_0 : decode prog_3_method_7_code 0 = .ok (.aload_n 1, 1) := by decide +kernel
theorem d_Judge_isWhole_1 : decode prog_3_method_7_code 1 = .ok (.iload_n 2, 1) := by decide +kernel
theorem d_Judge_isWhole_2 : decode prog_3_method_7_code 2 = .ok (.aload_n 0, 1) := by decide +kernel
theorem d_Judge_isWhole_3 : decode prog_3_method_7_code 3 = .ok (.getfield 65, 3) := by decide +kernel
theorem f_Judge_65 : fl_OK "PlainMusic$Judge" 65 6 2 .int false := ⟨_, rfl, by decide, gwi_356, rfl, rfl⟩
theorem d_Judge_isWhole_6 : decode prog_3_method_7_code 6 = .ok (.aload_n 0, 1) := by decide +kernel
theorem d_Judge_isWhole_7 : decode prog_3_method_7_code 7 = .ok (.getfield 68, 3) := by decide +kernel
theorem f_Judge_68 : fl_OK "PlainMusic$Judge" 68 6 3 .int false := ⟨_, rfl, by decide, gwi_359, rfl, rfl⟩
theorem d_Judge_isWhole_10 : decode prog_3_method_7_code 10 = .ok (.invokevirtual 71, 3) := by decide +kernel
theorem k_Voice_compareBar : mt_OK m_Voice_compareBar 3 1 := ⟨gwi_1091, gwi_139, ⟨by decide +kernel, by decide +kernel, by decide +kernel⟩, fun h => absurd h (by decide), fun _ => ⟨gwi_1089, gwi_1090⟩, fun h => absurd h (by decide)⟩
theorem l_Judge_71 : ml_OK "PlainMusic$Judge" 71 ⟨"PlainMusic$Voice", "compareBar", "(III)I"⟩ := Or.inl gwi_1088
theorem d_Judge_isWhole_13 : decode prog_3_method_7_code 13 = .ok (.istore_n 3, 1) := by decide +kernel
theorem d_Judge_isWhole_14 : decode prog_3_method_7_code 14 = .ok (.iload_n 3, 1) := by decide +kernel
theorem d_Judge_isWhole_15 : decode prog_3_method_7_code 15 = .ok (.ifCond .eq 21, 3) := by decide +kernel
theorem d_Judge_isWhole_36 : decode prog_3_method_7_code 36 = .ok (.iconst 1, 1) := by decide +kernel
theorem d_Judge_isWhole_37 : decode prog_3_method_7_code 37 = .ok (.goto 4, 3) := by decide +kernel
theorem d_Judge_isWhole_41 : decode prog_3_method_7_code 41 = .ok (.ireturn, 1) := by decide +kernel
theorem d_Judge_isWhole_18 : decode prog_3_method_7_code 18 = .ok (.iload_n 3, 1) := by decide +kernel
theorem d_Judge_isWhole_19 : decode prog_3_method_7_code 19 = .ok (.ifCond .ge 21, 3) := by decide +kernel
theorem d_Judge_isWhole_40 : decode prog_3_method_7_code 40 = .ok (.iconst 0, 1) := by decide +kernel
theorem d_Judge_isWhole_22 : decode prog_3_method_7_code 22 = .ok (.iload_n 2, 1) := by decide +kernel
theorem d_Judge_isWhole_23 : decode prog_3_method_7_code 23 = .ok (.ifCond .eq 13, 3) := by decide +kernel
theorem d_Judge_isWhole_26 : decode prog_3_method_7_code 26 = .ok (.iload_n 2, 1) := by decide +kernel
theorem d_Judge_isWhole_27 : decode prog_3_method_7_code 27 = .ok (.aload_n 1, 1) := by decide +kernel
theorem d_Judge_isWhole_28 : decode prog_3_method_7_code 28 = .ok (.getfield 40, 3) := by decide +kernel
theorem f_Judge_40 : fl_OK "PlainMusic$Judge" 40 10 16 .int false := ⟨_, rfl, by decide, gwi_310, rfl, rfl⟩
theorem d_Judge_isWhole_31 : decode prog_3_method_7_code 31 = .ok (.iconst 1, 1) := by decide +kernel
theorem d_Judge_isWhole_32 : decode prog_3_method_7_code 32 = .ok (.isub, 1) := by decide +kernel
theorem d_Judge_isWhole_33 : decode prog_3_method_7_code 33 = .ok (.if_icmp .ne 7, 3) := by decide +kernel
def m_Judge_isHeld : mr_T := (⟨"PlainMusic$Judge", "isHeld", "(LPlainMusic$Voice;I)Z"⟩, prog_3_method_9_code, 3, some .boolean)
theorem d_Judge_isHeld_0 : decode prog_3_method_9_code 0 = .ok (.iload_n 1, 1) := by decide +kernel
theorem d_Judge_isHeld_1 : decode prog_3_method_9_code 1 = .ok (.iconst 1, 1) := by decide +kernel
theorem d_Judge_isHeld_2 : decode prog_3_method_9_code 2 = .ok (.iadd, 1) := by decide +kernel
theorem d_Judge_isHeld_3 : decode prog_3_method_9_code 3 = .ok (.aload_n 0, 1) := by decide +kernel
theorem d_Judge_isHeld_4 : decode prog_3_method_9_code 4 = .ok (.getfield 35, 3) := by decide +kernel
theorem f_Judge_35 : fl_OK "PlainMusic$Judge" 35 10 14 .int false := ⟨_, rfl, by decide, gwi_302, rfl, rfl⟩
theorem d_Judge_isHeld_7 : decode prog_3_method_9_code 7 = .ok (.if_icmp .lt 5, 3) := by decide +kernel
theorem d_Judge_isHeld_12 : decode prog_3_method_9_code 12 = .ok (.iconst 0, 1) := by decide +kernel
theorem d_Judge_isHeld_13 : decode prog_3_method_9_code 13 = .ok (.istore_n 2, 1) := by decide +kernel
theorem d_Judge_isHeld_14 : decode prog_3_method_9_code 14 = .ok (.iload_n 2, 1) := by decide +kernel
theorem d_Judge_isHeld_15 : decode prog_3_method_9_code 15 = .ok (.aload_n 0, 1) := by decide +kernel
theorem d_Judge_isHeld_16 : decode prog_3_method_9_code 16 = .ok (.iload_n 1, 1) := by decide +kernel
theorem d_Judge_isHeld_17 : decode prog_3_method_9_code 17 = .ok (.invokevirtual 95, 3) := by decide +kernel
theorem l_Judge_95 : ml_OK "PlainMusic$Judge" 95 ⟨"PlainMusic$Voice", "pitchesOf", "(I)I"⟩ := Or.inl gwi_1115
theorem d_Judge_isHeld_20 : decode prog_3_method_9_code 20 = .ok (.if_icmp .ge 27, 3) := by decide +kernel
theorem d_Judge_isHeld_47 : decode prog_3_method_9_code 47 = .ok (.iconst 1, 1) := by decide +kernel
theorem d_Judge_isHeld_48 : decode prog_3_method_9_code 48 = .ok (.ireturn, 1) := by decide +kernel
theorem d_Judge_isHeld_23 : decode prog_3_method_9_code 23 = .ok (.aload_n 0, 1) := by decide +kernel
theorem d_Judge_isHeld_24 : decode prog_3_method_9_code 24 = .ok (.iload_n 1, 1) := by decide +kernel
theorem d_Judge_isHeld_25 : decode prog_3_method_9_code 25 = .ok (.iconst 1, 1) := by decide +kernel
theorem d_Judge_isHeld_26 : decode prog_3_method_9_code 26 = .ok (.iadd, 1) := by decide +kernel
theorem d_Judge_isHeld_27 : decode prog_3_method_9_code 27 = .ok (.aload_n 0, 1) := by decide +kernel
theorem d_Judge_isHeld_28 : decode prog_3_method_9_code 28 = .ok (.iload_n 1, 1) := by decide +kernel
theorem d_Judge_isHeld_29 : decode prog_3_method_9_code 29 = .ok (.iload_n 2, 1) := by decide +kernel
theorem d_Judge_isHeld_30 : decode prog_3_method_9_code 30 = .ok (.invokevirtual 98, 3) := by decide +kernel
theorem l_Judge_98 : ml_OK "PlainMusic$Judge" 98 ⟨"PlainMusic$Voice", "keyOf", "(II)I"⟩ := Or.inl gwi_1116
theorem d_Judge_isHeld_33 : decode prog_3_method_9_code 33 = .ok (.invokevirtual 102, 3) := by decide +kernel
theorem k_Voice_hasKey : mt_OK m_Voice_hasKey 2 1 := ⟨gwi_1120, gwi_139, ⟨by decide +kernel, by decide +kernel, by decide +kernel⟩, fun h => absurd h (by decide), fun _ => ⟨gwi_1118, gwi_1119⟩, fun h => absurd h (by decide)⟩
theorem l_Judge_102 : ml_OK "PlainMusic$Judge" 102 ⟨"PlainMusic$Voice", "hasKey", "(II)Z"⟩ := Or.inl gwi_1117
theorem d_Judge_isHeld_36 : decode prog_3_method_9_code 36 = .ok (.ifCond .ne 5, 3) := by decide +kernel
theorem d_Judge_isHeld_41 : decode prog_3_method_9_code 41 = .ok (.iinc 2 1, 3) := by decide +kernel
theorem d_Judge_isHeld_44 : decode prog_3_method_9_code 44 = .ok (.goto (-30), 3) := by decide +kernel
theorem d_Judge_isHeld_39 : decode prog_3_method_9_code 39 = .ok (.iconst 0, 1) := by decide +kernel
theorem d_Judge_isHeld_40 : decode prog_3_method_9_code 40 = .ok (.ireturn, 1) := by decide +kernel
theorem d_Judge_isHeld_10 : decode prog_3_method_9_code 10 = .ok (.iconst 0, 1) := by decide +kernel
theorem d_Judge_isHeld_11 : decode prog_3_method_9_code 11 = .ok (.ireturn, 1) := by decide +kernel
def m_Judge_hearAlone : mr_T := (⟨"PlainMusic$Judge", "hearAlone", "(LPlainMusic$Voice;II)V"⟩, prog_3_method_8_code, 4, none)
theorem d_Judge_hearAlone_0 : decode prog_3_method_8_code 0 = .ok (.aload_n 1, 1) := by decide +kernel
theorem d_Judge_hearAlone_1 : decode prog_3_method_8_code 1 = .ok (.iload_n 3, 1) := by decide +kernel
theorem d_Judge_hearAlone_2 : decode prog_3_method_8_code 2 = .ok (.invokevirtual 75, 3) := by decide +kernel
theorem l_Judge_75 : ml_OK "PlainMusic$Judge" 75 ⟨"PlainMusic$Voice", "isTied", "(I)Z"⟩ := Or.inl gwi_1111
theorem d_Judge_hearAlone_5 : decode prog_3_method_8_code 5 = .ok (.ifCond .eq 19, 3) := by decide +kernel
theorem d_Judge_hearAlone_24 : decode prog_3_method_8_code 24 = .ok (.iload_n 3, 1) := by decide +kernel
theorem d_Judge_hearAlone_25 : decode prog_3_method_8_code 25 = .ok (.ifCond .le 50, 3) := by decide +kernel
theorem d_Judge_hearAlone_75 : decode prog_3_method_8_code 75 = .ok (.return_, 1) := by decide +kernel
theorem d_Judge_hearAlone_28 : decode prog_3_method_8_code 28 = .ok (.aload_n 1, 1) := by decide +kernel
theorem d_Judge_hearAlone_29 : decode prog_3_method_8_code 29 = .ok (.iload_n 3, 1) := by decide +kernel
theorem d_Judge_hearAlone_30 : decode prog_3_method_8_code 30 = .ok (.invokevirtual 83, 3) := by decide +kernel
theorem l_Judge_83 : ml_OK "PlainMusic$Judge" 83 ⟨"PlainMusic$Voice", "isRest", "(I)Z"⟩ := Or.inl gwi_1122
theorem d_Judge_hearAlone_33 : decode prog_3_method_8_code 33 = .ok (.ifCond .ne 42, 3) := by decide +kernel
theorem d_Judge_hearAlone_36 : decode prog_3_method_8_code 36 = .ok (.aload_n 1, 1) := by decide +kernel
theorem d_Judge_hearAlone_37 : decode prog_3_method_8_code 37 = .ok (.iload_n 3, 1) := by decide +kernel
theorem d_Judge_hearAlone_38 : decode prog_3_method_8_code 38 = .ok (.iconst 1, 1) := by decide +kernel
theorem d_Judge_hearAlone_39 : decode prog_3_method_8_code 39 = .ok (.isub, 1) := by decide +kernel
theorem d_Judge_hearAlone_40 : decode prog_3_method_8_code 40 = .ok (.invokevirtual 83, 3) := by decide +kernel
theorem d_Judge_hearAlone_43 : decode prog_3_method_8_code 43 = .ok (.ifCond .ne 32, 3) := by decide +kernel
theorem d_Judge_hearAlone_46 : decode prog_3_method_8_code 46 = .ok (.aload_n 1, 1) := by decide +kernel
theorem d_Judge_hearAlone_47 : decode prog_3_method_8_code 47 = .ok (.iload_n 3, 1) := by decide +kernel
theorem d_Judge_hearAlone_48 : decode prog_3_method_8_code 48 = .ok (.invokevirtual 86, 3) := by decide +kernel
theorem k_Voice_lowestKey : mt_OK m_Voice_lowestKey 1 1 := ⟨gwi_1129, gwi_139, ⟨by decide +kernel, by decide +kernel, by decide +kernel⟩, fun h => absurd h (by decide), fun _ => ⟨gwi_1127, gwi_1128⟩, fun h => absurd h (by decide)⟩
theorem l_Judge_86 : ml_OK "PlainMusic$Judge" 86 ⟨"PlainMusic$Voice", "lowestKey", "(I)I"⟩ := Or.inl gwi_1126
theorem d_Judge_hearAlone_51 : decode prog_3_method_8_code 51 = .ok (.aload_n 1, 1) := by decide +kernel
theorem d_Judge_hearAlone_52 : decode prog_3_method_8_code 52 = .ok (.iload_n 3, 1) := by decide +kernel
theorem d_Judge_hearAlone_53 : decode prog_3_method_8_code 53 = .ok (.iconst 1, 1) := by decide +kernel
theorem d_Judge_hearAlone_54 : decode prog_3_method_8_code 54 = .ok (.isub, 1) := by decide +kernel
theorem d_Judge_hearAlone_55 : decode prog_3_method_8_code 55 = .ok (.invokevirtual 86, 3) := by decide +kernel
theorem d_Judge_hearAlone_58 : decode prog_3_method_8_code 58 = .ok (.isub, 1) := by decide +kernel
theorem d_Judge_hearAlone_59 : decode prog_3_method_8_code 59 = .ok (.invokestatic 90, 3) := by decide +kernel
theorem lm_Judge_90 : Cond.methodLink "PlainMusic$Judge" 90 Lib.Math.abs.name ∈ gw := gwi_1130
theorem d_Judge_hearAlone_62 : decode prog_3_method_8_code 62 = .ok (.bipush 12, 2) := by decide +kernel
theorem d_Judge_hearAlone_64 : decode prog_3_method_8_code 64 = .ok (.if_icmp .le 11, 3) := by decide +kernel
theorem d_Judge_hearAlone_67 : decode prog_3_method_8_code 67 = .ok (.aload_n 0, 1) := by decide +kernel
theorem d_Judge_hearAlone_68 : decode prog_3_method_8_code 68 = .ok (.iconst 3, 1) := by decide +kernel
theorem d_Judge_hearAlone_69 : decode prog_3_method_8_code 69 = .ok (.iload_n 2, 1) := by decide +kernel
theorem d_Judge_hearAlone_70 : decode prog_3_method_8_code 70 = .ok (.iload_n 3, 1) := by decide +kernel
theorem d_Judge_hearAlone_71 : decode prog_3_method_8_code 71 = .ok (.iconst 0, 1) := by decide +kernel
theorem d_Judge_hearAlone_72 : decode prog_3_method_8_code 72 = .ok (.invokevirtual 50, 3) := by decide +kernel
theorem k_Judge_add : mt_OK m_Judge_add 4 1 := ⟨gwi_1106, gwi_140, ⟨by decide +kernel, by decide +kernel, by decide +kernel⟩, fun h => absurd h (by decide), fun _ => ⟨gwi_1105, gwi_29⟩, fun h => absurd h (by decide)⟩
theorem l_Judge_50 : ml_OK "PlainMusic$Judge" 50 ⟨"PlainMusic$Judge", "add", "(IIII)V"⟩ := Or.inl gwi_1103
theorem d_Judge_hearAlone_8 : decode prog_3_method_8_code 8 = .ok (.aload_n 1, 1) := by decide +kernel
theorem d_Judge_hearAlone_9 : decode prog_3_method_8_code 9 = .ok (.iload_n 3, 1) := by decide +kernel
theorem d_Judge_hearAlone_10 : decode prog_3_method_8_code 10 = .ok (.invokestatic 79, 3) := by decide +kernel
theorem k_Judge_isHeld : mt_OK m_Judge_isHeld 2 0 := ⟨gwi_1114, gwi_140, ⟨by decide +kernel, by decide +kernel, by decide +kernel⟩, fun _ => gwi_1113, fun h => absurd h (by decide), fun h => absurd h (by decide)⟩
theorem l_Judge_79 : ml_OK "PlainMusic$Judge" 79 ⟨"PlainMusic$Judge", "isHeld", "(LPlainMusic$Voice;I)Z"⟩ := Or.inl gwi_1112
theorem d_Judge_hearAlone_13 : decode prog_3_method_8_code 13 = .ok (.ifCond .ne 11, 3) := by decide +kernel
theorem d_Judge_hearAlone_16 : decode prog_3_method_8_code 16 = .ok (.aload_n 0, 1) := by decide +kernel
theorem d_Judge_hearAlone_17 : decode prog_3_method_8_code 17 = .ok (.iconst 2, 1) := by decide +kernel
theorem d_Judge_hearAlone_18 : decode prog_3_method_8_code 18 = .ok (.iload_n 2, 1) := by decide +kernel
theorem d_Judge_hearAlone_19 : decode prog_3_method_8_code 19 = .ok (.iload_n 3, 1) := by decide +kernel
theorem d_Judge_hearAlone_20 : decode prog_3_method_8_code 20 = .ok (.iconst 0, 1) := by decide +kernel
theorem d_Judge_hearAlone_21 : decode prog_3_method_8_code 21 = .ok (.invokevirtual 50, 3) := by decide +kernel
def m_Judge_compareStarts : mr_T := (⟨"PlainMusic$Judge", "compareStarts", "(LPlainMusic$Voice;ILPlainMusic$Voice;I)I"⟩, prog_3_method_13_code, 4, some .int)
theorem d_Judge_compareStarts_0 : decode prog_3_method_13_code 0 = .ok (.aload_n 0, 1) := by decide +kernel
theorem d_Judge_compareStarts_1 : decode prog_3_method_13_code 1 = .ok (.getfield 120, 3) := by decide +kernel
theorem f_Judge_120 : fl_OK "PlainMusic$Judge" 120 10 10 (.array .long) true := ⟨_, rfl, by decide, gwi_289, rfl, rfl⟩
theorem d_Judge_compareStarts_4 : decode prog_3_method_13_code 4 = .ok (.iload_n 1, 1) := by decide +kernel
theorem d_Judge_compareStarts_5 : decode prog_3_method_13_code 5 = .ok (.laload, 1) := by decide +kernel
theorem d_Judge_compareStarts_6 : decode prog_3_method_13_code 6 = .ok (.aload_n 2, 1) := by decide +kernel
theorem d_Judge_compareStarts_7 : decode prog_3_method_13_code 7 = .ok (.getfield 124, 3) := by decide +kernel
theorem f_Judge_124 : fl_OK "PlainMusic$Judge" 124 10 11 (.array .long) true := ⟨_, rfl, by decide, gwi_292, rfl, rfl⟩
theorem d_Judge_compareStarts_10 : decode prog_3_method_13_code 10 = .ok (.iload_n 3, 1) := by decide +kernel
theorem d_Judge_compareStarts_11 : decode prog_3_method_13_code 11 = .ok (.laload, 1) := by decide +kernel
theorem d_Judge_compareStarts_12 : decode prog_3_method_13_code 12 = .ok (.lmul, 1) := by decide +kernel
theorem d_Judge_compareStarts_13 : decode prog_3_method_13_code 13 = .ok (.aload_n 2, 1) := by decide +kernel
theorem d_Judge_compareStarts_14 : decode prog_3_method_13_code 14 = .ok (.getfield 120, 3) := by decide +kernel
theorem d_Judge_compareStarts_17 : decode prog_3_method_13_code 17 = .ok (.iload_n 3, 1) := by decide +kernel
theorem d_Judge_compareStarts_18 : decode prog_3_method_13_code 18 = .ok (.laload, 1) := by decide +kernel
theorem d_Judge_compareStarts_19 : decode prog_3_method_13_code 19 = .ok (.aload_n 0, 1) := by decide +kernel
theorem d_Judge_compareStarts_20 : decode prog_3_method_13_code 20 = .ok (.getfield 124, 3) := by decide +kernel
theorem d_Judge_compareStarts_23 : decode prog_3_method_13_code 23 = .ok (.iload_n 1, 1) := by decide +kernel
theorem d_Judge_compareStarts_24 : decode prog_3_method_13_code 24 = .ok (.laload, 1) := by decide +kernel
theorem d_Judge_compareStarts_25 : decode prog_3_method_13_code 25 = .ok (.lmul, 1) := by decide +kernel
theorem d_Judge_compareStarts_26 : decode prog_3_method_13_code 26 = .ok (.invokestatic 127, 3) := by decide +kernel
theorem l_Judge_127 : ml_OK "PlainMusic$Judge" 127 ⟨"java/lang/Long", "compare", "(JJ)I"⟩ := Or.inl gwi_1143
theorem d_Judge_compareStarts_29 : decode prog_3_method_13_code 29 = .ok (.ireturn, 1) := by decide +kernel
def m_Judge_firstNotEnded : mr_T := (⟨"PlainMusic$Judge", "firstNotEnded", "(LPlainMusic$Voice;ILPlainMusic$Voice;I)I"⟩, prog_3_method_11_code, 5, some .int)
theorem d_Judge_firstNotEnded_0 : decode prog_3_method_11_code 0 = .ok (.iload_n 1, 1) := by decide +kernel
theorem d_Judge_firstNotEnded_1 : decode prog_3_method_11_code 1 = .ok (.istore 4, 2) := by decide +kernel
theorem d_Judge_firstNotEnded_3 : decode prog_3_method_11_code 3 = .ok (.iload 4, 2) := by decide +kernel
theorem d_Judge_firstNotEnded_5 : decode prog_3_method_11_code 5 = .ok (.aload_n 0, 1) := by decide +kernel
theorem d_Judge_firstNotEnded_6 : decode prog_3_method_11_code 6 = .ok (.getfield 35, 3) := by decide +kernel
theorem d_Judge_firstNotEnded_9 : decode prog_3_method_11_code 9 = .ok (.if_icmp .ge 22, 3) := by decide +kernel
theorem d_Judge_firstNotEnded_31 : decode prog_3_method_11_code 31 = .ok (.iload 4, 2) := by decide +kernel
theorem d_Judge_firstNotEnded_33 : decode prog_3_method_11_code 33 = .ok (.ireturn, 1) := by decide +kernel
theorem d_Judge_firstNotEnded_12 : decode prog_3_method_11_code 12 = .ok (.aload_n 0, 1) := by decide +kernel
theorem d_Judge_firstNotEnded_13 : decode prog_3_method_11_code 13 = .ok (.iload 4, 2) := by decide +kernel
theorem d_Judge_firstNotEnded_15 : decode prog_3_method_11_code 15 = .ok (.iconst 1, 1) := by decide +kernel
theorem d_Judge_firstNotEnded_16 : decode prog_3_method_11_code 16 = .ok (.iadd, 1) := by decide +kernel
theorem d_Judge_firstNotEnded_17 : decode prog_3_method_11_code 17 = .ok (.aload_n 2, 1) := by decide +kernel
theorem d_Judge_firstNotEnded_18 : decode prog_3_method_11_code 18 = .ok (.iload_n 3, 1) := by decide +kernel
theorem d_Judge_firstNotEnded_19 : decode prog_3_method_11_code 19 = .ok (.invokestatic 114, 3) := by decide +kernel
theorem k_Judge_compareStarts : mt_OK m_Judge_compareStarts 4 0 := ⟨gwi_1142, gwi_140, ⟨by decide +kernel, by decide +kernel, by decide +kernel⟩, fun _ => gwi_1141, fun h => absurd h (by decide), fun h => absurd h (by decide)⟩
theorem l_Judge_114 : ml_OK "PlainMusic$Judge" 114 ⟨"PlainMusic$Judge", "compareStarts", "(LPlainMusic$Voice;ILPlainMusic$Voice;I)I"⟩ := Or.inl gwi_1140
theorem d_Judge_firstNotEnded_22 : decode prog_3_method_11_code 22 = .ok (.ifCond .gt 9, 3) := by decide +kernel
theorem d_Judge_firstNotEnded_25 : decode prog_3_method_11_code 25 = .ok (.iinc 4 1, 3) := by decide +kernel
theorem d_Judge_firstNotEnded_28 : decode prog_3_method_11_code 28 = .ok (.goto (-25), 3) := by decide +kernel
def m_Judge_isCrossed : mr_T := (⟨"PlainMusic$Judge", "isCrossed", "(LPlainMusic$Voice;ILPlainMusic$Voice;I)Z"⟩, prog_3_method_12_code, 5, some .boolean)
theorem d_Judge_isCrossed_0 : decode prog_3_method_12_code 0 = .ok (.aload_n 2, 1) := by decide +kernel
theorem d_Judge_isCrossed_1 : decode prog_3_method_12_code 1 = .ok (.iload_n 3, 1) := by decide +kernel
theorem d_Judge_isCrossed_2 : decode prog_3_method_12_code 2 = .ok (.invokevirtual 83, 3) := by decide +kernel
theorem d_Judge_isCrossed_5 : decode prog_3_method_12_code 5 = .ok (.ifCond .eq 5, 3) := by decide +kernel
theorem d_Judge_isCrossed_10 : decode prog_3_method_12_code 10 = .ok (.iload_n 1, 1) := by decide +kernel
theorem d_Judge_isCrossed_11 : decode prog_3_method_12_code 11 = .ok (.istore 4, 2) := by decide +kernel
theorem d_Judge_isCrossed_13 : decode prog_3_method_12_code 13 = .ok (.iload 4, 2) := by decide +kernel
theorem d_Judge_isCrossed_15 : decode prog_3_method_12_code 15 = .ok (.aload_n 0, 1) := by decide +kernel
theorem d_Judge_isCrossed_16 : decode prog_3_method_12_code 16 = .ok (.getfield 35, 3) := by decide +kernel
theorem d_Judge_isCrossed_19 : decode prog_3_method_12_code 19 = .ok (.if_icmp .ge 47, 3) := by decide +kernel
theorem d_Judge_isCrossed_66 : decode prog_3_method_12_code 66 = .ok (.iconst 0, 1) := by decide +kernel
theorem d_Judge_isCrossed_67 : decode prog_3_method_12_code 67 = .ok (.ireturn, 1) := by decide +kernel
theorem d_Judge_isCrossed_22 : decode prog_3_method_12_code 22 = .ok (.aload_n 0, 1) := by decide +kernel
theorem d_Judge_isCrossed_23 : decode prog_3_method_12_code 23 = .ok (.iload 4, 2) := by decide +kernel
theorem d_Judge_isCrossed_25 : decode prog_3_method_12_code 25 = .ok (.aload_n 2, 1) := by decide +kernel
theorem d_Judge_isCrossed_26 : decode prog_3_method_12_code 26 = .ok (.iload_n 3, 1) := by decide +kernel
theorem d_Judge_isCrossed_27 : decode prog_3_method_12_code 27 = .ok (.iconst 1, 1) := by decide +kernel
theorem d_Judge_isCrossed_28 : decode prog_3_method_12_code 28 = .ok (.iadd, 1) := by decide +kernel
theorem d_Judge_isCrossed_29 : decode prog_3_method_12_code 29 = .ok (.invokestatic 114, 3) := by decide +kernel
theorem d_Judge_isCrossed_32 : decode prog_3_method_12_code 32 = .ok (.ifCond .ge 34, 3) := by decide +kernel
theorem d_Judge_isCrossed_35 : decode prog_3_method_12_code 35 = .ok (.aload_n 0, 1) := by decide +kernel
theorem d_Judge_isCrossed_36 : decode prog_3_method_12_code 36 = .ok (.iload 4, 2) := by decide +kernel
theorem d_Judge_isCrossed_38 : decode prog_3_method_12_code 38 = .ok (.invokevirtual 83, 3) := by decide +kernel
theorem d_Judge_isCrossed_41 : decode prog_3_method_12_code 41 = .ok (.ifCond .ne 19, 3) := by decide +kernel
theorem d_Judge_isCrossed_60 : decode prog_3_method_12_code 60 = .ok (.iinc 4 1, 3) := by decide +kernel
theorem d_Judge_isCrossed_63 : decode prog_3_method_12_code 63 = .ok (.goto (-50), 3) := by decide +kernel
theorem d_Judge_isCrossed_44 : decode prog_3_method_12_code 44 = .ok (.aload_n 0, 1) := by decide +kernel
theorem d_Judge_isCrossed_45 : decode prog_3_method_12_code 45 = .ok (.iload 4, 2) := by decide +kernel
theorem d_Judge_isCrossed_47 : decode prog_3_method_12_code 47 = .ok (.invokevirtual 86, 3) := by decide +kernel
theorem d_Judge_isCrossed_50 : decode prog_3_method_12_code 50 = .ok (.aload_n 2, 1) := by decide +kernel
theorem d_Judge_isCrossed_51 : decode prog_3_method_12_code 51 = .ok (.iload_n 3, 1) := by decide +kernel
theorem d_Judge_isCrossed_52 : decode prog_3_method_12_code 52 = .ok (.invokevirtual 117, 3) := by decide +kernel
theorem k_Voice_highestKey : mt_OK m_Voice_highestKey 1 1 := ⟨gwi_1150, gwi_139, ⟨by decide +kernel, by decide +kernel, by decide +kernel⟩, fun h => absurd h (by decide), fun _ => ⟨gwi_1148, gwi_1149⟩, fun h => absurd h (by decide)⟩
theorem l_Judge_117 : ml_OK "PlainMusic$Judge" 117 ⟨"PlainMusic$Voice", "highestKey", "(I)I"⟩ := Or.inl gwi_1147
theorem d_Judge_isCrossed_55 : decode prog_3_method_12_code 55 = .ok (.if_icmp .ge 5, 3) := by decide +kernel
theorem d_Judge_isCrossed_58 : decode prog_3_method_12_code 58 = .ok (.iconst 1, 1) := by decide +kernel
theorem d_Judge_isCrossed_59 : decode prog_3_method_12_code 59 = .ok (.ireturn, 1) := by decide +kernel
theorem d_Judge_isCrossed_8 : decode prog_3_method_12_code 8 = .ok (.iconst 0, 1) := by decide +kernel
theorem d_Judge_isCrossed_9 : decode prog_3_method_12_code 9 = .ok (.ireturn, 1) := by decide +kernel
def m_Judge_hearCrossings : mr_T := (⟨"PlainMusic$Judge", "hearCrossings", "(LPlainMusic$Score;LPlainMusic$Voice;II)V"⟩, prog_3_method_10_code, 7, none)
theorem d_Judge_hearCrossings_0 : decode prog_3_method_10_code 0 = .ok (.iconst 0, 1) := by decide +kernel
theorem d_Judge_hearCrossings_1 : decode prog_3_method_10_code 1 = .ok (.istore 5, 2) := by decide +kernel
theorem d_Judge_hearCrossings_3 : decode prog_3_method_10_code 3 = .ok (.iload 5, 2) := by decide +kernel
theorem d_Judge_hearCrossings_5 : decode prog_3_method_10_code 5 = .ok (.iload_n 3, 1) := by decide +kernel
theorem d_Judge_hearCrossings_6 : decode prog_3_method_10_code 6 = .ok (.if_icmp .ge 82, 3) := by decide +kernel
theorem d_Judge_hearCrossings_88 : decode prog_3_method_10_code 88 = .ok (.return_, 1) := by decide +kernel
theorem d_Judge_hearCrossings_9 : decode prog_3_method_10_code 9 = .ok (.iload 5, 2) := by decide +kernel
theorem d_Judge_hearCrossings_11 : decode prog_3_method_10_code 11 = .ok (.aload_n 0, 1) := by decide +kernel
theorem d_Judge_hearCrossings_12 : decode prog_3_method_10_code 12 = .ok (.getfield 15, 3) := by decide +kernel
theorem rff_143_2 : (143, 2, 145) ∈ rf_L := by decide +kernel
theorem d_Judge_hearCrossings_15 : decode prog_3_method_10_code 15 = .ok (.arraylength, 1) := by decide +kernel
theorem sf_145 : sh_L[145]? = some (0, 4) := by decide +kernel
theorem d_Judge_hearCrossings_16 : decode prog_3_method_10_code 16 = .ok (.if_icmp .ge 72, 3) := by decide +kernel
theorem d_Judge_hearCrossings_19 : decode prog_3_method_10_code 19 = .ok (.aload_n 1, 1) := by decide +kernel
theorem d_Judge_hearCrossings_20 : decode prog_3_method_10_code 20 = .ok (.iload 5, 2) := by decide +kernel
theorem d_Judge_hearCrossings_22 : decode prog_3_method_10_code 22 = .ok (.invokevirtual 27, 3) := by decide +kernel
theorem l_Judge_27 : ml_OK "PlainMusic$Judge" 27 ⟨"PlainMusic$Score", "voiceAt", "(I)LPlainMusic$Voice;"⟩ := Or.inl gwi_1080
theorem d_Judge_hearCrossings_25 : decode prog_3_method_10_code 25 = .ok (.astore 6, 2) := by decide +kernel
theorem d_Judge_hearCrossings_27 : decode prog_3_method_10_code 27 = .ok (.aload 6, 2) := by decide +kernel
theorem d_Judge_hearCrossings_29 : decode prog_3_method_10_code 29 = .ok (.ifnull 53, 3) := by decide +kernel
theorem d_Judge_hearCrossings_82 : decode prog_3_method_10_code 82 = .ok (.iinc 5 1, 3) := by decide +kernel
theorem d_Judge_hearCrossings_85 : decode prog_3_method_10_code 85 = .ok (.goto (-82), 3) := by decide +kernel
theorem d_Judge_hearCrossings_32 : decode prog_3_method_10_code 32 = .ok (.aload_n 0, 1) := by decide +kernel
theorem d_Judge_hearCrossings_33 : decode prog_3_method_10_code 33 = .ok (.getfield 15, 3) := by decide +kernel
theorem d_Judge_hearCrossings_36 : decode prog_3_method_10_code 36 = .ok (.iload 5, 2) := by decide +kernel
theorem d_Judge_hearCrossings_38 : decode prog_3_method_10_code 38 = .ok (.aload 6, 2) := by decide +kernel
theorem d_Judge_hearCrossings_40 : decode prog_3_method_10_code 40 = .ok (.aload_n 0, 1) := by decide +kernel
theorem d_Judge_hearCrossings_41 : decode prog_3_method_10_code 41 = .ok (.getfield 15, 3) := by decide +kernel
theorem d_Judge_hearCrossings_44 : decode prog_3_method_10_code 44 = .ok (.iload 5, 2) := by decide +kernel
theorem d_Judge_hearCrossings_46 : decode prog_3_method_10_code 46 = .ok (.iaload, 1) := by decide +kernel
theorem rgf_145 (k : Nat) : rg 145 k = (0, 300) := rfl
theorem d_Judge_hearCrossings_47 : decode prog_3_method_10_code 47 = .ok (.aload_n 2, 1) := by decide +kernel
theorem d_Judge_hearCrossings_48 : decode prog_3_method_10_code 48 = .ok (.iload 4, 2) := by decide +kernel
theorem d_Judge_hearCrossings_50 : decode prog_3_method_10_code 50 = .ok (.invokestatic 106, 3) := by decide +kernel
theorem k_Judge_firstNotEnded : mt_OK m_Judge_firstNotEnded 4 0 := ⟨gwi_1139, gwi_140, ⟨by decide +kernel, by decide +kernel, by decide +kernel⟩, fun _ => gwi_1138, fun h => absurd h (by decide), fun h => absurd h (by decide)⟩
theorem l_Judge_106 : ml_OK "PlainMusic$Judge" 106 ⟨"PlainMusic$Judge", "firstNotEnded", "(LPlainMusic$Voice;ILPlainMusic$Voice;I)I"⟩ := Or.inl gwi_1137
theorem d_Judge_hearCrossings_53 : decode prog_3_method_10_code 53 = .ok (.iastore, 1) := by decide +kernel
theorem d_Judge_hearCrossings_54 : decode prog_3_method_10_code 54 = .ok (.aload 6, 2) := by decide +kernel
theorem d_Judge_hearCrossings_56 : decode prog_3_method_10_code 56 = .ok (.aload_n 0, 1) := by decide +kernel
theorem d_Judge_hearCrossings_57 : decode prog_3_method_10_code 57 = .ok (.getfield 15, 3) := by decide +kernel
theorem d_Judge_hearCrossings_60 : decode prog_3_method_10_code 60 = .ok (.iload 5, 2) := by decide +kernel
theorem d_Judge_hearCrossings_62 : decode prog_3_method_10_code 62 = .ok (.iaload, 1) := by decide +kernel
theorem d_Judge_hearCrossings_63 : decode prog_3_method_10_code 63 = .ok (.aload_n 2, 1) := by decide +kernel
theorem d_Judge_hearCrossings_64 : decode prog_3_method_10_code 64 = .ok (.iload 4, 2) := by decide +kernel
theorem d_Judge_hearCrossings_66 : decode prog_3_method_10_code 66 = .ok (.invokestatic 110, 3) := by decide +kernel
theorem k_Judge_isCrossed : mt_OK m_Judge_isCrossed 4 0 := ⟨gwi_1146, gwi_140, ⟨by decide +kernel, by decide +kernel, by decide +kernel⟩, fun _ => gwi_1145, fun h => absurd h (by decide), fun h => absurd h (by decide)⟩
theorem l_Judge_110 : ml_OK "PlainMusic$Judge" 110 ⟨"PlainMusic$Judge", "isCrossed", "(LPlainMusic$Voice;ILPlainMusic$Voice;I)Z"⟩ := Or.inl gwi_1144
theorem d_Judge_hearCrossings_69 : decode prog_3_method_10_code 69 = .ok (.ifCond .eq 13, 3) := by decide +kernel
theorem d_Judge_hearCrossings_72 : decode prog_3_method_10_code 72 = .ok (.aload_n 0, 1) := by decide +kernel
theorem d_Judge_hearCrossings_73 : decode prog_3_method_10_code 73 = .ok (.iconst 4, 1) := by decide +kernel
theorem d_Judge_hearCrossings_74 : decode prog_3_method_10_code 74 = .ok (.iload_n 3, 1) := by decide +kernel
theorem d_Judge_hearCrossings_75 : decode prog_3_method_10_code 75 = .ok (.iload 4, 2) := by decide +kernel
theorem d_Judge_hearCrossings_77 : decode prog_3_method_10_code 77 = .ok (.iload 5, 2) := by decide +kernel
theorem d_Judge_hearCrossings_79 : decode prog_3_method_10_code 79 = .ok (.invokevirtual 50, 3) := by decide +kernel
def m_Judge_isParallel : mr_T := (⟨"PlainMusic$Judge", "isParallel", "(LPlainMusic$Voice;ILPlainMusic$Voice;I)Z"⟩, prog_3_method_15_code, 6, some .boolean)
theorem d_Judge_isParallel_0 : decode prog_3_method_15_code 0 = .ok (.iload_n 3, 1) := by decide +kernel
theorem d_Judge_isParallel_1 : decode prog_3_method_15_code 1 = .ok (.iconst 1, 1) := by decide +kernel
theorem d_Judge_isParallel_2 : decode prog_3_method_15_code 2 = .ok (.if_icmp .lt 26, 3) := by decide +kernel
theorem d_Judge_isParallel_28 : decode prog_3_method_15_code 28 = .ok (.iconst 0, 1) := by decide +kernel
theorem d_Judge_isParallel_29 : decode prog_3_method_15_code 29 = .ok (.ireturn, 1) := by decide +kernel
theorem d_Judge_isParallel_5 : decode prog_3_method_15_code 5 = .ok (.iload_n 1, 1) := by decide +kernel
theorem d_Judge_isParallel_6 : decode prog_3_method_15_code 6 = .ok (.iconst 1, 1) := by decide +kernel
theorem d_Judge_isParallel_7 : decode prog_3_method_15_code 7 = .ok (.if_icmp .lt 21, 3) := by decide +kernel
theorem d_Judge_isParallel_10 : decode prog_3_method_15_code 10 = .ok (.iload_n 1, 1) := by decide +kernel
theorem d_Judge_isParallel_11 : decode prog_3_method_15_code 11 = .ok (.aload_n 0, 1) := by decide +kernel
theorem d_Judge_isParallel_12 : decode prog_3_method_15_code 12 = .ok (.getfield 35, 3) := by decide +kernel
theorem d_Judge_isParallel_15 : decode prog_3_method_15_code 15 = .ok (.if_icmp .ge 13, 3) := by decide +kernel
theorem d_Judge_isParallel_18 : decode prog_3_method_15_code 18 = .ok (.aload_n 0, 1) := by decide +kernel
theorem d_Judge_isParallel_19 : decode prog_3_method_15_code 19 = .ok (.iload_n 1, 1) := by decide +kernel
theorem d_Judge_isParallel_20 : decode prog_3_method_15_code 20 = .ok (.aload_n 2, 1) := by decide +kernel
theorem d_Judge_isParallel_21 : decode prog_3_method_15_code 21 = .ok (.iload_n 3, 1) := by decide +kernel
theorem d_Judge_isParallel_22 : decode prog_3_method_15_code 22 = .ok (.invokestatic 114, 3) := by decide +kernel
theorem d_Judge_isParallel_25 : decode prog_3_method_15_code 25 = .ok (.ifCond .eq 5, 3) := by decide +kernel
theorem d_Judge_isParallel_30 : decode prog_3_method_15_code 30 = .ok (.aload_n 2, 1) := by decide +kernel
theorem d_Judge_isParallel_31 : decode prog_3_method_15_code 31 = .ok (.iload_n 3, 1) := by decide +kernel
theorem d_Judge_isParallel_32 : decode prog_3_method_15_code 32 = .ok (.invokevirtual 83, 3) := by decide +kernel
theorem d_Judge_isParallel_35 : decode prog_3_method_15_code 35 = .ok (.ifCond .ne 31, 3) := by decide +kernel
theorem d_Judge_isParallel_66 : decode prog_3_method_15_code 66 = .ok (.iconst 0, 1) := by decide +kernel
theorem d_Judge_isParallel_67 : decode prog_3_method_15_code 67 = .ok (.ireturn, 1) := by decide +kernel
theorem d_Judge_isParallel_38 : decode prog_3_method_15_code 38 = .ok (.aload_n 2, 1) := by decide +kernel
theorem d_Judge_isParallel_39 : decode prog_3_method_15_code 39 = .ok (.iload_n 3, 1) := by decide +kernel
theorem d_Judge_isParallel_40 : decode prog_3_method_15_code 40 = .ok (.iconst 1, 1) := by decide +kernel
theorem d_Judge_isParallel_41 : decode prog_3_method_15_code 41 = .ok (.isub, 1) := by decide +kernel
theorem d_Judge_isParallel_42 : decode prog_3_method_15_code 42 = .ok (.invokevirtual 83, 3) := by decide +kernel
theorem d_Judge_isParallel_45 : decode prog_3_method_15_code 45 = .ok (.ifCond .ne 21, 3) := by decide +kernel
theorem d_Judge_isParallel_48 : decode prog_3_method_15_code 48 = .ok (.aload_n 0, 1) := by decide +kernel
theorem d_Judge_isParallel_49 : decode prog_3_method_15_code 49 = .ok (.iload_n 1, 1) := by decide +kernel
theorem d_Judge_isParallel_50 : decode prog_3_method_15_code 50 = .ok (.invokevirtual 83, 3) := by decide +kernel
theorem d_Judge_isParallel_53 : decode prog_3_method_15_code 53 = .ok (.ifCond .ne 13, 3) := by decide +kernel
theorem d_Judge_isParallel_56 : decode prog_3_method_15_code 56 = .ok (.aload_n 0, 1) := by decide +kernel
theorem d_Judge_isParallel_57 : decode prog_3_method_15_code 57 = .ok (.iload_n 1, 1) := by decide +kernel
theorem d_Judge_isParallel_58 : decode prog_3_method_15_code 58 = .ok (.iconst 1, 1) := by decide +kernel
theorem d_Judge_isParallel_59 : decode prog_3_method_15_code 59 = .ok (.isub, 1) := by decide +kernel
theorem d_Judge_isParallel_60 : decode prog_3_method_15_code 60 = .ok (.invokevirtual 83, 3) := by decide +kernel
theorem d_Judge_isParallel_63 : decode prog_3_method_15_code 63 = .ok (.ifCond .eq 5, 3) := by decide +kernel
theorem d_Judge_isParallel_68 : decode prog_3_method_15_code 68 = .ok (.aload_n 0, 1) := by decide +kernel
theorem d_Judge_isParallel_69 : decode prog_3_method_15_code 69 = .ok (.iload_n 1, 1) := by decide +kernel
theorem d_Judge_isParallel_70 : decode prog_3_method_15_code 70 = .ok (.invokevirtual 86, 3) := by decide +kernel
theorem d_Judge_isParallel_73 : decode prog_3_method_15_code 73 = .ok (.aload_n 2, 1) := by decide +kernel
theorem d_Judge_isParallel_74 : decode prog_3_method_15_code 74 = .ok (.iload_n 3, 1) := by decide +kernel
theorem d_Judge_isParallel_75 : decode prog_3_method_15_code 75 = .ok (.invokevirtual 86, 3) := by decide +kernel
theorem d_Judge_isParallel_78 : decode prog_3_method_15_code 78 = .ok (.isub, 1) := by decide +kernel
theorem d_Judge_isParallel_79 : decode prog_3_method_15_code 79 = .ok (.bipush 12, 2) := by decide +kernel
theorem d_Judge_isParallel_81 : decode prog_3_method_15_code 81 = .ok (.invokestatic 136, 3) := by decide +kernel
theorem l_Judge_136 : ml_OK "PlainMusic$Judge" 136 ⟨"java/lang/Math", "floorMod", "(II)I"⟩ := Or.inl gwi_1158
theorem d_Judge_isParallel_84 : decode prog_3_method_15_code 84 = .ok (.istore 4, 2) := by decide +kernel
theorem d_Judge_isParallel_86 : decode prog_3_method_15_code 86 = .ok (.aload_n 0, 1) := by decide +kernel
theorem d_Judge_isParallel_87 : decode prog_3_method_15_code 87 = .ok (.iload_n 1, 1) := by decide +kernel
theorem d_Judge_isParallel_88 : decode prog_3_method_15_code 88 = .ok (.iconst 1, 1) := by decide +kernel
theorem d_Judge_isParallel_89 : decode prog_3_method_15_code 89 = .ok (.isub, 1) := by decide +kernel
theorem d_Judge_isParallel_90 : decode prog_3_method_15_code 90 = .ok (.invokevirtual 86, 3) := by decide +kernel
theorem d_Judge_isParallel_93 : decode prog_3_method_15_code 93 = .ok (.aload_n 2, 1) := by decide +kernel
theorem d_Judge_isParallel_94 : decode prog_3_method_15_code 94 = .ok (.iload_n 3, 1) := by decide +kernel
theorem d_Judge_isParallel_95 : decode prog_3_method_15_code 95 = .ok (.iconst 1, 1) := by decide +kernel
theorem d_Judge_isParallel_96 : decode prog_3_method_15_code 96 = .ok (.isub, 1) := by decide +kernel
theorem d_Judge_isParallel_97 : decode prog_3_method_15_code 97 = .ok (.invokevirtual 86, 3) := by decide +kernel
theorem d_Judge_isParallel_100 : decode prog_3_method_15_code 100 = .ok (.isub, 1) := by decide +kernel
theorem d_Judge_isParallel_101 : decode prog_3_method_15_code 101 = .ok (.bipush 12, 2) := by decide +kernel
theorem d_Judge_isParallel_103 : decode prog_3_method_15_code 103 = .ok (.invokestatic 136, 3) := by decide +kernel
theorem d_Judge_isParallel_106 : decode prog_3_method_15_code 106 = .ok (.istore 5, 2) := by decide +kernel
theorem d_Judge_isParallel_108 : decode prog_3_method_15_code 108 = .ok (.iload 4, 2) := by decide +kernel
theorem d_Judge_isParallel_110 : decode prog_3_method_15_code 110 = .ok (.iload 5, 2) := by decide +kernel
theorem d_Judge_isParallel_112 : decode prog_3_method_15_code 112 = .ok (.if_icmp .ne 34, 3) := by decide +kernel
theorem d_Judge_isParallel_146 : decode prog_3_method_15_code 146 = .ok (.iconst 0, 1) := by decide +kernel
theorem d_Judge_isParallel_147 : decode prog_3_method_15_code 147 = .ok (.ireturn, 1) := by decide +kernel
theorem d_Judge_isParallel_115 : decode prog_3_method_15_code 115 = .ok (.iload 4, 2) := by decide +kernel
theorem d_Judge_isParallel_117 : decode prog_3_method_15_code 117 = .ok (.ifCond .eq 10, 3) := by decide +kernel
theorem d_Judge_isParallel_127 : decode prog_3_method_15_code 127 = .ok (.aload_n 2, 1) := by decide +kernel
theorem d_Judge_isParallel_128 : decode prog_3_method_15_code 128 = .ok (.iload_n 3, 1) := by decide +kernel
theorem d_Judge_isParallel_129 : decode prog_3_method_15_code 129 = .ok (.invokevirtual 86, 3) := by decide +kernel
theorem d_Judge_isParallel_132 : decode prog_3_method_15_code 132 = .ok (.aload_n 2, 1) := by decide +kernel
theorem d_Judge_isParallel_133 : decode prog_3_method_15_code 133 = .ok (.iload_n 3, 1) := by decide +kernel
theorem d_Judge_isParallel_134 : decode prog_3_method_15_code 134 = .ok (.iconst 1, 1) := by decide +kernel
theorem d_Judge_isParallel_135 : decode prog_3_method_15_code 135 = .ok (.isub, 1) := by decide +kernel
theorem d_Judge_isParallel_136 : decode prog_3_method_15_code 136 = .ok (.invokevirtual 86, 3) := by decide +kernel
theorem d_Judge_isParallel_139 : decode prog_3_method_15_code 139 = .ok (.if_icmp .eq 7, 3) := by decide +kernel
theorem d_Judge_isParallel_142 : decode prog_3_method_15_code 142 = .ok (.iconst 1, 1) := by decide +kernel
theorem d_Judge_isParallel_143 : decode prog_3_method_15_code 143 = .ok (.goto 4, 3) := by decide +kernel
theorem d_Judge_isParallel_120 : decode prog_3_method_15_code 120 = .ok (.iload 4, 2) := by decide +kernel
theorem d_Judge_isParallel_122 : decode prog_3_method_15_code 122 = .ok (.bipush 7, 2) := by decide +kernel
theorem d_Judge_isParallel_124 : decode prog_3_method_15_code 124 = .ok (.if_icmp .ne 22, 3) := by decide +kernel
def m_Judge_hearParallels : mr_T := (⟨"PlainMusic$Judge", "hearParallels", "(LPlainMusic$Score;LPlainMusic$Voice;II)V"⟩, prog_3_method_14_code, 7, none)
theorem d_Judge_hearParallels_0 : decode prog_3_method_14_code 0 = .ok (.iconst 0, 1) := by decide +kernel
theorem d_Judge_hearParallels_1 : decode prog_3_method_14_code 1 = .ok (.istore 5, 2) := by decide +kernel
theorem d_Judge_hearParallels_3 : decode prog_3_method_14_code 3 = .ok (.iload 5, 2) := by decide +kernel
theorem d_Judge_hearParallels_5 : decode prog_3_method_14_code 5 = .ok (.iload_n 3, 1) := by decide +kernel
theorem d_Judge_hearParallels_6 : decode prog_3_method_14_code 6 = .ok (.if_icmp .ge 60, 3) := by decide +kernel
theorem d_Judge_hearParallels_66 : decode prog_3_method_14_code 66 = .ok (.return_, 1) := by decide +kernel
theorem d_Judge_hearParallels_9 : decode prog_3_method_14_code 9 = .ok (.iload 5, 2) := by decide +kernel
theorem d_Judge_hearParallels_11 : decode prog_3_method_14_code 11 = .ok (.aload_n 0, 1) := by decide +kernel
theorem d_Judge_hearParallels_12 : decode prog_3_method_14_code 12 = .ok (.getfield 15, 3) := by decide +kernel
theorem d_Judge_hearParallels_15 : decode prog_3_method_14_code 15 = .ok (.arraylength, 1) := by decide +kernel
theorem d_Judge_hearParallels_16 : decode prog_3_method_14_code 16 = .ok (.if_icmp .ge 50, 3) := by decide +kernel
theorem d_Judge_hearParallels_19 : decode prog_3_method_14_code 19 = .ok (.aload_n 1, 1) := by decide +kernel
theorem d_Judge_hearParallels_20 : decode prog_3_method_14_code 20 = .ok (.iload 5, 2) := by decide +kernel
theorem d_Judge_hearParallels_22 : decode prog_3_method_14_code 22 = .ok (.invokevirtual 27, 3) := by decide +kernel
theorem d_Judge_hearParallels_25 : decode prog_3_method_14_code 25 = .ok (.astore 6, 2) := by decide +kernel
theorem d_Judge_hearParallels_27 : decode prog_3_method_14_code 27 = .ok (.aload 6, 2) := by decide +kernel
theorem d_Judge_hearParallels_29 : decode prog_3_method_14_code 29 = .ok (.ifnull 31, 3) := by decide +kernel
theorem d_Judge_hearParallels_60 : decode prog_3_method_14_code 60 = .ok (.iinc 5 1, 3) := by decide +kernel
theorem d_Judge_hearParallels_63 : decode prog_3_method_14_code 63 = .ok (.goto (-60), 3) := by decide +kernel
theorem d_Judge_hearParallels_32 : decode prog_3_method_14_code 32 = .ok (.aload 6, 2) := by decide +kernel
theorem d_Judge_hearParallels_34 : decode prog_3_method_14_code 34 = .ok (.aload_n 0, 1) := by decide +kernel
theorem d_Judge_hearParallels_35 : decode prog_3_method_14_code 35 = .ok (.getfield 15, 3) := by decide +kernel
theorem d_Judge_hearParallels_38 : decode prog_3_method_14_code 38 = .ok (.iload 5, 2) := by decide +kernel
theorem d_Judge_hearParallels_40 : decode prog_3_method_14_code 40 = .ok (.iaload, 1) := by decide +kernel
theorem d_Judge_hearParallels_41 : decode prog_3_method_14_code 41 = .ok (.aload_n 2, 1) := by decide +kernel
theorem d_Judge_hearParallels_42 : decode prog_3_method_14_code 42 = .ok (.iload 4, 2) := by decide +kernel
theorem d_Judge_hearParallels_44 : decode prog_3_method_14_code 44 = .ok (.invokestatic 133, 3) := by decide +kernel
theorem k_Judge_isParallel : mt_OK m_Judge_isParallel 4 0 := ⟨gwi_1157, gwi_140, ⟨by decide +kernel, by decide +kernel, by decide +kernel⟩, fun _ => gwi_1156, fun h => absurd h (by decide), fun h => absurd h (by decide)⟩
theorem l_Judge_133 : ml_OK "PlainMusic$Judge" 133 ⟨"PlainMusic$Judge", "isParallel", "(LPlainMusic$Voice;ILPlainMusic$Voice;I)Z"⟩ := Or.inl gwi_1155
theorem d_Judge_hearParallels_47 : decode prog_3_method_14_code 47 = .ok (.ifCond .eq 13, 3) := by decide +kernel
theorem d_Judge_hearParallels_50 : decode prog_3_method_14_code 50 = .ok (.aload_n 0, 1) := by decide +kernel
theorem d_Judge_hearParallels_51 : decode prog_3_method_14_code 51 = .ok (.iconst 5, 1) := by decide +kernel
theorem d_Judge_hearParallels_52 : decode prog_3_method_14_code 52 = .ok (.iload_n 3, 1) := by decide +kernel
theorem d_Judge_hearParallels_53 : decode prog_3_method_14_code 53 = .ok (.iload 4, 2) := by decide +kernel
theorem d_Judge_hearParallels_55 : decode prog_3_method_14_code 55 = .ok (.iload 5, 2) := by decide +kernel
theorem d_Judge_hearParallels_57 : decode prog_3_method_14_code 57 = .ok (.invokevirtual 50, 3) := by decide +kernel
def m_Judge_hearVoice : mr_T := (⟨"PlainMusic$Judge", "hearVoice", "(LPlainMusic$Score;LPlainMusic$Voice;I)V"⟩, prog_3_method_6_code, 6, none)
theorem d_Judge_hearVoice_0 : decode prog_3_method_6_code 0 = .ok (.iconst 0, 1) := by decide +kernel
theorem d_Judge_hearVoice_1 : decode prog_3_method_6_code 1 = .ok (.istore 4, 2) := by decide +kernel
theorem d_Judge_hearVoice_3 : decode prog_3_method_6_code 3 = .ok (.iload 4, 2) := by decide +kernel
theorem d_Judge_hearVoice_5 : decode prog_3_method_6_code 5 = .ok (.aload_n 0, 1) := by decide +kernel
theorem d_Judge_hearVoice_6 : decode prog_3_method_6_code 6 = .ok (.getfield 15, 3) := by decide +kernel
theorem d_Judge_hearVoice_9 : decode prog_3_method_6_code 9 = .ok (.arraylength, 1) := by decide +kernel
theorem d_Judge_hearVoice_10 : decode prog_3_method_6_code 10 = .ok (.if_icmp .ge 17, 3) := by decide +kernel
theorem d_Judge_hearVoice_13 : decode prog_3_method_6_code 13 = .ok (.aload_n 0, 1) := by decide +kernel
theorem d_Judge_hearVoice_14 : decode prog_3_method_6_code 14 = .ok (.getfield 15, 3) := by decide +kernel
theorem d_Judge_hearVoice_17 : decode prog_3_method_6_code 17 = .ok (.iload 4, 2) := by decide +kernel
theorem d_Judge_hearVoice_19 : decode prog_3_method_6_code 19 = .ok (.iconst 0, 1) := by decide +kernel
theorem d_Judge_hearVoice_20 : decode prog_3_method_6_code 20 = .ok (.iastore, 1) := by decide +kernel
theorem d_Judge_hearVoice_21 : decode prog_3_method_6_code 21 = .ok (.iinc 4 1, 3) := by decide +kernel
theorem d_Judge_hearVoice_24 : decode prog_3_method_6_code 24 = .ok (.goto (-21), 3) := by decide +kernel
theorem d_Judge_hearVoice_27 : decode prog_3_method_6_code 27 = .ok (.iconst 0, 1) := by decide +kernel
theorem d_Judge_hearVoice_28 : decode prog_3_method_6_code 28 = .ok (.istore 4, 2) := by decide +kernel
theorem d_Judge_hearVoice_30 : decode prog_3_method_6_code 30 = .ok (.iconst 0, 1) := by decide +kernel
theorem d_Judge_hearVoice_31 : decode prog_3_method_6_code 31 = .ok (.istore 5, 2) := by decide +kernel
theorem d_Judge_hearVoice_33 : decode prog_3_method_6_code 33 = .ok (.iload 5, 2) := by decide +kernel
theorem d_Judge_hearVoice_35 : decode prog_3_method_6_code 35 = .ok (.aload_n 2, 1) := by decide +kernel
theorem d_Judge_hearVoice_36 : decode prog_3_method_6_code 36 = .ok (.getfield 35, 3) := by decide +kernel
theorem d_Judge_hearVoice_39 : decode prog_3_method_6_code 39 = .ok (.if_icmp .gt 91, 3) := by decide +kernel
theorem d_Judge_hearVoice_42 : decode prog_3_method_6_code 42 = .ok (.iload 4, 2) := by decide +kernel
theorem d_Judge_hearVoice_44 : decode prog_3_method_6_code 44 = .ok (.aload_n 2, 1) := by decide +kernel
theorem d_Judge_hearVoice_45 : decode prog_3_method_6_code 45 = .ok (.getfield 40, 3) := by decide +kernel
theorem d_Judge_hearVoice_48 : decode prog_3_method_6_code 48 = .ok (.if_icmp .ge 41, 3) := by decide +kernel
theorem d_Judge_hearVoice_89 : decode prog_3_method_6_code 89 = .ok (.iload 5, 2) := by decide +kernel
theorem d_Judge_hearVoice_91 : decode prog_3_method_6_code 91 = .ok (.aload_n 2, 1) := by decide +kernel
theorem d_Judge_hearVoice_92 : decode prog_3_method_6_code 92 = .ok (.getfield 35, 3) := by decide +kernel
theorem d_Judge_hearVoice_95 : decode prog_3_method_6_code 95 = .ok (.if_icmp .ge 29, 3) := by decide +kernel
theorem d_Judge_hearVoice_124 : decode prog_3_method_6_code 124 = .ok (.iinc 5 1, 3) := by decide +kernel
theorem d_Judge_hearVoice_127 : decode prog_3_method_6_code 127 = .ok (.goto (-94), 3) := by decide +kernel
theorem d_Judge_hearVoice_98 : decode prog_3_method_6_code 98 = .ok (.aload_n 0, 1) := by decide +kernel
theorem d_Judge_hearVoice_99 : decode prog_3_method_6_code 99 = .ok (.aload_n 2, 1) := by decide +kernel
theorem d_Judge_hearVoice_100 : decode prog_3_method_6_code 100 = .ok (.iload_n 3, 1) := by decide +kernel
theorem d_Judge_hearVoice_101 : decode prog_3_method_6_code 101 = .ok (.iload 5, 2) := by decide +kernel
theorem d_Judge_hearVoice_103 : decode prog_3_method_6_code 103 = .ok (.invokevirtual 54, 3) := by decide +kernel
theorem k_Judge_hearAlone : mt_OK m_Judge_hearAlone 3 1 := ⟨gwi_1110, gwi_140, ⟨by decide +kernel, by decide +kernel, by decide +kernel⟩, fun h => absurd h (by decide), fun _ => ⟨gwi_1109, gwi_30⟩, fun h => absurd h (by decide)⟩
theorem l_Judge_54 : ml_OK "PlainMusic$Judge" 54 ⟨"PlainMusic$Judge", "hearAlone", "(LPlainMusic$Voice;II)V"⟩ := Or.inl gwi_1107
theorem d_Judge_hearVoice_106 : decode prog_3_method_6_code 106 = .ok (.aload_n 0, 1) := by decide +kernel
theorem d_Judge_hearVoice_107 : decode prog_3_method_6_code 107 = .ok (.aload_n 1, 1) := by decide +kernel
theorem d_Judge_hearVoice_108 : decode prog_3_method_6_code 108 = .ok (.aload_n 2, 1) := by decide +kernel
theorem d_Judge_hearVoice_109 : decode prog_3_method_6_code 109 = .ok (.iload_n 3, 1) := by decide +kernel
theorem d_Judge_hearVoice_110 : decode prog_3_method_6_code 110 = .ok (.iload 5, 2) := by decide +kernel
theorem d_Judge_hearVoice_112 : decode prog_3_method_6_code 112 = .ok (.invokevirtual 58, 3) := by decide +kernel
theorem k_Judge_hearCrossings : mt_OK m_Judge_hearCrossings 4 1 := ⟨gwi_1136, gwi_140, ⟨by decide +kernel, by decide +kernel, by decide +kernel⟩, fun h => absurd h (by decide), fun _ => ⟨gwi_1135, gwi_31⟩, fun h => absurd h (by decide)⟩
theorem l_Judge_58 : ml_OK "PlainMusic$Judge" 58 ⟨"PlainMusic$Judge", "hearCrossings", "(LPlainMusic$Score;LPlainMusic$Voice;II)V"⟩ := Or.inl gwi_1133
theorem d_Judge_hearVoice_115 : decode prog_3_method_6_code 115 = .ok (.aload_n 0, 1) := by decide +kernel
theorem d_Judge_hearVoice_116 : decode prog_3_method_6_code 116 = .ok (.aload_n 1, 1) := by decide +kernel
theorem d_Judge_hearVoice_117 : decode prog_3_method_6_code 117 = .ok (.aload_n 2, 1) := by decide +kernel
theorem d_Judge_hearVoice_118 : decode prog_3_method_6_code 118 = .ok (.iload_n 3, 1) := by decide +kernel
theorem d_Judge_hearVoice_119 : decode prog_3_method_6_code 119 = .ok (.iload 5, 2) := by decide +kernel
theorem d_Judge_hearVoice_121 : decode prog_3_method_6_code 121 = .ok (.invokevirtual 62, 3) := by decide +kernel
theorem k_Judge_hearParallels : mt_OK m_Judge_hearParallels 4 1 := ⟨gwi_1154, gwi_140, ⟨by decide +kernel, by decide +kernel, by decide +kernel⟩, fun h => absurd h (by decide), fun _ => ⟨gwi_1153, gwi_32⟩, fun h => absurd h (by decide)⟩
theorem l_Judge_62 : ml_OK "PlainMusic$Judge" 62 ⟨"PlainMusic$Judge", "hearParallels", "(LPlainMusic$Score;LPlainMusic$Voice;II)V"⟩ := Or.inl gwi_1151
theorem d_Judge_hearVoice_51 : decode prog_3_method_6_code 51 = .ok (.aload_n 2, 1) := by decide +kernel
theorem d_Judge_hearVoice_52 : decode prog_3_method_6_code 52 = .ok (.getfield 43, 3) := by decide +kernel
theorem f_Judge_43 : fl_OK "PlainMusic$Judge" 43 10 15 (.array .int) true := ⟨_, rfl, by decide, gwi_307, rfl, rfl⟩
theorem d_Judge_hearVoice_55 : decode prog_3_method_6_code 55 = .ok (.iload 4, 2) := by decide +kernel
theorem d_Judge_hearVoice_57 : decode prog_3_method_6_code 57 = .ok (.iaload, 1) := by decide +kernel
theorem d_Judge_hearVoice_58 : decode prog_3_method_6_code 58 = .ok (.iload 5, 2) := by decide +kernel
theorem d_Judge_hearVoice_60 : decode prog_3_method_6_code 60 = .ok (.if_icmp .gt 29, 3) := by decide +kernel
theorem d_Judge_hearVoice_63 : decode prog_3_method_6_code 63 = .ok (.aload_n 1, 1) := by decide +kernel
theorem d_Judge_hearVoice_64 : decode prog_3_method_6_code 64 = .ok (.aload_n 2, 1) := by decide +kernel
theorem d_Judge_hearVoice_65 : decode prog_3_method_6_code 65 = .ok (.iload 4, 2) := by decide +kernel
theorem d_Judge_hearVoice_67 : decode prog_3_method_6_code 67 = .ok (.invokestatic 46, 3) := by decide +kernel
theorem k_Judge_isWhole : mt_OK m_Judge_isWhole 3 0 := ⟨gwi_1087, gwi_140, ⟨by decide +kernel, by decide +kernel, by decide +kernel⟩, fun _ => gwi_1086, fun h => absurd h (by decide), fun h => absurd h (by decide)⟩
theorem l_Judge_46 : ml_OK "PlainMusic$Judge" 46 ⟨"PlainMusic$Judge", "isWhole", "(LPlainMusic$Score;LPlainMusic$Voice;I)Z"⟩ := Or.inl gwi_1085
theorem d_Judge_hearVoice_70 : decode prog_3_method_6_code 70 = .ok (.ifCond .ne 13, 3) := by decide +kernel
theorem d_Judge_hearVoice_83 : decode prog_3_method_6_code 83 = .ok (.iinc 4 1, 3) := by decide +kernel
theorem d_Judge_hearVoice_86 : decode prog_3_method_6_code 86 = .ok (.goto (-44), 3) := by decide +kernel
theorem d_Judge_hearVoice_73 : decode prog_3_method_6_code 73 = .ok (.aload_n 0, 1) := by decide +kernel
theorem d_Judge_hearVoice_74 : decode prog_3_method_6_code 74 = .ok (.iconst 1, 1) := by decide +kernel
theorem d_Judge_hearVoice_75 : decode prog_3_method_6_code 75 = .ok (.iload_n 3, 1) := by decide +kernel
theorem d_Judge_hearVoice_76 : decode prog_3_method_6_code 76 = .ok (.iload 5, 2) := by decide +kernel
theorem d_Judge_hearVoice_78 : decode prog_3_method_6_code 78 = .ok (.iload 4, 2) := by decide +kernel
theorem d_Judge_hearVoice_80 : decode prog_3_method_6_code 80 = .ok (.invokevirtual 50, 3) := by decide +kernel
theorem d_Judge_hearVoice_130 : decode prog_3_method_6_code 130 = .ok (.return_, 1) := by decide +kernel
def m_Judge_hear : mr_T := (⟨"PlainMusic$Judge", "hear", "(LPlainMusic$Score;)I"⟩, prog_3_method_3_code, 4, some .int)
theorem d_Judge_hear_0 : decode prog_3_method_3_code 0 = .ok (.aload_n 0, 1) := by decide +kernel
theorem d_Judge_hear_1 : decode prog_3_method_3_code 1 = .ok (.iconst 0, 1) := by decide +kernel
theorem d_Judge_hear_2 : decode prog_3_method_3_code 2 = .ok (.putfield 18, 3) := by decide +kernel
theorem d_Judge_hear_5 : decode prog_3_method_3_code 5 = .ok (.iconst 0, 1) := by decide +kernel
theorem d_Judge_hear_6 : decode prog_3_method_3_code 6 = .ok (.istore_n 2, 1) := by decide +kernel
theorem d_Judge_hear_7 : decode prog_3_method_3_code 7 = .ok (.iload_n 2, 1) := by decide +kernel
theorem d_Judge_hear_8 : decode prog_3_method_3_code 8 = .ok (.aload_n 1, 1) := by decide +kernel
theorem d_Judge_hear_9 : decode prog_3_method_3_code 9 = .ok (.getfield 22, 3) := by decide +kernel
theorem f_Judge_22 : fl_OK "PlainMusic$Judge" 22 6 1 .int false := ⟨_, rfl, by decide, gwi_352, rfl, rfl⟩
theorem d_Judge_hear_12 : decode prog_3_method_3_code 12 = .ok (.if_icmp .ge 26, 3) := by decide +kernel
theorem d_Judge_hear_38 : decode prog_3_method_3_code 38 = .ok (.aload_n 0, 1) := by decide +kernel
theorem d_Judge_hear_39 : decode prog_3_method_3_code 39 = .ok (.getfield 18, 3) := by decide +kernel
theorem d_Judge_hear_42 : decode prog_3_method_3_code 42 = .ok (.ireturn, 1) := by decide +kernel
theorem d_Judge_hear_15 : decode prog_3_method_3_code 15 = .ok (.aload_n 1, 1) := by decide +kernel
theorem d_Judge_hear_16 : decode prog_3_method_3_code 16 = .ok (.iload_n 2, 1) := by decide +kernel
theorem d_Judge_hear_17 : decode prog_3_method_3_code 17 = .ok (.invokevirtual 27, 3) := by decide +kernel
theorem d_Judge_hear_20 : decode prog_3_method_3_code 20 = .ok (.astore_n 3, 1) := by decide +kernel
theorem d_Judge_hear_21 : decode prog_3_method_3_code 21 = .ok (.aload_n 3, 1) := by decide +kernel
theorem d_Judge_hear_22 : decode prog_3_method_3_code 22 = .ok (.ifnull 10, 3) := by decide +kernel
theorem d_Judge_hear_32 : decode prog_3_method_3_code 32 = .ok (.iinc 2 1, 3) := by decide +kernel
theorem d_Judge_hear_35 : decode prog_3_method_3_code 35 = .ok (.goto (-28), 3) := by decide +kernel
theorem d_Judge_hear_25 : decode prog_3_method_3_code 25 = .ok (.aload_n 0, 1) := by decide +kernel
theorem d_Judge_hear_26 : decode prog_3_method_3_code 26 = .ok (.aload_n 1, 1) := by decide +kernel
theorem d_Judge_hear_27 : decode prog_3_method_3_code 27 = .ok (.aload_n 3, 1) := by decide +kernel
theorem d_Judge_hear_28 : decode prog_3_method_3_code 28 = .ok (.iload_n 2, 1) := by decide +kernel
theorem d_Judge_hear_29 : decode prog_3_method_3_code 29 = .ok (.invokevirtual 31, 3) := by decide +kernel
theorem k_Judge_hearVoice : mt_OK m_Judge_hearVoice 3 1 := ⟨gwi_1084, gwi_140, ⟨by decide +kernel, by decide +kernel, by decide +kernel⟩, fun h => absurd h (by decide), fun _ => ⟨gwi_1083, gwi_28⟩, fun h => absurd h (by decide)⟩
theorem l_Judge_31 : ml_OK "PlainMusic$Judge" 31 ⟨"PlainMusic$Judge", "hearVoice", "(LPlainMusic$Score;LPlainMusic$Voice;I)V"⟩ := Or.inl gwi_1081
theorem s_Judge_forget {G : cx_T} {s : Nat} {h : ah_T} (hx : xi s h)   : con G 0 0 0 m_Judge_forget [av_R (some 143)] h (fun r h' => r = none ∧ kF FC s h h') := by
  refine con_of (L := [some (av_R (some 143))]) (by decide +kernel) (Nat.le_of_ble_eq_true rfl) rfl ?_
  have hS : isS s := hx.2.1
  have hs0 : s = 17 ∨ s = 80 := hS
  have hs0b : 17 ≤ s ∧ s ≤ 80 := by omega
  have k0 : kF FC s h h := kF_0 hx
  refine A_aload_n 0 d_Judge_forget_0 rfl rfl ?_
  refine A_iconst d_Judge_forget_1 rfl ?_
  refine A_putIk (KR := kF FC s h) T_ok d_Judge_forget_2 f_Judge_18 (xi_s k0.1 sf_143) fin_f (kF_j k0 (by decide) (ns_b rfl) rgf_143_1 (by omega) (by omega)) (fun h1 k2 eh1 => ?_)
  exact A_vret d_Judge_forget_5 (by decide) rfl ⟨rfl, k2⟩
theorem s_Judge_add {G : cx_T} {s : Nat} {h : ah_T} (hx : xi s h) {a1 : Int} {a2 : Int} {a3 : Int} {a4 : Int}  : con G 0 0 0 m_Judge_add [av_R (some 143), av_I a1, av_I a2, av_I a3, av_I a4] h (fun r h' => r = none ∧ kF FC s h h') := by
  refine con_of (L := [some (av_R (some 143)), some (av_I a1), some (av_I a2), some (av_I a3), some (av_I a4)]) (by decide +kernel) (Nat.le_of_ble_eq_true rfl) rfl ?_
  have hS : isS s := hx.2.1
  have hs0 : s = 17 ∨ s = 80 := hS
  have hs0b : 17 ≤ s ∧ s ≤ 80 := by omega
  have k0 : kF FC s h h := kF_0 hx
  refine A_locI 1 rfl (fun ra => ?_)
  obtain ⟨_, _⟩ := ra
  refine A_locI 2 rfl (fun ra => ?_)
  obtain ⟨_, _⟩ := ra
  refine A_locI 3 rfl (fun ra => ?_)
  obtain ⟨_, _⟩ := ra
  refine A_locI 4 rfl (fun ra => ?_)
  obtain ⟨_, _⟩ := ra
  refine A_aload_n 0 d_Judge_add_0 rfl rfl ?_
  refine A_getIn (lo := 0) (hi := 6404) T_ok d_Judge_add_1 f_Judge_18 (xi_s k0.1 sf_143) (xi_g k0.1 (by decide) rgf_143_1) (fun x1 ex1 _ _ => ?_)
  refine A_aload_n 0 d_Judge_add_4 rfl rfl ?_
  refine A_getAv (z := some 144) T_ok d_Judge_add_5 f_Judge_11 (xi_s k0.1 sf_143) (xi_r k0.1 rff_143_0) ?_
  refine A_alenN d_Judge_add_8 (xi_s k0.1 sf_144) (by decide) (by decide) ?_
  refine A_pc (pc' := 9) rfl ?_
  refine A_icmp_ge (tgt := 46) d_Judge_add_9 (by decide) (fun c3 => ?_) (fun c3 => ?_)
  · exact A_vret d_Judge_add_46 (by decide) rfl ⟨rfl, k0⟩
  · refine A_aload_n 0 d_Judge_add_12 rfl rfl ?_
    refine A_getAv (z := some 144) T_ok d_Judge_add_13 f_Judge_11 (xi_s k0.1 sf_143) (xi_r k0.1 rff_143_0) ?_
    refine A_aload_n 0 d_Judge_add_16 rfl rfl ?_
    refine A_getIv (z := x1) T_ok d_Judge_add_17 f_Judge_18 (xi_s k0.1 sf_143) ex1.symm ?_
    refine A_iload_n 1 d_Judge_add_20 rfl rfl ?_
    refine A_pc (pc' := 21) rfl ?_
    refine A_iload_n 2 d_Judge_add_21 rfl rfl ?_
    refine A_iconst d_Judge_add_22 rfl ?_
    refine A_ishl d_Judge_add_23 ?_
    refine A_nrI (fun x6 ex6 _ _ => ?_)
    refine A_ior d_Judge_add_24 ?_
    refine A_nrI (fun x7 ex7 _ _ => ?_)
    refine A_iload_n 3 d_Judge_add_25 rfl rfl ?_
    refine A_iconst d_Judge_add_26 rfl ?_
    refine A_pc (pc' := 27) rfl ?_
    refine A_ishl d_Judge_add_27 ?_
    refine A_nrI (fun x8 ex8 _ _ => ?_)
    refine A_ior d_Judge_add_28 ?_
    refine A_nrI (fun x9 ex9 _ _ => ?_)
    refine A_iload d_Judge_add_29 rfl ?_
    refine A_bipush d_Judge_add_31 rfl ?_
    refine A_ishl d_Judge_add_33 ?_
    refine A_nrI (fun x10 ex10 _ _ => ?_)
    refine A_ior d_Judge_add_34 ?_
    refine A_nrI (fun x11 ex11 _ _ => ?_)
    refine A_pc (pc' := 35) rfl ?_
    refine A_iastorek (KR := kF FC s h) d_Judge_add_35 (xi_s k0.1 sf_144) (by omega) (by omega) (kF_j k0 (by decide) (ns_b rfl) (rgf_144 _) (by omega) (by omega)) (fun h12 k13 eh12 => ?_)
    refine A_aload_n 0 d_Judge_add_36 rfl rfl ?_
    refine A_dupR d_Judge_add_37 ?_
    refine A_getIv (z := x1) T_ok d_Judge_add_38 f_Judge_18 (xi_s k13.1 sf_143) ((eh12.1 _ _ (fun q => absurd q (by decide))).trans ex1.symm) ?_
    refine A_iconst d_Judge_add_41 rfl ?_
    refine A_iaddv (z := (x1 + 1)) d_Judge_add_42 (w32_to (by omega) (by unfold i32; omega)) ?_
    refine A_pc (pc' := 43) rfl ?_
    refine A_putIk (KR := kF FC s h) T_ok d_Judge_add_43 f_Judge_18 (xi_s k13.1 sf_143) fin_f (kF_j k13 (by decide) (ns_b rfl) rgf_143_1 (by omega) (by omega)) (fun h15 k16 eh15 => ?_)
    exact A_vret d_Judge_add_46 (by decide) rfl ⟨rfl, k16⟩
theorem s_Judge_detailOf {G : cx_T} {s : Nat} {h : ah_T} (hx : xi s h) {a1 : Int} {a2 : Int}  : con G 0 0 0 m_Judge_detailOf [av_R (some 143), av_I a1, av_I a2] h (fun r h' => ∃ z, r = some (av_I z) ∧ ((-2147483648) ≤ z ∧ z ≤ 2147483647) ∧ h = h') := by
  refine con_of (L := [some (av_R (some 143)), some (av_I a1), some (av_I a2), none]) (by decide +kernel) (Nat.le_of_ble_eq_true rfl) rfl ?_
  have hS : isS s := hx.2.1
  have hs0 : s = 17 ∨ s = 80 := hS
  have hs0b : 17 ≤ s ∧ s ≤ 80 := by omega
  refine A_locI 1 rfl (fun ra => ?_)
  obtain ⟨_, _⟩ := ra
  refine A_locI 2 rfl (fun ra => ?_)
  obtain ⟨_, _⟩ := ra
  refine A_iload_n 1 d_Judge_detailOf_0 rfl rfl ?_
  refine A_if_lt (tgt := 21) d_Judge_detailOf_1 (by decide) (fun c1 => ?_) (fun c1 => ?_)
  · refine A_iconst d_Judge_detailOf_21 rfl ?_
    exact A_iret d_Judge_detailOf_22 (by decide) rfl ⟨_, rfl, ⟨by omega, by omega⟩, rfl⟩
  · refine A_iload_n 1 d_Judge_detailOf_4 rfl rfl ?_
    refine A_aload_n 0 d_Judge_detailOf_5 rfl rfl ?_
    refine A_getIn (lo := 0) (hi := 6404) T_ok d_Judge_detailOf_6 f_Judge_18 (xi_s hx sf_143) (xi_g hx (by decide) rgf_143_1) (fun x2 ex2 _ _ => ?_)
    refine A_icmp_ge (tgt := 21) d_Judge_detailOf_9 (by decide) (fun c3 => ?_) (fun c3 => ?_)
    · refine A_iconst d_Judge_detailOf_21 rfl ?_
      exact A_iret d_Judge_detailOf_22 (by decide) rfl ⟨_, rfl, ⟨by omega, by omega⟩, rfl⟩
    · refine A_iload_n 1 d_Judge_detailOf_12 rfl rfl ?_
      refine A_aload_n 0 d_Judge_detailOf_13 rfl rfl ?_
      refine A_getAv (z := some 144) T_ok d_Judge_detailOf_14 f_Judge_11 (xi_s hx sf_143) (xi_r hx rff_143_0) ?_
      refine A_alenN d_Judge_detailOf_17 (xi_s hx sf_144) (by decide) (by decide) ?_
      refine A_icmp_lt (tgt := 23) d_Judge_detailOf_18 (by decide) (fun c5 => ?_) (fun c => False.elim (by omega))
      refine A_aload_n 0 d_Judge_detailOf_23 rfl rfl ?_
      refine A_getAv (z := some 144) T_ok d_Judge_detailOf_24 f_Judge_11 (xi_s hx sf_143) (xi_r hx rff_143_0) ?_
      refine A_iload_n 1 d_Judge_detailOf_27 rfl rfl ?_
      refine A_ialoadf d_Judge_detailOf_28 (xi_s hx sf_144) (by omega) (by omega) (fun x7 ex7 _ _ => ?_)
      refine A_istore_n 3 (L' := [some (av_R (some 143)), some (av_I a1), some (av_I a2), some (av_I x7)]) d_Judge_detailOf_29 rfl (Nat.le_of_ble_eq_true rfl) rfl ?_
      refine A_pc (pc' := 30) rfl ?_
      refine A_iload_n 2 d_Judge_detailOf_30 rfl rfl ?_
      rcases (by omega : a2 < 0 ∨ a2 = 0 ∨ a2 = 1 ∨ a2 = 2 ∨ a2 = 3 ∨ 3 < a2) with c8 | c8 | c8 | c8 | c8 | c8
      · refine A_tabOut (tgt := 84) d_Judge_detailOf_31 (by omega) (by decide) ?_
        refine A_iconst d_Judge_detailOf_84 rfl ?_
        exact A_iret d_Judge_detailOf_85 (by decide) rfl ⟨_, rfl, ⟨by omega, by omega⟩, rfl⟩
      · refine A_tabIn (tgt := 60) d_Judge_detailOf_31 (by omega) (by omega) (by rw [c8]; rfl) (by decide) ?_
        refine A_iload_n 3 d_Judge_detailOf_60 rfl rfl ?_
        refine A_bipush d_Judge_detailOf_61 rfl ?_
        refine A_iand d_Judge_detailOf_63 ?_
        refine A_nrI (fun x9 ex9 _ _ => ?_)
        have bx9 := and_r (m := 7) 3 ex9 (by decide) (by decide) (by decide)
        exact A_iret d_Judge_detailOf_64 (by decide) rfl ⟨_, rfl, ⟨by omega, by omega⟩, rfl⟩
      · refine A_tabIn (tgt := 65) d_Judge_detailOf_31 (by omega) (by omega) (by rw [c8]; rfl) (by decide) ?_
        refine A_iload_n 3 d_Judge_detailOf_65 rfl rfl ?_
        refine A_iconst d_Judge_detailOf_66 rfl ?_
        refine A_ishr d_Judge_detailOf_67 ?_
        refine A_nrI (fun x10 ex10 _ _ => ?_)
        refine A_iconst d_Judge_detailOf_68 rfl ?_
        refine A_iand d_Judge_detailOf_69 ?_
        refine A_nrI (fun x11 ex11 _ _ => ?_)
        have bx11 := and_r (m := 3) 2 ex11 (by decide) (by decide) (by decide)
        refine A_pc (pc' := 70) rfl ?_
        exact A_iret d_Judge_detailOf_70 (by decide) rfl ⟨_, rfl, ⟨by omega, by omega⟩, rfl⟩
      · refine A_tabIn (tgt := 71) d_Judge_detailOf_31 (by omega) (by omega) (by rw [c8]; rfl) (by decide) ?_
        refine A_iload_n 3 d_Judge_detailOf_71 rfl rfl ?_
        refine A_iconst d_Judge_detailOf_72 rfl ?_
        refine A_ishr d_Judge_detailOf_73 ?_
        refine A_nrI (fun x12 ex12 _ _ => ?_)
        refine A_sipush d_Judge_detailOf_74 rfl ?_
        refine A_iand d_Judge_detailOf_77 ?_
        refine A_nrI (fun x13 ex13 _ _ => ?_)
        have bx13 := and_r (m := 511) 9 ex13 (by decide) (by decide) (by decide)
        refine A_pc (pc' := 78) rfl ?_
        exact A_iret d_Judge_detailOf_78 (by decide) rfl ⟨_, rfl, ⟨by omega, by omega⟩, rfl⟩
      · refine A_tabIn (tgt := 79) d_Judge_detailOf_31 (by omega) (by omega) (by rw [c8]; rfl) (by decide) ?_
        refine A_iload_n 3 d_Judge_detailOf_79 rfl rfl ?_
        refine A_bipush d_Judge_detailOf_80 rfl ?_
        refine A_ishr d_Judge_detailOf_82 ?_
        refine A_nrI (fun x14 ex14 _ _ => ?_)
        exact A_iret d_Judge_detailOf_83 (by decide) rfl ⟨_, rfl, ⟨by omega, by omega⟩, rfl⟩
      · refine A_tabOut (tgt := 84) d_Judge_detailOf_31 (by omega) (by decide) ?_
        refine A_iconst d_Judge_detailOf_84 rfl ?_
        exact A_iret d_Judge_detailOf_85 (by decide) rfl ⟨_, rfl, ⟨by omega, by omega⟩, rfl⟩
theorem s_Judge_isWhole {G : cx_T} {s : Nat} {h : ah_T} (hx : xi s h) {a0 : Nat} {a1 : Nat} {a2 : Int} (ha0 : isS a0) (ha1 : isV a1) (la2 : 0 ≤ a2) (ua2 : a2 ≤ 100) : con G 2 0 0 m_Judge_isWhole [av_R (some a0), av_R (some a1), av_I a2] h (fun r h' => ∃ z, r = some (av_I z) ∧ (z = 0 ∨ z = 1) ∧ h = h') := by
  refine con_of (L := [some (av_R (some a0)), some (av_R (some a1)), some (av_I a2), none]) (by decide +kernel) (Nat.le_of_ble_eq_true rfl) rfl ?_
  have hS : isS s := hx.2.1
  have hs0 : s = 17 ∨ s = 80 := hS
  have hs0b : 17 ≤ s ∧ s ≤ 80 := by omega
  have ga1 := lt_V ha1
  refine A_aload_n 1 d_Judge_isWhole_0 rfl rfl ?_
  refine A_iload_n 2 d_Judge_isWhole_1 rfl rfl ?_
  refine A_aload_n 0 d_Judge_isWhole_2 rfl rfl ?_
  refine A_getIf T_ok d_Judge_isWhole_3 f_Judge_65 (xs_S hx ha0) (fun x1 ex1 _ _ => ?_)
  refine A_aload_n 0 d_Judge_isWhole_6 rfl rfl ?_
  refine A_pc (pc' := 7) rfl ?_
  refine A_getIf T_ok d_Judge_isWhole_7 f_Judge_68 (xs_S hx ha0) (fun x2 ex2 _ _ => ?_)
  refine A_callV3 m_Voice_compareBar T_ok d_Judge_isWhole_10 l_Judge_71 k_Voice_compareBar (xs_V hx ha1) rfl (by decide +kernel) (by decide) (Nat.le_of_ble_eq_true rfl) (s_Voice_compareBar hx ha1 (by omega) (by omega)) (fun r h3 hq => ?_)
  obtain ⟨x5, rfl, ⟨_, _⟩, rfl⟩ := hq
  refine A_istore_n 3 (L' := [some (av_R (some a0)), some (av_R (some a1)), some (av_I a2), some (av_I x5)]) d_Judge_isWhole_13 rfl (Nat.le_of_ble_eq_true rfl) rfl ?_
  refine A_iload_n 3 d_Judge_isWhole_14 rfl rfl ?_
  refine A_if_eq (tgt := 36) d_Judge_isWhole_15 (by decide) (fun c6 => ?_) (fun c6 => ?_)
  · refine A_iconst d_Judge_isWhole_36 rfl ?_
    refine A_goto (tgt := 41) d_Judge_isWhole_37 (by decide) ?_
    exact A_zret d_Judge_isWhole_41 (by decide) rfl (by omega) ⟨_, rfl, by omega, rfl⟩
  · refine A_iload_n 3 d_Judge_isWhole_18 rfl rfl ?_
    refine A_if_ge (tgt := 40) d_Judge_isWhole_19 (by decide) (fun c7 => ?_) (fun c7 => ?_)
    · refine A_iconst d_Judge_isWhole_40 rfl ?_
      exact A_zret d_Judge_isWhole_41 (by decide) rfl (by omega) ⟨_, rfl, by omega, rfl⟩
    · refine A_iload_n 2 d_Judge_isWhole_22 rfl rfl ?_
      refine A_if_eq (tgt := 36) d_Judge_isWhole_23 (by decide) (fun c8 => ?_) (fun c8 => ?_)
      · refine A_iconst d_Judge_isWhole_36 rfl ?_
        refine A_goto (tgt := 41) d_Judge_isWhole_37 (by decide) ?_
        exact A_zret d_Judge_isWhole_41 (by decide) rfl (by omega) ⟨_, rfl, by omega, rfl⟩
      · refine A_iload_n 2 d_Judge_isWhole_26 rfl rfl ?_
        refine A_aload_n 1 d_Judge_isWhole_27 rfl rfl ?_
        refine A_getIn (lo := 0) (hi := 101) T_ok d_Judge_isWhole_28 f_Judge_40 (xs_V hx ha1) (xi_g hx (lt1_V ha1) (rg_V_16 ha1)) (fun x9 ex9 _ _ => ?_)
        refine A_iconst d_Judge_isWhole_31 rfl ?_
        refine A_isubv (z := (x9 - 1)) d_Judge_isWhole_32 (w32_to (by omega) (by unfold i32; omega)) ?_
        refine A_pc (pc' := 33) rfl ?_
        refine A_icmp_ne (tgt := 40) d_Judge_isWhole_33 (by decide) (fun c10 => ?_) (fun c10 => ?_)
        · refine A_iconst d_Judge_isWhole_40 rfl ?_
          exact A_zret d_Judge_isWhole_41 (by decide) rfl (by omega) ⟨_, rfl, by omega, rfl⟩
        · refine A_iconst d_Judge_isWhole_36 rfl ?_
          refine A_goto (tgt := 41) d_Judge_isWhole_37 (by decide) ?_
          exact A_zret d_Judge_isWhole_41 (by decide) rfl (by omega) ⟨_, rfl, by omega, rfl⟩
theorem s_Judge_isHeld {G : cx_T} {s : Nat} {h : ah_T} (hx : xi s h) {a0 : Nat} {a1 : Int} (ha0 : isV a0) (la1 : 0 ≤ a1) (ua1 : a1 ≤ 299) : con G 2 0 0 m_Judge_isHeld [av_R (some a0), av_I a1] h (fun r h' => ∃ z, r = some (av_I z) ∧ (z = 0 ∨ z = 1) ∧ h = h') := by
  refine con_of (L := [some (av_R (some a0)), some (av_I a1), none]) (by decide +kernel) (Nat.le_of_ble_eq_true rfl) rfl ?_
  have hS : isS s := hx.2.1
  have hs0 : s = 17 ∨ s = 80 := hS
  have hs0b : 17 ≤ s ∧ s ≤ 80 := by omega
  have ga0 := lt_V ha0
  refine A_iload_n 1 d_Judge_isHeld_0 rfl rfl ?_
  refine A_iconst d_Judge_isHeld_1 rfl ?_
  refine A_iaddv (z := (a1 + 1)) d_Judge_isHeld_2 (w32_to (by omega) (by unfold i32; omega)) ?_
  refine A_aload_n 0 d_Judge_isHeld_3 rfl rfl ?_
  refine A_getIn (lo := 0) (hi := 300) T_ok d_Judge_isHeld_4 f_Judge_35 (xs_V hx ha0) (xi_g hx (lt1_V ha0) (rg_V_14 ha0)) (fun x1 ex1 _ _ => ?_)
  refine A_pc (pc' := 7) rfl ?_
  refine A_icmp_lt (tgt := 12) d_Judge_isHeld_7 (by decide) (fun c2 => ?_) (fun c2 => ?_)
  · refine A_iconst d_Judge_isHeld_12 rfl ?_
    refine A_istore_n 2 (L' := [some (av_R (some a0)), some (av_I a1), some (av_I 0)]) d_Judge_isHeld_13 rfl (Nat.le_of_ble_eq_true rfl) rfl ?_
    have lp14 : ∀ (n : Nat) (i3 : Int) , 0 ≤ i3 → i3 ≤ 300 → (301 - i3).toNat < n → aw G (rm_R 2 0 0) m_Judge_isHeld 0 0 14 [some (av_R (some a0)), some (av_I a1), some (av_I i3)] [] h (fun r h' => ∃ z, r = some (av_I z) ∧ (z = 0 ∨ z = 1) ∧ h = h') := by
      intro n
      induction n with
      | zero => intro i3 _ _ hm; omega
      | succ n ih14 =>
        intro i3 hl0 hl1 hm
        refine A_iload_n 2 d_Judge_isHeld_14 rfl rfl ?_
        refine A_aload_n 0 d_Judge_isHeld_15 rfl rfl ?_
        refine A_iload_n 1 d_Judge_isHeld_16 rfl rfl ?_
        refine A_callV1 m_Voice_pitchesOf T_ok d_Judge_isHeld_17 l_Judge_95 k_Voice_pitchesOf (xs_V hx ha0) rfl (by decide +kernel) (by decide) (Nat.le_of_ble_eq_true rfl) (s_Voice_pitchesOf hx ha0 (by omega) (by omega)) (fun r h4 hq => ?_)
        obtain ⟨x6, rfl, ⟨_, _⟩, rfl⟩ := hq
        refine A_icmp_ge (tgt := 47) d_Judge_isHeld_20 (by decide) (fun c7 => ?_) (fun c7 => ?_)
        · refine A_iconst d_Judge_isHeld_47 rfl ?_
          exact A_zret d_Judge_isHeld_48 (by decide) rfl (by omega) ⟨_, rfl, by omega, rfl⟩
        · refine A_aload_n 0 d_Judge_isHeld_23 rfl rfl ?_
          refine A_iload_n 1 d_Judge_isHeld_24 rfl rfl ?_
          refine A_iconst d_Judge_isHeld_25 rfl ?_
          refine A_iaddv (z := (a1 + 1)) d_Judge_isHeld_26 (w32_to (by omega) (by unfold i32; omega)) ?_
          refine A_aload_n 0 d_Judge_isHeld_27 rfl rfl ?_
          refine A_pc (pc' := 28) rfl ?_
          refine A_iload_n 1 d_Judge_isHeld_28 rfl rfl ?_
          refine A_iload_n 2 d_Judge_isHeld_29 rfl rfl ?_
          refine A_callV2 m_Voice_keyOf T_ok d_Judge_isHeld_30 l_Judge_98 k_Voice_keyOf (xs_V hx ha0) rfl (by decide +kernel) (by decide) (Nat.le_of_ble_eq_true rfl) (s_Voice_keyOf hx ha0 (by omega) (by omega)) (fun r h8 hq => ?_)
          obtain ⟨x10, rfl, ⟨_, _⟩, rfl⟩ := hq
          refine A_callV2 m_Voice_hasKey T_ok d_Judge_isHeld_33 l_Judge_102 k_Voice_hasKey (xs_V hx ha0) rfl (by decide +kernel) (by decide) (Nat.le_of_ble_eq_true rfl) (s_Voice_hasKey hx ha0 (by omega) (by omega)) (fun r h11 hq => ?_)
          obtain ⟨x13, rfl, bx13, rfl⟩ := hq
          refine A_if_ne (tgt := 41) d_Judge_isHeld_36 (by decide) (fun c14 => ?_) (fun c14 => ?_)
          · refine A_iincv (z := (i3 + 1)) (L' := [some (av_R (some a0)), some (av_I a1), some (av_I (i3 + 1))]) d_Judge_isHeld_41 rfl (w32_to (by omega) (by unfold i32; omega)) rfl ?_
            refine A_goto (tgt := 14) d_Judge_isHeld_44 (by decide) ?_
            exact ih14 (i3 + 1) (by omega) (by omega) (by omega)
          · refine A_iconst d_Judge_isHeld_39 rfl ?_
            exact A_zret d_Judge_isHeld_40 (by decide) rfl (by omega) ⟨_, rfl, by omega, rfl⟩
    exact lp14 _ 0 (by omega) (by omega) (Nat.lt_succ_self _)
  · refine A_iconst d_Judge_isHeld_10 rfl ?_
    exact A_zret d_Judge_isHeld_11 (by decide) rfl (by omega) ⟨_, rfl, by omega, rfl⟩
theorem s_Judge_hearAlone {G : cx_T} {s : Nat} {h : ah_T} (hx : xi s h) {a1 : Nat} {a2 : Int} {a3 : Int} (ha1 : isV a1) (la3 : 0 ≤ a3) (ua3 : a3 ≤ 299) : con G 3 0 0 m_Judge_hearAlone [av_R (some 143), av_R (some a1), av_I a2, av_I a3] h (fun r h' => r = none ∧ kF FC s h h') := by
  refine con_of (L := [some (av_R (some 143)), some (av_R (some a1)), some (av_I a2), some (av_I a3)]) (by decide +kernel) (Nat.le_of_ble_eq_true rfl) rfl ?_
  have hS : isS s := hx.2.1
  have hs0 : s = 17 ∨ s = 80 := hS
  have hs0b : 17 ≤ s ∧ s ≤ 80 := by omega
  have k0 : kF FC s h h := kF_0 hx
  have ga1 := lt_V ha1
  refine A_locI 2 rfl (fun ra => ?_)
  obtain ⟨_, _⟩ := ra
  refine A_aload_n 1 d_Judge_hearAlone_0 rfl rfl ?_
  refine A_iload_n 3 d_Judge_hearAlone_1 rfl rfl ?_
  refine A_callV1 m_Voice_isTied T_ok d_Judge_hearAlone_2 l_Judge_75 k_Voice_isTied (xs_V k0.1 ha1) rfl (by decide +kernel) (by decide) (Nat.le_of_ble_eq_true rfl) (s_Voice_isTied k0.1 ha1 (by omega) (by omega)) (fun r h1 hq => ?_)
  obtain ⟨x3, rfl, bx3, rfl⟩ := hq
  refine A_if_eq (tgt := 24) d_Judge_hearAlone_5 (by decide) (fun c4 => ?_) (fun c4 => ?_)
  · refine A_iload_n 3 d_Judge_hearAlone_24 rfl rfl ?_
    refine A_if_le (tgt := 75) d_Judge_hearAlone_25 (by decide) (fun c5 => ?_) (fun c5 => ?_)
    · exact A_vret d_Judge_hearAlone_75 (by decide) rfl ⟨rfl, k0⟩
    · refine A_aload_n 1 d_Judge_hearAlone_28 rfl rfl ?_
      refine A_iload_n 3 d_Judge_hearAlone_29 rfl rfl ?_
      refine A_callV1 m_Voice_isRest T_ok d_Judge_hearAlone_30 l_Judge_83 k_Voice_isRest (xs_V k0.1 ha1) rfl (by decide +kernel) (by decide) (Nat.le_of_ble_eq_true rfl) (s_Voice_isRest k0.1 ha1 (by omega) (by omega)) (fun r h6 hq => ?_)
      obtain ⟨x8, rfl, bx8, rfl⟩ := hq
      refine A_if_ne (tgt := 75) d_Judge_hearAlone_33 (by decide) (fun c9 => ?_) (fun c9 => ?_)
      · exact A_vret d_Judge_hearAlone_75 (by decide) rfl ⟨rfl, k0⟩
      · refine A_aload_n 1 d_Judge_hearAlone_36 rfl rfl ?_
        refine A_iload_n 3 d_Judge_hearAlone_37 rfl rfl ?_
        refine A_iconst d_Judge_hearAlone_38 rfl ?_
        refine A_isubv (z := (a3 - 1)) d_Judge_hearAlone_39 (w32_to (by omega) (by unfold i32; omega)) ?_
        refine A_callV1 m_Voice_isRest T_ok d_Judge_hearAlone_40 l_Judge_83 k_Voice_isRest (xs_V k0.1 ha1) rfl (by decide +kernel) (by decide) (Nat.le_of_ble_eq_true rfl) (s_Voice_isRest k0.1 ha1 (by omega) (by omega)) (fun r h10 hq => ?_)
        obtain ⟨x12, rfl, bx12, rfl⟩ := hq
        refine A_if_ne (tgt := 75) d_Judge_hearAlone_43 (by decide) (fun c13 => ?_) (fun c13 => ?_)
        · exact A_vret d_Judge_hearAlone_75 (by decide) rfl ⟨rfl, k0⟩
        · refine A_aload_n 1 d_Judge_hearAlone_46 rfl rfl ?_
          refine A_iload_n 3 d_Judge_hearAlone_47 rfl rfl ?_
          refine A_callV1 m_Voice_lowestKey T_ok d_Judge_hearAlone_48 l_Judge_86 k_Voice_lowestKey (xs_V k0.1 ha1) rfl (by decide +kernel) (by decide) (Nat.le_of_ble_eq_true rfl) (s_Voice_lowestKey k0.1 ha1 (by omega) (by omega)) (fun r h14 hq => ?_)
          obtain ⟨x16, rfl, ⟨_, _⟩, rfl⟩ := hq
          refine A_aload_n 1 d_Judge_hearAlone_51 rfl rfl ?_
          refine A_iload_n 3 d_Judge_hearAlone_52 rfl rfl ?_
          refine A_iconst d_Judge_hearAlone_53 rfl ?_
          refine A_isubv (z := (a3 - 1)) d_Judge_hearAlone_54 (w32_to (by omega) (by unfold i32; omega)) ?_
          refine A_callV1 m_Voice_lowestKey T_ok d_Judge_hearAlone_55 l_Judge_86 k_Voice_lowestKey (xs_V k0.1 ha1) rfl (by decide +kernel) (by decide) (Nat.le_of_ble_eq_true rfl) (s_Voice_lowestKey k0.1 ha1 (by omega) (by omega)) (fun r h17 hq => ?_)
          obtain ⟨x19, rfl, ⟨_, _⟩, rfl⟩ := hq
          refine A_isubw d_Judge_hearAlone_58 (fun x20 _ _ _ => ?_)
          refine A_mabs d_Judge_hearAlone_59 lm_Judge_90 ma_abs (by decide) (by decide) (Nat.le_of_ble_eq_true rfl) rfl ?_
          refine A_nrI (fun x21 ex21 _ _ => ?_)
          refine A_bipush d_Judge_hearAlone_62 rfl ?_
          refine A_icmp_le (tgt := 75) d_Judge_hearAlone_64 (by decide) (fun c22 => ?_) (fun c22 => ?_)
          · exact A_vret d_Judge_hearAlone_75 (by decide) rfl ⟨rfl, k0⟩
          · refine A_aload_n 0 d_Judge_hearAlone_67 rfl rfl ?_
            refine A_iconst d_Judge_hearAlone_68 rfl ?_
            refine A_iload_n 2 d_Judge_hearAlone_69 rfl rfl ?_
            refine A_iload_n 3 d_Judge_hearAlone_70 rfl rfl ?_
            refine A_iconst d_Judge_hearAlone_71 rfl ?_
            refine A_pc (pc' := 72) rfl ?_
            refine A_callV4 m_Judge_add T_ok d_Judge_hearAlone_72 l_Judge_50 k_Judge_add (xi_s k0.1 sf_143) rfl (by decide +kernel) (by decide) (Nat.le_of_ble_eq_true rfl) (s_Judge_add k0.1 ) (fun r h23 hq => ?_)
            obtain ⟨rfl, k24⟩ := hq
            have k25 := kF_t k0 k24 (fun _ q => q)
            exact A_vret d_Judge_hearAlone_75 (by decide) rfl ⟨rfl, k25⟩
  · refine A_aload_n 1 d_Judge_hearAlone_8 rfl rfl ?_
    refine A_iload_n 3 d_Judge_hearAlone_9 rfl rfl ?_
    refine A_callS2 m_Judge_isHeld d_Judge_hearAlone_10 l_Judge_79 k_Judge_isHeld (by decide +kernel) (by decide) (Nat.le_of_ble_eq_true rfl) (s_Judge_isHeld k0.1 ha1 (by omega) (by omega)) (fun r h26 hq => ?_)
    obtain ⟨x28, rfl, bx28, rfl⟩ := hq
    refine A_if_ne (tgt := 24) d_Judge_hearAlone_13 (by decide) (fun c29 => ?_) (fun c29 => ?_)
    · refine A_iload_n 3 d_Judge_hearAlone_24 rfl rfl ?_
      refine A_if_le (tgt := 75) d_Judge_hearAlone_25 (by decide) (fun c30 => ?_) (fun c30 => ?_)
      · exact A_vret d_Judge_hearAlone_75 (by decide) rfl ⟨rfl, k0⟩
      · refine A_aload_n 1 d_Judge_hearAlone_28 rfl rfl ?_
        refine A_iload_n 3 d_Judge_hearAlone_29 rfl rfl ?_
        refine A_callV1 m_Voice_isRest T_ok d_Judge_hearAlone_30 l_Judge_83 k_Voice_isRest (xs_V k0.1 ha1) rfl (by decide +kernel) (by decide) (Nat.le_of_ble_eq_true rfl) (s_Voice_isRest k0.1 ha1 (by omega) (by omega)) (fun r h31 hq => ?_)
        obtain ⟨x33, rfl, bx33, rfl⟩ := hq
        refine A_if_ne (tgt := 75) d_Judge_hearAlone_33 (by decide) (fun c34 => ?_) (fun c34 => ?_)
        · exact A_vret d_Judge_hearAlone_75 (by decide) rfl ⟨rfl, k0⟩
        · refine A_aload_n 1 d_Judge_hearAlone_36 rfl rfl ?_
          refine A_iload_n 3 d_Judge_hearAlone_37 rfl rfl ?_
          refine A_iconst d_Judge_hearAlone_38 rfl ?_
          refine A_isubv (z := (a3 - 1)) d_Judge_hearAlone_39 (w32_to (by omega) (by unfold i32; omega)) ?_
          refine A_callV1 m_Voice_isRest T_ok d_Judge_hearAlone_40 l_Judge_83 k_Voice_isRest (xs_V k0.1 ha1) rfl (by decide +kernel) (by decide) (Nat.le_of_ble_eq_true rfl) (s_Voice_isRest k0.1 ha1 (by omega) (by omega)) (fun r h35 hq => ?_)
          obtain ⟨x37, rfl, bx37, rfl⟩ := hq
          refine A_if_ne (tgt := 75) d_Judge_hearAlone_43 (by decide) (fun c38 => ?_) (fun c38 => ?_)
          · exact A_vret d_Judge_hearAlone_75 (by decide) rfl ⟨rfl, k0⟩
          · refine A_aload_n 1 d_Judge_hearAlone_46 rfl rfl ?_
            refine A_iload_n 3 d_Judge_hearAlone_47 rfl rfl ?_
            refine A_callV1 m_Voice_lowestKey T_ok d_Judge_hearAlone_48 l_Judge_86 k_Voice_lowestKey (xs_V k0.1 ha1) rfl (by decide +kernel) (by decide) (Nat.le_of_ble_eq_true rfl) (s_Voice_lowestKey k0.1 ha1 (by omega) (by omega)) (fun r h39 hq => ?_)
            obtain ⟨x41, rfl, ⟨_, _⟩, rfl⟩ := hq
            refine A_aload_n 1 d_Judge_hearAlone_51 rfl rfl ?_
            refine A_iload_n 3 d_Judge_hearAlone_52 rfl rfl ?_
            refine A_iconst d_Judge_hearAlone_53 rfl ?_
            refine A_isubv (z := (a3 - 1)) d_Judge_hearAlone_54 (w32_to (by omega) (by unfold i32; omega)) ?_
            refine A_callV1 m_Voice_lowestKey T_ok d_Judge_hearAlone_55 l_Judge_86 k_Voice_lowestKey (xs_V k0.1 ha1) rfl (by decide +kernel) (by decide) (Nat.le_of_ble_eq_true rfl) (s_Voice_lowestKey k0.1 ha1 (by omega) (by omega)) (fun r h42 hq => ?_)
            obtain ⟨x44, rfl, ⟨_, _⟩, rfl⟩ := hq
            refine A_isubw d_Judge_hearAlone_58 (fun x45 _ _ _ => ?_)
            refine A_mabs d_Judge_hearAlone_59 lm_Judge_90 ma_abs (by decide) (by decide) (Nat.le_of_ble_eq_true rfl) rfl ?_
            refine A_nrI (fun x46 ex46 _ _ => ?_)
            refine A_bipush d_Judge_hearAlone_62 rfl ?_
            refine A_icmp_le (tgt := 75) d_Judge_hearAlone_64 (by decide) (fun c47 => ?_) (fun c47 => ?_)
            · exact A_vret d_Judge_hearAlone_75 (by decide) rfl ⟨rfl, k0⟩
            · refine A_aload_n 0 d_Judge_hearAlone_67 rfl rfl ?_
              refine A_iconst d_Judge_hearAlone_68 rfl ?_
              refine A_iload_n 2 d_Judge_hearAlone_69 rfl rfl ?_
              refine A_iload_n 3 d_Judge_hearAlone_70 rfl rfl ?_
              refine A_iconst d_Judge_hearAlone_71 rfl ?_
              refine A_pc (pc' := 72) rfl ?_
              refine A_callV4 m_Judge_add T_ok d_Judge_hearAlone_72 l_Judge_50 k_Judge_add (xi_s k0.1 sf_143) rfl (by decide +kernel) (by decide) (Nat.le_of_ble_eq_true rfl) (s_Judge_add k0.1 ) (fun r h48 hq => ?_)
              obtain ⟨rfl, k49⟩ := hq
              have k50 := kF_t k0 k49 (fun _ q => q)
              exact A_vret d_Judge_hearAlone_75 (by decide) rfl ⟨rfl, k50⟩
    · refine A_aload_n 0 d_Judge_hearAlone_16 rfl rfl ?_
      refine A_iconst d_Judge_hearAlone_17 rfl ?_
      refine A_iload_n 2 d_Judge_hearAlone_18 rfl rfl ?_
      refine A_iload_n 3 d_Judge_hearAlone_19 rfl rfl ?_
      refine A_iconst d_Judge_hearAlone_20 rfl ?_
      refine A_pc (pc' := 21) rfl ?_
      refine A_callV4 m_Judge_add T_ok d_Judge_hearAlone_21 l_Judge_50 k_Judge_add (xi_s k0.1 sf_143) rfl (by decide +kernel) (by decide) (Nat.le_of_ble_eq_true rfl) (s_Judge_add k0.1 ) (fun r h51 hq => ?_)
      obtain ⟨rfl, k52⟩ := hq
      have k53 := kF_t k0 k52 (fun _ q => q)
      refine A_iload_n 3 d_Judge_hearAlone_24 rfl rfl ?_
      refine A_if_le (tgt := 75) d_Judge_hearAlone_25 (by decide) (fun c54 => ?_) (fun c54 => ?_)
      · exact A_vret d_Judge_hearAlone_75 (by decide) rfl ⟨rfl, k53⟩
      · refine A_aload_n 1 d_Judge_hearAlone_28 rfl rfl ?_
        refine A_iload_n 3 d_Judge_hearAlone_29 rfl rfl ?_
        refine A_callV1 m_Voice_isRest T_ok d_Judge_hearAlone_30 l_Judge_83 k_Voice_isRest (xs_V k53.1 ha1) rfl (by decide +kernel) (by decide) (Nat.le_of_ble_eq_true rfl) (s_Voice_isRest k53.1 ha1 (by omega) (by omega)) (fun r h55 hq => ?_)
        obtain ⟨x57, rfl, bx57, rfl⟩ := hq
        refine A_if_ne (tgt := 75) d_Judge_hearAlone_33 (by decide) (fun c58 => ?_) (fun c58 => ?_)
        · exact A_vret d_Judge_hearAlone_75 (by decide) rfl ⟨rfl, k53⟩
        · refine A_aload_n 1 d_Judge_hearAlone_36 rfl rfl ?_
          refine A_iload_n 3 d_Judge_hearAlone_37 rfl rfl ?_
          refine A_iconst d_Judge_hearAlone_38 rfl ?_
          refine A_isubv (z := (a3 - 1)) d_Judge_hearAlone_39 (w32_to (by omega) (by unfold i32; omega)) ?_
          refine A_callV1 m_Voice_isRest T_ok d_Judge_hearAlone_40 l_Judge_83 k_Voice_isRest (xs_V k53.1 ha1) rfl (by decide +kernel) (by decide) (Nat.le_of_ble_eq_true rfl) (s_Voice_isRest k53.1 ha1 (by omega) (by omega)) (fun r h59 hq => ?_)
          obtain ⟨x61, rfl, bx61, rfl⟩ := hq
          refine A_if_ne (tgt := 75) d_Judge_hearAlone_43 (by decide) (fun c62 => ?_) (fun c62 => ?_)
          · exact A_vret d_Judge_hearAlone_75 (by decide) rfl ⟨rfl, k53⟩
          · refine A_aload_n 1 d_Judge_hearAlone_46 rfl rfl ?_
            refine A_iload_n 3 d_Judge_hearAlone_47 rfl rfl ?_
            refine A_callV1 m_Voice_lowestKey T_ok d_Judge_hearAlone_48 l_Judge_86 k_Voice_lowestKey (xs_V k53.1 ha1) rfl (by decide +kernel) (by decide) (Nat.le_of_ble_eq_true rfl) (s_Voice_lowestKey k53.1 ha1 (by omega) (by omega)) (fun r h63 hq => ?_)
            obtain ⟨x65, rfl, ⟨_, _⟩, rfl⟩ := hq
            refine A_aload_n 1 d_Judge_hearAlone_51 rfl rfl ?_
            refine A_iload_n 3 d_Judge_hearAlone_52 rfl rfl ?_
            refine A_iconst d_Judge_hearAlone_53 rfl ?_
            refine A_isubv (z := (a3 - 1)) d_Judge_hearAlone_54 (w32_to (by omega) (by unfold i32; omega)) ?_
            refine A_callV1 m_Voice_lowestKey T_ok d_Judge_hearAlone_55 l_Judge_86 k_Voice_lowestKey (xs_V k53.1 ha1) rfl (by decide +kernel) (by decide) (Nat.le_of_ble_eq_true rfl) (s_Voice_lowestKey k53.1 ha1 (by omega) (by omega)) (fun r h66 hq => ?_)
            obtain ⟨x68, rfl, ⟨_, _⟩, rfl⟩ := hq
            refine A_isubw d_Judge_hearAlone_58 (fun x69 _ _ _ => ?_)
            refine A_mabs d_Judge_hearAlone_59 lm_Judge_90 ma_abs (by decide) (by decide) (Nat.le_of_ble_eq_true rfl) rfl ?_
            refine A_nrI (fun x70 ex70 _ _ => ?_)
            refine A_bipush d_Judge_hearAlone_62 rfl ?_
            refine A_icmp_le (tgt := 75) d_Judge_hearAlone_64 (by decide) (fun c71 => ?_) (fun c71 => ?_)
            · exact A_vret d_Judge_hearAlone_75 (by decide) rfl ⟨rfl, k53⟩
            · refine A_aload_n 0 d_Judge_hearAlone_67 rfl rfl ?_
              refine A_iconst d_Judge_hearAlone_68 rfl ?_
              refine A_iload_n 2 d_Judge_hearAlone_69 rfl rfl ?_
              refine A_iload_n 3 d_Judge_hearAlone_70 rfl rfl ?_
              refine A_iconst d_Judge_hearAlone_71 rfl ?_
              refine A_pc (pc' := 72) rfl ?_
              refine A_callV4 m_Judge_add T_ok d_Judge_hearAlone_72 l_Judge_50 k_Judge_add (xi_s k53.1 sf_143) rfl (by decide +kernel) (by decide) (Nat.le_of_ble_eq_true rfl) (s_Judge_add k53.1 ) (fun r h72 hq => ?_)
              obtain ⟨rfl, k73⟩ := hq
              have k74 := kF_t k53 k73 (fun _ q => q)
              exact A_vret d_Judge_hearAlone_75 (by decide) rfl ⟨rfl, k74⟩
theorem s_Judge_compareStarts {G : cx_T} {s : Nat} {h : ah_T} (hx : xi s h) {a0 : Nat} {a1 : Int} {a2 : Nat} {a3 : Int} (ha0 : isV a0) (la1 : 0 ≤ a1) (ua1 : a1 ≤ 300) (ha2 : isV a2) (la3 : 0 ≤ a3) (ua3 : a3 ≤ 300) : con G 1 0 0 m_Judge_compareStarts [av_R (some a0), av_I a1, av_R (some a2), av_I a3] h (fun r h' => ∃ z, r = some (av_I z) ∧ ((-1) ≤ z ∧ z ≤ 1) ∧ h = h') := by
  refine con_of (L := [some (av_R (some a0)), some (av_I a1), some (av_R (some a2)), some (av_I a3)]) (by decide +kernel) (Nat.le_of_ble_eq_true rfl) rfl ?_
  have hS : isS s := hx.2.1
  have hs0 : s = 17 ∨ s = 80 := hS
  have hs0b : 17 ≤ s ∧ s ≤ 80 := by omega
  have ga0 := lt_V ha0
  have ga2 := lt_V ha2
  refine A_aload_n 0 d_Judge_compareStarts_0 rfl rfl ?_
  refine A_getAv (z := some (a0 + 9)) T_ok d_Judge_compareStarts_1 f_Judge_120 (xs_V hx ha0) (xr_V_10 hx ha0) ?_
  refine A_iload_n 1 d_Judge_compareStarts_4 rfl rfl ?_
  refine A_laloadf d_Judge_compareStarts_5 (xs_V_10 hx ha0) (by omega) (by omega) (fun x2 ex2 _ _ => ?_)
  refine A_aload_n 2 d_Judge_compareStarts_6 rfl rfl ?_
  refine A_pc (pc' := 7) rfl ?_
  refine A_getAv (z := some (a2 + 10)) T_ok d_Judge_compareStarts_7 f_Judge_124 (xs_V hx ha2) (xr_V_11 hx ha2) ?_
  refine A_iload_n 3 d_Judge_compareStarts_10 rfl rfl ?_
  refine A_laloadf d_Judge_compareStarts_11 (xs_V_11 hx ha2) (by omega) (by omega) (fun x4 ex4 _ _ => ?_)
  refine A_lmulw d_Judge_compareStarts_12 (fun x5 _ _ _ => ?_)
  refine A_aload_n 2 d_Judge_compareStarts_13 rfl rfl ?_
  refine A_getAv (z := some (a2 + 9)) T_ok d_Judge_compareStarts_14 f_Judge_120 (xs_V hx ha2) (xr_V_10 hx ha2) ?_
  refine A_pc (pc' := 17) rfl ?_
  refine A_iload_n 3 d_Judge_compareStarts_17 rfl rfl ?_
  refine A_laloadf d_Judge_compareStarts_18 (xs_V_10 hx ha2) (by omega) (by omega) (fun x7 ex7 _ _ => ?_)
  refine A_aload_n 0 d_Judge_compareStarts_19 rfl rfl ?_
  refine A_getAv (z := some (a0 + 10)) T_ok d_Judge_compareStarts_20 f_Judge_124 (xs_V hx ha0) (xr_V_11 hx ha0) ?_
  refine A_iload_n 1 d_Judge_compareStarts_23 rfl rfl ?_
  refine A_laloadf d_Judge_compareStarts_24 (xs_V_11 hx ha0) (by omega) (by omega) (fun x9 ex9 _ _ => ?_)
  refine A_pc (pc' := 25) rfl ?_
  refine A_lmulw d_Judge_compareStarts_25 (fun x10 _ _ _ => ?_)
  refine A_callS2 m_JLong_compare d_Judge_compareStarts_26 l_Judge_127 k_JLong_compare (by decide +kernel) (by decide) (Nat.le_of_ble_eq_true rfl) (s_JLong_compare  ) (fun r h11 hq => ?_)
  obtain ⟨x13, rfl, ⟨_, _⟩, xx13, rfl⟩ := hq
  exact A_iret d_Judge_compareStarts_29 (by decide) rfl ⟨_, rfl, ⟨by omega, by omega⟩, rfl⟩
theorem s_Judge_firstNotEnded {G : cx_T} {s : Nat} {h : ah_T} (hx : xi s h) {a0 : Nat} {a1 : Int} {a2 : Nat} {a3 : Int} (ha0 : isV a0) (la1 : 0 ≤ a1) (ua1 : a1 ≤ 300) (ha2 : isV a2) (la3 : 0 ≤ a3) (ua3 : a3 ≤ 299) : con G 2 0 0 m_Judge_firstNotEnded [av_R (some a0), av_I a1, av_R (some a2), av_I a3] h (fun r h' => ∃ z, r = some (av_I z) ∧ (0 ≤ z ∧ z ≤ 300) ∧ h = h') := by
  refine con_of (L := [some (av_R (some a0)), some (av_I a1), some (av_R (some a2)), some (av_I a3), none]) (by decide +kernel) (Nat.le_of_ble_eq_true rfl) rfl ?_
  have hS : isS s := hx.2.1
  have hs0 : s = 17 ∨ s = 80 := hS
  have hs0b : 17 ≤ s ∧ s ≤ 80 := by omega
  have ga0 := lt_V ha0
  have ga2 := lt_V ha2
  refine A_iload_n 1 d_Judge_firstNotEnded_0 rfl rfl ?_
  refine A_istore (L' := [some (av_R (some a0)), some (av_I a1), some (av_R (some a2)), some (av_I a3), some (av_I a1)]) d_Judge_firstNotEnded_1 (Nat.le_of_ble_eq_true rfl) rfl ?_
  have lp3 : ∀ (n : Nat) (i1 : Int) , 0 ≤ i1 → i1 ≤ 300 → (301 - i1).toNat < n → aw G (rm_R 2 0 0) m_Judge_firstNotEnded 0 0 3 [some (av_R (some a0)), some (av_I a1), some (av_R (some a2)), some (av_I a3), some (av_I i1)] [] h (fun r h' => ∃ z, r = some (av_I z) ∧ (0 ≤ z ∧ z ≤ 300) ∧ h = h') := by
    intro n
    induction n with
    | zero => intro i1 _ _ hm; omega
    | succ n ih3 =>
      intro i1 hl0 hl1 hm
      refine A_iload d_Judge_firstNotEnded_3 rfl ?_
      refine A_aload_n 0 d_Judge_firstNotEnded_5 rfl rfl ?_
      refine A_getIn (lo := 0) (hi := 300) T_ok d_Judge_firstNotEnded_6 f_Judge_35 (xs_V hx ha0) (xi_g hx (lt1_V ha0) (rg_V_14 ha0)) (fun x2 ex2 _ _ => ?_)
      refine A_icmp_ge (tgt := 31) d_Judge_firstNotEnded_9 (by decide) (fun c3 => ?_) (fun c3 => ?_)
      · refine A_iload d_Judge_firstNotEnded_31 rfl ?_
        exact A_iret d_Judge_firstNotEnded_33 (by decide) rfl ⟨_, rfl, ⟨by omega, by omega⟩, rfl⟩
      · refine A_aload_n 0 d_Judge_firstNotEnded_12 rfl rfl ?_
        refine A_iload d_Judge_firstNotEnded_13 rfl ?_
        refine A_iconst d_Judge_firstNotEnded_15 rfl ?_
        refine A_iaddv (z := (i1 + 1)) d_Judge_firstNotEnded_16 (w32_to (by omega) (by unfold i32; omega)) ?_
        refine A_aload_n 2 d_Judge_firstNotEnded_17 rfl rfl ?_
        refine A_pc (pc' := 18) rfl ?_
        refine A_iload_n 3 d_Judge_firstNotEnded_18 rfl rfl ?_
        refine A_callS4 m_Judge_compareStarts d_Judge_firstNotEnded_19 l_Judge_114 k_Judge_compareStarts (by decide +kernel) (by decide) (Nat.le_of_ble_eq_true rfl) (s_Judge_compareStarts hx ha0 (by omega) (by omega) ha2 (by omega) (by omega)) (fun r h4 hq => ?_)
        obtain ⟨x6, rfl, ⟨_, _⟩, rfl⟩ := hq
        refine A_if_gt (tgt := 31) d_Judge_firstNotEnded_22 (by decide) (fun c7 => ?_) (fun c7 => ?_)
        · refine A_iload d_Judge_firstNotEnded_31 rfl ?_
          exact A_iret d_Judge_firstNotEnded_33 (by decide) rfl ⟨_, rfl, ⟨by omega, by omega⟩, rfl⟩
        · refine A_iincv (z := (i1 + 1)) (L' := [some (av_R (some a0)), some (av_I a1), some (av_R (some a2)), some (av_I a3), some (av_I (i1 + 1))]) d_Judge_firstNotEnded_25 rfl (w32_to (by omega) (by unfold i32; omega)) rfl ?_
          refine A_goto (tgt := 3) d_Judge_firstNotEnded_28 (by decide) ?_
          exact ih3 (i1 + 1) (by omega) (by omega) (by omega)
  exact lp3 _ a1 (by omega) (by omega) (Nat.lt_succ_self _)
theorem s_Judge_isCrossed {G : cx_T} {s : Nat} {h : ah_T} (hx : xi s h) {a0 : Nat} {a1 : Int} {a2 : Nat} {a3 : Int} (ha0 : isV a0) (la1 : 0 ≤ a1) (ua1 : a1 ≤ 300) (ha2 : isV a2) (la3 : 0 ≤ a3) (ua3 : a3 ≤ 299) : con G 2 0 0 m_Judge_isCrossed [av_R (some a0), av_I a1, av_R (some a2), av_I a3] h (fun r h' => ∃ z, r = some (av_I z) ∧ (z = 0 ∨ z = 1) ∧ h = h') := by
  refine con_of (L := [some (av_R (some a0)), some (av_I a1), some (av_R (some a2)), some (av_I a3), none]) (by decide +kernel) (Nat.le_of_ble_eq_true rfl) rfl ?_
  have hS : isS s := hx.2.1
  have hs0 : s = 17 ∨ s = 80 := hS
  have hs0b : 17 ≤ s ∧ s ≤ 80 := by omega
  have ga0 := lt_V ha0
  have ga2 := lt_V ha2
  refine A_aload_n 2 d_Judge_isCrossed_0 rfl rfl ?_
  refine A_iload_n 3 d_Judge_isCrossed_1 rfl rfl ?_
  refine A_callV1 m_Voice_isRest T_ok d_Judge_isCrossed_2 l_Judge_83 k_Voice_isRest (xs_V hx ha2) rfl (by decide +kernel) (by decide) (Nat.le_of_ble_eq_true rfl) (s_Voice_isRest hx ha2 (by omega) (by omega)) (fun r h1 hq => ?_)
  obtain ⟨x3, rfl, bx3, rfl⟩ := hq
  refine A_if_eq (tgt := 10) d_Judge_isCrossed_5 (by decide) (fun c4 => ?_) (fun c4 => ?_)
  · refine A_iload_n 1 d_Judge_isCrossed_10 rfl rfl ?_
    refine A_istore (L' := [some (av_R (some a0)), some (av_I a1), some (av_R (some a2)), some (av_I a3), some (av_I a1)]) d_Judge_isCrossed_11 (Nat.le_of_ble_eq_true rfl) rfl ?_
    have lp13 : ∀ (n : Nat) (i5 : Int) , 0 ≤ i5 → i5 ≤ 300 → (301 - i5).toNat < n → aw G (rm_R 2 0 0) m_Judge_isCrossed 0 0 13 [some (av_R (some a0)), some (av_I a1), some (av_R (some a2)), some (av_I a3), some (av_I i5)] [] h (fun r h' => ∃ z, r = some (av_I z) ∧ (z = 0 ∨ z = 1) ∧ h = h') := by
      intro n
      induction n with
      | zero => intro i5 _ _ hm; omega
      | succ n ih13 =>
        intro i5 hl0 hl1 hm
        refine A_iload d_Judge_isCrossed_13 rfl ?_
        refine A_aload_n 0 d_Judge_isCrossed_15 rfl rfl ?_
        refine A_getIn (lo := 0) (hi := 300) T_ok d_Judge_isCrossed_16 f_Judge_35 (xs_V hx ha0) (xi_g hx (lt1_V ha0) (rg_V_14 ha0)) (fun x6 ex6 _ _ => ?_)
        refine A_icmp_ge (tgt := 66) d_Judge_isCrossed_19 (by decide) (fun c7 => ?_) (fun c7 => ?_)
        · refine A_iconst d_Judge_isCrossed_66 rfl ?_
          exact A_zret d_Judge_isCrossed_67 (by decide) rfl (by omega) ⟨_, rfl, by omega, rfl⟩
        · refine A_aload_n 0 d_Judge_isCrossed_22 rfl rfl ?_
          refine A_iload d_Judge_isCrossed_23 rfl ?_
          refine A_aload_n 2 d_Judge_isCrossed_25 rfl rfl ?_
          refine A_iload_n 3 d_Judge_isCrossed_26 rfl rfl ?_
          refine A_iconst d_Judge_isCrossed_27 rfl ?_
          refine A_pc (pc' := 28) rfl ?_
          refine A_iaddv (z := (a3 + 1)) d_Judge_isCrossed_28 (w32_to (by omega) (by unfold i32; omega)) ?_
          refine A_callS4 m_Judge_compareStarts d_Judge_isCrossed_29 l_Judge_114 k_Judge_compareStarts (by decide +kernel) (by decide) (Nat.le_of_ble_eq_true rfl) (s_Judge_compareStarts hx ha0 (by omega) (by omega) ha2 (by omega) (by omega)) (fun r h8 hq => ?_)
          obtain ⟨x10, rfl, ⟨_, _⟩, rfl⟩ := hq
          refine A_if_ge (tgt := 66) d_Judge_isCrossed_32 (by decide) (fun c11 => ?_) (fun c11 => ?_)
          · refine A_iconst d_Judge_isCrossed_66 rfl ?_
            exact A_zret d_Judge_isCrossed_67 (by decide) rfl (by omega) ⟨_, rfl, by omega, rfl⟩
          · refine A_aload_n 0 d_Judge_isCrossed_35 rfl rfl ?_
            refine A_iload d_Judge_isCrossed_36 rfl ?_
            refine A_callV1 m_Voice_isRest T_ok d_Judge_isCrossed_38 l_Judge_83 k_Voice_isRest (xs_V hx ha0) rfl (by decide +kernel) (by decide) (Nat.le_of_ble_eq_true rfl) (s_Voice_isRest hx ha0 (by omega) (by omega)) (fun r h12 hq => ?_)
            obtain ⟨x14, rfl, bx14, rfl⟩ := hq
            refine A_if_ne (tgt := 60) d_Judge_isCrossed_41 (by decide) (fun c15 => ?_) (fun c15 => ?_)
            · refine A_iincv (z := (i5 + 1)) (L' := [some (av_R (some a0)), some (av_I a1), some (av_R (some a2)), some (av_I a3), some (av_I (i5 + 1))]) d_Judge_isCrossed_60 rfl (w32_to (by omega) (by unfold i32; omega)) rfl ?_
              refine A_goto (tgt := 13) d_Judge_isCrossed_63 (by decide) ?_
              exact ih13 (i5 + 1) (by omega) (by omega) (by omega)
            · refine A_aload_n 0 d_Judge_isCrossed_44 rfl rfl ?_
              refine A_iload d_Judge_isCrossed_45 rfl ?_
              refine A_callV1 m_Voice_lowestKey T_ok d_Judge_isCrossed_47 l_Judge_86 k_Voice_lowestKey (xs_V hx ha0) rfl (by decide +kernel) (by decide) (Nat.le_of_ble_eq_true rfl) (s_Voice_lowestKey hx ha0 (by omega) (by omega)) (fun r h16 hq => ?_)
              obtain ⟨x18, rfl, ⟨_, _⟩, rfl⟩ := hq
              refine A_aload_n 2 d_Judge_isCrossed_50 rfl rfl ?_
              refine A_iload_n 3 d_Judge_isCrossed_51 rfl rfl ?_
              refine A_callV1 m_Voice_highestKey T_ok d_Judge_isCrossed_52 l_Judge_117 k_Voice_highestKey (xs_V hx ha2) rfl (by decide +kernel) (by decide) (Nat.le_of_ble_eq_true rfl) (s_Voice_highestKey hx ha2 (by omega) (by omega)) (fun r h19 hq => ?_)
              obtain ⟨x21, rfl, ⟨_, _⟩, rfl⟩ := hq
              refine A_icmp_ge (tgt := 60) d_Judge_isCrossed_55 (by decide) (fun c22 => ?_) (fun c22 => ?_)
              · refine A_iincv (z := (i5 + 1)) (L' := [some (av_R (some a0)), some (av_I a1), some (av_R (some a2)), some (av_I a3), some (av_I (i5 + 1))]) d_Judge_isCrossed_60 rfl (w32_to (by omega) (by unfold i32; omega)) rfl ?_
                refine A_goto (tgt := 13) d_Judge_isCrossed_63 (by decide) ?_
                exact ih13 (i5 + 1) (by omega) (by omega) (by omega)
              · refine A_iconst d_Judge_isCrossed_58 rfl ?_
                exact A_zret d_Judge_isCrossed_59 (by decide) rfl (by omega) ⟨_, rfl, by omega, rfl⟩
    exact lp13 _ a1 (by omega) (by omega) (Nat.lt_succ_self _)
  · refine A_iconst d_Judge_isCrossed_8 rfl ?_
    exact A_zret d_Judge_isCrossed_9 (by decide) rfl (by omega) ⟨_, rfl, by omega, rfl⟩
theorem s_Judge_hearCrossings {G : cx_T} {s : Nat} {h : ah_T} (hx : xi s h) {a1 : Nat} {a2 : Nat} {a3 : Int} {a4 : Int} (ha1 : isS a1) (ha2 : isV a2) (la4 : 0 ≤ a4) (ua4 : a4 ≤ 299) : con G 3 0 0 m_Judge_hearCrossings [av_R (some 143), av_R (some a1), av_R (some a2), av_I a3, av_I a4] h (fun r h' => r = none ∧ kF FC s h h') := by
  refine con_of (L := [some (av_R (some 143)), some (av_R (some a1)), some (av_R (some a2)), some (av_I a3), some (av_I a4), none, none]) (by decide +kernel) (Nat.le_of_ble_eq_true rfl) rfl ?_
  have hS : isS s := hx.2.1
  have hs0 : s = 17 ∨ s = 80 := hS
  have hs0b : 17 ≤ s ∧ s ≤ 80 := by omega
  have k0 : kF FC s h h := kF_0 hx
  have ga2 := lt_V ha2
  refine A_locI 3 rfl (fun ra => ?_)
  obtain ⟨_, _⟩ := ra
  refine A_iconst d_Judge_hearCrossings_0 rfl ?_
  refine A_istore (L' := [some (av_R (some 143)), some (av_R (some a1)), some (av_R (some a2)), some (av_I a3), some (av_I a4), some (av_I 0), none]) d_Judge_hearCrossings_1 (Nat.le_of_ble_eq_true rfl) rfl ?_
  have lp3 : ∀ (n : Nat) (i1 : Int) (h2 : ah_T) , 0 ≤ i1 → i1 ≤ 4 → kF FC s h h2 → (5 - i1).toNat < n → aw G (rm_R 3 0 0) m_Judge_hearCrossings 0 0 3 [some (av_R (some 143)), some (av_R (some a1)), some (av_R (some a2)), some (av_I a3), some (av_I a4), some (av_I i1), none] [] h2 (fun r h' => r = none ∧ kF FC s h h') := by
    intro n
    induction n with
    | zero => intro i1 h2 _ _ _ hm; omega
    | succ n ih3 =>
      intro i1 h2 hl0 hl1 k3 hm
      refine A_iload d_Judge_hearCrossings_3 rfl ?_
      refine A_iload_n 3 d_Judge_hearCrossings_5 rfl rfl ?_
      refine A_icmp_ge (tgt := 88) d_Judge_hearCrossings_6 (by decide) (fun c4 => ?_) (fun c4 => ?_)
      · exact A_vret d_Judge_hearCrossings_88 (by decide) rfl ⟨rfl, k3⟩
      · refine A_iload d_Judge_hearCrossings_9 rfl ?_
        refine A_aload_n 0 d_Judge_hearCrossings_11 rfl rfl ?_
        refine A_getAv (z := some 145) T_ok d_Judge_hearCrossings_12 f_Judge_15 (xi_s k3.1 sf_143) (xi_r k3.1 rff_143_2) ?_
        refine A_alenN d_Judge_hearCrossings_15 (xi_s k3.1 sf_145) (by decide) (by decide) ?_
        refine A_icmp_ge (tgt := 88) d_Judge_hearCrossings_16 (by decide) (fun c6 => ?_) (fun c6 => ?_)
        · exact A_vret d_Judge_hearCrossings_88 (by decide) rfl ⟨rfl, k3⟩
        · refine A_aload_n 1 d_Judge_hearCrossings_19 rfl rfl ?_
          refine A_iload d_Judge_hearCrossings_20 rfl ?_
          refine A_callV1 m_Score_voiceAt T_ok d_Judge_hearCrossings_22 l_Judge_27 k_Score_voiceAt (xs_S k3.1 ha1) rfl (by decide +kernel) (by decide) (Nat.le_of_ble_eq_true rfl) (s_Score_voiceAt k3.1 ha1) (fun r h7 hq => ?_)
          obtain ⟨ox9, rfl, qx9, rfl⟩ := hq
          rcases qx9 with rfl | ⟨x9, rfl, tx9⟩
          · refine A_astore (L' := [some (av_R (some 143)), some (av_R (some a1)), some (av_R (some a2)), some (av_I a3), some (av_I a4), some (av_I i1), some (av_R none)]) d_Judge_hearCrossings_25 (Nat.le_of_ble_eq_true rfl) rfl ?_
            refine A_aload d_Judge_hearCrossings_27 rfl ?_
            refine A_ifnull (tgt := 82) d_Judge_hearCrossings_29 (by decide) (fun _ => ?_) (fun a q => by cases q)
            refine A_iincv (z := (i1 + 1)) (L' := [some (av_R (some 143)), some (av_R (some a1)), some (av_R (some a2)), some (av_I a3), some (av_I a4), some (av_I (i1 + 1)), some (av_R none)]) d_Judge_hearCrossings_82 rfl (w32_to (by omega) (by unfold i32; omega)) rfl ?_
            refine A_goto (tgt := 3) d_Judge_hearCrossings_85 (by decide) ?_
            refine A_free (L' := [some (av_R (some 143)), some (av_R (some a1)), some (av_R (some a2)), some (av_I a3), some (av_I a4), some (av_I (i1 + 1)), none]) (And.intro rfl (And.intro rfl (And.intro rfl (And.intro rfl (And.intro rfl (And.intro rfl trivial)))))) ?_
            exact ih3 (i1 + 1) h2 (by omega) (by omega) k3 (by omega)
          · refine A_astore (L' := [some (av_R (some 143)), some (av_R (some a1)), some (av_R (some a2)), some (av_I a3), some (av_I a4), some (av_I i1), some (av_R (some x9))]) d_Judge_hearCrossings_25 (Nat.le_of_ble_eq_true rfl) rfl ?_
            refine A_aload d_Judge_hearCrossings_27 rfl ?_
            refine A_ifnull (tgt := 82) d_Judge_hearCrossings_29 (by decide) (fun q => by cases q) (fun _ _ => ?_)
            refine A_aload_n 0 d_Judge_hearCrossings_32 rfl rfl ?_
            refine A_getAv (z := some 145) T_ok d_Judge_hearCrossings_33 f_Judge_15 (xi_s k3.1 sf_143) (xi_r k3.1 rff_143_2) ?_
            refine A_iload d_Judge_hearCrossings_36 rfl ?_
            refine A_aload d_Judge_hearCrossings_38 rfl ?_
            refine A_aload_n 0 d_Judge_hearCrossings_40 rfl rfl ?_
            refine A_pc (pc' := 41) rfl ?_
            refine A_getAv (z := some 145) T_ok d_Judge_hearCrossings_41 f_Judge_15 (xi_s k3.1 sf_143) (xi_r k3.1 rff_143_2) ?_
            refine A_iload d_Judge_hearCrossings_44 rfl ?_
            refine A_ialoadn (lo := 0) (hi := 300) d_Judge_hearCrossings_46 (xi_s k3.1 sf_145) (by omega) (by omega) (xi_g k3.1 (by decide) (rgf_145 _)) (fun x12 ex12 _ _ => ?_)
            refine A_aload_n 2 d_Judge_hearCrossings_47 rfl rfl ?_
            refine A_iload d_Judge_hearCrossings_48 rfl ?_
            refine A_callS4 m_Judge_firstNotEnded d_Judge_hearCrossings_50 l_Judge_106 k_Judge_firstNotEnded (by decide +kernel) (by decide) (Nat.le_of_ble_eq_true rfl) (s_Judge_firstNotEnded k3.1 (tV_V ha1 tx9) (by omega) (by omega) ha2 (by omega) (by omega)) (fun r h13 hq => ?_)
            obtain ⟨x15, rfl, ⟨_, _⟩, rfl⟩ := hq
            refine A_iastorek (KR := kF FC s h) d_Judge_hearCrossings_53 (xi_s k3.1 sf_145) (by omega) (by omega) (kF_j k3 (by decide) (ns_b rfl) (rgf_145 _) (by omega) (by omega)) (fun h16 k17 eh16 => ?_)
            refine A_aload d_Judge_hearCrossings_54 rfl ?_
            refine A_aload_n 0 d_Judge_hearCrossings_56 rfl rfl ?_
            refine A_getAv (z := some 145) T_ok d_Judge_hearCrossings_57 f_Judge_15 (xi_s k17.1 sf_143) (xi_r k17.1 rff_143_2) ?_
            refine A_iload d_Judge_hearCrossings_60 rfl ?_
            refine A_pc (pc' := 62) rfl ?_
            refine A_ialoadv (z := x15) d_Judge_hearCrossings_62 (xi_s k17.1 sf_145) (by omega) (by omega) eh16.2.1 ?_
            refine A_aload_n 2 d_Judge_hearCrossings_63 rfl rfl ?_
            refine A_iload d_Judge_hearCrossings_64 rfl ?_
            refine A_callS4 m_Judge_isCrossed d_Judge_hearCrossings_66 l_Judge_110 k_Judge_isCrossed (by decide +kernel) (by decide) (Nat.le_of_ble_eq_true rfl) (s_Judge_isCrossed k17.1 (tV_V ha1 tx9) (by omega) (by omega) ha2 (by omega) (by omega)) (fun r h20 hq => ?_)
            obtain ⟨x22, rfl, bx22, rfl⟩ := hq
            refine A_if_eq (tgt := 82) d_Judge_hearCrossings_69 (by decide) (fun c23 => ?_) (fun c23 => ?_)
            · refine A_iincv (z := (i1 + 1)) (L' := [some (av_R (some 143)), some (av_R (some a1)), some (av_R (some a2)), some (av_I a3), some (av_I a4), some (av_I (i1 + 1)), some (av_R (some x9))]) d_Judge_hearCrossings_82 rfl (w32_to (by omega) (by unfold i32; omega)) rfl ?_
              refine A_goto (tgt := 3) d_Judge_hearCrossings_85 (by decide) ?_
              refine A_free (L' := [some (av_R (some 143)), some (av_R (some a1)), some (av_R (some a2)), some (av_I a3), some (av_I a4), some (av_I (i1 + 1)), none]) (And.intro rfl (And.intro rfl (And.intro rfl (And.intro rfl (And.intro rfl (And.intro rfl trivial)))))) ?_
              exact ih3 (i1 + 1) h16 (by omega) (by omega) k17 (by omega)
            · refine A_aload_n 0 d_Judge_hearCrossings_72 rfl rfl ?_
              refine A_iconst d_Judge_hearCrossings_73 rfl ?_
              refine A_iload_n 3 d_Judge_hearCrossings_74 rfl rfl ?_
              refine A_iload d_Judge_hearCrossings_75 rfl ?_
              refine A_iload d_Judge_hearCrossings_77 rfl ?_
              refine A_pc (pc' := 79) rfl ?_
              refine A_callV4 m_Judge_add T_ok d_Judge_hearCrossings_79 l_Judge_50 k_Judge_add (xi_s k17.1 sf_143) rfl (by decide +kernel) (by decide) (Nat.le_of_ble_eq_true rfl) (s_Judge_add k17.1 ) (fun r h24 hq => ?_)
              obtain ⟨rfl, k25⟩ := hq
              have k26 := kF_t k17 k25 (fun _ q => q)
              refine A_iincv (z := (i1 + 1)) (L' := [some (av_R (some 143)), some (av_R (some a1)), some (av_R (some a2)), some (av_I a3), some (av_I a4), some (av_I (i1 + 1)), some (av_R (some x9))]) d_Judge_hearCrossings_82 rfl (w32_to (by omega) (by unfold i32; omega)) rfl ?_
              refine A_goto (tgt := 3) d_Judge_hearCrossings_85 (by decide) ?_
              refine A_free (L' := [some (av_R (some 143)), some (av_R (some a1)), some (av_R (some a2)), some (av_I a3), some (av_I a4), some (av_I (i1 + 1)), none]) (And.intro rfl (And.intro rfl (And.intro rfl (And.intro rfl (And.intro rfl (And.intro rfl trivial)))))) ?_
              exact ih3 (i1 + 1) h24 (by omega) (by omega) k26 (by omega)
  exact lp3 _ 0 h (by omega) (by omega) k0 (Nat.lt_succ_self _)
theorem s_Judge_isParallel {G : cx_T} {s : Nat} {h : ah_T} (hx : xi s h) {a0 : Nat} {a1 : Int} {a2 : Nat} {a3 : Int} (ha0 : isV a0) (la1 : 0 ≤ a1) (ua1 : a1 ≤ 300) (ha2 : isV a2) (la3 : 0 ≤ a3) (ua3 : a3 ≤ 299) : con G 2 0 0 m_Judge_isParallel [av_R (some a0), av_I a1, av_R (some a2), av_I a3] h (fun r h' => ∃ z, r = some (av_I z) ∧ (z = 0 ∨ z = 1) ∧ h = h') := by
  refine con_of (L := [some (av_R (some a0)), some (av_I a1), some (av_R (some a2)), some (av_I a3), none, none]) (by decide +kernel) (Nat.le_of_ble_eq_true rfl) rfl ?_
  have hS : isS s := hx.2.1
  have hs0 : s = 17 ∨ s = 80 := hS
  have hs0b : 17 ≤ s ∧ s ≤ 80 := by omega
  have ga0 := lt_V ha0
  have ga2 := lt_V ha2
  refine A_iload_n 3 d_Judge_isParallel_0 rfl rfl ?_
  refine A_iconst d_Judge_isParallel_1 rfl ?_
  refine A_icmp_lt (tgt := 28) d_Judge_isParallel_2 (by decide) (fun c1 => ?_) (fun c1 => ?_)
  · refine A_iconst d_Judge_isParallel_28 rfl ?_
    exact A_zret d_Judge_isParallel_29 (by decide) rfl (by omega) ⟨_, rfl, by omega, rfl⟩
  · refine A_iload_n 1 d_Judge_isParallel_5 rfl rfl ?_
    refine A_iconst d_Judge_isParallel_6 rfl ?_
    refine A_icmp_lt (tgt := 28) d_Judge_isParallel_7 (by decide) (fun c2 => ?_) (fun c2 => ?_)
    · refine A_iconst d_Judge_isParallel_28 rfl ?_
      exact A_zret d_Judge_isParallel_29 (by decide) rfl (by omega) ⟨_, rfl, by omega, rfl⟩
    · refine A_iload_n 1 d_Judge_isParallel_10 rfl rfl ?_
      refine A_aload_n 0 d_Judge_isParallel_11 rfl rfl ?_
      refine A_getIn (lo := 0) (hi := 300) T_ok d_Judge_isParallel_12 f_Judge_35 (xs_V hx ha0) (xi_g hx (lt1_V ha0) (rg_V_14 ha0)) (fun x3 ex3 _ _ => ?_)
      refine A_icmp_ge (tgt := 28) d_Judge_isParallel_15 (by decide) (fun c4 => ?_) (fun c4 => ?_)
      · refine A_iconst d_Judge_isParallel_28 rfl ?_
        exact A_zret d_Judge_isParallel_29 (by decide) rfl (by omega) ⟨_, rfl, by omega, rfl⟩
      · refine A_aload_n 0 d_Judge_isParallel_18 rfl rfl ?_
        refine A_iload_n 1 d_Judge_isParallel_19 rfl rfl ?_
        refine A_aload_n 2 d_Judge_isParallel_20 rfl rfl ?_
        refine A_iload_n 3 d_Judge_isParallel_21 rfl rfl ?_
        refine A_callS4 m_Judge_compareStarts d_Judge_isParallel_22 l_Judge_114 k_Judge_compareStarts (by decide +kernel) (by decide) (Nat.le_of_ble_eq_true rfl) (s_Judge_compareStarts hx ha0 (by omega) (by omega) ha2 (by omega) (by omega)) (fun r h5 hq => ?_)
        obtain ⟨x7, rfl, ⟨_, _⟩, rfl⟩ := hq
        refine A_if_eq (tgt := 30) d_Judge_isParallel_25 (by decide) (fun c8 => ?_) (fun c8 => ?_)
        · refine A_aload_n 2 d_Judge_isParallel_30 rfl rfl ?_
          refine A_iload_n 3 d_Judge_isParallel_31 rfl rfl ?_
          refine A_callV1 m_Voice_isRest T_ok d_Judge_isParallel_32 l_Judge_83 k_Voice_isRest (xs_V hx ha2) rfl (by decide +kernel) (by decide) (Nat.le_of_ble_eq_true rfl) (s_Voice_isRest hx ha2 (by omega) (by omega)) (fun r h9 hq => ?_)
          obtain ⟨x11, rfl, bx11, rfl⟩ := hq
          refine A_if_ne (tgt := 66) d_Judge_isParallel_35 (by decide) (fun c12 => ?_) (fun c12 => ?_)
          · refine A_iconst d_Judge_isParallel_66 rfl ?_
            exact A_zret d_Judge_isParallel_67 (by decide) rfl (by omega) ⟨_, rfl, by omega, rfl⟩
          · refine A_aload_n 2 d_Judge_isParallel_38 rfl rfl ?_
            refine A_iload_n 3 d_Judge_isParallel_39 rfl rfl ?_
            refine A_iconst d_Judge_isParallel_40 rfl ?_
            refine A_isubv (z := (a3 - 1)) d_Judge_isParallel_41 (w32_to (by omega) (by unfold i32; omega)) ?_
            refine A_callV1 m_Voice_isRest T_ok d_Judge_isParallel_42 l_Judge_83 k_Voice_isRest (xs_V hx ha2) rfl (by decide +kernel) (by decide) (Nat.le_of_ble_eq_true rfl) (s_Voice_isRest hx ha2 (by omega) (by omega)) (fun r h13 hq => ?_)
            obtain ⟨x15, rfl, bx15, rfl⟩ := hq
            refine A_if_ne (tgt := 66) d_Judge_isParallel_45 (by decide) (fun c16 => ?_) (fun c16 => ?_)
            · refine A_iconst d_Judge_isParallel_66 rfl ?_
              exact A_zret d_Judge_isParallel_67 (by decide) rfl (by omega) ⟨_, rfl, by omega, rfl⟩
            · refine A_aload_n 0 d_Judge_isParallel_48 rfl rfl ?_
              refine A_iload_n 1 d_Judge_isParallel_49 rfl rfl ?_
              refine A_callV1 m_Voice_isRest T_ok d_Judge_isParallel_50 l_Judge_83 k_Voice_isRest (xs_V hx ha0) rfl (by decide +kernel) (by decide) (Nat.le_of_ble_eq_true rfl) (s_Voice_isRest hx ha0 (by omega) (by omega)) (fun r h17 hq => ?_)
              obtain ⟨x19, rfl, bx19, rfl⟩ := hq
              refine A_if_ne (tgt := 66) d_Judge_isParallel_53 (by decide) (fun c20 => ?_) (fun c20 => ?_)
              · refine A_iconst d_Judge_isParallel_66 rfl ?_
                exact A_zret d_Judge_isParallel_67 (by decide) rfl (by omega) ⟨_, rfl, by omega, rfl⟩
              · refine A_aload_n 0 d_Judge_isParallel_56 rfl rfl ?_
                refine A_iload_n 1 d_Judge_isParallel_57 rfl rfl ?_
                refine A_iconst d_Judge_isParallel_58 rfl ?_
                refine A_isubv (z := (a1 - 1)) d_Judge_isParallel_59 (w32_to (by omega) (by unfold i32; omega)) ?_
                refine A_callV1 m_Voice_isRest T_ok d_Judge_isParallel_60 l_Judge_83 k_Voice_isRest (xs_V hx ha0) rfl (by decide +kernel) (by decide) (Nat.le_of_ble_eq_true rfl) (s_Voice_isRest hx ha0 (by omega) (by omega)) (fun r h21 hq => ?_)
                obtain ⟨x23, rfl, bx23, rfl⟩ := hq
                refine A_if_eq (tgt := 68) d_Judge_isParallel_63 (by decide) (fun c24 => ?_) (fun c24 => ?_)
                · refine A_aload_n 0 d_Judge_isParallel_68 rfl rfl ?_
                  refine A_iload_n 1 d_Judge_isParallel_69 rfl rfl ?_
                  refine A_callV1 m_Voice_lowestKey T_ok d_Judge_isParallel_70 l_Judge_86 k_Voice_lowestKey (xs_V hx ha0) rfl (by decide +kernel) (by decide) (Nat.le_of_ble_eq_true rfl) (s_Voice_lowestKey hx ha0 (by omega) (by omega)) (fun r h25 hq => ?_)
                  obtain ⟨x27, rfl, ⟨_, _⟩, rfl⟩ := hq
                  refine A_aload_n 2 d_Judge_isParallel_73 rfl rfl ?_
                  refine A_iload_n 3 d_Judge_isParallel_74 rfl rfl ?_
                  refine A_callV1 m_Voice_lowestKey T_ok d_Judge_isParallel_75 l_Judge_86 k_Voice_lowestKey (xs_V hx ha2) rfl (by decide +kernel) (by decide) (Nat.le_of_ble_eq_true rfl) (s_Voice_lowestKey hx ha2 (by omega) (by omega)) (fun r h28 hq => ?_)
                  obtain ⟨x30, rfl, ⟨_, _⟩, rfl⟩ := hq
                  refine A_isubw d_Judge_isParallel_78 (fun x31 _ _ _ => ?_)
                  refine A_bipush d_Judge_isParallel_79 rfl ?_
                  refine A_callS2 m_JMath_floorMod d_Judge_isParallel_81 l_Judge_136 k_JMath_floorMod (by decide +kernel) (by decide) (Nat.le_of_ble_eq_true rfl) (s_JMath_floorMod  (by omega) (by omega)) (fun r h32 hq => ?_)
                  obtain ⟨x34, rfl, ⟨_, _⟩, xx34, rfl⟩ := hq
                  refine A_istore (L' := [some (av_R (some a0)), some (av_I a1), some (av_R (some a2)), some (av_I a3), some (av_I x34), none]) d_Judge_isParallel_84 (Nat.le_of_ble_eq_true rfl) rfl ?_
                  refine A_aload_n 0 d_Judge_isParallel_86 rfl rfl ?_
                  refine A_iload_n 1 d_Judge_isParallel_87 rfl rfl ?_
                  refine A_iconst d_Judge_isParallel_88 rfl ?_
                  refine A_isubv (z := (a1 - 1)) d_Judge_isParallel_89 (w32_to (by omega) (by unfold i32; omega)) ?_
                  refine A_pc (pc' := 90) rfl ?_
                  refine A_callV1 m_Voice_lowestKey T_ok d_Judge_isParallel_90 l_Judge_86 k_Voice_lowestKey (xs_V hx ha0) rfl (by decide +kernel) (by decide) (Nat.le_of_ble_eq_true rfl) (s_Voice_lowestKey hx ha0 (by omega) (by omega)) (fun r h35 hq => ?_)
                  obtain ⟨x37, rfl, ⟨_, _⟩, rfl⟩ := hq
                  refine A_aload_n 2 d_Judge_isParallel_93 rfl rfl ?_
                  refine A_iload_n 3 d_Judge_isParallel_94 rfl rfl ?_
                  refine A_iconst d_Judge_isParallel_95 rfl ?_
                  refine A_isubv (z := (a3 - 1)) d_Judge_isParallel_96 (w32_to (by omega) (by unfold i32; omega)) ?_
                  refine A_callV1 m_Voice_lowestKey T_ok d_Judge_isParallel_97 l_Judge_86 k_Voice_lowestKey (xs_V hx ha2) rfl (by decide +kernel) (by decide) (Nat.le_of_ble_eq_true rfl) (s_Voice_lowestKey hx ha2 (by omega) (by omega)) (fun r h38 hq => ?_)
                  obtain ⟨x40, rfl, ⟨_, _⟩, rfl⟩ := hq
                  refine A_isubw d_Judge_isParallel_100 (fun x41 _ _ _ => ?_)
                  refine A_bipush d_Judge_isParallel_101 rfl ?_
                  refine A_callS2 m_JMath_floorMod d_Judge_isParallel_103 l_Judge_136 k_JMath_floorMod (by decide +kernel) (by decide) (Nat.le_of_ble_eq_true rfl) (s_JMath_floorMod  (by omega) (by omega)) (fun r h42 hq => ?_)
                  obtain ⟨x44, rfl, ⟨_, _⟩, xx44, rfl⟩ := hq
                  refine A_istore (L' := [some (av_R (some a0)), some (av_I a1), some (av_R (some a2)), some (av_I a3), some (av_I x34), some (av_I x44)]) d_Judge_isParallel_106 (Nat.le_of_ble_eq_true rfl) rfl ?_
                  refine A_iload d_Judge_isParallel_108 rfl ?_
                  refine A_iload d_Judge_isParallel_110 rfl ?_
                  refine A_icmp_ne (tgt := 146) d_Judge_isParallel_112 (by decide) (fun c45 => ?_) (fun c45 => ?_)
                  · refine A_iconst d_Judge_isParallel_146 rfl ?_
                    exact A_zret d_Judge_isParallel_147 (by decide) rfl (by omega) ⟨_, rfl, by omega, rfl⟩
                  · refine A_iload d_Judge_isParallel_115 rfl ?_
                    refine A_if_eq (tgt := 127) d_Judge_isParallel_117 (by decide) (fun c46 => ?_) (fun c46 => ?_)
                    · refine A_aload_n 2 d_Judge_isParallel_127 rfl rfl ?_
                      refine A_iload_n 3 d_Judge_isParallel_128 rfl rfl ?_
                      refine A_callV1 m_Voice_lowestKey T_ok d_Judge_isParallel_129 l_Judge_86 k_Voice_lowestKey (xs_V hx ha2) rfl (by decide +kernel) (by decide) (Nat.le_of_ble_eq_true rfl) (s_Voice_lowestKey hx ha2 (by omega) (by omega)) (fun r h47 hq => ?_)
                      obtain ⟨x49, rfl, ⟨_, _⟩, rfl⟩ := hq
                      refine A_aload_n 2 d_Judge_isParallel_132 rfl rfl ?_
                      refine A_iload_n 3 d_Judge_isParallel_133 rfl rfl ?_
                      refine A_iconst d_Judge_isParallel_134 rfl ?_
                      refine A_isubv (z := (a3 - 1)) d_Judge_isParallel_135 (w32_to (by omega) (by unfold i32; omega)) ?_
                      refine A_callV1 m_Voice_lowestKey T_ok d_Judge_isParallel_136 l_Judge_86 k_Voice_lowestKey (xs_V hx ha2) rfl (by decide +kernel) (by decide) (Nat.le_of_ble_eq_true rfl) (s_Voice_lowestKey hx ha2 (by omega) (by omega)) (fun r h50 hq => ?_)
                      obtain ⟨x52, rfl, ⟨_, _⟩, rfl⟩ := hq
                      refine A_icmp_eq (tgt := 146) d_Judge_isParallel_139 (by decide) (fun c53 => ?_) (fun c53 => ?_)
                      · refine A_iconst d_Judge_isParallel_146 rfl ?_
                        exact A_zret d_Judge_isParallel_147 (by decide) rfl (by omega) ⟨_, rfl, by omega, rfl⟩
                      · refine A_iconst d_Judge_isParallel_142 rfl ?_
                        refine A_goto (tgt := 147) d_Judge_isParallel_143 (by decide) ?_
                        exact A_zret d_Judge_isParallel_147 (by decide) rfl (by omega) ⟨_, rfl, by omega, rfl⟩
                    · refine A_iload d_Judge_isParallel_120 rfl ?_
                      refine A_bipush d_Judge_isParallel_122 rfl ?_
                      refine A_icmp_ne (tgt := 146) d_Judge_isParallel_124 (by decide) (fun c54 => ?_) (fun c54 => ?_)
                      · refine A_iconst d_Judge_isParallel_146 rfl ?_
                        exact A_zret d_Judge_isParallel_147 (by decide) rfl (by omega) ⟨_, rfl, by omega, rfl⟩
                      · refine A_aload_n 2 d_Judge_isParallel_127 rfl rfl ?_
                        refine A_iload_n 3 d_Judge_isParallel_128 rfl rfl ?_
                        refine A_callV1 m_Voice_lowestKey T_ok d_Judge_isParallel_129 l_Judge_86 k_Voice_lowestKey (xs_V hx ha2) rfl (by decide +kernel) (by decide) (Nat.le_of_ble_eq_true rfl) (s_Voice_lowestKey hx ha2 (by omega) (by omega)) (fun r h55 hq => ?_)
                        obtain ⟨x57, rfl, ⟨_, _⟩, rfl⟩ := hq
                        refine A_aload_n 2 d_Judge_isParallel_132 rfl rfl ?_
                        refine A_iload_n 3 d_Judge_isParallel_133 rfl rfl ?_
                        refine A_iconst d_Judge_isParallel_134 rfl ?_
                        refine A_isubv (z := (a3 - 1)) d_Judge_isParallel_135 (w32_to (by omega) (by unfold i32; omega)) ?_
                        refine A_callV1 m_Voice_lowestKey T_ok d_Judge_isParallel_136 l_Judge_86 k_Voice_lowestKey (xs_V hx ha2) rfl (by decide +kernel) (by decide) (Nat.le_of_ble_eq_true rfl) (s_Voice_lowestKey hx ha2 (by omega) (by omega)) (fun r h58 hq => ?_)
                        obtain ⟨x60, rfl, ⟨_, _⟩, rfl⟩ := hq
                        refine A_icmp_eq (tgt := 146) d_Judge_isParallel_139 (by decide) (fun c61 => ?_) (fun c61 => ?_)
                        · refine A_iconst d_Judge_isParallel_146 rfl ?_
                          exact A_zret d_Judge_isParallel_147 (by decide) rfl (by omega) ⟨_, rfl, by omega, rfl⟩
                        · refine A_iconst d_Judge_isParallel_142 rfl ?_
                          refine A_goto (tgt := 147) d_Judge_isParallel_143 (by decide) ?_
                          exact A_zret d_Judge_isParallel_147 (by decide) rfl (by omega) ⟨_, rfl, by omega, rfl⟩
                · refine A_iconst d_Judge_isParallel_66 rfl ?_
                  exact A_zret d_Judge_isParallel_67 (by decide) rfl (by omega) ⟨_, rfl, by omega, rfl⟩
        · refine A_iconst d_Judge_isParallel_28 rfl ?_
          exact A_zret d_Judge_isParallel_29 (by decide) rfl (by omega) ⟨_, rfl, by omega, rfl⟩
theorem s_Judge_hearParallels {G : cx_T} {s : Nat} {h : ah_T} (hx : xi s h) {a1 : Nat} {a2 : Nat} {a3 : Int} {a4 : Int} (ha1 : isS a1) (ha2 : isV a2) (la4 : 0 ≤ a4) (ua4 : a4 ≤ 299) : con G 3 0 0 m_Judge_hearParallels [av_R (some 143), av_R (some a1), av_R (some a2), av_I a3, av_I a4] h (fun r h' => r = none ∧ kF FC s h h') := by
  refine con_of (L := [some (av_R (some 143)), some (av_R (some a1)), some (av_R (some a2)), some (av_I a3), some (av_I a4), none, none]) (by decide +kernel) (Nat.le_of_ble_eq_true rfl) rfl ?_
  have hS : isS s := hx.2.1
  have hs0 : s = 17 ∨ s = 80 := hS
  have hs0b : 17 ≤ s ∧ s ≤ 80 := by omega
  have k0 : kF FC s h h := kF_0 hx
  have ga2 := lt_V ha2
  refine A_locI 3 rfl (fun ra => ?_)
  obtain ⟨_, _⟩ := ra
  refine A_iconst d_Judge_hearParallels_0 rfl ?_
  refine A_istore (L' := [some (av_R (some 143)), some (av_R (some a1)), some (av_R (some a2)), some (av_I a3), some (av_I a4), some (av_I 0), none]) d_Judge_hearParallels_1 (Nat.le_of_ble_eq_true rfl) rfl ?_
  have lp3 : ∀ (n : Nat) (i1 : Int) (h2 : ah_T) , 0 ≤ i1 → i1 ≤ 4 → kF FC s h h2 → (5 - i1).toNat < n → aw G (rm_R 3 0 0) m_Judge_hearParallels 0 0 3 [some (av_R (some 143)), some (av_R (some a1)), some (av_R (some a2)), some (av_I a3), some (av_I a4), some (av_I i1), none] [] h2 (fun r h' => r = none ∧ kF FC s h h') := by
    intro n
    induction n with
    | zero => intro i1 h2 _ _ _ hm; omega
    | succ n ih3 =>
      intro i1 h2 hl0 hl1 k3 hm
      refine A_iload d_Judge_hearParallels_3 rfl ?_
      refine A_iload_n 3 d_Judge_hearParallels_5 rfl rfl ?_
      refine A_icmp_ge (tgt := 66) d_Judge_hearParallels_6 (by decide) (fun c4 => ?_) (fun c4 => ?_)
      · exact A_vret d_Judge_hearParallels_66 (by decide) rfl ⟨rfl, k3⟩
      · refine A_iload d_Judge_hearParallels_9 rfl ?_
        refine A_aload_n 0 d_Judge_hearParallels_11 rfl rfl ?_
        refine A_getAv (z := some 145) T_ok d_Judge_hearParallels_12 f_Judge_15 (xi_s k3.1 sf_143) (xi_r k3.1 rff_143_2) ?_
        refine A_alenN d_Judge_hearParallels_15 (xi_s k3.1 sf_145) (by decide) (by decide) ?_
        refine A_icmp_ge (tgt := 66) d_Judge_hearParallels_16 (by decide) (fun c6 => ?_) (fun c6 => ?_)
        · exact A_vret d_Judge_hearParallels_66 (by decide) rfl ⟨rfl, k3⟩
        · refine A_aload_n 1 d_Judge_hearParallels_19 rfl rfl ?_
          refine A_iload d_Judge_hearParallels_20 rfl ?_
          refine A_callV1 m_Score_voiceAt T_ok d_Judge_hearParallels_22 l_Judge_27 k_Score_voiceAt (xs_S k3.1 ha1) rfl (by decide +kernel) (by decide) (Nat.le_of_ble_eq_true rfl) (s_Score_voiceAt k3.1 ha1) (fun r h7 hq => ?_)
          obtain ⟨ox9, rfl, qx9, rfl⟩ := hq
          rcases qx9 with rfl | ⟨x9, rfl, tx9⟩
          · refine A_astore (L' := [some (av_R (some 143)), some (av_R (some a1)), some (av_R (some a2)), some (av_I a3), some (av_I a4), some (av_I i1), some (av_R none)]) d_Judge_hearParallels_25 (Nat.le_of_ble_eq_true rfl) rfl ?_
            refine A_aload d_Judge_hearParallels_27 rfl ?_
            refine A_ifnull (tgt := 60) d_Judge_hearParallels_29 (by decide) (fun _ => ?_) (fun a q => by cases q)
            refine A_iincv (z := (i1 + 1)) (L' := [some (av_R (some 143)), some (av_R (some a1)), some (av_R (some a2)), some (av_I a3), some (av_I a4), some (av_I (i1 + 1)), some (av_R none)]) d_Judge_hearParallels_60 rfl (w32_to (by omega) (by unfold i32; omega)) rfl ?_
            refine A_goto (tgt := 3) d_Judge_hearParallels_63 (by decide) ?_
            refine A_free (L' := [some (av_R (some 143)), some (av_R (some a1)), some (av_R (some a2)), some (av_I a3), some (av_I a4), some (av_I (i1 + 1)), none]) (And.intro rfl (And.intro rfl (And.intro rfl (And.intro rfl (And.intro rfl (And.intro rfl trivial)))))) ?_
            exact ih3 (i1 + 1) h2 (by omega) (by omega) k3 (by omega)
          · refine A_astore (L' := [some (av_R (some 143)), some (av_R (some a1)), some (av_R (some a2)), some (av_I a3), some (av_I a4), some (av_I i1), some (av_R (some x9))]) d_Judge_hearParallels_25 (Nat.le_of_ble_eq_true rfl) rfl ?_
            refine A_aload d_Judge_hearParallels_27 rfl ?_
            refine A_ifnull (tgt := 60) d_Judge_hearParallels_29 (by decide) (fun q => by cases q) (fun _ _ => ?_)
            refine A_aload d_Judge_hearParallels_32 rfl ?_
            refine A_aload_n 0 d_Judge_hearParallels_34 rfl rfl ?_
            refine A_getAv (z := some 145) T_ok d_Judge_hearParallels_35 f_Judge_15 (xi_s k3.1 sf_143) (xi_r k3.1 rff_143_2) ?_
            refine A_iload d_Judge_hearParallels_38 rfl ?_
            refine A_ialoadn (lo := 0) (hi := 300) d_Judge_hearParallels_40 (xi_s k3.1 sf_145) (by omega) (by omega) (xi_g k3.1 (by decide) (rgf_145 _)) (fun x11 ex11 _ _ => ?_)
            refine A_pc (pc' := 41) rfl ?_
            refine A_aload_n 2 d_Judge_hearParallels_41 rfl rfl ?_
            refine A_iload d_Judge_hearParallels_42 rfl ?_
            refine A_callS4 m_Judge_isParallel d_Judge_hearParallels_44 l_Judge_133 k_Judge_isParallel (by decide +kernel) (by decide) (Nat.le_of_ble_eq_true rfl) (s_Judge_isParallel k3.1 (tV_V ha1 tx9) (by omega) (by omega) ha2 (by omega) (by omega)) (fun r h12 hq => ?_)
            obtain ⟨x14, rfl, bx14, rfl⟩ := hq
            refine A_if_eq (tgt := 60) d_Judge_hearParallels_47 (by decide) (fun c15 => ?_) (fun c15 => ?_)
            · refine A_iincv (z := (i1 + 1)) (L' := [some (av_R (some 143)), some (av_R (some a1)), some (av_R (some a2)), some (av_I a3), some (av_I a4), some (av_I (i1 + 1)), some (av_R (some x9))]) d_Judge_hearParallels_60 rfl (w32_to (by omega) (by unfold i32; omega)) rfl ?_
              refine A_goto (tgt := 3) d_Judge_hearParallels_63 (by decide) ?_
              refine A_free (L' := [some (av_R (some 143)), some (av_R (some a1)), some (av_R (some a2)), some (av_I a3), some (av_I a4), some (av_I (i1 + 1)), none]) (And.intro rfl (And.intro rfl (And.intro rfl (And.intro rfl (And.intro rfl (And.intro rfl trivial)))))) ?_
              exact ih3 (i1 + 1) h2 (by omega) (by omega) k3 (by omega)
            · refine A_aload_n 0 d_Judge_hearParallels_50 rfl rfl ?_
              refine A_iconst d_Judge_hearParallels_51 rfl ?_
              refine A_iload_n 3 d_Judge_hearParallels_52 rfl rfl ?_
              refine A_iload d_Judge_hearParallels_53 rfl ?_
              refine A_iload d_Judge_hearParallels_55 rfl ?_
              refine A_pc (pc' := 57) rfl ?_
              refine A_callV4 m_Judge_add T_ok d_Judge_hearParallels_57 l_Judge_50 k_Judge_add (xi_s k3.1 sf_143) rfl (by decide +kernel) (by decide) (Nat.le_of_ble_eq_true rfl) (s_Judge_add k3.1 ) (fun r h16 hq => ?_)
              obtain ⟨rfl, k17⟩ := hq
              have k18 := kF_t k3 k17 (fun _ q => q)
              refine A_iincv (z := (i1 + 1)) (L' := [some (av_R (some 143)), some (av_R (some a1)), some (av_R (some a2)), some (av_I a3), some (av_I a4), some (av_I (i1 + 1)), some (av_R (some x9))]) d_Judge_hearParallels_60 rfl (w32_to (by omega) (by unfold i32; omega)) rfl ?_
              refine A_goto (tgt := 3) d_Judge_hearParallels_63 (by decide) ?_
              refine A_free (L' := [some (av_R (some 143)), some (av_R (some a1)), some (av_R (some a2)), some (av_I a3), some (av_I a4), some (av_I (i1 + 1)), none]) (And.intro rfl (And.intro rfl (And.intro rfl (And.intro rfl (And.intro rfl (And.intro rfl trivial)))))) ?_
              exact ih3 (i1 + 1) h16 (by omega) (by omega) k18 (by omega)
  exact lp3 _ 0 h (by omega) (by omega) k0 (Nat.lt_succ_self _)
theorem s_Judge_hearVoice {G : cx_T} {s : Nat} {h : ah_T} (hx : xi s h) {a1 : Nat} {a2 : Nat} {a3 : Int} (ha1 : isS a1) (ha2 : isV a2) : con G 4 0 0 m_Judge_hearVoice [av_R (some 143), av_R (some a1), av_R (some a2), av_I a3] h (fun r h' => r = none ∧ kF FC s h h') := by
  refine con_of (L := [some (av_R (some 143)), some (av_R (some a1)), some (av_R (some a2)), some (av_I a3), none, none]) (by decide +kernel) (Nat.le_of_ble_eq_true rfl) rfl ?_
  have hS : isS s := hx.2.1
  have hs0 : s = 17 ∨ s = 80 := hS
  have hs0b : 17 ≤ s ∧ s ≤ 80 := by omega
  have k0 : kF FC s h h := kF_0 hx
  have ga2 := lt_V ha2
  refine A_locI 3 rfl (fun ra => ?_)
  obtain ⟨_, _⟩ := ra
  refine A_iconst d_Judge_hearVoice_0 rfl ?_
  refine A_istore (L' := [some (av_R (some 143)), some (av_R (some a1)), some (av_R (some a2)), some (av_I a3), some (av_I 0), none]) d_Judge_hearVoice_1 (Nat.le_of_ble_eq_true rfl) rfl ?_
  have lp3 : ∀ (n : Nat) (i1 : Int) (h2 : ah_T) , 0 ≤ i1 → i1 ≤ 4 → kF FC s h h2 → (5 - i1).toNat < n → aw G (rm_R 4 0 0) m_Judge_hearVoice 0 0 3 [some (av_R (some 143)), some (av_R (some a1)), some (av_R (some a2)), some (av_I a3), some (av_I i1), none] [] h2 (fun r h' => r = none ∧ kF FC s h h') := by
    intro n
    induction n with
    | zero => intro i1 h2 _ _ _ hm; omega
    | succ n ih3 =>
      intro i1 h2 hl0 hl1 k3 hm
      refine A_iload d_Judge_hearVoice_3 rfl ?_
      refine A_aload_n 0 d_Judge_hearVoice_5 rfl rfl ?_
      refine A_getAv (z := some 145) T_ok d_Judge_hearVoice_6 f_Judge_15 (xi_s k3.1 sf_143) (xi_r k3.1 rff_143_2) ?_
      refine A_alenN d_Judge_hearVoice_9 (xi_s k3.1 sf_145) (by decide) (by decide) ?_
      refine A_icmp_ge (tgt := 27) d_Judge_hearVoice_10 (by decide) (fun c5 => ?_) (fun c5 => ?_)
      · refine A_iconst d_Judge_hearVoice_27 rfl ?_
        refine A_istore (L' := [some (av_R (some 143)), some (av_R (some a1)), some (av_R (some a2)), some (av_I a3), some (av_I 0), none]) d_Judge_hearVoice_28 (Nat.le_of_ble_eq_true rfl) rfl ?_
        refine A_iconst d_Judge_hearVoice_30 rfl ?_
        refine A_istore (L' := [some (av_R (some 143)), some (av_R (some a1)), some (av_R (some a2)), some (av_I a3), some (av_I 0), some (av_I 0)]) d_Judge_hearVoice_31 (Nat.le_of_ble_eq_true rfl) rfl ?_
        have lp33 : ∀ (n : Nat) (i6 i7 : Int) (h8 : ah_T) , 0 ≤ i6 → i6 ≤ 101 → 0 ≤ i7 → i7 ≤ 301 → kF FC s h h8 → (302 - i7).toNat < n → aw G (rm_R 4 0 0) m_Judge_hearVoice 0 0 33 [some (av_R (some 143)), some (av_R (some a1)), some (av_R (some a2)), some (av_I a3), some (av_I i6), some (av_I i7)] [] h8 (fun r h' => r = none ∧ kF FC s h h') := by
          intro n
          induction n with
          | zero => intro i6 i7 h8 _ _ _ _ _ hm; omega
          | succ n ih33 =>
            intro i6 i7 h8 hl0 hl1 hl2 hl3 k9 hm
            refine A_iload d_Judge_hearVoice_33 rfl ?_
            refine A_aload_n 2 d_Judge_hearVoice_35 rfl rfl ?_
            refine A_getIn (lo := 0) (hi := 300) T_ok d_Judge_hearVoice_36 f_Judge_35 (xs_V k9.1 ha2) (xi_g k9.1 (lt1_V ha2) (rg_V_14 ha2)) (fun x10 ex10 _ _ => ?_)
            refine A_icmp_gt (tgt := 130) d_Judge_hearVoice_39 (by decide) (fun c11 => ?_) (fun c11 => ?_)
            · exact A_vret d_Judge_hearVoice_130 (by decide) rfl ⟨rfl, k9⟩
            · have lp42 : ∀ (n : Nat) (i12 : Int) (h13 : ah_T) , 0 ≤ i12 → i12 ≤ 101 → kF FC s h h13 → (102 - i12).toNat < n → aw G (rm_R 4 0 0) m_Judge_hearVoice 0 0 42 [some (av_R (some 143)), some (av_R (some a1)), some (av_R (some a2)), some (av_I a3), some (av_I i12), some (av_I i7)] [] h13 (fun r h' => r = none ∧ kF FC s h h') := by
                intro n
                induction n with
                | zero => intro i12 h13 _ _ _ hm; omega
                | succ n ih42 =>
                  intro i12 h13 hl0 hl1 k14 hm
                  refine A_iload d_Judge_hearVoice_42 rfl ?_
                  refine A_aload_n 2 d_Judge_hearVoice_44 rfl rfl ?_
                  refine A_getIn (lo := 0) (hi := 101) T_ok d_Judge_hearVoice_45 f_Judge_40 (xs_V k14.1 ha2) (xi_g k14.1 (lt1_V ha2) (rg_V_16 ha2)) (fun x15 ex15 _ _ => ?_)
                  refine A_icmp_ge (tgt := 89) d_Judge_hearVoice_48 (by decide) (fun c16 => ?_) (fun c16 => ?_)
                  · refine A_iload d_Judge_hearVoice_89 rfl ?_
                    refine A_aload_n 2 d_Judge_hearVoice_91 rfl rfl ?_
                    refine A_getIn (lo := 0) (hi := 300) T_ok d_Judge_hearVoice_92 f_Judge_35 (xs_V k14.1 ha2) (xi_g k14.1 (lt1_V ha2) (rg_V_14 ha2)) (fun x17 ex17 _ _ => ?_)
                    refine A_icmp_ge (tgt := 124) d_Judge_hearVoice_95 (by decide) (fun c18 => ?_) (fun c18 => ?_)
                    · refine A_iincv (z := (i7 + 1)) (L' := [some (av_R (some 143)), some (av_R (some a1)), some (av_R (some a2)), some (av_I a3), some (av_I i12), some (av_I (i7 + 1))]) d_Judge_hearVoice_124 rfl (w32_to (by omega) (by unfold i32; omega)) rfl ?_
                      refine A_goto (tgt := 33) d_Judge_hearVoice_127 (by decide) ?_
                      exact ih33 i12 (i7 + 1) h13 (by omega) (by omega) (by omega) (by omega) k14 (by omega)
                    · refine A_aload_n 0 d_Judge_hearVoice_98 rfl rfl ?_
                      refine A_aload_n 2 d_Judge_hearVoice_99 rfl rfl ?_
                      refine A_iload_n 3 d_Judge_hearVoice_100 rfl rfl ?_
                      refine A_iload d_Judge_hearVoice_101 rfl ?_
                      refine A_callV3 m_Judge_hearAlone T_ok d_Judge_hearVoice_103 l_Judge_54 k_Judge_hearAlone (xi_s k14.1 sf_143) rfl (by decide +kernel) (by decide) (Nat.le_of_ble_eq_true rfl) (s_Judge_hearAlone k14.1 ha2 (by omega) (by omega)) (fun r h19 hq => ?_)
                      obtain ⟨rfl, k20⟩ := hq
                      have k21 := kF_t k14 k20 (fun _ q => q)
                      refine A_aload_n 0 d_Judge_hearVoice_106 rfl rfl ?_
                      refine A_aload_n 1 d_Judge_hearVoice_107 rfl rfl ?_
                      refine A_aload_n 2 d_Judge_hearVoice_108 rfl rfl ?_
                      refine A_iload_n 3 d_Judge_hearVoice_109 rfl rfl ?_
                      refine A_iload d_Judge_hearVoice_110 rfl ?_
                      refine A_pc (pc' := 112) rfl ?_
                      refine A_callV4 m_Judge_hearCrossings T_ok d_Judge_hearVoice_112 l_Judge_58 k_Judge_hearCrossings (xi_s k21.1 sf_143) rfl (by decide +kernel) (by decide) (Nat.le_of_ble_eq_true rfl) (s_Judge_hearCrossings k21.1 ha1 ha2 (by omega) (by omega)) (fun r h22 hq => ?_)
                      obtain ⟨rfl, k23⟩ := hq
                      have k24 := kF_t k21 k23 (fun _ q => q)
                      refine A_aload_n 0 d_Judge_hearVoice_115 rfl rfl ?_
                      refine A_aload_n 1 d_Judge_hearVoice_116 rfl rfl ?_
                      refine A_aload_n 2 d_Judge_hearVoice_117 rfl rfl ?_
                      refine A_iload_n 3 d_Judge_hearVoice_118 rfl rfl ?_
                      refine A_iload d_Judge_hearVoice_119 rfl ?_
                      refine A_pc (pc' := 121) rfl ?_
                      refine A_callV4 m_Judge_hearParallels T_ok d_Judge_hearVoice_121 l_Judge_62 k_Judge_hearParallels (xi_s k24.1 sf_143) rfl (by decide +kernel) (by decide) (Nat.le_of_ble_eq_true rfl) (s_Judge_hearParallels k24.1 ha1 ha2 (by omega) (by omega)) (fun r h25 hq => ?_)
                      obtain ⟨rfl, k26⟩ := hq
                      have k27 := kF_t k24 k26 (fun _ q => q)
                      refine A_iincv (z := (i7 + 1)) (L' := [some (av_R (some 143)), some (av_R (some a1)), some (av_R (some a2)), some (av_I a3), some (av_I i12), some (av_I (i7 + 1))]) d_Judge_hearVoice_124 rfl (w32_to (by omega) (by unfold i32; omega)) rfl ?_
                      refine A_goto (tgt := 33) d_Judge_hearVoice_127 (by decide) ?_
                      exact ih33 i12 (i7 + 1) h25 (by omega) (by omega) (by omega) (by omega) k27 (by omega)
                  · refine A_aload_n 2 d_Judge_hearVoice_51 rfl rfl ?_
                    refine A_getAv (z := some (a2 + 13)) T_ok d_Judge_hearVoice_52 f_Judge_43 (xs_V k14.1 ha2) (xr_V_15 k14.1 ha2) ?_
                    refine A_iload d_Judge_hearVoice_55 rfl ?_
                    refine A_ialoadn (lo := 0) (hi := 300) d_Judge_hearVoice_57 (xs_V_15 k14.1 ha2) (by omega) (by omega) (xi_g k14.1 (lt2_V ha2 (by decide)) (rg_V_15 ha2 _)) (fun x29 ex29 _ _ => ?_)
                    refine A_iload d_Judge_hearVoice_58 rfl ?_
                    refine A_pc (pc' := 60) rfl ?_
                    refine A_icmp_gt (tgt := 89) d_Judge_hearVoice_60 (by decide) (fun c30 => ?_) (fun c30 => ?_)
                    · refine A_iload d_Judge_hearVoice_89 rfl ?_
                      refine A_aload_n 2 d_Judge_hearVoice_91 rfl rfl ?_
                      refine A_getIn (lo := 0) (hi := 300) T_ok d_Judge_hearVoice_92 f_Judge_35 (xs_V k14.1 ha2) (xi_g k14.1 (lt1_V ha2) (rg_V_14 ha2)) (fun x31 ex31 _ _ => ?_)
                      refine A_icmp_ge (tgt := 124) d_Judge_hearVoice_95 (by decide) (fun c32 => ?_) (fun c32 => ?_)
                      · refine A_iincv (z := (i7 + 1)) (L' := [some (av_R (some 143)), some (av_R (some a1)), some (av_R (some a2)), some (av_I a3), some (av_I i12), some (av_I (i7 + 1))]) d_Judge_hearVoice_124 rfl (w32_to (by omega) (by unfold i32; omega)) rfl ?_
                        refine A_goto (tgt := 33) d_Judge_hearVoice_127 (by decide) ?_
                        exact ih33 i12 (i7 + 1) h13 (by omega) (by omega) (by omega) (by omega) k14 (by omega)
                      · refine A_aload_n 0 d_Judge_hearVoice_98 rfl rfl ?_
                        refine A_aload_n 2 d_Judge_hearVoice_99 rfl rfl ?_
                        refine A_iload_n 3 d_Judge_hearVoice_100 rfl rfl ?_
                        refine A_iload d_Judge_hearVoice_101 rfl ?_
                        refine A_callV3 m_Judge_hearAlone T_ok d_Judge_hearVoice_103 l_Judge_54 k_Judge_hearAlone (xi_s k14.1 sf_143) rfl (by decide +kernel) (by decide) (Nat.le_of_ble_eq_true rfl) (s_Judge_hearAlone k14.1 ha2 (by omega) (by omega)) (fun r h33 hq => ?_)
                        obtain ⟨rfl, k34⟩ := hq
                        have k35 := kF_t k14 k34 (fun _ q => q)
                        refine A_aload_n 0 d_Judge_hearVoice_106 rfl rfl ?_
                        refine A_aload_n 1 d_Judge_hearVoice_107 rfl rfl ?_
                        refine A_aload_n 2 d_Judge_hearVoice_108 rfl rfl ?_
                        refine A_iload_n 3 d_Judge_hearVoice_109 rfl rfl ?_
                        refine A_iload d_Judge_hearVoice_110 rfl ?_
                        refine A_pc (pc' := 112) rfl ?_
                        refine A_callV4 m_Judge_hearCrossings T_ok d_Judge_hearVoice_112 l_Judge_58 k_Judge_hearCrossings (xi_s k35.1 sf_143) rfl (by decide +kernel) (by decide) (Nat.le_of_ble_eq_true rfl) (s_Judge_hearCrossings k35.1 ha1 ha2 (by omega) (by omega)) (fun r h36 hq => ?_)
                        obtain ⟨rfl, k37⟩ := hq
                        have k38 := kF_t k35 k37 (fun _ q => q)
                        refine A_aload_n 0 d_Judge_hearVoice_115 rfl rfl ?_
                        refine A_aload_n 1 d_Judge_hearVoice_116 rfl rfl ?_
                        refine A_aload_n 2 d_Judge_hearVoice_117 rfl rfl ?_
                        refine A_iload_n 3 d_Judge_hearVoice_118 rfl rfl ?_
                        refine A_iload d_Judge_hearVoice_119 rfl ?_
                        refine A_pc (pc' := 121) rfl ?_
                        refine A_callV4 m_Judge_hearParallels T_ok d_Judge_hearVoice_121 l_Judge_62 k_Judge_hearParallels (xi_s k38.1 sf_143) rfl (by decide +kernel) (by decide) (Nat.le_of_ble_eq_true rfl) (s_Judge_hearParallels k38.1 ha1 ha2 (by omega) (by omega)) (fun r h39 hq => ?_)
                        obtain ⟨rfl, k40⟩ := hq
                        have k41 := kF_t k38 k40 (fun _ q => q)
                        refine A_iincv (z := (i7 + 1)) (L' := [some (av_R (some 143)), some (av_R (some a1)), some (av_R (some a2)), some (av_I a3), some (av_I i12), some (av_I (i7 + 1))]) d_Judge_hearVoice_124 rfl (w32_to (by omega) (by unfold i32; omega)) rfl ?_
                        refine A_goto (tgt := 33) d_Judge_hearVoice_127 (by decide) ?_
                        exact ih33 i12 (i7 + 1) h39 (by omega) (by omega) (by omega) (by omega) k41 (by omega)
                    · refine A_aload_n 1 d_Judge_hearVoice_63 rfl rfl ?_
                      refine A_aload_n 2 d_Judge_hearVoice_64 rfl rfl ?_
                      refine A_iload d_Judge_hearVoice_65 rfl ?_
                      refine A_callS3 m_Judge_isWhole d_Judge_hearVoice_67 l_Judge_46 k_Judge_isWhole (by decide +kernel) (by decide) (Nat.le_of_ble_eq_true rfl) (s_Judge_isWhole k14.1 ha1 ha2 (by omega) (by omega)) (fun r h42 hq => ?_)
                      obtain ⟨x44, rfl, bx44, rfl⟩ := hq
                      refine A_if_ne (tgt := 83) d_Judge_hearVoice_70 (by decide) (fun c45 => ?_) (fun c45 => ?_)
                      · refine A_iincv (z := (i12 + 1)) (L' := [some (av_R (some 143)), some (av_R (some a1)), some (av_R (some a2)), some (av_I a3), some (av_I (i12 + 1)), some (av_I i7)]) d_Judge_hearVoice_83 rfl (w32_to (by omega) (by unfold i32; omega)) rfl ?_
                        refine A_goto (tgt := 42) d_Judge_hearVoice_86 (by decide) ?_
                        exact ih42 (i12 + 1) h13 (by omega) (by omega) k14 (by omega)
                      · refine A_aload_n 0 d_Judge_hearVoice_73 rfl rfl ?_
                        refine A_iconst d_Judge_hearVoice_74 rfl ?_
                        refine A_iload_n 3 d_Judge_hearVoice_75 rfl rfl ?_
                        refine A_iload d_Judge_hearVoice_76 rfl ?_
                        refine A_iload d_Judge_hearVoice_78 rfl ?_
                        refine A_pc (pc' := 80) rfl ?_
                        refine A_callV4 m_Judge_add T_ok d_Judge_hearVoice_80 l_Judge_50 k_Judge_add (xi_s k14.1 sf_143) rfl (by decide +kernel) (by decide) (Nat.le_of_ble_eq_true rfl) (s_Judge_add k14.1 ) (fun r h46 hq => ?_)
                        obtain ⟨rfl, k47⟩ := hq
                        have k48 := kF_t k14 k47 (fun _ q => q)
                        refine A_iincv (z := (i12 + 1)) (L' := [some (av_R (some 143)), some (av_R (some a1)), some (av_R (some a2)), some (av_I a3), some (av_I (i12 + 1)), some (av_I i7)]) d_Judge_hearVoice_83 rfl (w32_to (by omega) (by unfold i32; omega)) rfl ?_
                        refine A_goto (tgt := 42) d_Judge_hearVoice_86 (by decide) ?_
                        exact ih42 (i12 + 1) h46 (by omega) (by omega) k48 (by omega)
              exact lp42 _ i6 h8 (by omega) (by omega) k9 (Nat.lt_succ_self _)
        exact lp33 _ 0 0 h2 (by omega) (by omega) (by omega) (by omega) k3 (Nat.lt_succ_self _)
      · refine A_aload_n 0 d_Judge_hearVoice_13 rfl rfl ?_
        refine A_getAv (z := some 145) T_ok d_Judge_hearVoice_14 f_Judge_15 (xi_s k3.1 sf_143) (xi_r k3.1 rff_143_2) ?_
        refine A_iload d_Judge_hearVoice_17 rfl ?_
        refine A_iconst d_Judge_hearVoice_19 rfl ?_
        refine A_iastorek (KR := kF FC s h) d_Judge_hearVoice_20 (xi_s k3.1 sf_145) (by omega) (by omega) (kF_j k3 (by decide) (ns_b rfl) (rgf_145 _) (by omega) (by omega)) (fun h50 k51 eh50 => ?_)
        refine A_pc (pc' := 21) rfl ?_
        refine A_iincv (z := (i1 + 1)) (L' := [some (av_R (some 143)), some (av_R (some a1)), some (av_R (some a2)), some (av_I a3), some (av_I (i1 + 1)), none]) d_Judge_hearVoice_21 rfl (w32_to (by omega) (by unfold i32; omega)) rfl ?_
        refine A_goto (tgt := 3) d_Judge_hearVoice_24 (by decide) ?_
        exact ih3 (i1 + 1) h50 (by omega) (by omega) k51 (by omega)
  exact lp3 _ 0 h (by omega) (by omega) k0 (Nat.lt_succ_self _)
theorem s_Judge_hear {G : cx_T} {s : Nat} {h : ah_T} (hx : xi s h) {a1 : Nat} (ha1 : isS a1) : con G 5 0 0 m_Judge_hear [av_R (some 143), av_R (some a1)] h (fun r h' => ∃ z, r = some (av_I z) ∧ (0 ≤ z ∧ z ≤ 6404) ∧ kF FC s h h') := by
  refine con_of (L := [some (av_R (some 143)), some (av_R (some a1)), none, none]) (by decide +kernel) (Nat.le_of_ble_eq_true rfl) rfl ?_
  have hS : isS s := hx.2.1
  have hs0 : s = 17 ∨ s = 80 := hS
  have hs0b : 17 ≤ s ∧ s ≤ 80 := by omega
  have k0 : kF FC s h h := kF_0 hx
  refine A_aload_n 0 d_Judge_hear_0 rfl rfl ?_
  refine A_iconst d_Judge_hear_1 rfl ?_
  refine A_putIk (KR := kF FC s h) T_ok d_Judge_hear_2 f_Judge_18 (xi_s k0.1 sf_143) fin_f (kF_j k0 (by decide) (ns_b rfl) rgf_143_1 (by omega) (by omega)) (fun h1 k2 eh1 => ?_)
  refine A_iconst d_Judge_hear_5 rfl ?_
  refine A_istore_n 2 (L' := [some (av_R (some 143)), some (av_R (some a1)), some (av_I 0), none]) d_Judge_hear_6 rfl (Nat.le_of_ble_eq_true rfl) rfl ?_
  have lp7 : ∀ (n : Nat) (i3 : Int) (h4 : ah_T) , 0 ≤ i3 → i3 ≤ 4 → kF FC s h h4 → (5 - i3).toNat < n → aw G (rm_R 5 0 0) m_Judge_hear 0 0 7 [some (av_R (some 143)), some (av_R (some a1)), some (av_I i3), none] [] h4 (fun r h' => ∃ z, r = some (av_I z) ∧ (0 ≤ z ∧ z ≤ 6404) ∧ kF FC s h h') := by
    intro n
    induction n with
    | zero => intro i3 h4 _ _ _ hm; omega
    | succ n ih7 =>
      intro i3 h4 hl0 hl1 k5 hm
      refine A_iload_n 2 d_Judge_hear_7 rfl rfl ?_
      refine A_aload_n 1 d_Judge_hear_8 rfl rfl ?_
      refine A_getIn (lo := 0) (hi := 4) T_ok d_Judge_hear_9 f_Judge_22 (xs_S k5.1 ha1) (xi_g k5.1 (lt1_S ha1) (rg_S_1 ha1)) (fun x6 ex6 _ _ => ?_)
      refine A_icmp_ge (tgt := 38) d_Judge_hear_12 (by decide) (fun c7 => ?_) (fun c7 => ?_)
      · refine A_aload_n 0 d_Judge_hear_38 rfl rfl ?_
        refine A_getIn (lo := 0) (hi := 6404) T_ok d_Judge_hear_39 f_Judge_18 (xi_s k5.1 sf_143) (xi_g k5.1 (by decide) rgf_143_1) (fun x8 ex8 _ _ => ?_)
        exact A_iret d_Judge_hear_42 (by decide) rfl ⟨_, rfl, ⟨by omega, by omega⟩, k5⟩
      · refine A_aload_n 1 d_Judge_hear_15 rfl rfl ?_
        refine A_iload_n 2 d_Judge_hear_16 rfl rfl ?_
        refine A_callV1 m_Score_voiceAt T_ok d_Judge_hear_17 l_Judge_27 k_Score_voiceAt (xs_S k5.1 ha1) rfl (by decide +kernel) (by decide) (Nat.le_of_ble_eq_true rfl) (s_Score_voiceAt k5.1 ha1) (fun r h9 hq => ?_)
        obtain ⟨ox11, rfl, qx11, rfl⟩ := hq
        rcases qx11 with rfl | ⟨x11, rfl, tx11⟩
        · refine A_astore_n 3 (L' := [some (av_R (some 143)), some (av_R (some a1)), some (av_I i3), some (av_R none)]) d_Judge_hear_20 rfl (Nat.le_of_ble_eq_true rfl) rfl ?_
          refine A_aload_n 3 d_Judge_hear_21 rfl rfl ?_
          refine A_ifnull (tgt := 32) d_Judge_hear_22 (by decide) (fun _ => ?_) (fun a q => by cases q)
          refine A_iincv (z := (i3 + 1)) (L' := [some (av_R (some 143)), some (av_R (some a1)), some (av_I (i3 + 1)), some (av_R none)]) d_Judge_hear_32 rfl (w32_to (by omega) (by unfold i32; omega)) rfl ?_
          refine A_goto (tgt := 7) d_Judge_hear_35 (by decide) ?_
          refine A_free (L' := [some (av_R (some 143)), some (av_R (some a1)), some (av_I (i3 + 1)), none]) (And.intro rfl (And.intro rfl (And.intro rfl trivial))) ?_
          exact ih7 (i3 + 1) h4 (by omega) (by omega) k5 (by omega)
        · refine A_astore_n 3 (L' := [some (av_R (some 143)), some (av_R (some a1)), some (av_I i3), some (av_R (some x11))]) d_Judge_hear_20 rfl (Nat.le_of_ble_eq_true rfl) rfl ?_
          refine A_aload_n 3 d_Judge_hear_21 rfl rfl ?_
          refine A_ifnull (tgt := 32) d_Judge_hear_22 (by decide) (fun q => by cases q) (fun _ _ => ?_)
          refine A_aload_n 0 d_Judge_hear_25 rfl rfl ?_
          refine A_aload_n 1 d_Judge_hear_26 rfl rfl ?_
          refine A_aload_n 3 d_Judge_hear_27 rfl rfl ?_
          refine A_iload_n 2 d_Judge_hear_28 rfl rfl ?_
          refine A_callV3 m_Judge_hearVoice T_ok d_Judge_hear_29 l_Judge_31 k_Judge_hearVoice (xi_s k5.1 sf_143) rfl (by decide +kernel) (by decide) (Nat.le_of_ble_eq_true rfl) (s_Judge_hearVoice k5.1 ha1 (tV_V ha1 tx11)) (fun r h12 hq => ?_)
          obtain ⟨rfl, k13⟩ := hq
          have k14 := kF_t k5 k13 (fun _ q => q)
          refine A_iincv (z := (i3 + 1)) (L' := [some (av_R (some 143)), some (av_R (some a1)), some (av_I (i3 + 1)), some (av_R (some x11))]) d_Judge_hear_32 rfl (w32_to (by omega) (by unfold i32; omega)) rfl ?_
          refine A_goto (tgt := 7) d_Judge_hear_35 (by decide) ?_
          refine A_free (L' := [some (av_R (some 143)), some (av_R (some a1)), some (av_I (i3 + 1)), none]) (And.intro rfl (And.intro rfl (And.intro rfl trivial))) ?_
          exact ih7 (i3 + 1) h12 (by omega) (by omega) k14 (by omega)
  exact lp7 _ 0 h1 (by omega) (by omega) k2 (Nat.lt_succ_self _)

/-! ===== the class's methods, 22h ===== -/
def m_Beams_forget : mr_T := (⟨"PlainMusic$Beams", "forget", "()V"⟩, prog_2_method_2_code, 1, none)
theorem d_Beams_forget_0 : decode prog_2_method_2_code 0 = .ok (.aload_n 0, 1) := by decide +kernel
theorem d_Beams_forget_1 : decode prog_2_method_2_code 1 = .ok (.iconst 0, 1) := by decide +kernel
theorem d_Beams_forget_2 : decode prog_2_method_2_code 2 = .ok (.putfield 21, 3) := by decide +kernel
theorem f_Beams_21 : fl_OK "PlainMusic$Beams" 21 0 1 .int false := ⟨_, rfl, by decide, gwi_463, rfl, rfl⟩
theorem sf_146 : sh_L[146]? = some (0 + 4, 4) := by decide +kernel
theorem rgf_146_1 : rg 146 1 = (0, 14) := by decide +kernel
theorem d_Beams_forget_5 : decode prog_2_method_2_code 5 = .ok (.return_, 1) := by decide +kernel
def m_Beams_eventsIn : mr_T := (⟨"PlainMusic$Beams", "eventsIn", "(I)I"⟩, prog_2_method_3_code, 2, some .int)
theorem d_Beams_eventsIn_0 : decode prog_2_method_3_code 0 = .ok (.iload_n 1, 1) := by decide +kernel
theorem d_Beams_eventsIn_1 : decode prog_2_method_3_code 1 = .ok (.ifCond .lt 29, 3) := by decide +kernel
theorem d_Beams_eventsIn_30 : decode prog_2_method_3_code 30 = .ok (.iconst 0, 1) := by decide +kernel
theorem d_Beams_eventsIn_31 : decode prog_2_method_3_code 31 = .ok (.ireturn, 1) := by decide +kernel
theorem d_Beams_eventsIn_4 : decode prog_2_method_3_code 4 = .ok (.iload_n 1, 1) := by decide +kernel
theorem d_Beams_eventsIn_5 : decode prog_2_method_3_code 5 = .ok (.aload_n 0, 1) := by decide +kernel
theorem d_Beams_eventsIn_6 : decode prog_2_method_3_code 6 = .ok (.getfield 21, 3) := by decide +kernel
theorem d_Beams_eventsIn_9 : decode prog_2_method_3_code 9 = .ok (.if_icmp .ge 21, 3) := by decide +kernel
theorem d_Beams_eventsIn_12 : decode prog_2_method_3_code 12 = .ok (.iload_n 1, 1) := by decide +kernel
theorem d_Beams_eventsIn_13 : decode prog_2_method_3_code 13 = .ok (.aload_n 0, 1) := by decide +kernel
theorem d_Beams_eventsIn_14 : decode prog_2_method_3_code 14 = .ok (.getfield 11, 3) := by decide +kernel
theorem rff_146_0 : (146, 0, 147) ∈ rf_L := by decide +kernel
theorem d_Beams_eventsIn_17 : decode prog_2_method_3_code 17 = .ok (.arraylength, 1) := by decide +kernel
theorem sf_147 : sh_L[147]? = some (0, 14) := by decide +kernel
theorem d_Beams_eventsIn_18 : decode prog_2_method_3_code 18 = .ok (.if_icmp .ge 12, 3) := by decide +kernel
theorem d_Beams_eventsIn_21 : decode prog_2_method_3_code 21 = .ok (.aload_n 0, 1) := by decide +kernel
theorem d_Beams_eventsIn_22 : decode prog_2_method_3_code 22 = .ok (.getfield 11, 3) := by decide +kernel
theorem d_Beams_eventsIn_25 : decode prog_2_method_3_code 25 = .ok (.iload_n 1, 1) := by decide +kernel
theorem d_Beams_eventsIn_26 : decode prog_2_method_3_code 26 = .ok (.iaload, 1) := by decide +kernel
theorem rgf_147 (k : Nat) : rg 147 k = ((-2147483648), 2147483647) := rfl
theorem d_Beams_eventsIn_27 : decode prog_2_method_3_code 27 = .ok (.goto 4, 3) := by decide +kernel
def m_Beams_shortOnes : mr_T := (⟨"PlainMusic$Beams", "shortOnes", "(LPlainMusic$Voice;II)I"⟩, prog_2_method_5_code, 5, some .int)
theorem d_Beams_shortOnes_0 : decode prog_2_method_5_code 0 = .ok (.iconst 0, 1) := by decide +kernel
theorem d_Beams_shortOnes_1 : decode prog_2_method_5_code 1 = .ok (.istore_n 3, 1) := by decide +kernel
theorem d_Beams_shortOnes_2 : decode prog_2_method_5_code 2 = .ok (.iload_n 1, 1) := by decide +kernel
theorem d_Beams_shortOnes_3 : decode prog_2_method_5_code 3 = .ok (.istore 4, 2) := by decide +kernel
theorem d_Beams_shortOnes_5 : decode prog_2_method_5_code 5 = .ok (.iload 4, 2) := by decide +kernel
theorem d_Beams_shortOnes_7 : decode prog_2_method_5_code 7 = .ok (.iload_n 2, 1) := by decide +kernel
theorem d_Beams_shortOnes_8 : decode prog_2_method_5_code 8 = .ok (.if_icmp .ge 26, 3) := by decide +kernel
theorem d_Beams_shortOnes_34 : decode prog_2_method_5_code 34 = .ok (.iload_n 3, 1) := by decide +kernel
theorem d_Beams_shortOnes_35 : decode prog_2_method_5_code 35 = .ok (.ireturn, 1) := by decide +kernel
theorem d_Beams_shortOnes_11 : decode prog_2_method_5_code 11 = .ok (.iload_n 3, 1) := by decide +kernel
theorem d_Beams_shortOnes_12 : decode prog_2_method_5_code 12 = .ok (.aload_n 0, 1) := by decide +kernel
theorem d_Beams_shortOnes_13 : decode prog_2_method_5_code 13 = .ok (.iload 4, 2) := by decide +kernel
theorem d_Beams_shortOnes_15 : decode prog_2_method_5_code 15 = .ok (.invokevirtual 34, 3) := by decide +kernel
theorem k_Voice_isShort : mt_OK m_Voice_isShort 1 1 := ⟨gwi_1181, gwi_139, ⟨by decide +kernel, by decide +kernel, by decide +kernel⟩, fun h => absurd h (by decide), fun _ => ⟨gwi_1179, gwi_1180⟩, fun h => absurd h (by decide)⟩
theorem l_Beams_34 : ml_OK "PlainMusic$Beams" 34 ⟨"PlainMusic$Voice", "isShort", "(I)Z"⟩ := Or.inl gwi_1178
theorem d_Beams_shortOnes_18 : decode prog_2_method_5_code 18 = .ok (.ifCond .eq 7, 3) := by decide +kernel
theorem d_Beams_shortOnes_25 : decode prog_2_method_5_code 25 = .ok (.iconst 0, 1) := by decide +kernel
theorem d_Beams_shortOnes_26 : decode prog_2_method_5_code 26 = .ok (.iadd, 1) := by decide +kernel
theorem d_Beams_shortOnes_27 : decode prog_2_method_5_code 27 = .ok (.istore_n 3, 1) := by decide +kernel
theorem d_Beams_shortOnes_28 : decode prog_2_method_5_code 28 = .ok (.iinc 4 1, 3) := by decide +kernel
theorem d_Beams_shortOnes_31 : decode prog_2_method_5_code 31 = .ok (.goto (-26), 3) := by decide +kernel
theorem d_Beams_shortOnes_21 : decode prog_2_method_5_code 21 = .ok (.iconst 1, 1) := by decide +kernel
theorem d_Beams_shortOnes_22 : decode prog_2_method_5_code 22 = .ok (.goto 4, 3) := by decide +kernel
def m_Beams_joinCost : mr_T := (⟨"PlainMusic$Beams", "joinCost", "(LPlainMusic$Voice;III)I"⟩, prog_2_method_7_code, 8, some .int)
theorem d_Beams_joinCost_0 : decode prog_2_method_7_code 0 = .ok (.iconst 0, 1) := by decide +kernel
theorem d_Beams_joinCost_1 : decode prog_2_method_7_code 1 = .ok (.istore 4, 2) := by decide +kernel
theorem d_Beams_joinCost_3 : decode prog_2_method_7_code 3 = .ok (.aload_n 0, 1) := by decide +kernel
theorem d_Beams_joinCost_4 : decode prog_2_method_7_code 4 = .ok (.iload_n 1, 1) := by decide +kernel
theorem d_Beams_joinCost_5 : decode prog_2_method_7_code 5 = .ok (.iload_n 2, 1) := by decide +kernel
theorem d_Beams_joinCost_6 : decode prog_2_method_7_code 6 = .ok (.invokevirtual 52, 3) := by decide +kernel
theorem l_Beams_52 : ml_OK "PlainMusic$Beams" 52 ⟨"PlainMusic$Voice", "sinceBarBottom", "(II)J"⟩ := Or.inl gwi_1191
theorem d_Beams_joinCost_9 : decode prog_2_method_7_code 9 = .ok (.lstore 5, 2) := by decide +kernel
theorem d_Beams_joinCost_11 : decode prog_2_method_7_code 11 = .ok (.lload 5, 2) := by decide +kernel
theorem d_Beams_joinCost_13 : decode prog_2_method_7_code 13 = .ok (.lconst 0, 1) := by decide +kernel
theorem d_Beams_joinCost_14 : decode prog_2_method_7_code 14 = .ok (.lcmp, 1) := by decide +kernel
theorem d_Beams_joinCost_15 : decode prog_2_method_7_code 15 = .ok (.ifCond .le 23, 3) := by decide +kernel
theorem d_Beams_joinCost_18 : decode prog_2_method_7_code 18 = .ok (.aload_n 0, 1) := by decide +kernel
theorem d_Beams_joinCost_19 : decode prog_2_method_7_code 19 = .ok (.iload_n 1, 1) := by decide +kernel
theorem d_Beams_joinCost_20 : decode prog_2_method_7_code 20 = .ok (.iload_n 2, 1) := by decide +kernel
theorem d_Beams_joinCost_21 : decode prog_2_method_7_code 21 = .ok (.invokevirtual 56, 3) := by decide +kernel
theorem l_Beams_56 : ml_OK "PlainMusic$Beams" 56 ⟨"PlainMusic$Voice", "sinceBarTop", "(II)J"⟩ := Or.inl gwi_1192
theorem d_Beams_joinCost_24 : decode prog_2_method_7_code 24 = .ok (.iload_n 3, 1) := by decide +kernel
theorem d_Beams_joinCost_25 : decode prog_2_method_7_code 25 = .ok (.i2l, 1) := by decide +kernel
theorem d_Beams_joinCost_26 : decode prog_2_method_7_code 26 = .ok (.lmul, 1) := by decide +kernel
theorem d_Beams_joinCost_27 : decode prog_2_method_7_code 27 = .ok (.lload 5, 2) := by decide +kernel
theorem d_Beams_joinCost_29 : decode prog_2_method_7_code 29 = .ok (.lrem, 1) := by decide +kernel
theorem d_Beams_joinCost_30 : decode prog_2_method_7_code 30 = .ok (.lconst 0, 1) := by decide +kernel
theorem d_Beams_joinCost_31 : decode prog_2_method_7_code 31 = .ok (.lcmp, 1) := by decide +kernel
theorem d_Beams_joinCost_32 : decode prog_2_method_7_code 32 = .ok (.ifCond .ne 6, 3) := by decide +kernel
theorem d_Beams_joinCost_35 : decode prog_2_method_7_code 35 = .ok (.iinc 4 2, 3) := by decide +kernel
theorem d_Beams_joinCost_38 : decode prog_2_method_7_code 38 = .ok (.aload_n 0, 1) := by decide +kernel
theorem d_Beams_joinCost_39 : decode prog_2_method_7_code 39 = .ok (.iload_n 2, 1) := by decide +kernel
theorem d_Beams_joinCost_40 : decode prog_2_method_7_code 40 = .ok (.invokevirtual 59, 3) := by decide +kernel
theorem l_Beams_59 : ml_OK "PlainMusic$Beams" 59 ⟨"PlainMusic$Voice", "numberOf", "(I)I"⟩ := Or.inl gwi_1193
theorem d_Beams_joinCost_43 : decode prog_2_method_7_code 43 = .ok (.aload_n 0, 1) := by decide +kernel
theorem d_Beams_joinCost_44 : decode prog_2_method_7_code 44 = .ok (.iload_n 2, 1) := by decide +kernel
theorem d_Beams_joinCost_45 : decode prog_2_method_7_code 45 = .ok (.iconst 1, 1) := by decide +kernel
theorem d_Beams_joinCost_46 : decode prog_2_method_7_code 46 = .ok (.isub, 1) := by decide +kernel
theorem d_Beams_joinCost_47 : decode prog_2_method_7_code 47 = .ok (.invokevirtual 59, 3) := by decide +kernel
theorem d_Beams_joinCost_50 : decode prog_2_method_7_code 50 = .ok (.if_icmp .eq 6, 3) := by decide +kernel
theorem d_Beams_joinCost_53 : decode prog_2_method_7_code 53 = .ok (.iinc 4 1, 3) := by decide +kernel
theorem d_Beams_joinCost_56 : decode prog_2_method_7_code 56 = .ok (.aload_n 0, 1) := by decide +kernel
theorem d_Beams_joinCost_57 : decode prog_2_method_7_code 57 = .ok (.iload_n 2, 1) := by decide +kernel
theorem d_Beams_joinCost_58 : decode prog_2_method_7_code 58 = .ok (.iconst 0, 1) := by decide +kernel
theorem d_Beams_joinCost_59 : decode prog_2_method_7_code 59 = .ok (.invokevirtual 63, 3) := by decide +kernel
theorem l_Beams_63 : ml_OK "PlainMusic$Beams" 63 ⟨"PlainMusic$Voice", "stepOf", "(II)I"⟩ := Or.inl gwi_1194
theorem d_Beams_joinCost_62 : decode prog_2_method_7_code 62 = .ok (.aload_n 0, 1) := by decide +kernel
theorem d_Beams_joinCost_63 : decode prog_2_method_7_code 63 = .ok (.iload_n 2, 1) := by decide +kernel
theorem d_Beams_joinCost_64 : decode prog_2_method_7_code 64 = .ok (.iconst 1, 1) := by decide +kernel
theorem d_Beams_joinCost_65 : decode prog_2_method_7_code 65 = .ok (.isub, 1) := by decide +kernel
theorem d_Beams_joinCost_66 : decode prog_2_method_7_code 66 = .ok (.iconst 0, 1) := by decide +kernel
theorem d_Beams_joinCost_67 : decode prog_2_method_7_code 67 = .ok (.invokevirtual 63, 3) := by decide +kernel
theorem d_Beams_joinCost_70 : decode prog_2_method_7_code 70 = .ok (.isub, 1) := by decide +kernel
theorem d_Beams_joinCost_71 : decode prog_2_method_7_code 71 = .ok (.invokestatic 66, 3) := by decide +kernel
theorem lm_Beams_66 : Cond.methodLink "PlainMusic$Beams" 66 Lib.Math.abs.name ∈ gw := gwi_1195
theorem d_Beams_joinCost_74 : decode prog_2_method_7_code 74 = .ok (.istore 7, 2) := by decide +kernel
theorem d_Beams_joinCost_76 : decode prog_2_method_7_code 76 = .ok (.iload 4, 2) := by decide +kernel
theorem d_Beams_joinCost_78 : decode prog_2_method_7_code 78 = .ok (.iconst 0, 1) := by decide +kernel
theorem d_Beams_joinCost_79 : decode prog_2_method_7_code 79 = .ok (.iload 7, 2) := by decide +kernel
theorem d_Beams_joinCost_81 : decode prog_2_method_7_code 81 = .ok (.iconst 4, 1) := by decide +kernel
theorem d_Beams_joinCost_82 : decode prog_2_method_7_code 82 = .ok (.isub, 1) := by decide +kernel
theorem d_Beams_joinCost_83 : decode prog_2_method_7_code 83 = .ok (.invokestatic 69, 3) := by decide +kernel
theorem lm_Beams_69 : Cond.methodLink "PlainMusic$Beams" 69 Lib.Math.max.name ∈ gw := gwi_1196
theorem d_Beams_joinCost_86 : decode prog_2_method_7_code 86 = .ok (.iadd, 1) := by decide +kernel
theorem d_Beams_joinCost_87 : decode prog_2_method_7_code 87 = .ok (.ireturn, 1) := by decide +kernel
def m_Beams_cutRun : mr_T := (⟨"PlainMusic$Beams", "cutRun", "(LPlainMusic$Voice;IIII)I"⟩, prog_2_method_6_code, 10, some .int)
theorem d_Beams_cutRun_0 : decode prog_2_method_6_code 0 = .ok (.iload 4, 2) := by decide +kernel
theorem d_Beams_cutRun_2 : decode prog_2_method_6_code 2 = .ok (.iload_n 3, 1) := by decide +kernel
theorem d_Beams_cutRun_3 : decode prog_2_method_6_code 3 = .ok (.isub, 1) := by decide +kernel
theorem d_Beams_cutRun_4 : decode prog_2_method_6_code 4 = .ok (.bipush 14, 2) := by decide +kernel
theorem d_Beams_cutRun_6 : decode prog_2_method_6_code 6 = .ok (.invokestatic 42, 3) := by decide +kernel
theorem lm_Beams_42 : Cond.methodLink "PlainMusic$Beams" 42 Lib.Math.min.name ∈ gw := gwi_1187
theorem d_Beams_cutRun_9 : decode prog_2_method_6_code 9 = .ok (.istore 6, 2) := by decide +kernel
theorem d_Beams_cutRun_11 : decode prog_2_method_6_code 11 = .ok (.iload 6, 2) := by decide +kernel
theorem d_Beams_cutRun_13 : decode prog_2_method_6_code 13 = .ok (.ifCond .gt 5, 3) := by decide +kernel
theorem d_Beams_cutRun_18 : decode prog_2_method_6_code 18 = .ok (.aload_n 0, 1) := by decide +kernel
theorem d_Beams_cutRun_19 : decode prog_2_method_6_code 19 = .ok (.getfield 15, 3) := by decide +kernel
theorem rff_146_2 : (146, 2, 148) ∈ rf_L := by decide +kernel
theorem d_Beams_cutRun_22 : decode prog_2_method_6_code 22 = .ok (.iload 6, 2) := by decide +kernel
theorem d_Beams_cutRun_24 : decode prog_2_method_6_code 24 = .ok (.iconst 0, 1) := by decide +kernel
theorem d_Beams_cutRun_25 : decode prog_2_method_6_code 25 = .ok (.iastore, 1) := by decide +kernel
theorem sf_148 : sh_L[148]? = some (0, 15) := by decide +kernel
theorem rgf_148 (k : Nat) : rg 148 k = ((-2147483648), 2147483647) := rfl
theorem d_Beams_cutRun_26 : decode prog_2_method_6_code 26 = .ok (.iload 6, 2) := by decide +kernel
theorem d_Beams_cutRun_28 : decode prog_2_method_6_code 28 = .ok (.iconst 1, 1) := by decide +kernel
theorem d_Beams_cutRun_29 : decode prog_2_method_6_code 29 = .ok (.isub, 1) := by decide +kernel
theorem d_Beams_cutRun_30 : decode prog_2_method_6_code 30 = .ok (.istore 7, 2) := by decide +kernel
theorem d_Beams_cutRun_32 : decode prog_2_method_6_code 32 = .ok (.iload 7, 2) := by decide +kernel
theorem d_Beams_cutRun_34 : decode prog_2_method_6_code 34 = .ok (.ifCond .lt 137, 3) := by decide +kernel
theorem d_Beams_cutRun_37 : decode prog_2_method_6_code 37 = .ok (.aload_n 0, 1) := by decide +kernel
theorem d_Beams_cutRun_38 : decode prog_2_method_6_code 38 = .ok (.getfield 18, 3) := by decide +kernel
theorem rff_146_3 : (146, 3, 149) ∈ rf_L := by decide +kernel
theorem d_Beams_cutRun_41 : decode prog_2_method_6_code 41 = .ok (.iload 7, 2) := by decide +kernel
theorem d_Beams_cutRun_43 : decode prog_2_method_6_code 43 = .ok (.iconst 1, 1) := by decide +kernel
theorem d_Beams_cutRun_44 : decode prog_2_method_6_code 44 = .ok (.iastore, 1) := by decide +kernel
theorem sf_149 : sh_L[149]? = some (0, 15) := by decide +kernel
theorem rgf_149 (k : Nat) : rg 149 k = (0, 6) := rfl
theorem d_Beams_cutRun_45 : decode prog_2_method_6_code 45 = .ok (.aload_n 0, 1) := by decide +kernel
theorem d_Beams_cutRun_46 : decode prog_2_method_6_code 46 = .ok (.getfield 15, 3) := by decide +kernel
theorem d_Beams_cutRun_49 : decode prog_2_method_6_code 49 = .ok (.iload 7, 2) := by decide +kernel
theorem d_Beams_cutRun_51 : decode prog_2_method_6_code 51 = .ok (.iconst 3, 1) := by decide +kernel
theorem d_Beams_cutRun_52 : decode prog_2_method_6_code 52 = .ok (.aload_n 0, 1) := by decide +kernel
theorem d_Beams_cutRun_53 : decode prog_2_method_6_code 53 = .ok (.getfield 15, 3) := by decide +kernel
theorem d_Beams_cutRun_56 : decode prog_2_method_6_code 56 = .ok (.iload 7, 2) := by decide +kernel
theorem d_Beams_cutRun_58 : decode prog_2_method_6_code 58 = .ok (.iconst 1, 1) := by decide +kernel
theorem d_Beams_cutRun_59 : decode prog_2_method_6_code 59 = .ok (.iadd, 1) := by decide +kernel
theorem d_Beams_cutRun_60 : decode prog_2_method_6_code 60 = .ok (.iaload, 1) := by decide +kernel
theorem d_Beams_cutRun_61 : decode prog_2_method_6_code 61 = .ok (.iadd, 1) := by decide +kernel
theorem d_Beams_cutRun_62 : decode prog_2_method_6_code 62 = .ok (.iastore, 1) := by decide +kernel
theorem d_Beams_cutRun_63 : decode prog_2_method_6_code 63 = .ok (.iconst 1, 1) := by decide +kernel
theorem d_Beams_cutRun_64 : decode prog_2_method_6_code 64 = .ok (.istore 8, 2) := by decide +kernel
theorem d_Beams_cutRun_66 : decode prog_2_method_6_code 66 = .ok (.iconst 2, 1) := by decide +kernel
theorem d_Beams_cutRun_67 : decode prog_2_method_6_code 67 = .ok (.istore 9, 2) := by decide +kernel
theorem d_Beams_cutRun_69 : decode prog_2_method_6_code 69 = .ok (.iload 9, 2) := by decide +kernel
theorem d_Beams_cutRun_71 : decode prog_2_method_6_code 71 = .ok (.bipush 6, 2) := by decide +kernel
theorem d_Beams_cutRun_73 : decode prog_2_method_6_code 73 = .ok (.if_icmp .gt 92, 3) := by decide +kernel
theorem d_Beams_cutRun_76 : decode prog_2_method_6_code 76 = .ok (.iload 7, 2) := by decide +kernel
theorem d_Beams_cutRun_78 : decode prog_2_method_6_code 78 = .ok (.iload 9, 2) := by decide +kernel
theorem d_Beams_cutRun_80 : decode prog_2_method_6_code 80 = .ok (.iadd, 1) := by decide +kernel
theorem d_Beams_cutRun_81 : decode prog_2_method_6_code 81 = .ok (.iload 6, 2) := by decide +kernel
theorem d_Beams_cutRun_83 : decode prog_2_method_6_code 83 = .ok (.if_icmp .gt 82, 3) := by decide +kernel
theorem d_Beams_cutRun_165 : decode prog_2_method_6_code 165 = .ok (.iinc 7 (-1), 3) := by decide +kernel
theorem d_Beams_cutRun_168 : decode prog_2_method_6_code 168 = .ok (.goto (-136), 3) := by decide +kernel
theorem d_Beams_cutRun_86 : decode prog_2_method_6_code 86 = .ok (.iload 8, 2) := by decide +kernel
theorem d_Beams_cutRun_88 : decode prog_2_method_6_code 88 = .ok (.aload_n 1, 1) := by decide +kernel
theorem d_Beams_cutRun_89 : decode prog_2_method_6_code 89 = .ok (.iload_n 2, 1) := by decide +kernel
theorem d_Beams_cutRun_90 : decode prog_2_method_6_code 90 = .ok (.iload_n 3, 1) := by decide +kernel
theorem d_Beams_cutRun_91 : decode prog_2_method_6_code 91 = .ok (.iload 7, 2) := by decide +kernel
theorem d_Beams_cutRun_93 : decode prog_2_method_6_code 93 = .ok (.iadd, 1) := by decide +kernel
theorem d_Beams_cutRun_94 : decode prog_2_method_6_code 94 = .ok (.iload 9, 2) := by decide +kernel
theorem d_Beams_cutRun_96 : decode prog_2_method_6_code 96 = .ok (.iadd, 1) := by decide +kernel
theorem d_Beams_cutRun_97 : decode prog_2_method_6_code 97 = .ok (.iconst 1, 1) := by decide +kernel
theorem d_Beams_cutRun_98 : decode prog_2_method_6_code 98 = .ok (.isub, 1) := by decide +kernel
theorem d_Beams_cutRun_99 : decode prog_2_method_6_code 99 = .ok (.iload 5, 2) := by decide +kernel
theorem d_Beams_cutRun_101 : decode prog_2_method_6_code 101 = .ok (.invokestatic 48, 3) := by decide +kernel
theorem k_Beams_joinCost : mt_OK m_Beams_joinCost 4 0 := ⟨gwi_1190, gwi_141, ⟨by decide +kernel, by decide +kernel, by decide +kernel⟩, fun _ => gwi_1189, fun h => absurd h (by decide), fun h => absurd h (by decide)⟩
theorem l_Beams_48 : ml_OK "PlainMusic$Beams" 48 ⟨"PlainMusic$Beams", "joinCost", "(LPlainMusic$Voice;III)I"⟩ := Or.inl gwi_1188
theorem d_Beams_cutRun_104 : decode prog_2_method_6_code 104 = .ok (.iadd, 1) := by decide +kernel
theorem d_Beams_cutRun_105 : decode prog_2_method_6_code 105 = .ok (.istore 8, 2) := by decide +kernel
theorem d_Beams_cutRun_107 : decode prog_2_method_6_code 107 = .ok (.iload 8, 2) := by decide +kernel
theorem d_Beams_cutRun_109 : decode prog_2_method_6_code 109 = .ok (.aload_n 0, 1) := by decide +kernel
theorem d_Beams_cutRun_110 : decode prog_2_method_6_code 110 = .ok (.getfield 15, 3) := by decide +kernel
theorem d_Beams_cutRun_113 : decode prog_2_method_6_code 113 = .ok (.iload 7, 2) := by decide +kernel
theorem d_Beams_cutRun_115 : decode prog_2_method_6_code 115 = .ok (.iload 9, 2) := by decide +kernel
theorem d_Beams_cutRun_117 : decode prog_2_method_6_code 117 = .ok (.iadd, 1) := by decide +kernel
theorem d_Beams_cutRun_118 : decode prog_2_method_6_code 118 = .ok (.iaload, 1) := by decide +kernel
theorem d_Beams_cutRun_119 : decode prog_2_method_6_code 119 = .ok (.iadd, 1) := by decide +kernel
theorem d_Beams_cutRun_120 : decode prog_2_method_6_code 120 = .ok (.aload_n 0, 1) := by decide +kernel
theorem d_Beams_cutRun_121 : decode prog_2_method_6_code 121 = .ok (.getfield 15, 3) := by decide +kernel
theorem d_Beams_cutRun_124 : decode prog_2_method_6_code 124 = .ok (.iload 7, 2) := by decide +kernel
theorem d_Beams_cutRun_126 : decode prog_2_method_6_code 126 = .ok (.iaload, 1) := by decide +kernel
theorem d_Beams_cutRun_127 : decode prog_2_method_6_code 127 = .ok (.if_icmp .gt 32, 3) := by decide +kernel
theorem d_Beams_cutRun_159 : decode prog_2_method_6_code 159 = .ok (.iinc 9 1, 3) := by decide +kernel
theorem d_Beams_cutRun_162 : decode prog_2_method_6_code 162 = .ok (.goto (-93), 3) := by decide +kernel
theorem d_Beams_cutRun_130 : decode prog_2_method_6_code 130 = .ok (.aload_n 0, 1) := by decide +kernel
theorem d_Beams_cutRun_131 : decode prog_2_method_6_code 131 = .ok (.getfield 18, 3) := by decide +kernel
theorem d_Beams_cutRun_134 : decode prog_2_method_6_code 134 = .ok (.iload 7, 2) := by decide +kernel
theorem d_Beams_cutRun_136 : decode prog_2_method_6_code 136 = .ok (.iload 9, 2) := by decide +kernel
theorem d_Beams_cutRun_138 : decode prog_2_method_6_code 138 = .ok (.iastore, 1) := by decide +kernel
theorem d_Beams_cutRun_139 : decode prog_2_method_6_code 139 = .ok (.aload_n 0, 1) := by decide +kernel
theorem d_Beams_cutRun_140 : decode prog_2_method_6_code 140 = .ok (.getfield 15, 3) := by decide +kernel
theorem d_Beams_cutRun_143 : decode prog_2_method_6_code 143 = .ok (.iload 7, 2) := by decide +kernel
theorem d_Beams_cutRun_145 : decode prog_2_method_6_code 145 = .ok (.iload 8, 2) := by decide +kernel
theorem d_Beams_cutRun_147 : decode prog_2_method_6_code 147 = .ok (.aload_n 0, 1) := by decide +kernel
theorem d_Beams_cutRun_148 : decode prog_2_method_6_code 148 = .ok (.getfield 15, 3) := by decide +kernel
theorem d_Beams_cutRun_151 : decode prog_2_method_6_code 151 = .ok (.iload 7, 2) := by decide +kernel
theorem d_Beams_cutRun_153 : decode prog_2_method_6_code 153 = .ok (.iload 9, 2) := by decide +kernel
theorem d_Beams_cutRun_155 : decode prog_2_method_6_code 155 = .ok (.iadd, 1) := by decide +kernel
theorem d_Beams_cutRun_156 : decode prog_2_method_6_code 156 = .ok (.iaload, 1) := by decide +kernel
theorem d_Beams_cutRun_157 : decode prog_2_method_6_code 157 = .ok (.iadd, 1) := by decide +kernel
theorem d_Beams_cutRun_158 : decode prog_2_method_6_code 158 = .ok (.iastore, 1) := by decide +kernel
theorem d_Beams_cutRun_171 : decode prog_2_method_6_code 171 = .ok (.iconst 0, 1) := by decide +kernel
theorem d_Beams_cutRun_172 : decode prog_2_method_6_code 172 = .ok (.istore 7, 2) := by decide +kernel
theorem d_Beams_cutRun_174 : decode prog_2_method_6_code 174 = .ok (.iload 7, 2) := by decide +kernel
theorem d_Beams_cutRun_176 : decode prog_2_method_6_code 176 = .ok (.iload 6, 2) := by decide +kernel
theorem d_Beams_cutRun_178 : decode prog_2_method_6_code 178 = .ok (.if_icmp .ge 56, 3) := by decide +kernel
theorem d_Beams_cutRun_181 : decode prog_2_method_6_code 181 = .ok (.aload_n 0, 1) := by decide +kernel
theorem d_Beams_cutRun_182 : decode prog_2_method_6_code 182 = .ok (.getfield 21, 3) := by decide +kernel
theorem d_Beams_cutRun_185 : decode prog_2_method_6_code 185 = .ok (.aload_n 0, 1) := by decide +kernel
theorem d_Beams_cutRun_186 : decode prog_2_method_6_code 186 = .ok (.getfield 11, 3) := by decide +kernel
theorem d_Beams_cutRun_189 : decode prog_2_method_6_code 189 = .ok (.arraylength, 1) := by decide +kernel
theorem d_Beams_cutRun_190 : decode prog_2_method_6_code 190 = .ok (.if_icmp .ge 44, 3) := by decide +kernel
theorem d_Beams_cutRun_234 : decode prog_2_method_6_code 234 = .ok (.aload_n 0, 1) := by decide +kernel
theorem d_Beams_cutRun_235 : decode prog_2_method_6_code 235 = .ok (.getfield 15, 3) := by decide +kernel
theorem d_Beams_cutRun_238 : decode prog_2_method_6_code 238 = .ok (.iconst 0, 1) := by decide +kernel
theorem d_Beams_cutRun_239 : decode prog_2_method_6_code 239 = .ok (.iaload, 1) := by decide +kernel
theorem d_Beams_cutRun_240 : decode prog_2_method_6_code 240 = .ok (.ireturn, 1) := by decide +kernel
theorem d_Beams_cutRun_193 : decode prog_2_method_6_code 193 = .ok (.aload_n 0, 1) := by decide +kernel
theorem d_Beams_cutRun_194 : decode prog_2_method_6_code 194 = .ok (.getfield 11, 3) := by decide +kernel
theorem d_Beams_cutRun_197 : decode prog_2_method_6_code 197 = .ok (.aload_n 0, 1) := by decide +kernel
theorem d_Beams_cutRun_198 : decode prog_2_method_6_code 198 = .ok (.getfield 21, 3) := by decide +kernel
theorem d_Beams_cutRun_201 : decode prog_2_method_6_code 201 = .ok (.aload_n 0, 1) := by decide +kernel
theorem d_Beams_cutRun_202 : decode prog_2_method_6_code 202 = .ok (.getfield 18, 3) := by decide +kernel
theorem d_Beams_cutRun_205 : decode prog_2_method_6_code 205 = .ok (.iload 7, 2) := by decide +kernel
theorem d_Beams_cutRun_207 : decode prog_2_method_6_code 207 = .ok (.iaload, 1) := by decide +kernel
theorem d_Beams_cutRun_208 : decode prog_2_method_6_code 208 = .ok (.iastore, 1) := by decide +kernel
theorem d_Beams_cutRun_209 : decode prog_2_method_6_code 209 = .ok (.aload_n 0, 1) := by decide +kernel
theorem d_Beams_cutRun_210 : decode prog_2_method_6_code 210 = .ok (.dup, 1) := by decide +kernel
theorem d_Beams_cutRun_211 : decode prog_2_method_6_code 211 = .ok (.getfield 21, 3) := by decide +kernel
theorem d_Beams_cutRun_214 : decode prog_2_method_6_code 214 = .ok (.iconst 1, 1) := by decide +kernel
theorem d_Beams_cutRun_215 : decode prog_2_method_6_code 215 = .ok (.iadd, 1) := by decide +kernel
theorem d_Beams_cutRun_216 : decode prog_2_method_6_code 216 = .ok (.putfield 21, 3) := by decide +kernel
theorem d_Beams_cutRun_219 : decode prog_2_method_6_code 219 = .ok (.iload 7, 2) := by decide +kernel
theorem d_Beams_cutRun_221 : decode prog_2_method_6_code 221 = .ok (.aload_n 0, 1) := by decide +kernel
theorem d_Beams_cutRun_222 : decode prog_2_method_6_code 222 = .ok (.getfield 18, 3) := by decide +kernel
theorem d_Beams_cutRun_225 : decode prog_2_method_6_code 225 = .ok (.iload 7, 2) := by decide +kernel
theorem d_Beams_cutRun_227 : decode prog_2_method_6_code 227 = .ok (.iaload, 1) := by decide +kernel
theorem d_Beams_cutRun_228 : decode prog_2_method_6_code 228 = .ok (.iadd, 1) := by decide +kernel
theorem d_Beams_cutRun_229 : decode prog_2_method_6_code 229 = .ok (.istore 7, 2) := by decide +kernel
theorem d_Beams_cutRun_231 : decode prog_2_method_6_code 231 = .ok (.goto (-57), 3) := by decide +kernel
theorem d_Beams_cutRun_16 : decode prog_2_method_6_code 16 = .ok (.iconst 0, 1) := by decide +kernel
theorem d_Beams_cutRun_17 : decode prog_2_method_6_code 17 = .ok (.ireturn, 1) := by decide +kernel
def m_Beams_find : mr_T := (⟨"PlainMusic$Beams", "find", "(LPlainMusic$Voice;II)I"⟩, prog_2_method_4_code, 9, some .int)
theorem d_Beams_find_0 : decode prog_2_method_4_code 0 = .ok (.aload_n 1, 1) := by decide +kernel
theorem d_Beams_find_1 : decode prog_2_method_4_code 1 = .ok (.getfield 25, 3) := by decide +kernel
theorem f_Beams_25 : fl_OK "PlainMusic$Beams" 25 10 15 (.array .int) true := ⟨_, rfl, by decide, gwi_306, rfl, rfl⟩
theorem d_Beams_find_4 : decode prog_2_method_4_code 4 = .ok (.iload_n 2, 1) := by decide +kernel
theorem d_Beams_find_5 : decode prog_2_method_4_code 5 = .ok (.iaload, 1) := by decide +kernel
theorem d_Beams_find_6 : decode prog_2_method_4_code 6 = .ok (.istore 4, 2) := by decide +kernel
theorem d_Beams_find_8 : decode prog_2_method_4_code 8 = .ok (.aload_n 1, 1) := by decide +kernel
theorem d_Beams_find_9 : decode prog_2_method_4_code 9 = .ok (.getfield 25, 3) := by decide +kernel
theorem d_Beams_find_12 : decode prog_2_method_4_code 12 = .ok (.iload_n 2, 1) := by decide +kernel
theorem d_Beams_find_13 : decode prog_2_method_4_code 13 = .ok (.iconst 1, 1) := by decide +kernel
theorem d_Beams_find_14 : decode prog_2_method_4_code 14 = .ok (.iadd, 1) := by decide +kernel
theorem d_Beams_find_15 : decode prog_2_method_4_code 15 = .ok (.iaload, 1) := by decide +kernel
theorem d_Beams_find_16 : decode prog_2_method_4_code 16 = .ok (.istore 5, 2) := by decide +kernel
theorem d_Beams_find_18 : decode prog_2_method_4_code 18 = .ok (.aload_n 1, 1) := by decide +kernel
theorem d_Beams_find_19 : decode prog_2_method_4_code 19 = .ok (.iload 4, 2) := by decide +kernel
theorem d_Beams_find_21 : decode prog_2_method_4_code 21 = .ok (.iload 5, 2) := by decide +kernel
theorem d_Beams_find_23 : decode prog_2_method_4_code 23 = .ok (.invokestatic 30, 3) := by decide +kernel
theorem k_Beams_shortOnes : mt_OK m_Beams_shortOnes 3 0 := ⟨gwi_1177, gwi_141, ⟨by decide +kernel, by decide +kernel, by decide +kernel⟩, fun _ => gwi_1176, fun h => absurd h (by decide), fun h => absurd h (by decide)⟩
theorem l_Beams_30 : ml_OK "PlainMusic$Beams" 30 ⟨"PlainMusic$Beams", "shortOnes", "(LPlainMusic$Voice;II)I"⟩ := Or.inl gwi_1175
theorem d_Beams_find_26 : decode prog_2_method_4_code 26 = .ok (.bipush 14, 2) := by decide +kernel
theorem d_Beams_find_28 : decode prog_2_method_4_code 28 = .ok (.if_icmp .le 6, 3) := by decide +kernel
theorem d_Beams_find_34 : decode prog_2_method_4_code 34 = .ok (.aload_n 0, 1) := by decide +kernel
theorem d_Beams_find_35 : decode prog_2_method_4_code 35 = .ok (.iconst 0, 1) := by decide +kernel
theorem d_Beams_find_36 : decode prog_2_method_4_code 36 = .ok (.putfield 21, 3) := by decide +kernel
theorem d_Beams_find_39 : decode prog_2_method_4_code 39 = .ok (.iconst 0, 1) := by decide +kernel
theorem d_Beams_find_40 : decode prog_2_method_4_code 40 = .ok (.istore 6, 2) := by decide +kernel
theorem d_Beams_find_42 : decode prog_2_method_4_code 42 = .ok (.iload 4, 2) := by decide +kernel
theorem d_Beams_find_44 : decode prog_2_method_4_code 44 = .ok (.istore 7, 2) := by decide +kernel
theorem d_Beams_find_46 : decode prog_2_method_4_code 46 = .ok (.iload 4, 2) := by decide +kernel
theorem d_Beams_find_48 : decode prog_2_method_4_code 48 = .ok (.istore 8, 2) := by decide +kernel
theorem d_Beams_find_50 : decode prog_2_method_4_code 50 = .ok (.iload 8, 2) := by decide +kernel
theorem d_Beams_find_52 : decode prog_2_method_4_code 52 = .ok (.iload 5, 2) := by decide +kernel
theorem d_Beams_find_54 : decode prog_2_method_4_code 54 = .ok (.if_icmp .gt 47, 3) := by decide +kernel
theorem d_Beams_find_101 : decode prog_2_method_4_code 101 = .ok (.iload 6, 2) := by decide +kernel
theorem d_Beams_find_103 : decode prog_2_method_4_code 103 = .ok (.ireturn, 1) := by decide +kernel
theorem d_Beams_find_57 : decode prog_2_method_4_code 57 = .ok (.iload 8, 2) := by decide +kernel
theorem d_Beams_find_59 : decode prog_2_method_4_code 59 = .ok (.iload 5, 2) := by decide +kernel
theorem d_Beams_find_61 : decode prog_2_method_4_code 61 = .ok (.if_icmp .eq 12, 3) := by decide +kernel
theorem d_Beams_find_73 : decode prog_2_method_4_code 73 = .ok (.iload 6, 2) := by decide +kernel
theorem d_Beams_find_75 : decode prog_2_method_4_code 75 = .ok (.aload_n 0, 1) := by decide +kernel
theorem d_Beams_find_76 : decode prog_2_method_4_code 76 = .ok (.aload_n 1, 1) := by decide +kernel
theorem d_Beams_find_77 : decode prog_2_method_4_code 77 = .ok (.iload_n 2, 1) := by decide +kernel
theorem d_Beams_find_78 : decode prog_2_method_4_code 78 = .ok (.iload 7, 2) := by decide +kernel
theorem d_Beams_find_80 : decode prog_2_method_4_code 80 = .ok (.iload 8, 2) := by decide +kernel
theorem d_Beams_find_82 : decode prog_2_method_4_code 82 = .ok (.iload_n 3, 1) := by decide +kernel
theorem d_Beams_find_83 : decode prog_2_method_4_code 83 = .ok (.invokevirtual 38, 3) := by decide +kernel
theorem k_Beams_cutRun : mt_OK m_Beams_cutRun 5 1 := ⟨gwi_1186, gwi_141, ⟨by decide +kernel, by decide +kernel, by decide +kernel⟩, fun h => absurd h (by decide), fun _ => ⟨gwi_1185, gwi_33⟩, fun h => absurd h (by decide)⟩
theorem l_Beams_38 : ml_OK "PlainMusic$Beams" 38 ⟨"PlainMusic$Beams", "cutRun", "(LPlainMusic$Voice;IIII)I"⟩ := Or.inl gwi_1183
theorem d_Beams_find_86 : decode prog_2_method_4_code 86 = .ok (.iadd, 1) := by decide +kernel
theorem d_Beams_find_87 : decode prog_2_method_4_code 87 = .ok (.istore 6, 2) := by decide +kernel
theorem d_Beams_find_89 : decode prog_2_method_4_code 89 = .ok (.iload 8, 2) := by decide +kernel
theorem d_Beams_find_91 : decode prog_2_method_4_code 91 = .ok (.iconst 1, 1) := by decide +kernel
theorem d_Beams_find_92 : decode prog_2_method_4_code 92 = .ok (.iadd, 1) := by decide +kernel
theorem d_Beams_find_93 : decode prog_2_method_4_code 93 = .ok (.istore 7, 2) := by decide +kernel
theorem d_Beams_find_95 : decode prog_2_method_4_code 95 = .ok (.iinc 8 1, 3) := by decide +kernel
theorem d_Beams_find_98 : decode prog_2_method_4_code 98 = .ok (.goto (-48), 3) := by decide +kernel
theorem d_Beams_find_64 : decode prog_2_method_4_code 64 = .ok (.aload_n 1, 1) := by decide +kernel
theorem d_Beams_find_65 : decode prog_2_method_4_code 65 = .ok (.iload 8, 2) := by decide +kernel
theorem d_Beams_find_67 : decode prog_2_method_4_code 67 = .ok (.invokevirtual 34, 3) := by decide +kernel
theorem d_Beams_find_70 : decode prog_2_method_4_code 70 = .ok (.ifCond .ne 25, 3) := by decide +kernel
theorem d_Beams_find_31 : decode prog_2_method_4_code 31 = .ok (.bipush (-4), 2) := by decide +kernel
theorem d_Beams_find_33 : decode prog_2_method_4_code 33 = .ok (.ireturn, 1) := by decide +kernel
theorem s_Beams_forget {G : cx_T} {s : Nat} {h : ah_T} (hx : xi s h)   : con G 0 0 0 m_Beams_forget [av_R (some 146)] h (fun r h' => r = none ∧ kF FC s h h') := by
  refine con_of (L := [some (av_R (some 146))]) (by decide +kernel) (Nat.le_of_ble_eq_true rfl) rfl ?_
  have hS : isS s := hx.2.1
  have hs0 : s = 17 ∨ s = 80 := hS
  have hs0b : 17 ≤ s ∧ s ≤ 80 := by omega
  have k0 : kF FC s h h := kF_0 hx
  refine A_aload_n 0 d_Beams_forget_0 rfl rfl ?_
  refine A_iconst d_Beams_forget_1 rfl ?_
  refine A_putIk (KR := kF FC s h) T_ok d_Beams_forget_2 f_Beams_21 (xi_s k0.1 sf_146) fin_f (kF_j k0 (by decide) (ns_b rfl) rgf_146_1 (by omega) (by omega)) (fun h1 k2 eh1 => ?_)
  exact A_vret d_Beams_forget_5 (by decide) rfl ⟨rfl, k2⟩
theorem s_Beams_eventsIn {G : cx_T} {s : Nat} {h : ah_T} (hx : xi s h) {a1 : Int}  : con G 0 0 0 m_Beams_eventsIn [av_R (some 146), av_I a1] h (fun r h' => ∃ z, r = some (av_I z) ∧ ((-2147483648) ≤ z ∧ z ≤ 2147483647) ∧ h = h') := by
  refine con_of (L := [some (av_R (some 146)), some (av_I a1)]) (by decide +kernel) (Nat.le_of_ble_eq_true rfl) rfl ?_
  have hS : isS s := hx.2.1
  have hs0 : s = 17 ∨ s = 80 := hS
  have hs0b : 17 ≤ s ∧ s ≤ 80 := by omega
  refine A_locI 1 rfl (fun ra => ?_)
  obtain ⟨_, _⟩ := ra
  refine A_iload_n 1 d_Beams_eventsIn_0 rfl rfl ?_
  refine A_if_lt (tgt := 30) d_Beams_eventsIn_1 (by decide) (fun c1 => ?_) (fun c1 => ?_)
  · refine A_iconst d_Beams_eventsIn_30 rfl ?_
    exact A_iret d_Beams_eventsIn_31 (by decide) rfl ⟨_, rfl, ⟨by omega, by omega⟩, rfl⟩
  · refine A_iload_n 1 d_Beams_eventsIn_4 rfl rfl ?_
    refine A_aload_n 0 d_Beams_eventsIn_5 rfl rfl ?_
    refine A_getIn (lo := 0) (hi := 14) T_ok d_Beams_eventsIn_6 f_Beams_21 (xi_s hx sf_146) (xi_g hx (by decide) rgf_146_1) (fun x2 ex2 _ _ => ?_)
    refine A_icmp_ge (tgt := 30) d_Beams_eventsIn_9 (by decide) (fun c3 => ?_) (fun c3 => ?_)
    · refine A_iconst d_Beams_eventsIn_30 rfl ?_
      exact A_iret d_Beams_eventsIn_31 (by decide) rfl ⟨_, rfl, ⟨by omega, by omega⟩, rfl⟩
    · refine A_iload_n 1 d_Beams_eventsIn_12 rfl rfl ?_
      refine A_aload_n 0 d_Beams_eventsIn_13 rfl rfl ?_
      refine A_getAv (z := some 147) T_ok d_Beams_eventsIn_14 f_Beams_11 (xi_s hx sf_146) (xi_r hx rff_146_0) ?_
      refine A_alenN d_Beams_eventsIn_17 (xi_s hx sf_147) (by decide) (by decide) ?_
      refine A_icmp_ge (tgt := 30) d_Beams_eventsIn_18 (by decide) (fun c => False.elim (by omega)) (fun c5 => ?_)
      refine A_aload_n 0 d_Beams_eventsIn_21 rfl rfl ?_
      refine A_getAv (z := some 147) T_ok d_Beams_eventsIn_22 f_Beams_11 (xi_s hx sf_146) (xi_r hx rff_146_0) ?_
      refine A_iload_n 1 d_Beams_eventsIn_25 rfl rfl ?_
      refine A_ialoadf d_Beams_eventsIn_26 (xi_s hx sf_147) (by omega) (by omega) (fun x7 ex7 _ _ => ?_)
      refine A_goto (tgt := 31) d_Beams_eventsIn_27 (by decide) ?_
      exact A_iret d_Beams_eventsIn_31 (by decide) rfl ⟨_, rfl, ⟨by omega, by omega⟩, rfl⟩
theorem s_Beams_shortOnes {G : cx_T} {s : Nat} {h : ah_T} (hx : xi s h) {a0 : Nat} {a1 : Int} {a2 : Int} (ha0 : isV a0) (la1 : 0 ≤ a1) (ua1 : a1 ≤ 300) (la2 : 0 ≤ a2) (ua2 : a2 ≤ 300) : con G 3 0 0 m_Beams_shortOnes [av_R (some a0), av_I a1, av_I a2] h (fun r h' => ∃ z, r = some (av_I z) ∧ ((-2147483648) ≤ z ∧ z ≤ 2147483647) ∧ h = h') := by
  refine con_of (L := [some (av_R (some a0)), some (av_I a1), some (av_I a2), none, none]) (by decide +kernel) (Nat.le_of_ble_eq_true rfl) rfl ?_
  have hS : isS s := hx.2.1
  have hs0 : s = 17 ∨ s = 80 := hS
  have hs0b : 17 ≤ s ∧ s ≤ 80 := by omega
  have ga0 := lt_V ha0
  refine A_iconst d_Beams_shortOnes_0 rfl ?_
  refine A_istore_n 3 (L' := [some (av_R (some a0)), some (av_I a1), some (av_I a2), some (av_I 0), none]) d_Beams_shortOnes_1 rfl (Nat.le_of_ble_eq_true rfl) rfl ?_
  refine A_iload_n 1 d_Beams_shortOnes_2 rfl rfl ?_
  refine A_istore (L' := [some (av_R (some a0)), some (av_I a1), some (av_I a2), some (av_I 0), some (av_I a1)]) d_Beams_shortOnes_3 (Nat.le_of_ble_eq_true rfl) rfl ?_
  have lp5 : ∀ (n : Nat) (i1 i2 : Int) , (-2147483648) ≤ i1 → i1 ≤ 2147483647 → 0 ≤ i2 → i2 ≤ 300 → (301 - i2).toNat < n → aw G (rm_R 3 0 0) m_Beams_shortOnes 0 0 5 [some (av_R (some a0)), some (av_I a1), some (av_I a2), some (av_I i1), some (av_I i2)] [] h (fun r h' => ∃ z, r = some (av_I z) ∧ ((-2147483648) ≤ z ∧ z ≤ 2147483647) ∧ h = h') := by
    intro n
    induction n with
    | zero => intro i1 i2 _ _ _ _ hm; omega
    | succ n ih5 =>
      intro i1 i2 hl0 hl1 hl2 hl3 hm
      refine A_iload d_Beams_shortOnes_5 rfl ?_
      refine A_iload_n 2 d_Beams_shortOnes_7 rfl rfl ?_
      refine A_icmp_ge (tgt := 34) d_Beams_shortOnes_8 (by decide) (fun c3 => ?_) (fun c3 => ?_)
      · refine A_iload_n 3 d_Beams_shortOnes_34 rfl rfl ?_
        exact A_iret d_Beams_shortOnes_35 (by decide) rfl ⟨_, rfl, ⟨by omega, by omega⟩, rfl⟩
      · refine A_iload_n 3 d_Beams_shortOnes_11 rfl rfl ?_
        refine A_aload_n 0 d_Beams_shortOnes_12 rfl rfl ?_
        refine A_iload d_Beams_shortOnes_13 rfl ?_
        refine A_callV1 m_Voice_isShort T_ok d_Beams_shortOnes_15 l_Beams_34 k_Voice_isShort (xs_V hx ha0) rfl (by decide +kernel) (by decide) (Nat.le_of_ble_eq_true rfl) (s_Voice_isShort hx ha0 (by omega) (by omega)) (fun r h4 hq => ?_)
        obtain ⟨x6, rfl, bx6, rfl⟩ := hq
        refine A_if_eq (tgt := 25) d_Beams_shortOnes_18 (by decide) (fun c7 => ?_) (fun c7 => ?_)
        · refine A_iconst d_Beams_shortOnes_25 rfl ?_
          refine A_iaddv (z := i1) d_Beams_shortOnes_26 (w32_to (by omega) (by unfold i32; omega)) ?_
          refine A_istore_n 3 (L' := [some (av_R (some a0)), some (av_I a1), some (av_I a2), some (av_I i1), some (av_I i2)]) d_Beams_shortOnes_27 rfl (Nat.le_of_ble_eq_true rfl) rfl ?_
          refine A_iincv (z := (i2 + 1)) (L' := [some (av_R (some a0)), some (av_I a1), some (av_I a2), some (av_I i1), some (av_I (i2 + 1))]) d_Beams_shortOnes_28 rfl (w32_to (by omega) (by unfold i32; omega)) rfl ?_
          refine A_goto (tgt := 5) d_Beams_shortOnes_31 (by decide) ?_
          exact ih5 i1 (i2 + 1) (by omega) (by omega) (by omega) (by omega) (by omega)
        · refine A_iconst d_Beams_shortOnes_21 rfl ?_
          refine A_goto (tgt := 26) d_Beams_shortOnes_22 (by decide) ?_
          refine A_iaddw d_Beams_shortOnes_26 (fun x8 _ _ _ => ?_)
          refine A_istore_n 3 (L' := [some (av_R (some a0)), some (av_I a1), some (av_I a2), some (av_I x8), some (av_I i2)]) d_Beams_shortOnes_27 rfl (Nat.le_of_ble_eq_true rfl) rfl ?_
          refine A_iincv (z := (i2 + 1)) (L' := [some (av_R (some a0)), some (av_I a1), some (av_I a2), some (av_I x8), some (av_I (i2 + 1))]) d_Beams_shortOnes_28 rfl (w32_to (by omega) (by unfold i32; omega)) rfl ?_
          refine A_goto (tgt := 5) d_Beams_shortOnes_31 (by decide) ?_
          exact ih5 x8 (i2 + 1) (by omega) (by omega) (by omega) (by omega) (by omega)
  exact lp5 _ 0 a1 (by omega) (by omega) (by omega) (by omega) (Nat.lt_succ_self _)
theorem s_Beams_joinCost {G : cx_T} {s : Nat} {h : ah_T} (hx : xi s h) {a0 : Nat} {a1 : Int} {a2 : Int} {a3 : Int} (ha0 : isV a0) (la1 : 0 ≤ a1) (ua1 : a1 ≤ 100) (la2 : 1 ≤ a2) (ua2 : a2 ≤ 299) : con G 1 0 0 m_Beams_joinCost [av_R (some a0), av_I a1, av_I a2, av_I a3] h (fun r h' => ∃ z, r = some (av_I z) ∧ ((-2147483648) ≤ z ∧ z ≤ 2147483647) ∧ h = h') := by
  refine con_of (L := [some (av_R (some a0)), some (av_I a1), some (av_I a2), some (av_I a3), none, none, none, none]) (by decide +kernel) (Nat.le_of_ble_eq_true rfl) rfl ?_
  have hS : isS s := hx.2.1
  have hs0 : s = 17 ∨ s = 80 := hS
  have hs0b : 17 ≤ s ∧ s ≤ 80 := by omega
  have ga0 := lt_V ha0
  refine A_locI 3 rfl (fun ra => ?_)
  obtain ⟨_, _⟩ := ra
  refine A_iconst d_Beams_joinCost_0 rfl ?_
  refine A_istore (L' := [some (av_R (some a0)), some (av_I a1), some (av_I a2), some (av_I a3), some (av_I 0), none, none, none]) d_Beams_joinCost_1 (Nat.le_of_ble_eq_true rfl) rfl ?_
  refine A_aload_n 0 d_Beams_joinCost_3 rfl rfl ?_
  refine A_iload_n 1 d_Beams_joinCost_4 rfl rfl ?_
  refine A_iload_n 2 d_Beams_joinCost_5 rfl rfl ?_
  refine A_pc (pc' := 6) rfl ?_
  refine A_callV2 m_Voice_sinceBarBottom T_ok d_Beams_joinCost_6 l_Beams_52 k_Voice_sinceBarBottom (xs_V hx ha0) rfl (by decide +kernel) (by decide) (Nat.le_of_ble_eq_true rfl) (s_Voice_sinceBarBottom hx ha0 (by omega) (by omega) (by omega) (by omega)) (fun r h1 hq => ?_)
  obtain ⟨x3, rfl, ⟨_, _⟩, rfl⟩ := hq
  refine A_lstore (L' := [some (av_R (some a0)), some (av_I a1), some (av_I a2), some (av_I a3), some (av_I 0), some (av_L x3), none, none]) d_Beams_joinCost_9 (Nat.le_of_ble_eq_true rfl) rfl ?_
  refine A_lload d_Beams_joinCost_11 rfl ?_
  refine A_lconst_0 d_Beams_joinCost_13 ?_
  refine A_lcmpn d_Beams_joinCost_14 (fun x4 lx4 ex4 gx4 _ _ => ?_)
  have jp38 : ∀ (j5 : Int) , 0 ≤ j5 → j5 ≤ 2 → aw G (rm_R 1 0 0) m_Beams_joinCost 0 0 38 [some (av_R (some a0)), some (av_I a1), some (av_I a2), some (av_I a3), some (av_I j5), some (av_L x3), none, none] [] h (fun r h' => ∃ z, r = some (av_I z) ∧ ((-2147483648) ≤ z ∧ z ≤ 2147483647) ∧ h = h') := by
    intro j5  _ _ 
    refine A_aload_n 0 d_Beams_joinCost_38 rfl rfl ?_
    refine A_iload_n 2 d_Beams_joinCost_39 rfl rfl ?_
    refine A_callV1 m_Voice_numberOf T_ok d_Beams_joinCost_40 l_Beams_59 k_Voice_numberOf (xs_V hx ha0) rfl (by decide +kernel) (by decide) (Nat.le_of_ble_eq_true rfl) (s_Voice_numberOf hx ha0 (by omega) (by omega)) (fun r h6 hq => ?_)
    obtain ⟨x8, rfl, ⟨_, _⟩, rfl⟩ := hq
    refine A_aload_n 0 d_Beams_joinCost_43 rfl rfl ?_
    refine A_iload_n 2 d_Beams_joinCost_44 rfl rfl ?_
    refine A_iconst d_Beams_joinCost_45 rfl ?_
    refine A_isubv (z := (a2 - 1)) d_Beams_joinCost_46 (w32_to (by omega) (by unfold i32; omega)) ?_
    refine A_callV1 m_Voice_numberOf T_ok d_Beams_joinCost_47 l_Beams_59 k_Voice_numberOf (xs_V hx ha0) rfl (by decide +kernel) (by decide) (Nat.le_of_ble_eq_true rfl) (s_Voice_numberOf hx ha0 (by omega) (by omega)) (fun r h9 hq => ?_)
    obtain ⟨x11, rfl, ⟨_, _⟩, rfl⟩ := hq
    have jp56 : ∀ (j12 : Int) , 0 ≤ j12 → j12 ≤ 3 → aw G (rm_R 1 0 0) m_Beams_joinCost 0 0 56 [some (av_R (some a0)), some (av_I a1), some (av_I a2), some (av_I a3), some (av_I j12), some (av_L x3), none, none] [] h (fun r h' => ∃ z, r = some (av_I z) ∧ ((-2147483648) ≤ z ∧ z ≤ 2147483647) ∧ h = h') := by
      intro j12  _ _ 
      refine A_aload_n 0 d_Beams_joinCost_56 rfl rfl ?_
      refine A_iload_n 2 d_Beams_joinCost_57 rfl rfl ?_
      refine A_iconst d_Beams_joinCost_58 rfl ?_
      refine A_callV2 m_Voice_stepOf T_ok d_Beams_joinCost_59 l_Beams_63 k_Voice_stepOf (xs_V hx ha0) rfl (by decide +kernel) (by decide) (Nat.le_of_ble_eq_true rfl) (s_Voice_stepOf hx ha0 (by omega) (by omega)) (fun r h13 hq => ?_)
      obtain ⟨x15, rfl, ⟨_, _⟩, rfl⟩ := hq
      refine A_aload_n 0 d_Beams_joinCost_62 rfl rfl ?_
      refine A_iload_n 2 d_Beams_joinCost_63 rfl rfl ?_
      refine A_iconst d_Beams_joinCost_64 rfl ?_
      refine A_isubv (z := (a2 - 1)) d_Beams_joinCost_65 (w32_to (by omega) (by unfold i32; omega)) ?_
      refine A_iconst d_Beams_joinCost_66 rfl ?_
      refine A_pc (pc' := 67) rfl ?_
      refine A_callV2 m_Voice_stepOf T_ok d_Beams_joinCost_67 l_Beams_63 k_Voice_stepOf (xs_V hx ha0) rfl (by decide +kernel) (by decide) (Nat.le_of_ble_eq_true rfl) (s_Voice_stepOf hx ha0 (by omega) (by omega)) (fun r h16 hq => ?_)
      obtain ⟨x18, rfl, ⟨_, _⟩, rfl⟩ := hq
      refine A_isubw d_Beams_joinCost_70 (fun x19 _ _ _ => ?_)
      refine A_mabs d_Beams_joinCost_71 lm_Beams_66 ma_abs (by decide) (by decide) (Nat.le_of_ble_eq_true rfl) rfl ?_
      refine A_nrI (fun x20 ex20 _ _ => ?_)
      refine A_istore (L' := [some (av_R (some a0)), some (av_I a1), some (av_I a2), some (av_I a3), some (av_I j12), some (av_L x3), none, some (av_I x20)]) d_Beams_joinCost_74 (Nat.le_of_ble_eq_true rfl) rfl ?_
      refine A_iload d_Beams_joinCost_76 rfl ?_
      refine A_iconst d_Beams_joinCost_78 rfl ?_
      refine A_pc (pc' := 79) rfl ?_
      refine A_iload d_Beams_joinCost_79 rfl ?_
      refine A_iconst d_Beams_joinCost_81 rfl ?_
      refine A_isubw d_Beams_joinCost_82 (fun x21 _ _ _ => ?_)
      refine A_mmax d_Beams_joinCost_83 lm_Beams_69 ma_max (by decide) (by decide) (Nat.le_of_ble_eq_true rfl) rfl ?_
      refine A_nrI (fun x22 ex22 _ _ => ?_)
      have bx22 := mmax_r ex22
      refine A_iaddw d_Beams_joinCost_86 (fun x23 _ _ _ => ?_)
      exact A_iret d_Beams_joinCost_87 (by decide) rfl ⟨_, rfl, ⟨by omega, by omega⟩, rfl⟩
    refine A_icmp_eq (tgt := 56) d_Beams_joinCost_50 (by decide) (fun c24 => ?_) (fun c24 => ?_)
    · refine A_pc (pc' := 56) rfl ?_
      exact jp56 j5 (by omega) (by omega)
    · refine A_iincv (z := (j5 + 1)) (L' := [some (av_R (some a0)), some (av_I a1), some (av_I a2), some (av_I a3), some (av_I (j5 + 1)), some (av_L x3), none, none]) d_Beams_joinCost_53 rfl (w32_to (by omega) (by unfold i32; omega)) rfl ?_
      refine A_pc (pc' := 56) rfl ?_
      exact jp56 (j5 + 1) (by omega) (by omega)
  refine A_if_le (tgt := 38) d_Beams_joinCost_15 (by decide) (fun c25 => ?_) (fun c25 => ?_)
  · have mc25 : x3 ≤ 0 := by omega
    refine A_pc (pc' := 38) rfl ?_
    exact jp38 0 (by omega) (by omega)
  · have mc25 : x3 > 0 := by omega
    refine A_aload_n 0 d_Beams_joinCost_18 rfl rfl ?_
    refine A_iload_n 1 d_Beams_joinCost_19 rfl rfl ?_
    refine A_iload_n 2 d_Beams_joinCost_20 rfl rfl ?_
    refine A_callV2 m_Voice_sinceBarTop T_ok d_Beams_joinCost_21 l_Beams_56 k_Voice_sinceBarTop (xs_V hx ha0) rfl (by decide +kernel) (by decide) (Nat.le_of_ble_eq_true rfl) (s_Voice_sinceBarTop hx ha0 (by omega) (by omega) (by omega) (by omega)) (fun r h26 hq => ?_)
    obtain ⟨x28, rfl, ⟨_, _⟩, rfl⟩ := hq
    refine A_iload_n 3 d_Beams_joinCost_24 rfl rfl ?_
    refine A_i2l d_Beams_joinCost_25 ?_
    refine A_lmulw d_Beams_joinCost_26 (fun x29 _ _ _ => ?_)
    refine A_lload d_Beams_joinCost_27 rfl ?_
    refine A_lremc d_Beams_joinCost_29 (by omega) (fun x30 ex30 _ _ => ?_)
    refine A_pc (pc' := 30) rfl ?_
    refine A_lconst_0 d_Beams_joinCost_30 ?_
    refine A_lcmpn d_Beams_joinCost_31 (fun x31 lx31 ex31 gx31 _ _ => ?_)
    refine A_if_ne (tgt := 38) d_Beams_joinCost_32 (by decide) (fun c32 => ?_) (fun c32 => ?_)
    · have mc32 : x30 ≠ 0 := by omega
      refine A_pc (pc' := 38) rfl ?_
      exact jp38 0 (by omega) (by omega)
    · have mc32 : x30 = 0 := by omega
      refine A_iincv (z := 2) (L' := [some (av_R (some a0)), some (av_I a1), some (av_I a2), some (av_I a3), some (av_I 2), some (av_L x3), none, none]) d_Beams_joinCost_35 rfl (w32_to (by omega) (by unfold i32; omega)) rfl ?_
      refine A_pc (pc' := 38) rfl ?_
      exact jp38 2 (by omega) (by omega)
theorem s_Beams_cutRun {G : cx_T} {s : Nat} {h : ah_T} (hx : xi s h) {a1 : Nat} {a2 : Int} {a3 : Int} {a4 : Int} {a5 : Int} (ha1 : isV a1) (la2 : 0 ≤ a2) (ua2 : a2 ≤ 100) (la3 : 0 ≤ a3) (ua3 : a3 ≤ 301) (la4 : 0 ≤ a4) (ua4 : a4 ≤ 300) : con G 2 0 0 m_Beams_cutRun [av_R (some 146), av_R (some a1), av_I a2, av_I a3, av_I a4, av_I a5] h (fun r h' => ∃ z, r = some (av_I z) ∧ ((-2147483648) ≤ z ∧ z ≤ 2147483647) ∧ kF FC s h h') := by
  refine con_of (L := [some (av_R (some 146)), some (av_R (some a1)), some (av_I a2), some (av_I a3), some (av_I a4), some (av_I a5), none, none, none, none]) (by decide +kernel) (Nat.le_of_ble_eq_true rfl) rfl ?_
  have hS : isS s := hx.2.1
  have hs0 : s = 17 ∨ s = 80 := hS
  have hs0b : 17 ≤ s ∧ s ≤ 80 := by omega
  have k0 : kF FC s h h := kF_0 hx
  have ga1 := lt_V ha1
  refine A_locI 5 rfl (fun ra => ?_)
  obtain ⟨_, _⟩ := ra
  refine A_iload d_Beams_cutRun_0 rfl ?_
  refine A_iload_n 3 d_Beams_cutRun_2 rfl rfl ?_
  refine A_isubv (z := (a4 - a3)) d_Beams_cutRun_3 (w32_to (by omega) (by unfold i32; omega)) ?_
  refine A_bipush d_Beams_cutRun_4 rfl ?_
  refine A_mmin d_Beams_cutRun_6 lm_Beams_42 ma_min (by decide) (by decide) (Nat.le_of_ble_eq_true rfl) rfl ?_
  refine A_nrI (fun x1 ex1 _ _ => ?_)
  have bx1 := mmin_r ex1
  refine A_pc (pc' := 9) rfl ?_
  refine A_istore (L' := [some (av_R (some 146)), some (av_R (some a1)), some (av_I a2), some (av_I a3), some (av_I a4), some (av_I a5), some (av_I x1), none, none, none]) d_Beams_cutRun_9 (Nat.le_of_ble_eq_true rfl) rfl ?_
  refine A_iload d_Beams_cutRun_11 rfl ?_
  refine A_if_gt (tgt := 18) d_Beams_cutRun_13 (by decide) (fun c2 => ?_) (fun c2 => ?_)
  · refine A_aload_n 0 d_Beams_cutRun_18 rfl rfl ?_
    refine A_getAv (z := some 148) T_ok d_Beams_cutRun_19 f_Beams_15 (xi_s k0.1 sf_146) (xi_r k0.1 rff_146_2) ?_
    refine A_iload d_Beams_cutRun_22 rfl ?_
    refine A_iconst d_Beams_cutRun_24 rfl ?_
    refine A_iastorek (KR := kF FC s h) d_Beams_cutRun_25 (xi_s k0.1 sf_148) (by omega) (by omega) (kF_j k0 (by decide) (ns_b rfl) (rgf_148 _) (by omega) (by omega)) (fun h4 k5 eh4 => ?_)
    refine A_pc (pc' := 26) rfl ?_
    refine A_iload d_Beams_cutRun_26 rfl ?_
    refine A_iconst d_Beams_cutRun_28 rfl ?_
    refine A_isubv (z := (x1 - 1)) d_Beams_cutRun_29 (w32_to (by omega) (by unfold i32; omega)) ?_
    refine A_istore (L' := [some (av_R (some 146)), some (av_R (some a1)), some (av_I a2), some (av_I a3), some (av_I a4), some (av_I a5), some (av_I x1), some (av_I (x1 - 1)), none, none]) d_Beams_cutRun_30 (Nat.le_of_ble_eq_true rfl) rfl ?_
    have lp32 : ∀ (n : Nat) (i6 : Int) (h7 : ah_T) , (-1) ≤ i6 → i6 ≤ 13 → kF FC s h h7 → (i6 + 2).toNat < n → aw G (rm_R 2 0 0) m_Beams_cutRun 0 0 32 [some (av_R (some 146)), some (av_R (some a1)), some (av_I a2), some (av_I a3), some (av_I a4), some (av_I a5), some (av_I x1), some (av_I i6), none, none] [] h7 (fun r h' => ∃ z, r = some (av_I z) ∧ ((-2147483648) ≤ z ∧ z ≤ 2147483647) ∧ kF FC s h h') := by
      intro n
      induction n with
      | zero => intro i6 h7 _ _ _ hm; omega
      | succ n ih32 =>
        intro i6 h7 hl0 hl1 k8 hm
        refine A_iload d_Beams_cutRun_32 rfl ?_
        refine A_if_lt (tgt := 171) d_Beams_cutRun_34 (by decide) (fun c9 => ?_) (fun c9 => ?_)
        · refine A_iconst d_Beams_cutRun_171 rfl ?_
          refine A_istore (L' := [some (av_R (some 146)), some (av_R (some a1)), some (av_I a2), some (av_I a3), some (av_I a4), some (av_I a5), some (av_I x1), some (av_I 0), none, none]) d_Beams_cutRun_172 (Nat.le_of_ble_eq_true rfl) rfl ?_
          have lp174 : ∀ (n : Nat) (i10 : Int) (h11 : ah_T) , 0 ≤ i10 → i10 ≤ 19 → kF FC s h h11 → (14 - h11.2.1 146 1).toNat < n → aw G (rm_R 2 0 0) m_Beams_cutRun 0 0 174 [some (av_R (some 146)), some (av_R (some a1)), some (av_I a2), some (av_I a3), some (av_I a4), some (av_I a5), some (av_I x1), some (av_I i10), none, none] [] h11 (fun r h' => ∃ z, r = some (av_I z) ∧ ((-2147483648) ≤ z ∧ z ≤ 2147483647) ∧ kF FC s h h') := by
            intro n
            induction n with
            | zero => intro i10 h11 _ _ _ hm; omega
            | succ n ih174 =>
              intro i10 h11 hl0 hl1 k12 hm
              refine A_iload d_Beams_cutRun_174 rfl ?_
              refine A_iload d_Beams_cutRun_176 rfl ?_
              refine A_icmp_ge (tgt := 234) d_Beams_cutRun_178 (by decide) (fun c13 => ?_) (fun c13 => ?_)
              · refine A_aload_n 0 d_Beams_cutRun_234 rfl rfl ?_
                refine A_getAv (z := some 148) T_ok d_Beams_cutRun_235 f_Beams_15 (xi_s k12.1 sf_146) (xi_r k12.1 rff_146_2) ?_
                refine A_iconst d_Beams_cutRun_238 rfl ?_
                refine A_ialoadf d_Beams_cutRun_239 (xi_s k12.1 sf_148) (by decide) (by decide) (fun x15 ex15 _ _ => ?_)
                exact A_iret d_Beams_cutRun_240 (by decide) rfl ⟨_, rfl, ⟨by omega, by omega⟩, k12⟩
              · refine A_aload_n 0 d_Beams_cutRun_181 rfl rfl ?_
                refine A_getIn (lo := 0) (hi := 14) T_ok d_Beams_cutRun_182 f_Beams_21 (xi_s k12.1 sf_146) (xi_g k12.1 (by decide) rgf_146_1) (fun x16 ex16 _ _ => ?_)
                refine A_aload_n 0 d_Beams_cutRun_185 rfl rfl ?_
                refine A_getAv (z := some 147) T_ok d_Beams_cutRun_186 f_Beams_11 (xi_s k12.1 sf_146) (xi_r k12.1 rff_146_0) ?_
                refine A_alenN d_Beams_cutRun_189 (xi_s k12.1 sf_147) (by decide) (by decide) ?_
                refine A_pc (pc' := 190) rfl ?_
                refine A_icmp_ge (tgt := 234) d_Beams_cutRun_190 (by decide) (fun c18 => ?_) (fun c18 => ?_)
                · refine A_aload_n 0 d_Beams_cutRun_234 rfl rfl ?_
                  refine A_getAv (z := some 148) T_ok d_Beams_cutRun_235 f_Beams_15 (xi_s k12.1 sf_146) (xi_r k12.1 rff_146_2) ?_
                  refine A_iconst d_Beams_cutRun_238 rfl ?_
                  refine A_ialoadf d_Beams_cutRun_239 (xi_s k12.1 sf_148) (by decide) (by decide) (fun x20 ex20 _ _ => ?_)
                  exact A_iret d_Beams_cutRun_240 (by decide) rfl ⟨_, rfl, ⟨by omega, by omega⟩, k12⟩
                · refine A_aload_n 0 d_Beams_cutRun_193 rfl rfl ?_
                  refine A_getAv (z := some 147) T_ok d_Beams_cutRun_194 f_Beams_11 (xi_s k12.1 sf_146) (xi_r k12.1 rff_146_0) ?_
                  refine A_aload_n 0 d_Beams_cutRun_197 rfl rfl ?_
                  refine A_getIv (z := x16) T_ok d_Beams_cutRun_198 f_Beams_21 (xi_s k12.1 sf_146) ex16.symm ?_
                  refine A_aload_n 0 d_Beams_cutRun_201 rfl rfl ?_
                  refine A_pc (pc' := 202) rfl ?_
                  refine A_getAv (z := some 149) T_ok d_Beams_cutRun_202 f_Beams_18 (xi_s k12.1 sf_146) (xi_r k12.1 rff_146_3) ?_
                  refine A_iload d_Beams_cutRun_205 rfl ?_
                  refine A_ialoadn (lo := 0) (hi := 6) d_Beams_cutRun_207 (xi_s k12.1 sf_149) (by omega) (by omega) (xi_g k12.1 (by decide) (rgf_149 _)) (fun x24 ex24 _ _ => ?_)
                  refine A_iastorek (KR := kF FC s h) d_Beams_cutRun_208 (xi_s k12.1 sf_147) (by omega) (by omega) (kF_j k12 (by decide) (ns_b rfl) (rgf_147 _) (by omega) (by omega)) (fun h25 k26 eh25 => ?_)
                  refine A_aload_n 0 d_Beams_cutRun_209 rfl rfl ?_
                  refine A_dupR d_Beams_cutRun_210 ?_
                  refine A_pc (pc' := 211) rfl ?_
                  refine A_getIv (z := x16) T_ok d_Beams_cutRun_211 f_Beams_21 (xi_s k26.1 sf_146) ((eh25.1 _ _ (fun q => absurd q (by decide))).trans ex16.symm) ?_
                  refine A_iconst d_Beams_cutRun_214 rfl ?_
                  refine A_iaddv (z := (x16 + 1)) d_Beams_cutRun_215 (w32_to (by omega) (by unfold i32; omega)) ?_
                  refine A_putIk (KR := kF FC s h) T_ok d_Beams_cutRun_216 f_Beams_21 (xi_s k26.1 sf_146) fin_f (kF_j k26 (by decide) (ns_b rfl) rgf_146_1 (by omega) (by omega)) (fun h28 k29 eh28 => ?_)
                  refine A_iload d_Beams_cutRun_219 rfl ?_
                  refine A_aload_n 0 d_Beams_cutRun_221 rfl rfl ?_
                  refine A_pc (pc' := 222) rfl ?_
                  refine A_getAv (z := some 149) T_ok d_Beams_cutRun_222 f_Beams_18 (xi_s k29.1 sf_146) (xi_r k29.1 rff_146_3) ?_
                  refine A_iload d_Beams_cutRun_225 rfl ?_
                  refine A_ialoadv (z := x24) d_Beams_cutRun_227 (xi_s k29.1 sf_149) (by omega) (by omega) ((eh28.1 _ _ (fun q => absurd q (by decide))).trans ((eh25.1 _ _ (fun q => absurd q (by decide))).trans ex24.symm)) ?_
                  refine A_iaddv (z := (i10 + x24)) d_Beams_cutRun_228 (w32_to (by omega) (by unfold i32; omega)) ?_
                  refine A_istore (L' := [some (av_R (some 146)), some (av_R (some a1)), some (av_I a2), some (av_I a3), some (av_I a4), some (av_I a5), some (av_I x1), some (av_I (i10 + x24)), none, none]) d_Beams_cutRun_229 (Nat.le_of_ble_eq_true rfl) rfl ?_
                  refine A_goto (tgt := 174) d_Beams_cutRun_231 (by decide) ?_
                  exact ih174 (i10 + x24) h28 (by omega) (by omega) k29 (by have qq0 := eh28.2.1; omega)
          exact lp174 _ 0 h7 (by omega) (by omega) k8 (Nat.lt_succ_self _)
        · refine A_aload_n 0 d_Beams_cutRun_37 rfl rfl ?_
          refine A_getAv (z := some 149) T_ok d_Beams_cutRun_38 f_Beams_18 (xi_s k8.1 sf_146) (xi_r k8.1 rff_146_3) ?_
          refine A_iload d_Beams_cutRun_41 rfl ?_
          refine A_iconst d_Beams_cutRun_43 rfl ?_
          refine A_iastorek (KR := kF FC s h) d_Beams_cutRun_44 (xi_s k8.1 sf_149) (by omega) (by omega) (kF_j k8 (by decide) (ns_b rfl) (rgf_149 _) (by omega) (by omega)) (fun h33 k34 eh33 => ?_)
          refine A_pc (pc' := 45) rfl ?_
          refine A_aload_n 0 d_Beams_cutRun_45 rfl rfl ?_
          refine A_getAv (z := some 148) T_ok d_Beams_cutRun_46 f_Beams_15 (xi_s k34.1 sf_146) (xi_r k34.1 rff_146_2) ?_
          refine A_iload d_Beams_cutRun_49 rfl ?_
          refine A_iconst d_Beams_cutRun_51 rfl ?_
          refine A_aload_n 0 d_Beams_cutRun_52 rfl rfl ?_
          refine A_getAv (z := some 148) T_ok d_Beams_cutRun_53 f_Beams_15 (xi_s k34.1 sf_146) (xi_r k34.1 rff_146_2) ?_
          refine A_pc (pc' := 56) rfl ?_
          refine A_iload d_Beams_cutRun_56 rfl ?_
          refine A_iconst d_Beams_cutRun_58 rfl ?_
          refine A_iaddv (z := (i6 + 1)) d_Beams_cutRun_59 (w32_to (by omega) (by unfold i32; omega)) ?_
          refine A_ialoadf d_Beams_cutRun_60 (xi_s k34.1 sf_148) (by omega) (by omega) (fun x37 ex37 _ _ => ?_)
          refine A_iaddw d_Beams_cutRun_61 (fun x38 _ _ _ => ?_)
          refine A_iastorek (KR := kF FC s h) d_Beams_cutRun_62 (xi_s k34.1 sf_148) (by omega) (by omega) (kF_j k34 (by decide) (ns_b rfl) (rgf_148 _) (by omega) (by omega)) (fun h39 k40 eh39 => ?_)
          refine A_pc (pc' := 63) rfl ?_
          refine A_iconst d_Beams_cutRun_63 rfl ?_
          refine A_istore (L' := [some (av_R (some 146)), some (av_R (some a1)), some (av_I a2), some (av_I a3), some (av_I a4), some (av_I a5), some (av_I x1), some (av_I i6), some (av_I 1), none]) d_Beams_cutRun_64 (Nat.le_of_ble_eq_true rfl) rfl ?_
          refine A_iconst d_Beams_cutRun_66 rfl ?_
          refine A_istore (L' := [some (av_R (some 146)), some (av_R (some a1)), some (av_I a2), some (av_I a3), some (av_I a4), some (av_I a5), some (av_I x1), some (av_I i6), some (av_I 1), some (av_I 2)]) d_Beams_cutRun_67 (Nat.le_of_ble_eq_true rfl) rfl ?_
          have lp69 : ∀ (n : Nat) (i41 i42 : Int) (h43 : ah_T) , (-2147483648) ≤ i41 → i41 ≤ 2147483647 → 2 ≤ i42 → i42 ≤ 7 → kF FC s h h43 → (8 - i42).toNat < n → aw G (rm_R 2 0 0) m_Beams_cutRun 0 0 69 [some (av_R (some 146)), some (av_R (some a1)), some (av_I a2), some (av_I a3), some (av_I a4), some (av_I a5), some (av_I x1), some (av_I i6), some (av_I i41), some (av_I i42)] [] h43 (fun r h' => ∃ z, r = some (av_I z) ∧ ((-2147483648) ≤ z ∧ z ≤ 2147483647) ∧ kF FC s h h') := by
            intro n
            induction n with
            | zero => intro i41 i42 h43 _ _ _ _ _ hm; omega
            | succ n ih69 =>
              intro i41 i42 h43 hl0 hl1 hl2 hl3 k44 hm
              refine A_iload d_Beams_cutRun_69 rfl ?_
              refine A_bipush d_Beams_cutRun_71 rfl ?_
              refine A_icmp_gt (tgt := 165) d_Beams_cutRun_73 (by decide) (fun c45 => ?_) (fun c45 => ?_)
              · refine A_iincv (z := (i6 - 1)) (L' := [some (av_R (some 146)), some (av_R (some a1)), some (av_I a2), some (av_I a3), some (av_I a4), some (av_I a5), some (av_I x1), some (av_I (i6 - 1)), some (av_I i41), some (av_I i42)]) d_Beams_cutRun_165 rfl (w32_to (by omega) (by unfold i32; omega)) rfl ?_
                refine A_goto (tgt := 32) d_Beams_cutRun_168 (by decide) ?_
                refine A_free (L' := [some (av_R (some 146)), some (av_R (some a1)), some (av_I a2), some (av_I a3), some (av_I a4), some (av_I a5), some (av_I x1), some (av_I (i6 - 1)), none, none]) (And.intro rfl (And.intro rfl (And.intro rfl (And.intro rfl (And.intro rfl (And.intro rfl (And.intro rfl (And.intro rfl trivial)))))))) ?_
                exact ih32 (i6 - 1) h43 (by omega) (by omega) k44 (by omega)
              · refine A_iload d_Beams_cutRun_76 rfl ?_
                refine A_iload d_Beams_cutRun_78 rfl ?_
                refine A_iaddv (z := (i6 + i42)) d_Beams_cutRun_80 (w32_to (by omega) (by unfold i32; omega)) ?_
                refine A_iload d_Beams_cutRun_81 rfl ?_
                refine A_icmp_gt (tgt := 165) d_Beams_cutRun_83 (by decide) (fun c46 => ?_) (fun c46 => ?_)
                · refine A_iincv (z := (i6 - 1)) (L' := [some (av_R (some 146)), some (av_R (some a1)), some (av_I a2), some (av_I a3), some (av_I a4), some (av_I a5), some (av_I x1), some (av_I (i6 - 1)), some (av_I i41), some (av_I i42)]) d_Beams_cutRun_165 rfl (w32_to (by omega) (by unfold i32; omega)) rfl ?_
                  refine A_goto (tgt := 32) d_Beams_cutRun_168 (by decide) ?_
                  refine A_free (L' := [some (av_R (some 146)), some (av_R (some a1)), some (av_I a2), some (av_I a3), some (av_I a4), some (av_I a5), some (av_I x1), some (av_I (i6 - 1)), none, none]) (And.intro rfl (And.intro rfl (And.intro rfl (And.intro rfl (And.intro rfl (And.intro rfl (And.intro rfl (And.intro rfl trivial)))))))) ?_
                  exact ih32 (i6 - 1) h43 (by omega) (by omega) k44 (by omega)
                · refine A_iload d_Beams_cutRun_86 rfl ?_
                  refine A_aload_n 1 d_Beams_cutRun_88 rfl rfl ?_
                  refine A_iload_n 2 d_Beams_cutRun_89 rfl rfl ?_
                  refine A_iload_n 3 d_Beams_cutRun_90 rfl rfl ?_
                  refine A_iload d_Beams_cutRun_91 rfl ?_
                  refine A_pc (pc' := 93) rfl ?_
                  refine A_iaddv (z := (a3 + i6)) d_Beams_cutRun_93 (w32_to (by omega) (by unfold i32; omega)) ?_
                  refine A_iload d_Beams_cutRun_94 rfl ?_
                  refine A_iaddv (z := (a3 + i6 + i42)) d_Beams_cutRun_96 (w32_to (by omega) (by unfold i32; omega)) ?_
                  refine A_iconst d_Beams_cutRun_97 rfl ?_
                  refine A_isubv (z := (a3 + i6 + i42 - 1)) d_Beams_cutRun_98 (w32_to (by omega) (by unfold i32; omega)) ?_
                  refine A_iload d_Beams_cutRun_99 rfl ?_
                  refine A_pc (pc' := 101) rfl ?_
                  refine A_callS4 m_Beams_joinCost d_Beams_cutRun_101 l_Beams_48 k_Beams_joinCost (by decide +kernel) (by decide) (Nat.le_of_ble_eq_true rfl) (s_Beams_joinCost k44.1 ha1 (by omega) (by omega) (by omega) (by omega)) (fun r h47 hq => ?_)
                  obtain ⟨x49, rfl, ⟨_, _⟩, rfl⟩ := hq
                  refine A_iaddw d_Beams_cutRun_104 (fun x50 _ _ _ => ?_)
                  refine A_istore (L' := [some (av_R (some 146)), some (av_R (some a1)), some (av_I a2), some (av_I a3), some (av_I a4), some (av_I a5), some (av_I x1), some (av_I i6), some (av_I x50), some (av_I i42)]) d_Beams_cutRun_105 (Nat.le_of_ble_eq_true rfl) rfl ?_
                  refine A_iload d_Beams_cutRun_107 rfl ?_
                  refine A_aload_n 0 d_Beams_cutRun_109 rfl rfl ?_
                  refine A_getAv (z := some 148) T_ok d_Beams_cutRun_110 f_Beams_15 (xi_s k44.1 sf_146) (xi_r k44.1 rff_146_2) ?_
                  refine A_pc (pc' := 113) rfl ?_
                  refine A_iload d_Beams_cutRun_113 rfl ?_
                  refine A_iload d_Beams_cutRun_115 rfl ?_
                  refine A_iaddv (z := (i6 + i42)) d_Beams_cutRun_117 (w32_to (by omega) (by unfold i32; omega)) ?_
                  refine A_ialoadf d_Beams_cutRun_118 (xi_s k44.1 sf_148) (by omega) (by omega) (fun x52 ex52 _ _ => ?_)
                  refine A_iaddw d_Beams_cutRun_119 (fun x53 _ _ _ => ?_)
                  refine A_aload_n 0 d_Beams_cutRun_120 rfl rfl ?_
                  refine A_pc (pc' := 121) rfl ?_
                  refine A_getAv (z := some 148) T_ok d_Beams_cutRun_121 f_Beams_15 (xi_s k44.1 sf_146) (xi_r k44.1 rff_146_2) ?_
                  refine A_iload d_Beams_cutRun_124 rfl ?_
                  refine A_ialoadf d_Beams_cutRun_126 (xi_s k44.1 sf_148) (by omega) (by omega) (fun x55 ex55 _ _ => ?_)
                  refine A_icmp_gt (tgt := 159) d_Beams_cutRun_127 (by decide) (fun c56 => ?_) (fun c56 => ?_)
                  · refine A_iincv (z := (i42 + 1)) (L' := [some (av_R (some 146)), some (av_R (some a1)), some (av_I a2), some (av_I a3), some (av_I a4), some (av_I a5), some (av_I x1), some (av_I i6), some (av_I x50), some (av_I (i42 + 1))]) d_Beams_cutRun_159 rfl (w32_to (by omega) (by unfold i32; omega)) rfl ?_
                    refine A_goto (tgt := 69) d_Beams_cutRun_162 (by decide) ?_
                    exact ih69 x50 (i42 + 1) h43 (by omega) (by omega) (by omega) (by omega) k44 (by omega)
                  · refine A_aload_n 0 d_Beams_cutRun_130 rfl rfl ?_
                    refine A_getAv (z := some 149) T_ok d_Beams_cutRun_131 f_Beams_18 (xi_s k44.1 sf_146) (xi_r k44.1 rff_146_3) ?_
                    refine A_iload d_Beams_cutRun_134 rfl ?_
                    refine A_iload d_Beams_cutRun_136 rfl ?_
                    refine A_iastorek (KR := kF FC s h) d_Beams_cutRun_138 (xi_s k44.1 sf_149) (by omega) (by omega) (kF_j k44 (by decide) (ns_b rfl) (rgf_149 _) (by omega) (by omega)) (fun h58 k59 eh58 => ?_)
                    refine A_pc (pc' := 139) rfl ?_
                    refine A_aload_n 0 d_Beams_cutRun_139 rfl rfl ?_
                    refine A_getAv (z := some 148) T_ok d_Beams_cutRun_140 f_Beams_15 (xi_s k59.1 sf_146) (xi_r k59.1 rff_146_2) ?_
                    refine A_iload d_Beams_cutRun_143 rfl ?_
                    refine A_iload d_Beams_cutRun_145 rfl ?_
                    refine A_aload_n 0 d_Beams_cutRun_147 rfl rfl ?_
                    refine A_getAv (z := some 148) T_ok d_Beams_cutRun_148 f_Beams_15 (xi_s k59.1 sf_146) (xi_r k59.1 rff_146_2) ?_
                    refine A_pc (pc' := 151) rfl ?_
                    refine A_iload d_Beams_cutRun_151 rfl ?_
                    refine A_iload d_Beams_cutRun_153 rfl ?_
                    refine A_iaddv (z := (i6 + i42)) d_Beams_cutRun_155 (w32_to (by omega) (by unfold i32; omega)) ?_
                    refine A_ialoadv (z := x52) d_Beams_cutRun_156 (xi_s k59.1 sf_148) (by omega) (by omega) ((eh58.1 _ _ (fun q => absurd q (by decide))).trans ex52.symm) ?_
                    refine A_iaddw d_Beams_cutRun_157 (fun x63 _ _ _ => ?_)
                    refine A_iastorek (KR := kF FC s h) d_Beams_cutRun_158 (xi_s k59.1 sf_148) (by omega) (by omega) (kF_j k59 (by decide) (ns_b rfl) (rgf_148 _) (by omega) (by omega)) (fun h64 k65 eh64 => ?_)
                    refine A_pc (pc' := 159) rfl ?_
                    refine A_iincv (z := (i42 + 1)) (L' := [some (av_R (some 146)), some (av_R (some a1)), some (av_I a2), some (av_I a3), some (av_I a4), some (av_I a5), some (av_I x1), some (av_I i6), some (av_I x50), some (av_I (i42 + 1))]) d_Beams_cutRun_159 rfl (w32_to (by omega) (by unfold i32; omega)) rfl ?_
                    refine A_goto (tgt := 69) d_Beams_cutRun_162 (by decide) ?_
                    exact ih69 x50 (i42 + 1) h64 (by omega) (by omega) (by omega) (by omega) k65 (by omega)
          exact lp69 _ 1 2 h39 (by omega) (by omega) (by omega) (by omega) k40 (Nat.lt_succ_self _)
    exact lp32 _ (x1 - 1) h4 (by omega) (by omega) k5 (Nat.lt_succ_self _)
  · refine A_iconst d_Beams_cutRun_16 rfl ?_
    exact A_iret d_Beams_cutRun_17 (by decide) rfl ⟨_, rfl, ⟨by omega, by omega⟩, k0⟩
theorem s_Beams_find {G : cx_T} {s : Nat} {h : ah_T} (hx : xi s h) {a1 : Nat} {a2 : Int} {a3 : Int} (ha1 : isV a1) (la2 : 0 ≤ a2) (ua2 : a2 ≤ 100) : con G 4 0 0 m_Beams_find [av_R (some 146), av_R (some a1), av_I a2, av_I a3] h (fun r h' => ∃ z, r = some (av_I z) ∧ ((-2147483648) ≤ z ∧ z ≤ 2147483647) ∧ kF FC s h h') := by
  refine con_of (L := [some (av_R (some 146)), some (av_R (some a1)), some (av_I a2), some (av_I a3), none, none, none, none, none]) (by decide +kernel) (Nat.le_of_ble_eq_true rfl) rfl ?_
  have hS : isS s := hx.2.1
  have hs0 : s = 17 ∨ s = 80 := hS
  have hs0b : 17 ≤ s ∧ s ≤ 80 := by omega
  have k0 : kF FC s h h := kF_0 hx
  have ga1 := lt_V ha1
  refine A_locI 3 rfl (fun ra => ?_)
  obtain ⟨_, _⟩ := ra
  refine A_aload_n 1 d_Beams_find_0 rfl rfl ?_
  refine A_getAv (z := some (a1 + 13)) T_ok d_Beams_find_1 f_Beams_25 (xs_V k0.1 ha1) (xr_V_15 k0.1 ha1) ?_
  refine A_iload_n 2 d_Beams_find_4 rfl rfl ?_
  refine A_ialoadn (lo := 0) (hi := 300) d_Beams_find_5 (xs_V_15 k0.1 ha1) (by omega) (by omega) (xi_g k0.1 (lt2_V ha1 (by decide)) (rg_V_15 ha1 _)) (fun x2 ex2 _ _ => ?_)
  refine A_istore (L' := [some (av_R (some 146)), some (av_R (some a1)), some (av_I a2), some (av_I a3), some (av_I x2), none, none, none, none]) d_Beams_find_6 (Nat.le_of_ble_eq_true rfl) rfl ?_
  refine A_pc (pc' := 8) rfl ?_
  refine A_aload_n 1 d_Beams_find_8 rfl rfl ?_
  refine A_getAv (z := some (a1 + 13)) T_ok d_Beams_find_9 f_Beams_25 (xs_V k0.1 ha1) (xr_V_15 k0.1 ha1) ?_
  refine A_iload_n 2 d_Beams_find_12 rfl rfl ?_
  refine A_iconst d_Beams_find_13 rfl ?_
  refine A_iaddv (z := (a2 + 1)) d_Beams_find_14 (w32_to (by omega) (by unfold i32; omega)) ?_
  refine A_ialoadn (lo := 0) (hi := 300) d_Beams_find_15 (xs_V_15 k0.1 ha1) (by omega) (by omega) (xi_g k0.1 (lt2_V ha1 (by decide)) (rg_V_15 ha1 _)) (fun x4 ex4 _ _ => ?_)
  refine A_pc (pc' := 16) rfl ?_
  refine A_istore (L' := [some (av_R (some 146)), some (av_R (some a1)), some (av_I a2), some (av_I a3), some (av_I x2), some (av_I x4), none, none, none]) d_Beams_find_16 (Nat.le_of_ble_eq_true rfl) rfl ?_
  refine A_aload_n 1 d_Beams_find_18 rfl rfl ?_
  refine A_iload d_Beams_find_19 rfl ?_
  refine A_iload d_Beams_find_21 rfl ?_
  refine A_callS3 m_Beams_shortOnes d_Beams_find_23 l_Beams_30 k_Beams_shortOnes (by decide +kernel) (by decide) (Nat.le_of_ble_eq_true rfl) (s_Beams_shortOnes k0.1 ha1 (by omega) (by omega) (by omega) (by omega)) (fun r h5 hq => ?_)
  obtain ⟨x7, rfl, ⟨_, _⟩, rfl⟩ := hq
  refine A_bipush d_Beams_find_26 rfl ?_
  refine A_icmp_le (tgt := 34) d_Beams_find_28 (by decide) (fun c8 => ?_) (fun c8 => ?_)
  · refine A_aload_n 0 d_Beams_find_34 rfl rfl ?_
    refine A_iconst d_Beams_find_35 rfl ?_
    refine A_putIk (KR := kF FC s h) T_ok d_Beams_find_36 f_Beams_21 (xi_s k0.1 sf_146) fin_f (kF_j k0 (by decide) (ns_b rfl) rgf_146_1 (by omega) (by omega)) (fun h9 k10 eh9 => ?_)
    refine A_iconst d_Beams_find_39 rfl ?_
    refine A_istore (L' := [some (av_R (some 146)), some (av_R (some a1)), some (av_I a2), some (av_I a3), some (av_I x2), some (av_I x4), some (av_I 0), none, none]) d_Beams_find_40 (Nat.le_of_ble_eq_true rfl) rfl ?_
    refine A_pc (pc' := 42) rfl ?_
    refine A_iload d_Beams_find_42 rfl ?_
    refine A_istore (L' := [some (av_R (some 146)), some (av_R (some a1)), some (av_I a2), some (av_I a3), some (av_I x2), some (av_I x4), some (av_I 0), some (av_I x2), none]) d_Beams_find_44 (Nat.le_of_ble_eq_true rfl) rfl ?_
    refine A_iload d_Beams_find_46 rfl ?_
    refine A_istore (L' := [some (av_R (some 146)), some (av_R (some a1)), some (av_I a2), some (av_I a3), some (av_I x2), some (av_I x4), some (av_I 0), some (av_I x2), some (av_I x2)]) d_Beams_find_48 (Nat.le_of_ble_eq_true rfl) rfl ?_
    have lp50 : ∀ (n : Nat) (i11 i12 i13 : Int) (h14 : ah_T) , (-2147483648) ≤ i11 → i11 ≤ 2147483647 → 0 ≤ i12 → i12 ≤ 301 → 0 ≤ i13 → i13 ≤ 301 → kF FC s h h14 → (302 - i13).toNat < n → aw G (rm_R 4 0 0) m_Beams_find 0 0 50 [some (av_R (some 146)), some (av_R (some a1)), some (av_I a2), some (av_I a3), some (av_I x2), some (av_I x4), some (av_I i11), some (av_I i12), some (av_I i13)] [] h14 (fun r h' => ∃ z, r = some (av_I z) ∧ ((-2147483648) ≤ z ∧ z ≤ 2147483647) ∧ kF FC s h h') := by
      intro n
      induction n with
      | zero => intro i11 i12 i13 h14 _ _ _ _ _ _ _ hm; omega
      | succ n ih50 =>
        intro i11 i12 i13 h14 hl0 hl1 hl2 hl3 hl4 hl5 k15 hm
        refine A_iload d_Beams_find_50 rfl ?_
        refine A_iload d_Beams_find_52 rfl ?_
        refine A_icmp_gt (tgt := 101) d_Beams_find_54 (by decide) (fun c16 => ?_) (fun c16 => ?_)
        · refine A_iload d_Beams_find_101 rfl ?_
          exact A_iret d_Beams_find_103 (by decide) rfl ⟨_, rfl, ⟨by omega, by omega⟩, k15⟩
        · refine A_iload d_Beams_find_57 rfl ?_
          refine A_iload d_Beams_find_59 rfl ?_
          refine A_icmp_eq (tgt := 73) d_Beams_find_61 (by decide) (fun c17 => ?_) (fun c17 => ?_)
          · refine A_iload d_Beams_find_73 rfl ?_
            refine A_aload_n 0 d_Beams_find_75 rfl rfl ?_
            refine A_aload_n 1 d_Beams_find_76 rfl rfl ?_
            refine A_iload_n 2 d_Beams_find_77 rfl rfl ?_
            refine A_iload d_Beams_find_78 rfl ?_
            refine A_pc (pc' := 80) rfl ?_
            refine A_iload d_Beams_find_80 rfl ?_
            refine A_iload_n 3 d_Beams_find_82 rfl rfl ?_
            refine A_callV5 m_Beams_cutRun T_ok d_Beams_find_83 l_Beams_38 k_Beams_cutRun (xi_s k15.1 sf_146) rfl (by decide +kernel) (by decide) (Nat.le_of_ble_eq_true rfl) (s_Beams_cutRun k15.1 ha1 (by omega) (by omega) (by omega) (by omega) (by omega) (by omega)) (fun r h18 hq => ?_)
            obtain ⟨x20, rfl, ⟨_, _⟩, k19⟩ := hq
            have k21 := kF_t k15 k19 (fun _ q => q)
            refine A_iaddw d_Beams_find_86 (fun x22 _ _ _ => ?_)
            refine A_istore (L' := [some (av_R (some 146)), some (av_R (some a1)), some (av_I a2), some (av_I a3), some (av_I x2), some (av_I x4), some (av_I x22), some (av_I i12), some (av_I i13)]) d_Beams_find_87 (Nat.le_of_ble_eq_true rfl) rfl ?_
            refine A_iload d_Beams_find_89 rfl ?_
            refine A_iconst d_Beams_find_91 rfl ?_
            refine A_iaddv (z := (i13 + 1)) d_Beams_find_92 (w32_to (by omega) (by unfold i32; omega)) ?_
            refine A_pc (pc' := 93) rfl ?_
            refine A_istore (L' := [some (av_R (some 146)), some (av_R (some a1)), some (av_I a2), some (av_I a3), some (av_I x2), some (av_I x4), some (av_I x22), some (av_I (i13 + 1)), some (av_I i13)]) d_Beams_find_93 (Nat.le_of_ble_eq_true rfl) rfl ?_
            refine A_iincv (z := (i13 + 1)) (L' := [some (av_R (some 146)), some (av_R (some a1)), some (av_I a2), some (av_I a3), some (av_I x2), some (av_I x4), some (av_I x22), some (av_I (i13 + 1)), some (av_I (i13 + 1))]) d_Beams_find_95 rfl (w32_to (by omega) (by unfold i32; omega)) rfl ?_
            refine A_goto (tgt := 50) d_Beams_find_98 (by decide) ?_
            exact ih50 x22 (i13 + 1) (i13 + 1) h18 (by omega) (by omega) (by omega) (by omega) (by omega) (by omega) k21 (by omega)
          · refine A_aload_n 1 d_Beams_find_64 rfl rfl ?_
            refine A_iload d_Beams_find_65 rfl ?_
            refine A_callV1 m_Voice_isShort T_ok d_Beams_find_67 l_Beams_34 k_Voice_isShort (xs_V k15.1 ha1) rfl (by decide +kernel) (by decide) (Nat.le_of_ble_eq_true rfl) (s_Voice_isShort k15.1 ha1 (by omega) (by omega)) (fun r h23 hq => ?_)
            obtain ⟨x25, rfl, bx25, rfl⟩ := hq
            refine A_if_ne (tgt := 95) d_Beams_find_70 (by decide) (fun c26 => ?_) (fun c26 => ?_)
            · refine A_iincv (z := (i13 + 1)) (L' := [some (av_R (some 146)), some (av_R (some a1)), some (av_I a2), some (av_I a3), some (av_I x2), some (av_I x4), some (av_I i11), some (av_I i12), some (av_I (i13 + 1))]) d_Beams_find_95 rfl (w32_to (by omega) (by unfold i32; omega)) rfl ?_
              refine A_goto (tgt := 50) d_Beams_find_98 (by decide) ?_
              exact ih50 i11 i12 (i13 + 1) h14 (by omega) (by omega) (by omega) (by omega) (by omega) (by omega) k15 (by omega)
            · refine A_iload d_Beams_find_73 rfl ?_
              refine A_aload_n 0 d_Beams_find_75 rfl rfl ?_
              refine A_aload_n 1 d_Beams_find_76 rfl rfl ?_
              refine A_iload_n 2 d_Beams_find_77 rfl rfl ?_
              refine A_iload d_Beams_find_78 rfl ?_
              refine A_pc (pc' := 80) rfl ?_
              refine A_iload d_Beams_find_80 rfl ?_
              refine A_iload_n 3 d_Beams_find_82 rfl rfl ?_
              refine A_callV5 m_Beams_cutRun T_ok d_Beams_find_83 l_Beams_38 k_Beams_cutRun (xi_s k15.1 sf_146) rfl (by decide +kernel) (by decide) (Nat.le_of_ble_eq_true rfl) (s_Beams_cutRun k15.1 ha1 (by omega) (by omega) (by omega) (by omega) (by omega) (by omega)) (fun r h27 hq => ?_)
              obtain ⟨x29, rfl, ⟨_, _⟩, k28⟩ := hq
              have k30 := kF_t k15 k28 (fun _ q => q)
              refine A_iaddw d_Beams_find_86 (fun x31 _ _ _ => ?_)
              refine A_istore (L' := [some (av_R (some 146)), some (av_R (some a1)), some (av_I a2), some (av_I a3), some (av_I x2), some (av_I x4), some (av_I x31), some (av_I i12), some (av_I i13)]) d_Beams_find_87 (Nat.le_of_ble_eq_true rfl) rfl ?_
              refine A_iload d_Beams_find_89 rfl ?_
              refine A_iconst d_Beams_find_91 rfl ?_
              refine A_iaddv (z := (i13 + 1)) d_Beams_find_92 (w32_to (by omega) (by unfold i32; omega)) ?_
              refine A_pc (pc' := 93) rfl ?_
              refine A_istore (L' := [some (av_R (some 146)), some (av_R (some a1)), some (av_I a2), some (av_I a3), some (av_I x2), some (av_I x4), some (av_I x31), some (av_I (i13 + 1)), some (av_I i13)]) d_Beams_find_93 (Nat.le_of_ble_eq_true rfl) rfl ?_
              refine A_iincv (z := (i13 + 1)) (L' := [some (av_R (some 146)), some (av_R (some a1)), some (av_I a2), some (av_I a3), some (av_I x2), some (av_I x4), some (av_I x31), some (av_I (i13 + 1)), some (av_I (i13 + 1))]) d_Beams_find_95 rfl (w32_to (by omega) (by unfold i32; omega)) rfl ?_
              refine A_goto (tgt := 50) d_Beams_find_98 (by decide) ?_
              exact ih50 x31 (i13 + 1) (i13 + 1) h27 (by omega) (by omega) (by omega) (by omega) (by omega) (by omega) k30 (by omega)
    exact lp50 _ 0 x2 x2 h9 (by omega) (by omega) (by omega) (by omega) (by omega) (by omega) k10 (Nat.lt_succ_self _)
  · refine A_bipush d_Beams_find_31 rfl ?_
    exact A_iret d_Beams_find_33 (by decide) rfl ⟨_, rfl, ⟨by omega, by omega⟩, k0⟩
