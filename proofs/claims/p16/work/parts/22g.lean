/-! ===== the class's methods, 22g ===== -/
def m_Judge_forget : mr_T := (⟨"PlainMusic$Judge", "forget", "()V"⟩, prog_3_method_2_code, 1, none)
theorem d_Judge_forget_0 : decode prog_3_method_2_code 0 = .ok (.aload_n 0, 1) := by decide +kernel
theorem d_Judge_forget_1 : decode prog_3_method_2_code 1 = .ok (.iconst 0, 1) := by decide +kernel
theorem d_Judge_forget_2 : decode prog_3_method_2_code 2 = .ok (.putfield 18, 3) := by decide +kernel
theorem f_Judge_18 : fl_OK "PlainMusic$Judge" 18 1 1 .int false := ⟨_, rfl, by decide, (gw_in 447 (by decide +kernel) (by decide +kernel)), rfl, rfl⟩
theorem sf_143 : sh_L[143]? = some (1 + 4, 3) := by decide +kernel
theorem rgf_143_1 : rg 143 1 = (0, 6404) := by decide +kernel
theorem d_Judge_forget_5 : decode prog_3_method_2_code 5 = .ok (.return_, 1) := by decide +kernel
def m_Judge_add : mr_T := (⟨"PlainMusic$Judge", "add", "(IIII)V"⟩, prog_3_method_5_code, 5, none)
theorem d_Judge_add_0 : decode prog_3_method_5_code 0 = .ok (.aload_n 0, 1) := by decide +kernel
theorem d_Judge_add_1 : decode prog_3_method_5_code 1 = .ok (.getfield 18, 3) := by decide +kernel
theorem d_Judge_add_4 : decode prog_3_method_5_code 4 = .ok (.aload_n 0, 1) := by decide +kernel
theorem d_Judge_add_5 : decode prog_3_method_5_code 5 = .ok (.getfield 11, 3) := by decide +kernel
theorem rff_143_0 : (143, 0, 144) ∈ rf_L := by decide +kernel
theorem d_Judge_add_8 : decode prog_3_method_5_code 8 = .ok (.arraylength, 1) := by decide +kernel
theorem sf_144 : sh_L[144]? = some (0, 6404) := by decide +kernel
theorem d_Judge_add_9 : decode prog_3_method_5_code 9 = .ok (.if_icmp .ge 37, 3) := by decide +kernel
theorem d_Judge_add_46 : decode prog_3_method_5_code 46 = .ok (.return_, 1) := by decide +kernel
theorem d_Judge_add_12 : decode prog_3_method_5_code 12 = .ok (.aload_n 0, 1) := by decide +kernel
theorem d_Judge_add_13 : decode prog_3_method_5_code 13 = .ok (.getfield 11, 3) := by decide +kernel
theorem d_Judge_add_16 : decode prog_3_method_5_code 16 = .ok (.aload_n 0, 1) := by decide +kernel
theorem d_Judge_add_17 : decode prog_3_method_5_code 17 = .ok (.getfield 18, 3) := by decide +kernel
theorem d_Judge_add_20 : decode prog_3_method_5_code 20 = .ok (.iload_n 1, 1) := by decide +kernel
theorem d_Judge_add_21 : decode prog_3_method_5_code 21 = .ok (.iload_n 2, 1) := by decide +kernel
theorem d_Judge_add_22 : decode prog_3_method_5_code 22 = .ok (.iconst 3, 1) := by decide +kernel
theorem d_Judge_add_23 : decode prog_3_method_5_code 23 = .ok (.ishl, 1) := by decide +kernel
theorem d_Judge_add_24 : decode prog_3_method_5_code 24 = .ok (.ior, 1) := by decide +kernel
theorem d_Judge_add_25 : decode prog_3_method_5_code 25 = .ok (.iload_n 3, 1) := by decide +kernel
theorem d_Judge_add_26 : decode prog_3_method_5_code 26 = .ok (.iconst 5, 1) := by decide +kernel
theorem d_Judge_add_27 : decode prog_3_method_5_code 27 = .ok (.ishl, 1) := by decide +kernel
theorem d_Judge_add_28 : decode prog_3_method_5_code 28 = .ok (.ior, 1) := by decide +kernel
theorem d_Judge_add_29 : decode prog_3_method_5_code 29 = .ok (.iload 4, 2) := by decide +kernel
theorem d_Judge_add_31 : decode prog_3_method_5_code 31 = .ok (.bipush 14, 2) := by decide +kernel
theorem d_Judge_add_33 : decode prog_3_method_5_code 33 = .ok (.ishl, 1) := by decide +kernel
theorem d_Judge_add_34 : decode prog_3_method_5_code 34 = .ok (.ior, 1) := by decide +kernel
theorem d_Judge_add_35 : decode prog_3_method_5_code 35 = .ok (.iastore, 1) := by decide +kernel
theorem rgf_144 (k : Nat) : rg 144 k = ((-2147483648), 2147483647) := rfl
theorem d_Judge_add_36 : decode prog_3_method_5_code 36 = .ok (.aload_n 0, 1) := by decide +kernel
theorem d_Judge_add_37 : decode prog_3_method_5_code 37 = .ok (.dup, 1) := by decide +kernel
theorem d_Judge_add_38 : decode prog_3_method_5_code 38 = .ok (.getfield 18, 3) := by decide +kernel
theorem d_Judge_add_41 : decode prog_3_method_5_code 41 = .ok (.iconst 1, 1) := by decide +kernel
theorem d_Judge_add_42 : decode prog_3_method_5_code 42 = .ok (.iadd, 1) := by decide +kernel
theorem d_Judge_add_43 : decode prog_3_method_5_code 43 = .ok (.putfield 18, 3) := by decide +kernel
def m_Judge_detailOf : mr_T := (⟨"PlainMusic$Judge", "detailOf", "(II)I"⟩, prog_3_method_4_code, 4, some .int)
theorem d_Judge_detailOf_0 : decode prog_3_method_4_code 0 = .ok (.iload_n 1, 1) := by decide +kernel
theorem d_Judge_detailOf_1 : decode prog_3_method_4_code 1 = .ok (.ifCond .lt 20, 3) := by decide +kernel
theorem d_Judge_detailOf_21 : decode prog_3_method_4_code 21 = .ok (.iconst (-1), 1) := by decide +kernel
theorem d_Judge_detailOf_22 : decode prog_3_method_4_code 22 = .ok (.ireturn, 1) := by decide +kernel
theorem d_Judge_detailOf_4 : decode prog_3_method_4_code 4 = .ok (.iload_n 1, 1) := by decide +kernel
theorem d_Judge_detailOf_5 : decode prog_3_method_4_code 5 = .ok (.aload_n 0, 1) := by decide +kernel
theorem d_Judge_detailOf_6 : decode prog_3_method_4_code 6 = .ok (.getfield 18, 3) := by decide +kernel
theorem d_Judge_detailOf_9 : decode prog_3_method_4_code 9 = .ok (.if_icmp .ge 12, 3) := by decide +kernel
theorem d_Judge_detailOf_12 : decode prog_3_method_4_code 12 = .ok (.iload_n 1, 1) := by decide +kernel
theorem d_Judge_detailOf_13 : decode prog_3_method_4_code 13 = .ok (.aload_n 0, 1) := by decide +kernel
theorem d_Judge_detailOf_14 : decode prog_3_method_4_code 14 = .ok (.getfield 11, 3) := by decide +kernel
theorem d_Judge_detailOf_17 : decode prog_3_method_4_code 17 = .ok (.arraylength, 1) := by decide +kernel
theorem d_Judge_detailOf_18 : decode prog_3_method_4_code 18 = .ok (.if_icmp .lt 5, 3) := by decide +kernel
theorem d_Judge_detailOf_23 : decode prog_3_method_4_code 23 = .ok (.aload_n 0, 1) := by decide +kernel
theorem d_Judge_detailOf_24 : decode prog_3_method_4_code 24 = .ok (.getfield 11, 3) := by decide +kernel
theorem d_Judge_detailOf_27 : decode prog_3_method_4_code 27 = .ok (.iload_n 1, 1) := by decide +kernel
theorem d_Judge_detailOf_28 : decode prog_3_method_4_code 28 = .ok (.iaload, 1) := by decide +kernel
theorem d_Judge_detailOf_29 : decode prog_3_method_4_code 29 = .ok (.istore_n 3, 1) := by decide +kernel
theorem d_Judge_detailOf_30 : decode prog_3_method_4_code 30 = .ok (.iload_n 2, 1) := by decide +kernel
theorem d_Judge_detailOf_31 : decode prog_3_method_4_code 31 = .ok (.tableswitch 53 0 3 #[29, 34, 40, 48], 29) := by decide +kernel
theorem d_Judge_detailOf_84 : decode prog_3_method_4_code 84 = .ok (.iconst (-1), 1) := by decide +kernel
theorem d_Judge_detailOf_85 : decode prog_3_method_4_code 85 = .ok (.ireturn, 1) := by decide +kernel
theorem d_Judge_detailOf_60 : decode prog_3_method_4_code 60 = .ok (.iload_n 3, 1) := by decide +kernel
theorem d_Judge_detailOf_61 : decode prog_3_method_4_code 61 = .ok (.bipush 7, 2) := by decide +kernel
theorem d_Judge_detailOf_63 : decode prog_3_method_4_code 63 = .ok (.iand, 1) := by decide +kernel
theorem d_Judge_detailOf_64 : decode prog_3_method_4_code 64 = .ok (.ireturn, 1) := by decide +kernel
theorem d_Judge_detailOf_65 : decode prog_3_method_4_code 65 = .ok (.iload_n 3, 1) := by decide +kernel
theorem d_Judge_detailOf_66 : decode prog_3_method_4_code 66 = .ok (.iconst 3, 1) := by decide +kernel
theorem d_Judge_detailOf_67 : decode prog_3_method_4_code 67 = .ok (.ishr, 1) := by decide +kernel
theorem d_Judge_detailOf_68 : decode prog_3_method_4_code 68 = .ok (.iconst 3, 1) := by decide +kernel
theorem d_Judge_detailOf_69 : decode prog_3_method_4_code 69 = .ok (.iand, 1) := by decide +kernel
theorem d_Judge_detailOf_70 : decode prog_3_method_4_code 70 = .ok (.ireturn, 1) := by decide +kernel
theorem d_Judge_detailOf_71 : decode prog_3_method_4_code 71 = .ok (.iload_n 3, 1) := by decide +kernel
theorem d_Judge_detailOf_72 : decode prog_3_method_4_code 72 = .ok (.iconst 5, 1) := by decide +kernel
theorem d_Judge_detailOf_73 : decode prog_3_method_4_code 73 = .ok (.ishr, 1) := by decide +kernel
theorem d_Judge_detailOf_74 : decode prog_3_method_4_code 74 = .ok (.sipush 511, 3) := by decide +kernel
theorem d_Judge_detailOf_77 : decode prog_3_method_4_code 77 = .ok (.iand, 1) := by decide +kernel
theorem d_Judge_detailOf_78 : decode prog_3_method_4_code 78 = .ok (.ireturn, 1) := by decide +kernel
theorem d_Judge_detailOf_79 : decode prog_3_method_4_code 79 = .ok (.iload_n 3, 1) := by decide +kernel
theorem d_Judge_detailOf_80 : decode prog_3_method_4_code 80 = .ok (.bipush 14, 2) := by decide +kernel
theorem d_Judge_detailOf_82 : decode prog_3_method_4_code 82 = .ok (.ishr, 1) := by decide +kernel
theorem d_Judge_detailOf_83 : decode prog_3_method_4_code 83 = .ok (.ireturn, 1) := by decide +kernel
def m_Judge_isWhole : mr_T := (⟨"PlainMusic$Judge", "isWhole", "(LPlainMusic$Score;LPlainMusic$Voice;I)Z"⟩, prog_3_method_7_code, 4, some .boolean)
theorem d_Judge_isWhole_0 : decode prog_3_method_7_code 0 = .ok (.aload_n 1, 1) := by decide +kernel
theorem d_Judge_isWhole_1 : decode prog_3_method_7_code 1 = .ok (.iload_n 2, 1) := by decide +kernel
theorem d_Judge_isWhole_2 : decode prog_3_method_7_code 2 = .ok (.aload_n 0, 1) := by decide +kernel
theorem d_Judge_isWhole_3 : decode prog_3_method_7_code 3 = .ok (.getfield 65, 3) := by decide +kernel
theorem f_Judge_65 : fl_OK "PlainMusic$Judge" 65 6 2 .int false := ⟨_, rfl, by decide, (gw_in 356 (by decide +kernel) (by decide +kernel)), rfl, rfl⟩
theorem d_Judge_isWhole_6 : decode prog_3_method_7_code 6 = .ok (.aload_n 0, 1) := by decide +kernel
theorem d_Judge_isWhole_7 : decode prog_3_method_7_code 7 = .ok (.getfield 68, 3) := by decide +kernel
theorem f_Judge_68 : fl_OK "PlainMusic$Judge" 68 6 3 .int false := ⟨_, rfl, by decide, (gw_in 359 (by decide +kernel) (by decide +kernel)), rfl, rfl⟩
theorem d_Judge_isWhole_10 : decode prog_3_method_7_code 10 = .ok (.invokevirtual 71, 3) := by decide +kernel
theorem k_Voice_compareBar : mt_OK m_Voice_compareBar 3 1 := ⟨(gw_in 1091 (by decide +kernel) (by decide +kernel)), (gw_in 139 (by decide +kernel) (by decide +kernel)), ⟨by decide +kernel, by decide +kernel, by decide +kernel⟩, fun h => absurd h (by decide), fun _ => ⟨(gw_in 1089 (by decide +kernel) (by decide +kernel)), (gw_in 1090 (by decide +kernel) (by decide +kernel))⟩, fun h => absurd h (by decide)⟩
theorem l_Judge_71 : ml_OK "PlainMusic$Judge" 71 ⟨"PlainMusic$Voice", "compareBar", "(III)I"⟩ := Or.inl (gw_in 1088 (by decide +kernel) (by decide +kernel))
theorem d_Judge_isWhole_13 : decode prog_3_method_7_code 13 = .ok (.istore_n 3, 1) := by decide +kernel
theorem d_Judge_isWhole_14 : decode prog_3_method_7_code 14 = .ok (.iload_n 3, 1) := by decide +kernel
theorem d_Judge_isWhole_15 : decode prog_3_method_7_code 15 = .ok (.ifCond .eq 21, 3) := by decide +kernel
theorem d_Judge_isWhole_36 : decode prog_3_method_7_code 36 = .ok (.iconst 1, 1) := by decide +kernel
theorem d_Judge_isWhole_37 : decode prog_3_method_7_code 37 = .ok (.goto 4, 3) := by decide +kernel
theorem d_Judge_isWhole_41 : decode prog_3_method_7_code 41 = .ok (.ireturn, 1) := by decide +kernel
theorem d_Judge_isWhole_18 : decode prog_3_method_7_code 18 = .ok (.iload_n 3, 1) := by decide +kernel
theorem d_Judge_isWhole_19 : decode prog_3_method_7_code 19 = .ok (.ifCond .ge 21, 3) := by decide +kernel
theorem d_Judge_isWhole_40 : decode prog_3_method_7_code 40 = .ok (.iconst 0, 1) := by decide +kernel
theorem d_Judge_isWhole_22 : decode prog_3_method_7_code 22 = .ok (.iload_n 2, 1) := by decide +kernel
theorem d_Judge_isWhole_23 : decode prog_3_method_7_code 23 = .ok (.ifCond .eq 13, 3) := by decide +kernel
theorem d_Judge_isWhole_26 : decode prog_3_method_7_code 26 = .ok (.iload_n 2, 1) := by decide +kernel
theorem d_Judge_isWhole_27 : decode prog_3_method_7_code 27 = .ok (.aload_n 1, 1) := by decide +kernel
theorem d_Judge_isWhole_28 : decode prog_3_method_7_code 28 = .ok (.getfield 40, 3) := by decide +kernel
theorem f_Judge_40 : fl_OK "PlainMusic$Judge" 40 10 16 .int false := ⟨_, rfl, by decide, (gw_in 310 (by decide +kernel) (by decide +kernel)), rfl, rfl⟩
theorem d_Judge_isWhole_31 : decode prog_3_method_7_code 31 = .ok (.iconst 1, 1) := by decide +kernel
theorem d_Judge_isWhole_32 : decode prog_3_method_7_code 32 = .ok (.isub, 1) := by decide +kernel
theorem d_Judge_isWhole_33 : decode prog_3_method_7_code 33 = .ok (.if_icmp .ne 7, 3) := by decide +kernel
def m_Judge_isHeld : mr_T := (⟨"PlainMusic$Judge", "isHeld", "(LPlainMusic$Voice;I)Z"⟩, prog_3_method_9_code, 3, some .boolean)
theorem d_Judge_isHeld_0 : decode prog_3_method_9_code 0 = .ok (.iload_n 1, 1) := by decide +kernel
theorem d_Judge_isHeld_1 : decode prog_3_method_9_code 1 = .ok (.iconst 1, 1) := by decide +kernel
theorem d_Judge_isHeld_2 : decode prog_3_method_9_code 2 = .ok (.iadd, 1) := by decide +kernel
theorem d_Judge_isHeld_3 : decode prog_3_method_9_code 3 = .ok (.aload_n 0, 1) := by decide +kernel
theorem d_Judge_isHeld_4 : decode prog_3_method_9_code 4 = .ok (.getfield 35, 3) := by decide +kernel
theorem f_Judge_35 : fl_OK "PlainMusic$Judge" 35 10 14 .int false := ⟨_, rfl, by decide, (gw_in 302 (by decide +kernel) (by decide +kernel)), rfl, rfl⟩
theorem d_Judge_isHeld_7 : decode prog_3_method_9_code 7 = .ok (.if_icmp .lt 5, 3) := by decide +kernel
theorem d_Judge_isHeld_12 : decode prog_3_method_9_code 12 = .ok (.iconst 0, 1) := by decide +kernel
theorem d_Judge_isHeld_13 : decode prog_3_method_9_code 13 = .ok (.istore_n 2, 1) := by decide +kernel
theorem d_Judge_isHeld_14 : decode prog_3_method_9_code 14 = .ok (.iload_n 2, 1) := by decide +kernel
theorem d_Judge_isHeld_15 : decode prog_3_method_9_code 15 = .ok (.aload_n 0, 1) := by decide +kernel
theorem d_Judge_isHeld_16 : decode prog_3_method_9_code 16 = .ok (.iload_n 1, 1) := by decide +kernel
theorem d_Judge_isHeld_17 : decode prog_3_method_9_code 17 = .ok (.invokevirtual 95, 3) := by decide +kernel
theorem l_Judge_95 : ml_OK "PlainMusic$Judge" 95 ⟨"PlainMusic$Voice", "pitchesOf", "(I)I"⟩ := Or.inl (gw_in 1115 (by decide +kernel) (by decide +kernel))
theorem d_Judge_isHeld_20 : decode prog_3_method_9_code 20 = .ok (.if_icmp .ge 27, 3) := by decide +kernel
theorem d_Judge_isHeld_47 : decode prog_3_method_9_code 47 = .ok (.iconst 1, 1) := by decide +kernel
theorem d_Judge_isHeld_48 : decode prog_3_method_9_code 48 = .ok (.ireturn, 1) := by decide +kernel
theorem d_Judge_isHeld_23 : decode prog_3_method_9_code 23 = .ok (.aload_n 0, 1) := by decide +kernel
theorem d_Judge_isHeld_24 : decode prog_3_method_9_code 24 = .ok (.iload_n 1, 1) := by decide +kernel
theorem d_Judge_isHeld_25 : decode prog_3_method_9_code 25 = .ok (.iconst 1, 1) := by decide +kernel
theorem d_Judge_isHeld_26 : decode prog_3_method_9_code 26 = .ok (.iadd, 1) := by decide +kernel
theorem d_Judge_isHeld_27 : decode prog_3_method_9_code 27 = .ok (.aload_n 0, 1) := by decide +kernel
theorem d_Judge_isHeld_28 : decode prog_3_method_9_code 28 = .ok (.iload_n 1, 1) := by decide +kernel
theorem d_Judge_isHeld_29 : decode prog_3_method_9_code 29 = .ok (.iload_n 2, 1) := by decide +kernel
theorem d_Judge_isHeld_30 : decode prog_3_method_9_code 30 = .ok (.invokevirtual 98, 3) := by decide +kernel
theorem l_Judge_98 : ml_OK "PlainMusic$Judge" 98 ⟨"PlainMusic$Voice", "keyOf", "(II)I"⟩ := Or.inl (gw_in 1116 (by decide +kernel) (by decide +kernel))
theorem d_Judge_isHeld_33 : decode prog_3_method_9_code 33 = .ok (.invokevirtual 102, 3) := by decide +kernel
theorem k_Voice_hasKey : mt_OK m_Voice_hasKey 2 1 := ⟨(gw_in 1120 (by decide +kernel) (by decide +kernel)), (gw_in 139 (by decide +kernel) (by decide +kernel)), ⟨by decide +kernel, by decide +kernel, by decide +kernel⟩, fun h => absurd h (by decide), fun _ => ⟨(gw_in 1118 (by decide +kernel) (by decide +kernel)), (gw_in 1119 (by decide +kernel) (by decide +kernel))⟩, fun h => absurd h (by decide)⟩
theorem l_Judge_102 : ml_OK "PlainMusic$Judge" 102 ⟨"PlainMusic$Voice", "hasKey", "(II)Z"⟩ := Or.inl (gw_in 1117 (by decide +kernel) (by decide +kernel))
theorem d_Judge_isHeld_36 : decode prog_3_method_9_code 36 = .ok (.ifCond .ne 5, 3) := by decide +kernel
theorem d_Judge_isHeld_41 : decode prog_3_method_9_code 41 = .ok (.iinc 2 1, 3) := by decide +kernel
theorem d_Judge_isHeld_44 : decode prog_3_method_9_code 44 = .ok (.goto (-30), 3) := by decide +kernel
theorem d_Judge_isHeld_39 : decode prog_3_method_9_code 39 = .ok (.iconst 0, 1) := by decide +kernel
theorem d_Judge_isHeld_40 : decode prog_3_method_9_code 40 = .ok (.ireturn, 1) := by decide +kernel
theorem d_Judge_isHeld_10 : decode prog_3_method_9_code 10 = .ok (.iconst 0, 1) := by decide +kernel
theorem d_Judge_isHeld_11 : decode prog_3_method_9_code 11 = .ok (.ireturn, 1) := by decide +kernel
def m_Judge_hearAlone : mr_T := (⟨"PlainMusic$Judge", "hearAlone", "(LPlainMusic$Voice;II)V"⟩, prog_3_method_8_code, 4, none)
theorem d_Judge_hearAlone_0 : decode prog_3_method_8_code 0 = .ok (.aload_n 1, 1) := by decide +kernel
theorem d_Judge_hearAlone_1 : decode prog_3_method_8_code 1 = .ok (.iload_n 3, 1) := by decide +kernel
theorem d_Judge_hearAlone_2 : decode prog_3_method_8_code 2 = .ok (.invokevirtual 75, 3) := by decide +kernel
theorem l_Judge_75 : ml_OK "PlainMusic$Judge" 75 ⟨"PlainMusic$Voice", "isTied", "(I)Z"⟩ := Or.inl (gw_in 1111 (by decide +kernel) (by decide +kernel))
theorem d_Judge_hearAlone_5 : decode prog_3_method_8_code 5 = .ok (.ifCond .eq 19, 3) := by decide +kernel
theorem d_Judge_hearAlone_24 : decode prog_3_method_8_code 24 = .ok (.iload_n 3, 1) := by decide +kernel
theorem d_Judge_hearAlone_25 : decode prog_3_method_8_code 25 = .ok (.ifCond .le 50, 3) := by decide +kernel
theorem d_Judge_hearAlone_75 : decode prog_3_method_8_code 75 = .ok (.return_, 1) := by decide +kernel
theorem d_Judge_hearAlone_28 : decode prog_3_method_8_code 28 = .ok (.aload_n 1, 1) := by decide +kernel
theorem d_Judge_hearAlone_29 : decode prog_3_method_8_code 29 = .ok (.iload_n 3, 1) := by decide +kernel
theorem d_Judge_hearAlone_30 : decode prog_3_method_8_code 30 = .ok (.invokevirtual 83, 3) := by decide +kernel
theorem l_Judge_83 : ml_OK "PlainMusic$Judge" 83 ⟨"PlainMusic$Voice", "isRest", "(I)Z"⟩ := Or.inl (gw_in 1122 (by decide +kernel) (by decide +kernel))
theorem d_Judge_hearAlone_33 : decode prog_3_method_8_code 33 = .ok (.ifCond .ne 42, 3) := by decide +kernel
theorem d_Judge_hearAlone_36 : decode prog_3_method_8_code 36 = .ok (.aload_n 1, 1) := by decide +kernel
theorem d_Judge_hearAlone_37 : decode prog_3_method_8_code 37 = .ok (.iload_n 3, 1) := by decide +kernel
theorem d_Judge_hearAlone_38 : decode prog_3_method_8_code 38 = .ok (.iconst 1, 1) := by decide +kernel
theorem d_Judge_hearAlone_39 : decode prog_3_method_8_code 39 = .ok (.isub, 1) := by decide +kernel
theorem d_Judge_hearAlone_40 : decode prog_3_method_8_code 40 = .ok (.invokevirtual 83, 3) := by decide +kernel
theorem d_Judge_hearAlone_43 : decode prog_3_method_8_code 43 = .ok (.ifCond .ne 32, 3) := by decide +kernel
theorem d_Judge_hearAlone_46 : decode prog_3_method_8_code 46 = .ok (.aload_n 1, 1) := by decide +kernel
theorem d_Judge_hearAlone_47 : decode prog_3_method_8_code 47 = .ok (.iload_n 3, 1) := by decide +kernel
theorem d_Judge_hearAlone_48 : decode prog_3_method_8_code 48 = .ok (.invokevirtual 86, 3) := by decide +kernel
theorem k_Voice_lowestKey : mt_OK m_Voice_lowestKey 1 1 := ⟨(gw_in 1129 (by decide +kernel) (by decide +kernel)), (gw_in 139 (by decide +kernel) (by decide +kernel)), ⟨by decide +kernel, by decide +kernel, by decide +kernel⟩, fun h => absurd h (by decide), fun _ => ⟨(gw_in 1127 (by decide +kernel) (by decide +kernel)), (gw_in 1128 (by decide +kernel) (by decide +kernel))⟩, fun h => absurd h (by decide)⟩
theorem l_Judge_86 : ml_OK "PlainMusic$Judge" 86 ⟨"PlainMusic$Voice", "lowestKey", "(I)I"⟩ := Or.inl (gw_in 1126 (by decide +kernel) (by decide +kernel))
theorem d_Judge_hearAlone_51 : decode prog_3_method_8_code 51 = .ok (.aload_n 1, 1) := by decide +kernel
theorem d_Judge_hearAlone_52 : decode prog_3_method_8_code 52 = .ok (.iload_n 3, 1) := by decide +kernel
theorem d_Judge_hearAlone_53 : decode prog_3_method_8_code 53 = .ok (.iconst 1, 1) := by decide +kernel
theorem d_Judge_hearAlone_54 : decode prog_3_method_8_code 54 = .ok (.isub, 1) := by decide +kernel
theorem d_Judge_hearAlone_55 : decode prog_3_method_8_code 55 = .ok (.invokevirtual 86, 3) := by decide +kernel
theorem d_Judge_hearAlone_58 : decode prog_3_method_8_code 58 = .ok (.isub, 1) := by decide +kernel
theorem d_Judge_hearAlone_59 : decode prog_3_method_8_code 59 = .ok (.invokestatic 90, 3) := by decide +kernel
theorem lm_Judge_90 : Cond.methodLink "PlainMusic$Judge" 90 Lib.Math.abs.name ∈ gw := (gw_in 1130 (by decide +kernel) (by decide +kernel))
theorem d_Judge_hearAlone_62 : decode prog_3_method_8_code 62 = .ok (.bipush 12, 2) := by decide +kernel
theorem d_Judge_hearAlone_64 : decode prog_3_method_8_code 64 = .ok (.if_icmp .le 11, 3) := by decide +kernel
theorem d_Judge_hearAlone_67 : decode prog_3_method_8_code 67 = .ok (.aload_n 0, 1) := by decide +kernel
theorem d_Judge_hearAlone_68 : decode prog_3_method_8_code 68 = .ok (.iconst 3, 1) := by decide +kernel
theorem d_Judge_hearAlone_69 : decode prog_3_method_8_code 69 = .ok (.iload_n 2, 1) := by decide +kernel
theorem d_Judge_hearAlone_70 : decode prog_3_method_8_code 70 = .ok (.iload_n 3, 1) := by decide +kernel
theorem d_Judge_hearAlone_71 : decode prog_3_method_8_code 71 = .ok (.iconst 0, 1) := by decide +kernel
theorem d_Judge_hearAlone_72 : decode prog_3_method_8_code 72 = .ok (.invokevirtual 50, 3) := by decide +kernel
theorem k_Judge_add : mt_OK m_Judge_add 4 1 := ⟨(gw_in 1106 (by decide +kernel) (by decide +kernel)), (gw_in 140 (by decide +kernel) (by decide +kernel)), ⟨by decide +kernel, by decide +kernel, by decide +kernel⟩, fun h => absurd h (by decide), fun _ => ⟨(gw_in 1105 (by decide +kernel) (by decide +kernel)), (gw_in 29 (by decide +kernel) (by decide +kernel))⟩, fun h => absurd h (by decide)⟩
theorem l_Judge_50 : ml_OK "PlainMusic$Judge" 50 ⟨"PlainMusic$Judge", "add", "(IIII)V"⟩ := Or.inl (gw_in 1103 (by decide +kernel) (by decide +kernel))
theorem d_Judge_hearAlone_8 : decode prog_3_method_8_code 8 = .ok (.aload_n 1, 1) := by decide +kernel
theorem d_Judge_hearAlone_9 : decode prog_3_method_8_code 9 = .ok (.iload_n 3, 1) := by decide +kernel
theorem d_Judge_hearAlone_10 : decode prog_3_method_8_code 10 = .ok (.invokestatic 79, 3) := by decide +kernel
theorem k_Judge_isHeld : mt_OK m_Judge_isHeld 2 0 := ⟨(gw_in 1114 (by decide +kernel) (by decide +kernel)), (gw_in 140 (by decide +kernel) (by decide +kernel)), ⟨by decide +kernel, by decide +kernel, by decide +kernel⟩, fun _ => (gw_in 1113 (by decide +kernel) (by decide +kernel)), fun h => absurd h (by decide), fun h => absurd h (by decide)⟩
theorem l_Judge_79 : ml_OK "PlainMusic$Judge" 79 ⟨"PlainMusic$Judge", "isHeld", "(LPlainMusic$Voice;I)Z"⟩ := Or.inl (gw_in 1112 (by decide +kernel) (by decide +kernel))
theorem d_Judge_hearAlone_13 : decode prog_3_method_8_code 13 = .ok (.ifCond .ne 11, 3) := by decide +kernel
theorem d_Judge_hearAlone_16 : decode prog_3_method_8_code 16 = .ok (.aload_n 0, 1) := by decide +kernel
theorem d_Judge_hearAlone_17 : decode prog_3_method_8_code 17 = .ok (.iconst 2, 1) := by decide +kernel
theorem d_Judge_hearAlone_18 : decode prog_3_method_8_code 18 = .ok (.iload_n 2, 1) := by decide +kernel
theorem d_Judge_hearAlone_19 : decode prog_3_method_8_code 19 = .ok (.iload_n 3, 1) := by decide +kernel
theorem d_Judge_hearAlone_20 : decode prog_3_method_8_code 20 = .ok (.iconst 0, 1) := by decide +kernel
theorem d_Judge_hearAlone_21 : decode prog_3_method_8_code 21 = .ok (.invokevirtual 50, 3) := by decide +kernel
def m_Judge_compareStarts : mr_T := (⟨"PlainMusic$Judge", "compareStarts", "(LPlainMusic$Voice;ILPlainMusic$Voice;I)I"⟩, prog_3_method_13_code, 4, some .int)
theorem d_Judge_compareStarts_0 : decode prog_3_method_13_code 0 = .ok (.aload_n 0, 1) := by decide +kernel
theorem d_Judge_compareStarts_1 : decode prog_3_method_13_code 1 = .ok (.getfield 120, 3) := by decide +kernel
theorem f_Judge_120 : fl_OK "PlainMusic$Judge" 120 10 10 (.array .long) true := ⟨_, rfl, by decide, (gw_in 289 (by decide +kernel) (by decide +kernel)), rfl, rfl⟩
theorem d_Judge_compareStarts_4 : decode prog_3_method_13_code 4 = .ok (.iload_n 1, 1) := by decide +kernel
theorem d_Judge_compareStarts_5 : decode prog_3_method_13_code 5 = .ok (.laload, 1) := by decide +kernel
theorem d_Judge_compareStarts_6 : decode prog_3_method_13_code 6 = .ok (.aload_n 2, 1) := by decide +kernel
theorem d_Judge_compareStarts_7 : decode prog_3_method_13_code 7 = .ok (.getfield 124, 3) := by decide +kernel
theorem f_Judge_124 : fl_OK "PlainMusic$Judge" 124 10 11 (.array .long) true := ⟨_, rfl, by decide, (gw_in 292 (by decide +kernel) (by decide +kernel)), rfl, rfl⟩
theorem d_Judge_compareStarts_10 : decode prog_3_method_13_code 10 = .ok (.iload_n 3, 1) := by decide +kernel
theorem d_Judge_compareStarts_11 : decode prog_3_method_13_code 11 = .ok (.laload, 1) := by decide +kernel
theorem d_Judge_compareStarts_12 : decode prog_3_method_13_code 12 = .ok (.lmul, 1) := by decide +kernel
theorem d_Judge_compareStarts_13 : decode prog_3_method_13_code 13 = .ok (.aload_n 2, 1) := by decide +kernel
theorem d_Judge_compareStarts_14 : decode prog_3_method_13_code 14 = .ok (.getfield 120, 3) := by decide +kernel
theorem d_Judge_compareStarts_17 : decode prog_3_method_13_code 17 = .ok (.iload_n 3, 1) := by decide +kernel
theorem d_Judge_compareStarts_18 : decode prog_3_method_13_code 18 = .ok (.laload, 1) := by decide +kernel
theorem d_Judge_compareStarts_19 : decode prog_3_method_13_code 19 = .ok (.aload_n 0, 1) := by decide +kernel
theorem d_Judge_compareStarts_20 : decode prog_3_method_13_code 20 = .ok (.getfield 124, 3) := by decide +kernel
theorem d_Judge_compareStarts_23 : decode prog_3_method_13_code 23 = .ok (.iload_n 1, 1) := by decide +kernel
theorem d_Judge_compareStarts_24 : decode prog_3_method_13_code 24 = .ok (.laload, 1) := by decide +kernel
theorem d_Judge_compareStarts_25 : decode prog_3_method_13_code 25 = .ok (.lmul, 1) := by decide +kernel
theorem d_Judge_compareStarts_26 : decode prog_3_method_13_code 26 = .ok (.invokestatic 127, 3) := by decide +kernel
theorem l_Judge_127 : ml_OK "PlainMusic$Judge" 127 ⟨"java/lang/Long", "compare", "(JJ)I"⟩ := Or.inl (gw_in 1143 (by decide +kernel) (by decide +kernel))
theorem d_Judge_compareStarts_29 : decode prog_3_method_13_code 29 = .ok (.ireturn, 1) := by decide +kernel
def m_Judge_firstNotEnded : mr_T := (⟨"PlainMusic$Judge", "firstNotEnded", "(LPlainMusic$Voice;ILPlainMusic$Voice;I)I"⟩, prog_3_method_11_code, 5, some .int)
theorem d_Judge_firstNotEnded_0 : decode prog_3_method_11_code 0 = .ok (.iload_n 1, 1) := by decide +kernel
theorem d_Judge_firstNotEnded_1 : decode prog_3_method_11_code 1 = .ok (.istore 4, 2) := by decide +kernel
theorem d_Judge_firstNotEnded_3 : decode prog_3_method_11_code 3 = .ok (.iload 4, 2) := by decide +kernel
theorem d_Judge_firstNotEnded_5 : decode prog_3_method_11_code 5 = .ok (.aload_n 0, 1) := by decide +kernel
theorem d_Judge_firstNotEnded_6 : decode prog_3_method_11_code 6 = .ok (.getfield 35, 3) := by decide +kernel
theorem d_Judge_firstNotEnded_9 : decode prog_3_method_11_code 9 = .ok (.if_icmp .ge 22, 3) := by decide +kernel
theorem d_Judge_firstNotEnded_31 : decode prog_3_method_11_code 31 = .ok (.iload 4, 2) := by decide +kernel
theorem d_Judge_firstNotEnded_33 : decode prog_3_method_11_code 33 = .ok (.ireturn, 1) := by decide +kernel
theorem d_Judge_firstNotEnded_12 : decode prog_3_method_11_code 12 = .ok (.aload_n 0, 1) := by decide +kernel
theorem d_Judge_firstNotEnded_13 : decode prog_3_method_11_code 13 = .ok (.iload 4, 2) := by decide +kernel
theorem d_Judge_firstNotEnded_15 : decode prog_3_method_11_code 15 = .ok (.iconst 1, 1) := by decide +kernel
theorem d_Judge_firstNotEnded_16 : decode prog_3_method_11_code 16 = .ok (.iadd, 1) := by decide +kernel
theorem d_Judge_firstNotEnded_17 : decode prog_3_method_11_code 17 = .ok (.aload_n 2, 1) := by decide +kernel
theorem d_Judge_firstNotEnded_18 : decode prog_3_method_11_code 18 = .ok (.iload_n 3, 1) := by decide +kernel
theorem d_Judge_firstNotEnded_19 : decode prog_3_method_11_code 19 = .ok (.invokestatic 114, 3) := by decide +kernel
theorem k_Judge_compareStarts : mt_OK m_Judge_compareStarts 4 0 := ⟨(gw_in 1142 (by decide +kernel) (by decide +kernel)), (gw_in 140 (by decide +kernel) (by decide +kernel)), ⟨by decide +kernel, by decide +kernel, by decide +kernel⟩, fun _ => (gw_in 1141 (by decide +kernel) (by decide +kernel)), fun h => absurd h (by decide), fun h => absurd h (by decide)⟩
theorem l_Judge_114 : ml_OK "PlainMusic$Judge" 114 ⟨"PlainMusic$Judge", "compareStarts", "(LPlainMusic$Voice;ILPlainMusic$Voice;I)I"⟩ := Or.inl (gw_in 1140 (by decide +kernel) (by decide +kernel))
theorem d_Judge_firstNotEnded_22 : decode prog_3_method_11_code 22 = .ok (.ifCond .gt 9, 3) := by decide +kernel
theorem d_Judge_firstNotEnded_25 : decode prog_3_method_11_code 25 = .ok (.iinc 4 1, 3) := by decide +kernel
theorem d_Judge_firstNotEnded_28 : decode prog_3_method_11_code 28 = .ok (.goto (-25), 3) := by decide +kernel
def m_Judge_isCrossed : mr_T := (⟨"PlainMusic$Judge", "isCrossed", "(LPlainMusic$Voice;ILPlainMusic$Voice;I)Z"⟩, prog_3_method_12_code, 5, some .boolean)
theorem d_Judge_isCrossed_0 : decode prog_3_method_12_code 0 = .ok (.aload_n 2, 1) := by decide +kernel
theorem d_Judge_isCrossed_1 : decode prog_3_method_12_code 1 = .ok (.iload_n 3, 1) := by decide +kernel
theorem d_Judge_isCrossed_2 : decode prog_3_method_12_code 2 = .ok (.invokevirtual 83, 3) := by decide +kernel
theorem d_Judge_isCrossed_5 : decode prog_3_method_12_code 5 = .ok (.ifCond .eq 5, 3) := by decide +kernel
theorem d_Judge_isCrossed_10 : decode prog_3_method_12_code 10 = .ok (.iload_n 1, 1) := by decide +kernel
theorem d_Judge_isCrossed_11 : decode prog_3_method_12_code 11 = .ok (.istore 4, 2) := by decide +kernel
theorem d_Judge_isCrossed_13 : decode prog_3_method_12_code 13 = .ok (.iload 4, 2) := by decide +kernel
theorem d_Judge_isCrossed_15 : decode prog_3_method_12_code 15 = .ok (.aload_n 0, 1) := by decide +kernel
theorem d_Judge_isCrossed_16 : decode prog_3_method_12_code 16 = .ok (.getfield 35, 3) := by decide +kernel
theorem d_Judge_isCrossed_19 : decode prog_3_method_12_code 19 = .ok (.if_icmp .ge 47, 3) := by decide +kernel
theorem d_Judge_isCrossed_66 : decode prog_3_method_12_code 66 = .ok (.iconst 0, 1) := by decide +kernel
theorem d_Judge_isCrossed_67 : decode prog_3_method_12_code 67 = .ok (.ireturn, 1) := by decide +kernel
theorem d_Judge_isCrossed_22 : decode prog_3_method_12_code 22 = .ok (.aload_n 0, 1) := by decide +kernel
theorem d_Judge_isCrossed_23 : decode prog_3_method_12_code 23 = .ok (.iload 4, 2) := by decide +kernel
theorem d_Judge_isCrossed_25 : decode prog_3_method_12_code 25 = .ok (.aload_n 2, 1) := by decide +kernel
theorem d_Judge_isCrossed_26 : decode prog_3_method_12_code 26 = .ok (.iload_n 3, 1) := by decide +kernel
theorem d_Judge_isCrossed_27 : decode prog_3_method_12_code 27 = .ok (.iconst 1, 1) := by decide +kernel
theorem d_Judge_isCrossed_28 : decode prog_3_method_12_code 28 = .ok (.iadd, 1) := by decide +kernel
theorem d_Judge_isCrossed_29 : decode prog_3_method_12_code 29 = .ok (.invokestatic 114, 3) := by decide +kernel
theorem d_Judge_isCrossed_32 : decode prog_3_method_12_code 32 = .ok (.ifCond .ge 34, 3) := by decide +kernel
theorem d_Judge_isCrossed_35 : decode prog_3_method_12_code 35 = .ok (.aload_n 0, 1) := by decide +kernel
theorem d_Judge_isCrossed_36 : decode prog_3_method_12_code 36 = .ok (.iload 4, 2) := by decide +kernel
theorem d_Judge_isCrossed_38 : decode prog_3_method_12_code 38 = .ok (.invokevirtual 83, 3) := by decide +kernel
theorem d_Judge_isCrossed_41 : decode prog_3_method_12_code 41 = .ok (.ifCond .ne 19, 3) := by decide +kernel
theorem d_Judge_isCrossed_60 : decode prog_3_method_12_code 60 = .ok (.iinc 4 1, 3) := by decide +kernel
theorem d_Judge_isCrossed_63 : decode prog_3_method_12_code 63 = .ok (.goto (-50), 3) := by decide +kernel
theorem d_Judge_isCrossed_44 : decode prog_3_method_12_code 44 = .ok (.aload_n 0, 1) := by decide +kernel
theorem d_Judge_isCrossed_45 : decode prog_3_method_12_code 45 = .ok (.iload 4, 2) := by decide +kernel
theorem d_Judge_isCrossed_47 : decode prog_3_method_12_code 47 = .ok (.invokevirtual 86, 3) := by decide +kernel
theorem d_Judge_isCrossed_50 : decode prog_3_method_12_code 50 = .ok (.aload_n 2, 1) := by decide +kernel
theorem d_Judge_isCrossed_51 : decode prog_3_method_12_code 51 = .ok (.iload_n 3, 1) := by decide +kernel
theorem d_Judge_isCrossed_52 : decode prog_3_method_12_code 52 = .ok (.invokevirtual 117, 3) := by decide +kernel
theorem k_Voice_highestKey : mt_OK m_Voice_highestKey 1 1 := ⟨(gw_in 1150 (by decide +kernel) (by decide +kernel)), (gw_in 139 (by decide +kernel) (by decide +kernel)), ⟨by decide +kernel, by decide +kernel, by decide +kernel⟩, fun h => absurd h (by decide), fun _ => ⟨(gw_in 1148 (by decide +kernel) (by decide +kernel)), (gw_in 1149 (by decide +kernel) (by decide +kernel))⟩, fun h => absurd h (by decide)⟩
theorem l_Judge_117 : ml_OK "PlainMusic$Judge" 117 ⟨"PlainMusic$Voice", "highestKey", "(I)I"⟩ := Or.inl (gw_in 1147 (by decide +kernel) (by decide +kernel))
theorem d_Judge_isCrossed_55 : decode prog_3_method_12_code 55 = .ok (.if_icmp .ge 5, 3) := by decide +kernel
theorem d_Judge_isCrossed_58 : decode prog_3_method_12_code 58 = .ok (.iconst 1, 1) := by decide +kernel
theorem d_Judge_isCrossed_59 : decode prog_3_method_12_code 59 = .ok (.ireturn, 1) := by decide +kernel
theorem d_Judge_isCrossed_8 : decode prog_3_method_12_code 8 = .ok (.iconst 0, 1) := by decide +kernel
theorem d_Judge_isCrossed_9 : decode prog_3_method_12_code 9 = .ok (.ireturn, 1) := by decide +kernel
def m_Judge_hearCrossings : mr_T := (⟨"PlainMusic$Judge", "hearCrossings", "(LPlainMusic$Score;LPlainMusic$Voice;II)V"⟩, prog_3_method_10_code, 7, none)
theorem d_Judge_hearCrossings_0 : decode prog_3_method_10_code 0 = .ok (.iconst 0, 1) := by decide +kernel
theorem d_Judge_hearCrossings_1 : decode prog_3_method_10_code 1 = .ok (.istore 5, 2) := by decide +kernel
theorem d_Judge_hearCrossings_3 : decode prog_3_method_10_code 3 = .ok (.iload 5, 2) := by decide +kernel
theorem d_Judge_hearCrossings_5 : decode prog_3_method_10_code 5 = .ok (.iload_n 3, 1) := by decide +kernel
theorem d_Judge_hearCrossings_6 : decode prog_3_method_10_code 6 = .ok (.if_icmp .ge 82, 3) := by decide +kernel
theorem d_Judge_hearCrossings_88 : decode prog_3_method_10_code 88 = .ok (.return_, 1) := by decide +kernel
theorem d_Judge_hearCrossings_9 : decode prog_3_method_10_code 9 = .ok (.iload 5, 2) := by decide +kernel
theorem d_Judge_hearCrossings_11 : decode prog_3_method_10_code 11 = .ok (.aload_n 0, 1) := by decide +kernel
theorem d_Judge_hearCrossings_12 : decode prog_3_method_10_code 12 = .ok (.getfield 15, 3) := by decide +kernel
theorem rff_143_2 : (143, 2, 145) ∈ rf_L := by decide +kernel
theorem d_Judge_hearCrossings_15 : decode prog_3_method_10_code 15 = .ok (.arraylength, 1) := by decide +kernel
theorem sf_145 : sh_L[145]? = some (0, 4) := by decide +kernel
theorem d_Judge_hearCrossings_16 : decode prog_3_method_10_code 16 = .ok (.if_icmp .ge 72, 3) := by decide +kernel
theorem d_Judge_hearCrossings_19 : decode prog_3_method_10_code 19 = .ok (.aload_n 1, 1) := by decide +kernel
theorem d_Judge_hearCrossings_20 : decode prog_3_method_10_code 20 = .ok (.iload 5, 2) := by decide +kernel
theorem d_Judge_hearCrossings_22 : decode prog_3_method_10_code 22 = .ok (.invokevirtual 27, 3) := by decide +kernel
theorem l_Judge_27 : ml_OK "PlainMusic$Judge" 27 ⟨"PlainMusic$Score", "voiceAt", "(I)LPlainMusic$Voice;"⟩ := Or.inl (gw_in 1080 (by decide +kernel) (by decide +kernel))
theorem d_Judge_hearCrossings_25 : decode prog_3_method_10_code 25 = .ok (.astore 6, 2) := by decide +kernel
theorem d_Judge_hearCrossings_27 : decode prog_3_method_10_code 27 = .ok (.aload 6, 2) := by decide +kernel
theorem d_Judge_hearCrossings_29 : decode prog_3_method_10_code 29 = .ok (.ifnull 53, 3) := by decide +kernel
theorem d_Judge_hearCrossings_82 : decode prog_3_method_10_code 82 = .ok (.iinc 5 1, 3) := by decide +kernel
theorem d_Judge_hearCrossings_85 : decode prog_3_method_10_code 85 = .ok (.goto (-82), 3) := by decide +kernel
theorem d_Judge_hearCrossings_32 : decode prog_3_method_10_code 32 = .ok (.aload_n 0, 1) := by decide +kernel
theorem d_Judge_hearCrossings_33 : decode prog_3_method_10_code 33 = .ok (.getfield 15, 3) := by decide +kernel
theorem d_Judge_hearCrossings_36 : decode prog_3_method_10_code 36 = .ok (.iload 5, 2) := by decide +kernel
theorem d_Judge_hearCrossings_38 : decode prog_3_method_10_code 38 = .ok (.aload 6, 2) := by decide +kernel
theorem d_Judge_hearCrossings_40 : decode prog_3_method_10_code 40 = .ok (.aload_n 0, 1) := by decide +kernel
theorem d_Judge_hearCrossings_41 : decode prog_3_method_10_code 41 = .ok (.getfield 15, 3) := by decide +kernel
theorem d_Judge_hearCrossings_44 : decode prog_3_method_10_code 44 = .ok (.iload 5, 2) := by decide +kernel
theorem d_Judge_hearCrossings_46 : decode prog_3_method_10_code 46 = .ok (.iaload, 1) := by decide +kernel
theorem rgf_145 (k : Nat) : rg 145 k = (0, 300) := rfl
theorem d_Judge_hearCrossings_47 : decode prog_3_method_10_code 47 = .ok (.aload_n 2, 1) := by decide +kernel
theorem d_Judge_hearCrossings_48 : decode prog_3_method_10_code 48 = .ok (.iload 4, 2) := by decide +kernel
theorem d_Judge_hearCrossings_50 : decode prog_3_method_10_code 50 = .ok (.invokestatic 106, 3) := by decide +kernel
theorem k_Judge_firstNotEnded : mt_OK m_Judge_firstNotEnded 4 0 := ⟨(gw_in 1139 (by decide +kernel) (by decide +kernel)), (gw_in 140 (by decide +kernel) (by decide +kernel)), ⟨by decide +kernel, by decide +kernel, by decide +kernel⟩, fun _ => (gw_in 1138 (by decide +kernel) (by decide +kernel)), fun h => absurd h (by decide), fun h => absurd h (by decide)⟩
theorem l_Judge_106 : ml_OK "PlainMusic$Judge" 106 ⟨"PlainMusic$Judge", "firstNotEnded", "(LPlainMusic$Voice;ILPlainMusic$Voice;I)I"⟩ := Or.inl (gw_in 1137 (by decide +kernel) (by decide +kernel))
theorem d_Judge_hearCrossings_53 : decode prog_3_method_10_code 53 = .ok (.iastore, 1) := by decide +kernel
theorem d_Judge_hearCrossings_54 : decode prog_3_method_10_code 54 = .ok (.aload 6, 2) := by decide +kernel
theorem d_Judge_hearCrossings_56 : decode prog_3_method_10_code 56 = .ok (.aload_n 0, 1) := by decide +kernel
theorem d_Judge_hearCrossings_57 : decode prog_3_method_10_code 57 = .ok (.getfield 15, 3) := by decide +kernel
theorem d_Judge_hearCrossings_60 : decode prog_3_method_10_code 60 = .ok (.iload 5, 2) := by decide +kernel
theorem d_Judge_hearCrossings_62 : decode prog_3_method_10_code 62 = .ok (.iaload, 1) := by decide +kernel
theorem d_Judge_hearCrossings_63 : decode prog_3_method_10_code 63 = .ok (.aload_n 2, 1) := by decide +kernel
theorem d_Judge_hearCrossings_64 : decode prog_3_method_10_code 64 = .ok (.iload 4, 2) := by decide +kernel
theorem d_Judge_hearCrossings_66 : decode prog_3_method_10_code 66 = .ok (.invokestatic 110, 3) := by decide +kernel
theorem k_Judge_isCrossed : mt_OK m_Judge_isCrossed 4 0 := ⟨(gw_in 1146 (by decide +kernel) (by decide +kernel)), (gw_in 140 (by decide +kernel) (by decide +kernel)), ⟨by decide +kernel, by decide +kernel, by decide +kernel⟩, fun _ => (gw_in 1145 (by decide +kernel) (by decide +kernel)), fun h => absurd h (by decide), fun h => absurd h (by decide)⟩
theorem l_Judge_110 : ml_OK "PlainMusic$Judge" 110 ⟨"PlainMusic$Judge", "isCrossed", "(LPlainMusic$Voice;ILPlainMusic$Voice;I)Z"⟩ := Or.inl (gw_in 1144 (by decide +kernel) (by decide +kernel))
theorem d_Judge_hearCrossings_69 : decode prog_3_method_10_code 69 = .ok (.ifCond .eq 13, 3) := by decide +kernel
theorem d_Judge_hearCrossings_72 : decode prog_3_method_10_code 72 = .ok (.aload_n 0, 1) := by decide +kernel
theorem d_Judge_hearCrossings_73 : decode prog_3_method_10_code 73 = .ok (.iconst 4, 1) := by decide +kernel
theorem d_Judge_hearCrossings_74 : decode prog_3_method_10_code 74 = .ok (.iload_n 3, 1) := by decide +kernel
theorem d_Judge_hearCrossings_75 : decode prog_3_method_10_code 75 = .ok (.iload 4, 2) := by decide +kernel
theorem d_Judge_hearCrossings_77 : decode prog_3_method_10_code 77 = .ok (.iload 5, 2) := by decide +kernel
theorem d_Judge_hearCrossings_79 : decode prog_3_method_10_code 79 = .ok (.invokevirtual 50, 3) := by decide +kernel
def m_Judge_isParallel : mr_T := (⟨"PlainMusic$Judge", "isParallel", "(LPlainMusic$Voice;ILPlainMusic$Voice;I)Z"⟩, prog_3_method_15_code, 6, some .boolean)
theorem d_Judge_isParallel_0 : decode prog_3_method_15_code 0 = .ok (.iload_n 3, 1) := by decide +kernel
theorem d_Judge_isParallel_1 : decode prog_3_method_15_code 1 = .ok (.iconst 1, 1) := by decide +kernel
theorem d_Judge_isParallel_2 : decode prog_3_method_15_code 2 = .ok (.if_icmp .lt 26, 3) := by decide +kernel
theorem d_Judge_isParallel_28 : decode prog_3_method_15_code 28 = .ok (.iconst 0, 1) := by decide +kernel
theorem d_Judge_isParallel_29 : decode prog_3_method_15_code 29 = .ok (.ireturn, 1) := by decide +kernel
theorem d_Judge_isParallel_5 : decode prog_3_method_15_code 5 = .ok (.iload_n 1, 1) := by decide +kernel
theorem d_Judge_isParallel_6 : decode prog_3_method_15_code 6 = .ok (.iconst 1, 1) := by decide +kernel
theorem d_Judge_isParallel_7 : decode prog_3_method_15_code 7 = .ok (.if_icmp .lt 21, 3) := by decide +kernel
theorem d_Judge_isParallel_10 : decode prog_3_method_15_code 10 = .ok (.iload_n 1, 1) := by decide +kernel
theorem d_Judge_isParallel_11 : decode prog_3_method_15_code 11 = .ok (.aload_n 0, 1) := by decide +kernel
theorem d_Judge_isParallel_12 : decode prog_3_method_15_code 12 = .ok (.getfield 35, 3) := by decide +kernel
theorem d_Judge_isParallel_15 : decode prog_3_method_15_code 15 = .ok (.if_icmp .ge 13, 3) := by decide +kernel
theorem d_Judge_isParallel_18 : decode prog_3_method_15_code 18 = .ok (.aload_n 0, 1) := by decide +kernel
theorem d_Judge_isParallel_19 : decode prog_3_method_15_code 19 = .ok (.iload_n 1, 1) := by decide +kernel
theorem d_Judge_isParallel_20 : decode prog_3_method_15_code 20 = .ok (.aload_n 2, 1) := by decide +kernel
theorem d_Judge_isParallel_21 : decode prog_3_method_15_code 21 = .ok (.iload_n 3, 1) := by decide +kernel
theorem d_Judge_isParallel_22 : decode prog_3_method_15_code 22 = .ok (.invokestatic 114, 3) := by decide +kernel
theorem d_Judge_isParallel_25 : decode prog_3_method_15_code 25 = .ok (.ifCond .eq 5, 3) := by decide +kernel
theorem d_Judge_isParallel_30 : decode prog_3_method_15_code 30 = .ok (.aload_n 2, 1) := by decide +kernel
theorem d_Judge_isParallel_31 : decode prog_3_method_15_code 31 = .ok (.iload_n 3, 1) := by decide +kernel
theorem d_Judge_isParallel_32 : decode prog_3_method_15_code 32 = .ok (.invokevirtual 83, 3) := by decide +kernel
theorem d_Judge_isParallel_35 : decode prog_3_method_15_code 35 = .ok (.ifCond .ne 31, 3) := by decide +kernel
theorem d_Judge_isParallel_66 : decode prog_3_method_15_code 66 = .ok (.iconst 0, 1) := by decide +kernel
theorem d_Judge_isParallel_67 : decode prog_3_method_15_code 67 = .ok (.ireturn, 1) := by decide +kernel
theorem d_Judge_isParallel_38 : decode prog_3_method_15_code 38 = .ok (.aload_n 2, 1) := by decide +kernel
theorem d_Judge_isParallel_39 : decode prog_3_method_15_code 39 = .ok (.iload_n 3, 1) := by decide +kernel
theorem d_Judge_isParallel_40 : decode prog_3_method_15_code 40 = .ok (.iconst 1, 1) := by decide +kernel
theorem d_Judge_isParallel_41 : decode prog_3_method_15_code 41 = .ok (.isub, 1) := by decide +kernel
theorem d_Judge_isParallel_42 : decode prog_3_method_15_code 42 = .ok (.invokevirtual 83, 3) := by decide +kernel
theorem d_Judge_isParallel_45 : decode prog_3_method_15_code 45 = .ok (.ifCond .ne 21, 3) := by decide +kernel
theorem d_Judge_isParallel_48 : decode prog_3_method_15_code 48 = .ok (.aload_n 0, 1) := by decide +kernel
theorem d_Judge_isParallel_49 : decode prog_3_method_15_code 49 = .ok (.iload_n 1, 1) := by decide +kernel
theorem d_Judge_isParallel_50 : decode prog_3_method_15_code 50 = .ok (.invokevirtual 83, 3) := by decide +kernel
theorem d_Judge_isParallel_53 : decode prog_3_method_15_code 53 = .ok (.ifCond .ne 13, 3) := by decide +kernel
theorem d_Judge_isParallel_56 : decode prog_3_method_15_code 56 = .ok (.aload_n 0, 1) := by decide +kernel
theorem d_Judge_isParallel_57 : decode prog_3_method_15_code 57 = .ok (.iload_n 1, 1) := by decide +kernel
theorem d_Judge_isParallel_58 : decode prog_3_method_15_code 58 = .ok (.iconst 1, 1) := by decide +kernel
theorem d_Judge_isParallel_59 : decode prog_3_method_15_code 59 = .ok (.isub, 1) := by decide +kernel
theorem d_Judge_isParallel_60 : decode prog_3_method_15_code 60 = .ok (.invokevirtual 83, 3) := by decide +kernel
theorem d_Judge_isParallel_63 : decode prog_3_method_15_code 63 = .ok (.ifCond .eq 5, 3) := by decide +kernel
theorem d_Judge_isParallel_68 : decode prog_3_method_15_code 68 = .ok (.aload_n 0, 1) := by decide +kernel
theorem d_Judge_isParallel_69 : decode prog_3_method_15_code 69 = .ok (.iload_n 1, 1) := by decide +kernel
theorem d_Judge_isParallel_70 : decode prog_3_method_15_code 70 = .ok (.invokevirtual 86, 3) := by decide +kernel
theorem d_Judge_isParallel_73 : decode prog_3_method_15_code 73 = .ok (.aload_n 2, 1) := by decide +kernel
theorem d_Judge_isParallel_74 : decode prog_3_method_15_code 74 = .ok (.iload_n 3, 1) := by decide +kernel
theorem d_Judge_isParallel_75 : decode prog_3_method_15_code 75 = .ok (.invokevirtual 86, 3) := by decide +kernel
theorem d_Judge_isParallel_78 : decode prog_3_method_15_code 78 = .ok (.isub, 1) := by decide +kernel
theorem d_Judge_isParallel_79 : decode prog_3_method_15_code 79 = .ok (.bipush 12, 2) := by decide +kernel
theorem d_Judge_isParallel_81 : decode prog_3_method_15_code 81 = .ok (.invokestatic 136, 3) := by decide +kernel
theorem l_Judge_136 : ml_OK "PlainMusic$Judge" 136 ⟨"java/lang/Math", "floorMod", "(II)I"⟩ := Or.inl (gw_in 1158 (by decide +kernel) (by decide +kernel))
theorem d_Judge_isParallel_84 : decode prog_3_method_15_code 84 = .ok (.istore 4, 2) := by decide +kernel
theorem d_Judge_isParallel_86 : decode prog_3_method_15_code 86 = .ok (.aload_n 0, 1) := by decide +kernel
theorem d_Judge_isParallel_87 : decode prog_3_method_15_code 87 = .ok (.iload_n 1, 1) := by decide +kernel
theorem d_Judge_isParallel_88 : decode prog_3_method_15_code 88 = .ok (.iconst 1, 1) := by decide +kernel
theorem d_Judge_isParallel_89 : decode prog_3_method_15_code 89 = .ok (.isub, 1) := by decide +kernel
theorem d_Judge_isParallel_90 : decode prog_3_method_15_code 90 = .ok (.invokevirtual 86, 3) := by decide +kernel
theorem d_Judge_isParallel_93 : decode prog_3_method_15_code 93 = .ok (.aload_n 2, 1) := by decide +kernel
theorem d_Judge_isParallel_94 : decode prog_3_method_15_code 94 = .ok (.iload_n 3, 1) := by decide +kernel
theorem d_Judge_isParallel_95 : decode prog_3_method_15_code 95 = .ok (.iconst 1, 1) := by decide +kernel
theorem d_Judge_isParallel_96 : decode prog_3_method_15_code 96 = .ok (.isub, 1) := by decide +kernel
theorem d_Judge_isParallel_97 : decode prog_3_method_15_code 97 = .ok (.invokevirtual 86, 3) := by decide +kernel
theorem d_Judge_isParallel_100 : decode prog_3_method_15_code 100 = .ok (.isub, 1) := by decide +kernel
theorem d_Judge_isParallel_101 : decode prog_3_method_15_code 101 = .ok (.bipush 12, 2) := by decide +kernel
theorem d_Judge_isParallel_103 : decode prog_3_method_15_code 103 = .ok (.invokestatic 136, 3) := by decide +kernel
theorem d_Judge_isParallel_106 : decode prog_3_method_15_code 106 = .ok (.istore 5, 2) := by decide +kernel
theorem d_Judge_isParallel_108 : decode prog_3_method_15_code 108 = .ok (.iload 4, 2) := by decide +kernel
theorem d_Judge_isParallel_110 : decode prog_3_method_15_code 110 = .ok (.iload 5, 2) := by decide +kernel
theorem d_Judge_isParallel_112 : decode prog_3_method_15_code 112 = .ok (.if_icmp .ne 34, 3) := by decide +kernel
theorem d_Judge_isParallel_146 : decode prog_3_method_15_code 146 = .ok (.iconst 0, 1) := by decide +kernel
theorem d_Judge_isParallel_147 : decode prog_3_method_15_code 147 = .ok (.ireturn, 1) := by decide +kernel
theorem d_Judge_isParallel_115 : decode prog_3_method_15_code 115 = .ok (.iload 4, 2) := by decide +kernel
theorem d_Judge_isParallel_117 : decode prog_3_method_15_code 117 = .ok (.ifCond .eq 10, 3) := by decide +kernel
theorem d_Judge_isParallel_127 : decode prog_3_method_15_code 127 = .ok (.aload_n 2, 1) := by decide +kernel
theorem d_Judge_isParallel_128 : decode prog_3_method_15_code 128 = .ok (.iload_n 3, 1) := by decide +kernel
theorem d_Judge_isParallel_129 : decode prog_3_method_15_code 129 = .ok (.invokevirtual 86, 3) := by decide +kernel
theorem d_Judge_isParallel_132 : decode prog_3_method_15_code 132 = .ok (.aload_n 2, 1) := by decide +kernel
theorem d_Judge_isParallel_133 : decode prog_3_method_15_code 133 = .ok (.iload_n 3, 1) := by decide +kernel
theorem d_Judge_isParallel_134 : decode prog_3_method_15_code 134 = .ok (.iconst 1, 1) := by decide +kernel
theorem d_Judge_isParallel_135 : decode prog_3_method_15_code 135 = .ok (.isub, 1) := by decide +kernel
theorem d_Judge_isParallel_136 : decode prog_3_method_15_code 136 = .ok (.invokevirtual 86, 3) := by decide +kernel
theorem d_Judge_isParallel_139 : decode prog_3_method_15_code 139 = .ok (.if_icmp .eq 7, 3) := by decide +kernel
theorem d_Judge_isParallel_142 : decode prog_3_method_15_code 142 = .ok (.iconst 1, 1) := by decide +kernel
theorem d_Judge_isParallel_143 : decode prog_3_method_15_code 143 = .ok (.goto 4, 3) := by decide +kernel
theorem d_Judge_isParallel_120 : decode prog_3_method_15_code 120 = .ok (.iload 4, 2) := by decide +kernel
theorem d_Judge_isParallel_122 : decode prog_3_method_15_code 122 = .ok (.bipush 7, 2) := by decide +kernel
theorem d_Judge_isParallel_124 : decode prog_3_method_15_code 124 = .ok (.if_icmp .ne 22, 3) := by decide +kernel
def m_Judge_hearParallels : mr_T := (⟨"PlainMusic$Judge", "hearParallels", "(LPlainMusic$Score;LPlainMusic$Voice;II)V"⟩, prog_3_method_14_code, 7, none)
theorem d_Judge_hearParallels_0 : decode prog_3_method_14_code 0 = .ok (.iconst 0, 1) := by decide +kernel
theorem d_Judge_hearParallels_1 : decode prog_3_method_14_code 1 = .ok (.istore 5, 2) := by decide +kernel
theorem d_Judge_hearParallels_3 : decode prog_3_method_14_code 3 = .ok (.iload 5, 2) := by decide +kernel
theorem d_Judge_hearParallels_5 : decode prog_3_method_14_code 5 = .ok (.iload_n 3, 1) := by decide +kernel
theorem d_Judge_hearParallels_6 : decode prog_3_method_14_code 6 = .ok (.if_icmp .ge 60, 3) := by decide +kernel
theorem d_Judge_hearParallels_66 : decode prog_3_method_14_code 66 = .ok (.return_, 1) := by decide +kernel
theorem d_Judge_hearParallels_9 : decode prog_3_method_14_code 9 = .ok (.iload 5, 2) := by decide +kernel
theorem d_Judge_hearParallels_11 : decode prog_3_method_14_code 11 = .ok (.aload_n 0, 1) := by decide +kernel
theorem d_Judge_hearParallels_12 : decode prog_3_method_14_code 12 = .ok (.getfield 15, 3) := by decide +kernel
theorem d_Judge_hearParallels_15 : decode prog_3_method_14_code 15 = .ok (.arraylength, 1) := by decide +kernel
theorem d_Judge_hearParallels_16 : decode prog_3_method_14_code 16 = .ok (.if_icmp .ge 50, 3) := by decide +kernel
theorem d_Judge_hearParallels_19 : decode prog_3_method_14_code 19 = .ok (.aload_n 1, 1) := by decide +kernel
theorem d_Judge_hearParallels_20 : decode prog_3_method_14_code 20 = .ok (.iload 5, 2) := by decide +kernel
theorem d_Judge_hearParallels_22 : decode prog_3_method_14_code 22 = .ok (.invokevirtual 27, 3) := by decide +kernel
theorem d_Judge_hearParallels_25 : decode prog_3_method_14_code 25 = .ok (.astore 6, 2) := by decide +kernel
theorem d_Judge_hearParallels_27 : decode prog_3_method_14_code 27 = .ok (.aload 6, 2) := by decide +kernel
theorem d_Judge_hearParallels_29 : decode prog_3_method_14_code 29 = .ok (.ifnull 31, 3) := by decide +kernel
theorem d_Judge_hearParallels_60 : decode prog_3_method_14_code 60 = .ok (.iinc 5 1, 3) := by decide +kernel
theorem d_Judge_hearParallels_63 : decode prog_3_method_14_code 63 = .ok (.goto (-60), 3) := by decide +kernel
theorem d_Judge_hearParallels_32 : decode prog_3_method_14_code 32 = .ok (.aload 6, 2) := by decide +kernel
theorem d_Judge_hearParallels_34 : decode prog_3_method_14_code 34 = .ok (.aload_n 0, 1) := by decide +kernel
theorem d_Judge_hearParallels_35 : decode prog_3_method_14_code 35 = .ok (.getfield 15, 3) := by decide +kernel
theorem d_Judge_hearParallels_38 : decode prog_3_method_14_code 38 = .ok (.iload 5, 2) := by decide +kernel
theorem d_Judge_hearParallels_40 : decode prog_3_method_14_code 40 = .ok (.iaload, 1) := by decide +kernel
theorem d_Judge_hearParallels_41 : decode prog_3_method_14_code 41 = .ok (.aload_n 2, 1) := by decide +kernel
theorem d_Judge_hearParallels_42 : decode prog_3_method_14_code 42 = .ok (.iload 4, 2) := by decide +kernel
theorem d_Judge_hearParallels_44 : decode prog_3_method_14_code 44 = .ok (.invokestatic 133, 3) := by decide +kernel
theorem k_Judge_isParallel : mt_OK m_Judge_isParallel 4 0 := ⟨(gw_in 1157 (by decide +kernel) (by decide +kernel)), (gw_in 140 (by decide +kernel) (by decide +kernel)), ⟨by decide +kernel, by decide +kernel, by decide +kernel⟩, fun _ => (gw_in 1156 (by decide +kernel) (by decide +kernel)), fun h => absurd h (by decide), fun h => absurd h (by decide)⟩
theorem l_Judge_133 : ml_OK "PlainMusic$Judge" 133 ⟨"PlainMusic$Judge", "isParallel", "(LPlainMusic$Voice;ILPlainMusic$Voice;I)Z"⟩ := Or.inl (gw_in 1155 (by decide +kernel) (by decide +kernel))
theorem d_Judge_hearParallels_47 : decode prog_3_method_14_code 47 = .ok (.ifCond .eq 13, 3) := by decide +kernel
theorem d_Judge_hearParallels_50 : decode prog_3_method_14_code 50 = .ok (.aload_n 0, 1) := by decide +kernel
theorem d_Judge_hearParallels_51 : decode prog_3_method_14_code 51 = .ok (.iconst 5, 1) := by decide +kernel
theorem d_Judge_hearParallels_52 : decode prog_3_method_14_code 52 = .ok (.iload_n 3, 1) := by decide +kernel
theorem d_Judge_hearParallels_53 : decode prog_3_method_14_code 53 = .ok (.iload 4, 2) := by decide +kernel
theorem d_Judge_hearParallels_55 : decode prog_3_method_14_code 55 = .ok (.iload 5, 2) := by decide +kernel
theorem d_Judge_hearParallels_57 : decode prog_3_method_14_code 57 = .ok (.invokevirtual 50, 3) := by decide +kernel
def m_Judge_hearVoice : mr_T := (⟨"PlainMusic$Judge", "hearVoice", "(LPlainMusic$Score;LPlainMusic$Voice;I)V"⟩, prog_3_method_6_code, 6, none)
theorem d_Judge_hearVoice_0 : decode prog_3_method_6_code 0 = .ok (.iconst 0, 1) := by decide +kernel
theorem d_Judge_hearVoice_1 : decode prog_3_method_6_code 1 = .ok (.istore 4, 2) := by decide +kernel
theorem d_Judge_hearVoice_3 : decode prog_3_method_6_code 3 = .ok (.iload 4, 2) := by decide +kernel
theorem d_Judge_hearVoice_5 : decode prog_3_method_6_code 5 = .ok (.aload_n 0, 1) := by decide +kernel
theorem d_Judge_hearVoice_6 : decode prog_3_method_6_code 6 = .ok (.getfield 15, 3) := by decide +kernel
theorem d_Judge_hearVoice_9 : decode prog_3_method_6_code 9 = .ok (.arraylength, 1) := by decide +kernel
theorem d_Judge_hearVoice_10 : decode prog_3_method_6_code 10 = .ok (.if_icmp .ge 17, 3) := by decide +kernel
theorem d_Judge_hearVoice_13 : decode prog_3_method_6_code 13 = .ok (.aload_n 0, 1) := by decide +kernel
theorem d_Judge_hearVoice_14 : decode prog_3_method_6_code 14 = .ok (.getfield 15, 3) := by decide +kernel
theorem d_Judge_hearVoice_17 : decode prog_3_method_6_code 17 = .ok (.iload 4, 2) := by decide +kernel
theorem d_Judge_hearVoice_19 : decode prog_3_method_6_code 19 = .ok (.iconst 0, 1) := by decide +kernel
theorem d_Judge_hearVoice_20 : decode prog_3_method_6_code 20 = .ok (.iastore, 1) := by decide +kernel
theorem d_Judge_hearVoice_21 : decode prog_3_method_6_code 21 = .ok (.iinc 4 1, 3) := by decide +kernel
theorem d_Judge_hearVoice_24 : decode prog_3_method_6_code 24 = .ok (.goto (-21), 3) := by decide +kernel
theorem d_Judge_hearVoice_27 : decode prog_3_method_6_code 27 = .ok (.iconst 0, 1) := by decide +kernel
theorem d_Judge_hearVoice_28 : decode prog_3_method_6_code 28 = .ok (.istore 4, 2) := by decide +kernel
theorem d_Judge_hearVoice_30 : decode prog_3_method_6_code 30 = .ok (.iconst 0, 1) := by decide +kernel
theorem d_Judge_hearVoice_31 : decode prog_3_method_6_code 31 = .ok (.istore 5, 2) := by decide +kernel
theorem d_Judge_hearVoice_33 : decode prog_3_method_6_code 33 = .ok (.iload 5, 2) := by decide +kernel
theorem d_Judge_hearVoice_35 : decode prog_3_method_6_code 35 = .ok (.aload_n 2, 1) := by decide +kernel
theorem d_Judge_hearVoice_36 : decode prog_3_method_6_code 36 = .ok (.getfield 35, 3) := by decide +kernel
theorem d_Judge_hearVoice_39 : decode prog_3_method_6_code 39 = .ok (.if_icmp .gt 91, 3) := by decide +kernel
theorem d_Judge_hearVoice_42 : decode prog_3_method_6_code 42 = .ok (.iload 4, 2) := by decide +kernel
theorem d_Judge_hearVoice_44 : decode prog_3_method_6_code 44 = .ok (.aload_n 2, 1) := by decide +kernel
theorem d_Judge_hearVoice_45 : decode prog_3_method_6_code 45 = .ok (.getfield 40, 3) := by decide +kernel
theorem d_Judge_hearVoice_48 : decode prog_3_method_6_code 48 = .ok (.if_icmp .ge 41, 3) := by decide +kernel
theorem d_Judge_hearVoice_89 : decode prog_3_method_6_code 89 = .ok (.iload 5, 2) := by decide +kernel
theorem d_Judge_hearVoice_91 : decode prog_3_method_6_code 91 = .ok (.aload_n 2, 1) := by decide +kernel
theorem d_Judge_hearVoice_92 : decode prog_3_method_6_code 92 = .ok (.getfield 35, 3) := by decide +kernel
theorem d_Judge_hearVoice_95 : decode prog_3_method_6_code 95 = .ok (.if_icmp .ge 29, 3) := by decide +kernel
theorem d_Judge_hearVoice_124 : decode prog_3_method_6_code 124 = .ok (.iinc 5 1, 3) := by decide +kernel
theorem d_Judge_hearVoice_127 : decode prog_3_method_6_code 127 = .ok (.goto (-94), 3) := by decide +kernel
theorem d_Judge_hearVoice_98 : decode prog_3_method_6_code 98 = .ok (.aload_n 0, 1) := by decide +kernel
theorem d_Judge_hearVoice_99 : decode prog_3_method_6_code 99 = .ok (.aload_n 2, 1) := by decide +kernel
theorem d_Judge_hearVoice_100 : decode prog_3_method_6_code 100 = .ok (.iload_n 3, 1) := by decide +kernel
theorem d_Judge_hearVoice_101 : decode prog_3_method_6_code 101 = .ok (.iload 5, 2) := by decide +kernel
theorem d_Judge_hearVoice_103 : decode prog_3_method_6_code 103 = .ok (.invokevirtual 54, 3) := by decide +kernel
theorem k_Judge_hearAlone : mt_OK m_Judge_hearAlone 3 1 := ⟨(gw_in 1110 (by decide +kernel) (by decide +kernel)), (gw_in 140 (by decide +kernel) (by decide +kernel)), ⟨by decide +kernel, by decide +kernel, by decide +kernel⟩, fun h => absurd h (by decide), fun _ => ⟨(gw_in 1109 (by decide +kernel) (by decide +kernel)), (gw_in 30 (by decide +kernel) (by decide +kernel))⟩, fun h => absurd h (by decide)⟩
theorem l_Judge_54 : ml_OK "PlainMusic$Judge" 54 ⟨"PlainMusic$Judge", "hearAlone", "(LPlainMusic$Voice;II)V"⟩ := Or.inl (gw_in 1107 (by decide +kernel) (by decide +kernel))
theorem d_Judge_hearVoice_106 : decode prog_3_method_6_code 106 = .ok (.aload_n 0, 1) := by decide +kernel
theorem d_Judge_hearVoice_107 : decode prog_3_method_6_code 107 = .ok (.aload_n 1, 1) := by decide +kernel
theorem d_Judge_hearVoice_108 : decode prog_3_method_6_code 108 = .ok (.aload_n 2, 1) := by decide +kernel
theorem d_Judge_hearVoice_109 : decode prog_3_method_6_code 109 = .ok (.iload_n 3, 1) := by decide +kernel
theorem d_Judge_hearVoice_110 : decode prog_3_method_6_code 110 = .ok (.iload 5, 2) := by decide +kernel
theorem d_Judge_hearVoice_112 : decode prog_3_method_6_code 112 = .ok (.invokevirtual 58, 3) := by decide +kernel
theorem k_Judge_hearCrossings : mt_OK m_Judge_hearCrossings 4 1 := ⟨(gw_in 1136 (by decide +kernel) (by decide +kernel)), (gw_in 140 (by decide +kernel) (by decide +kernel)), ⟨by decide +kernel, by decide +kernel, by decide +kernel⟩, fun h => absurd h (by decide), fun _ => ⟨(gw_in 1135 (by decide +kernel) (by decide +kernel)), (gw_in 31 (by decide +kernel) (by decide +kernel))⟩, fun h => absurd h (by decide)⟩
theorem l_Judge_58 : ml_OK "PlainMusic$Judge" 58 ⟨"PlainMusic$Judge", "hearCrossings", "(LPlainMusic$Score;LPlainMusic$Voice;II)V"⟩ := Or.inl (gw_in 1133 (by decide +kernel) (by decide +kernel))
theorem d_Judge_hearVoice_115 : decode prog_3_method_6_code 115 = .ok (.aload_n 0, 1) := by decide +kernel
theorem d_Judge_hearVoice_116 : decode prog_3_method_6_code 116 = .ok (.aload_n 1, 1) := by decide +kernel
theorem d_Judge_hearVoice_117 : decode prog_3_method_6_code 117 = .ok (.aload_n 2, 1) := by decide +kernel
theorem d_Judge_hearVoice_118 : decode prog_3_method_6_code 118 = .ok (.iload_n 3, 1) := by decide +kernel
theorem d_Judge_hearVoice_119 : decode prog_3_method_6_code 119 = .ok (.iload 5, 2) := by decide +kernel
theorem d_Judge_hearVoice_121 : decode prog_3_method_6_code 121 = .ok (.invokevirtual 62, 3) := by decide +kernel
theorem k_Judge_hearParallels : mt_OK m_Judge_hearParallels 4 1 := ⟨(gw_in 1154 (by decide +kernel) (by decide +kernel)), (gw_in 140 (by decide +kernel) (by decide +kernel)), ⟨by decide +kernel, by decide +kernel, by decide +kernel⟩, fun h => absurd h (by decide), fun _ => ⟨(gw_in 1153 (by decide +kernel) (by decide +kernel)), (gw_in 32 (by decide +kernel) (by decide +kernel))⟩, fun h => absurd h (by decide)⟩
theorem l_Judge_62 : ml_OK "PlainMusic$Judge" 62 ⟨"PlainMusic$Judge", "hearParallels", "(LPlainMusic$Score;LPlainMusic$Voice;II)V"⟩ := Or.inl (gw_in 1151 (by decide +kernel) (by decide +kernel))
theorem d_Judge_hearVoice_51 : decode prog_3_method_6_code 51 = .ok (.aload_n 2, 1) := by decide +kernel
theorem d_Judge_hearVoice_52 : decode prog_3_method_6_code 52 = .ok (.getfield 43, 3) := by decide +kernel
theorem f_Judge_43 : fl_OK "PlainMusic$Judge" 43 10 15 (.array .int) true := ⟨_, rfl, by decide, (gw_in 307 (by decide +kernel) (by decide +kernel)), rfl, rfl⟩
theorem d_Judge_hearVoice_55 : decode prog_3_method_6_code 55 = .ok (.iload 4, 2) := by decide +kernel
theorem d_Judge_hearVoice_57 : decode prog_3_method_6_code 57 = .ok (.iaload, 1) := by decide +kernel
theorem d_Judge_hearVoice_58 : decode prog_3_method_6_code 58 = .ok (.iload 5, 2) := by decide +kernel
theorem d_Judge_hearVoice_60 : decode prog_3_method_6_code 60 = .ok (.if_icmp .gt 29, 3) := by decide +kernel
theorem d_Judge_hearVoice_63 : decode prog_3_method_6_code 63 = .ok (.aload_n 1, 1) := by decide +kernel
theorem d_Judge_hearVoice_64 : decode prog_3_method_6_code 64 = .ok (.aload_n 2, 1) := by decide +kernel
theorem d_Judge_hearVoice_65 : decode prog_3_method_6_code 65 = .ok (.iload 4, 2) := by decide +kernel
theorem d_Judge_hearVoice_67 : decode prog_3_method_6_code 67 = .ok (.invokestatic 46, 3) := by decide +kernel
theorem k_Judge_isWhole : mt_OK m_Judge_isWhole 3 0 := ⟨(gw_in 1087 (by decide +kernel) (by decide +kernel)), (gw_in 140 (by decide +kernel) (by decide +kernel)), ⟨by decide +kernel, by decide +kernel, by decide +kernel⟩, fun _ => (gw_in 1086 (by decide +kernel) (by decide +kernel)), fun h => absurd h (by decide), fun h => absurd h (by decide)⟩
theorem l_Judge_46 : ml_OK "PlainMusic$Judge" 46 ⟨"PlainMusic$Judge", "isWhole", "(LPlainMusic$Score;LPlainMusic$Voice;I)Z"⟩ := Or.inl (gw_in 1085 (by decide +kernel) (by decide +kernel))
theorem d_Judge_hearVoice_70 : decode prog_3_method_6_code 70 = .ok (.ifCond .ne 13, 3) := by decide +kernel
theorem d_Judge_hearVoice_83 : decode prog_3_method_6_code 83 = .ok (.iinc 4 1, 3) := by decide +kernel
theorem d_Judge_hearVoice_86 : decode prog_3_method_6_code 86 = .ok (.goto (-44), 3) := by decide +kernel
theorem d_Judge_hearVoice_73 : decode prog_3_method_6_code 73 = .ok (.aload_n 0, 1) := by decide +kernel
theorem d_Judge_hearVoice_74 : decode prog_3_method_6_code 74 = .ok (.iconst 1, 1) := by decide +kernel
theorem d_Judge_hearVoice_75 : decode prog_3_method_6_code 75 = .ok (.iload_n 3, 1) := by decide +kernel
theorem d_Judge_hearVoice_76 : decode prog_3_method_6_code 76 = .ok (.iload 5, 2) := by decide +kernel
theorem d_Judge_hearVoice_78 : decode prog_3_method_6_code 78 = .ok (.iload 4, 2) := by decide +kernel
theorem d_Judge_hearVoice_80 : decode prog_3_method_6_code 80 = .ok (.invokevirtual 50, 3) := by decide +kernel
theorem d_Judge_hearVoice_130 : decode prog_3_method_6_code 130 = .ok (.return_, 1) := by decide +kernel
def m_Judge_hear : mr_T := (⟨"PlainMusic$Judge", "hear", "(LPlainMusic$Score;)I"⟩, prog_3_method_3_code, 4, some .int)
theorem d_Judge_hear_0 : decode prog_3_method_3_code 0 = .ok (.aload_n 0, 1) := by decide +kernel
theorem d_Judge_hear_1 : decode prog_3_method_3_code 1 = .ok (.iconst 0, 1) := by decide +kernel
theorem d_Judge_hear_2 : decode prog_3_method_3_code 2 = .ok (.putfield 18, 3) := by decide +kernel
theorem d_Judge_hear_5 : decode prog_3_method_3_code 5 = .ok (.iconst 0, 1) := by decide +kernel
theorem d_Judge_hear_6 : decode prog_3_method_3_code 6 = .ok (.istore_n 2, 1) := by decide +kernel
theorem d_Judge_hear_7 : decode prog_3_method_3_code 7 = .ok (.iload_n 2, 1) := by decide +kernel
theorem d_Judge_hear_8 : decode prog_3_method_3_code 8 = .ok (.aload_n 1, 1) := by decide +kernel
theorem d_Judge_hear_9 : decode prog_3_method_3_code 9 = .ok (.getfield 22, 3) := by decide +kernel
theorem f_Judge_22 : fl_OK "PlainMusic$Judge" 22 6 1 .int false := ⟨_, rfl, by decide, (gw_in 352 (by decide +kernel) (by decide +kernel)), rfl, rfl⟩
theorem d_Judge_hear_12 : decode prog_3_method_3_code 12 = .ok (.if_icmp .ge 26, 3) := by decide +kernel
theorem d_Judge_hear_38 : decode prog_3_method_3_code 38 = .ok (.aload_n 0, 1) := by decide +kernel
theorem d_Judge_hear_39 : decode prog_3_method_3_code 39 = .ok (.getfield 18, 3) := by decide +kernel
theorem d_Judge_hear_42 : decode prog_3_method_3_code 42 = .ok (.ireturn, 1) := by decide +kernel
theorem d_Judge_hear_15 : decode prog_3_method_3_code 15 = .ok (.aload_n 1, 1) := by decide +kernel
theorem d_Judge_hear_16 : decode prog_3_method_3_code 16 = .ok (.iload_n 2, 1) := by decide +kernel
theorem d_Judge_hear_17 : decode prog_3_method_3_code 17 = .ok (.invokevirtual 27, 3) := by decide +kernel
theorem d_Judge_hear_20 : decode prog_3_method_3_code 20 = .ok (.astore_n 3, 1) := by decide +kernel
theorem d_Judge_hear_21 : decode prog_3_method_3_code 21 = .ok (.aload_n 3, 1) := by decide +kernel
theorem d_Judge_hear_22 : decode prog_3_method_3_code 22 = .ok (.ifnull 10, 3) := by decide +kernel
theorem d_Judge_hear_32 : decode prog_3_method_3_code 32 = .ok (.iinc 2 1, 3) := by decide +kernel
theorem d_Judge_hear_35 : decode prog_3_method_3_code 35 = .ok (.goto (-28), 3) := by decide +kernel
theorem d_Judge_hear_25 : decode prog_3_method_3_code 25 = .ok (.aload_n 0, 1) := by decide +kernel
theorem d_Judge_hear_26 : decode prog_3_method_3_code 26 = .ok (.aload_n 1, 1) := by decide +kernel
theorem d_Judge_hear_27 : decode prog_3_method_3_code 27 = .ok (.aload_n 3, 1) := by decide +kernel
theorem d_Judge_hear_28 : decode prog_3_method_3_code 28 = .ok (.iload_n 2, 1) := by decide +kernel
theorem d_Judge_hear_29 : decode prog_3_method_3_code 29 = .ok (.invokevirtual 31, 3) := by decide +kernel
theorem k_Judge_hearVoice : mt_OK m_Judge_hearVoice 3 1 := ⟨(gw_in 1084 (by decide +kernel) (by decide +kernel)), (gw_in 140 (by decide +kernel) (by decide +kernel)), ⟨by decide +kernel, by decide +kernel, by decide +kernel⟩, fun h => absurd h (by decide), fun _ => ⟨(gw_in 1083 (by decide +kernel) (by decide +kernel)), (gw_in 28 (by decide +kernel) (by decide +kernel))⟩, fun h => absurd h (by decide)⟩
theorem l_Judge_31 : ml_OK "PlainMusic$Judge" 31 ⟨"PlainMusic$Judge", "hearVoice", "(LPlainMusic$Score;LPlainMusic$Voice;I)V"⟩ := Or.inl (gw_in 1081 (by decide +kernel) (by decide +kernel))
theorem s_Judge_forget {G : cx_T} {s : Nat} {h : ah_T} (hx : xi s h)   : con G 0 0 0 m_Judge_forget [av_R (some 143)] h (fun r h' => r = none ∧ kF FC s h h') := by
  refine con_of (L := [some (av_R (some 143))]) (by decide +kernel) (Nat.le_of_ble_eq_true rfl) rfl ?_
  have hS : isS s := hx.2.1
  have hs0 : s = 17 ∨ s = 80 := hS
  have k0 : kF FC s h h := kF_0 hx
  refine A_aload_n 0 d_Judge_forget_0 rfl rfl ?_
  refine A_iconst d_Judge_forget_1 rfl ?_
  refine A_putIk (KR := kF FC s h) T_ok d_Judge_forget_2 f_Judge_18 (xi_s k0.1 sf_143) fin_f (kF_j k0 (by decide) (ns_b rfl) rgf_143_1 (by omega) (by omega)) (fun h1 k2 eh1 => ?_)
  exact A_vret d_Judge_forget_5 (by decide) rfl ⟨rfl, k2⟩
theorem s_Judge_add {G : cx_T} {s : Nat} {h : ah_T} (hx : xi s h) {a1 : Int} {a2 : Int} {a3 : Int} {a4 : Int}  : con G 0 0 0 m_Judge_add [av_R (some 143), av_I a1, av_I a2, av_I a3, av_I a4] h (fun r h' => r = none ∧ kF FC s h h') := by
  refine con_of (L := [some (av_R (some 143)), some (av_I a1), some (av_I a2), some (av_I a3), some (av_I a4)]) (by decide +kernel) (Nat.le_of_ble_eq_true rfl) rfl ?_
  have hS : isS s := hx.2.1
  have hs0 : s = 17 ∨ s = 80 := hS
  have k0 : kF FC s h h := kF_0 hx
  refine A_locI 1 rfl (fun ra => ?_)
  obtain ⟨_, _⟩ := ra
  refine A_locI 2 rfl (fun ra => ?_)
  obtain ⟨_, _⟩ := ra
  refine A_locI 3 rfl (fun ra => ?_)
  obtain ⟨_, _⟩ := ra
  refine A_locI 4 rfl (fun ra => ?_)
  obtain ⟨_, _⟩ := ra
  refine A_aload_n 0 d_Judge_add_0 rfl rfl ?_
  refine A_getIn (lo := 0) (hi := 6404) T_ok d_Judge_add_1 f_Judge_18 (xi_s k0.1 sf_143) (xi_g k0.1 (by decide) rgf_143_1) (fun x1 ex1 _ _ => ?_)
  refine A_aload_n 0 d_Judge_add_4 rfl rfl ?_
  refine A_getAv (z := some 144) T_ok d_Judge_add_5 f_Judge_11 (xi_s k0.1 sf_143) (xi_r k0.1 rff_143_0) ?_
  refine A_alenN d_Judge_add_8 (xi_s k0.1 sf_144) (by decide) (by decide) ?_
  refine A_pc (pc' := 9) rfl ?_
  refine A_icmp_ge (tgt := 46) d_Judge_add_9 (by decide) (fun c3 => ?_) (fun c3 => ?_)
  · exact A_vret d_Judge_add_46 (by decide) rfl ⟨rfl, k0⟩
  · refine A_aload_n 0 d_Judge_add_12 rfl rfl ?_
    refine A_getAv (z := some 144) T_ok d_Judge_add_13 f_Judge_11 (xi_s k0.1 sf_143) (xi_r k0.1 rff_143_0) ?_
    refine A_aload_n 0 d_Judge_add_16 rfl rfl ?_
    refine A_getIv (z := x1) T_ok d_Judge_add_17 f_Judge_18 (xi_s k0.1 sf_143) ex1.symm ?_
    refine A_iload_n 1 d_Judge_add_20 rfl rfl ?_
    refine A_pc (pc' := 21) rfl ?_
    refine A_iload_n 2 d_Judge_add_21 rfl rfl ?_
    refine A_iconst d_Judge_add_22 rfl ?_
    refine A_ishl d_Judge_add_23 ?_
    refine A_nrI (fun x6 ex6 _ _ => ?_)
    refine A_ior d_Judge_add_24 ?_
    refine A_nrI (fun x7 ex7 _ _ => ?_)
    refine A_iload_n 3 d_Judge_add_25 rfl rfl ?_
    refine A_iconst d_Judge_add_26 rfl ?_
    refine A_pc (pc' := 27) rfl ?_
    refine A_ishl d_Judge_add_27 ?_
    refine A_nrI (fun x8 ex8 _ _ => ?_)
    refine A_ior d_Judge_add_28 ?_
    refine A_nrI (fun x9 ex9 _ _ => ?_)
    refine A_iload d_Judge_add_29 rfl ?_
    refine A_bipush d_Judge_add_31 rfl ?_
    refine A_ishl d_Judge_add_33 ?_
    refine A_nrI (fun x10 ex10 _ _ => ?_)
    refine A_ior d_Judge_add_34 ?_
    refine A_nrI (fun x11 ex11 _ _ => ?_)
    refine A_pc (pc' := 35) rfl ?_
    refine A_iastorek (KR := kF FC s h) d_Judge_add_35 (xi_s k0.1 sf_144) (by omega) (by omega) (kF_j k0 (by decide) (ns_b rfl) (rgf_144 _) (by omega) (by omega)) (fun h12 k13 eh12 => ?_)
    refine A_aload_n 0 d_Judge_add_36 rfl rfl ?_
    refine A_dupR d_Judge_add_37 ?_
    refine A_getIv (z := x1) T_ok d_Judge_add_38 f_Judge_18 (xi_s k13.1 sf_143) ((eh12.1 _ _ (fun q => absurd q (by decide))).trans ex1.symm) ?_
    refine A_iconst d_Judge_add_41 rfl ?_
    refine A_iaddv (z := (x1 + 1)) d_Judge_add_42 (w32_to (by omega) (by unfold i32; omega)) ?_
    refine A_pc (pc' := 43) rfl ?_
    refine A_putIk (KR := kF FC s h) T_ok d_Judge_add_43 f_Judge_18 (xi_s k13.1 sf_143) fin_f (kF_j k13 (by decide) (ns_b rfl) rgf_143_1 (by omega) (by omega)) (fun h15 k16 eh15 => ?_)
    exact A_vret d_Judge_add_46 (by decide) rfl ⟨rfl, k16⟩
theorem s_Judge_detailOf {G : cx_T} {s : Nat} {h : ah_T} (hx : xi s h) {a1 : Int} {a2 : Int}  : con G 0 0 0 m_Judge_detailOf [av_R (some 143), av_I a1, av_I a2] h (fun r h' => ∃ z, r = some (av_I z) ∧ ((-2147483648) ≤ z ∧ z ≤ 2147483647) ∧ h = h') := by
  refine con_of (L := [some (av_R (some 143)), some (av_I a1), some (av_I a2), none]) (by decide +kernel) (Nat.le_of_ble_eq_true rfl) rfl ?_
  have hS : isS s := hx.2.1
  have hs0 : s = 17 ∨ s = 80 := hS
  refine A_locI 1 rfl (fun ra => ?_)
  obtain ⟨_, _⟩ := ra
  refine A_locI 2 rfl (fun ra => ?_)
  obtain ⟨_, _⟩ := ra
  refine A_iload_n 1 d_Judge_detailOf_0 rfl rfl ?_
  refine A_if_lt (tgt := 21) d_Judge_detailOf_1 (by decide) (fun c1 => ?_) (fun c1 => ?_)
  · refine A_iconst d_Judge_detailOf_21 rfl ?_
    exact A_iret d_Judge_detailOf_22 (by decide) rfl ⟨_, rfl, ⟨by omega, by omega⟩, rfl⟩
  · refine A_iload_n 1 d_Judge_detailOf_4 rfl rfl ?_
    refine A_aload_n 0 d_Judge_detailOf_5 rfl rfl ?_
    refine A_getIn (lo := 0) (hi := 6404) T_ok d_Judge_detailOf_6 f_Judge_18 (xi_s hx sf_143) (xi_g hx (by decide) rgf_143_1) (fun x2 ex2 _ _ => ?_)
    refine A_icmp_ge (tgt := 21) d_Judge_detailOf_9 (by decide) (fun c3 => ?_) (fun c3 => ?_)
    · refine A_iconst d_Judge_detailOf_21 rfl ?_
      exact A_iret d_Judge_detailOf_22 (by decide) rfl ⟨_, rfl, ⟨by omega, by omega⟩, rfl⟩
    · refine A_iload_n 1 d_Judge_detailOf_12 rfl rfl ?_
      refine A_aload_n 0 d_Judge_detailOf_13 rfl rfl ?_
      refine A_getAv (z := some 144) T_ok d_Judge_detailOf_14 f_Judge_11 (xi_s hx sf_143) (xi_r hx rff_143_0) ?_
      refine A_alenN d_Judge_detailOf_17 (xi_s hx sf_144) (by decide) (by decide) ?_
      refine A_icmp_lt (tgt := 23) d_Judge_detailOf_18 (by decide) (fun c5 => ?_) (fun c => False.elim (by omega))
      refine A_aload_n 0 d_Judge_detailOf_23 rfl rfl ?_
      refine A_getAv (z := some 144) T_ok d_Judge_detailOf_24 f_Judge_11 (xi_s hx sf_143) (xi_r hx rff_143_0) ?_
      refine A_iload_n 1 d_Judge_detailOf_27 rfl rfl ?_
      refine A_ialoadf d_Judge_detailOf_28 (xi_s hx sf_144) (by omega) (by omega) (fun x7 ex7 _ _ => ?_)
      refine A_istore_n 3 (L' := [some (av_R (some 143)), some (av_I a1), some (av_I a2), some (av_I x7)]) d_Judge_detailOf_29 rfl (Nat.le_of_ble_eq_true rfl) rfl ?_
      refine A_pc (pc' := 30) rfl ?_
      refine A_iload_n 2 d_Judge_detailOf_30 rfl rfl ?_
      rcases (by omega : a2 < 0 ∨ a2 = 0 ∨ a2 = 1 ∨ a2 = 2 ∨ a2 = 3 ∨ 3 < a2) with c8 | c8 | c8 | c8 | c8 | c8
      · refine A_tabOut (tgt := 84) d_Judge_detailOf_31 (by omega) (by decide) ?_
        refine A_iconst d_Judge_detailOf_84 rfl ?_
        exact A_iret d_Judge_detailOf_85 (by decide) rfl ⟨_, rfl, ⟨by omega, by omega⟩, rfl⟩
      · refine A_tabIn (tgt := 60) d_Judge_detailOf_31 (by omega) (by omega) (by rw [c8]; rfl) (by decide) ?_
        refine A_iload_n 3 d_Judge_detailOf_60 rfl rfl ?_
        refine A_bipush d_Judge_detailOf_61 rfl ?_
        refine A_iand d_Judge_detailOf_63 ?_
        refine A_nrI (fun x9 ex9 _ _ => ?_)
        have bx9 := and_r (m := 7) 3 ex9 (by decide) (by decide) (by decide)
        exact A_iret d_Judge_detailOf_64 (by decide) rfl ⟨_, rfl, ⟨by omega, by omega⟩, rfl⟩
      · refine A_tabIn (tgt := 65) d_Judge_detailOf_31 (by omega) (by omega) (by rw [c8]; rfl) (by decide) ?_
        refine A_iload_n 3 d_Judge_detailOf_65 rfl rfl ?_
        refine A_iconst d_Judge_detailOf_66 rfl ?_
        refine A_ishr d_Judge_detailOf_67 ?_
        refine A_nrI (fun x10 ex10 _ _ => ?_)
        refine A_iconst d_Judge_detailOf_68 rfl ?_
        refine A_iand d_Judge_detailOf_69 ?_
        refine A_nrI (fun x11 ex11 _ _ => ?_)
        have bx11 := and_r (m := 3) 2 ex11 (by decide) (by decide) (by decide)
        refine A_pc (pc' := 70) rfl ?_
        exact A_iret d_Judge_detailOf_70 (by decide) rfl ⟨_, rfl, ⟨by omega, by omega⟩, rfl⟩
      · refine A_tabIn (tgt := 71) d_Judge_detailOf_31 (by omega) (by omega) (by rw [c8]; rfl) (by decide) ?_
        refine A_iload_n 3 d_Judge_detailOf_71 rfl rfl ?_
        refine A_iconst d_Judge_detailOf_72 rfl ?_
        refine A_ishr d_Judge_detailOf_73 ?_
        refine A_nrI (fun x12 ex12 _ _ => ?_)
        refine A_sipush d_Judge_detailOf_74 rfl ?_
        refine A_iand d_Judge_detailOf_77 ?_
        refine A_nrI (fun x13 ex13 _ _ => ?_)
        have bx13 := and_r (m := 511) 9 ex13 (by decide) (by decide) (by decide)
        refine A_pc (pc' := 78) rfl ?_
        exact A_iret d_Judge_detailOf_78 (by decide) rfl ⟨_, rfl, ⟨by omega, by omega⟩, rfl⟩
      · refine A_tabIn (tgt := 79) d_Judge_detailOf_31 (by omega) (by omega) (by rw [c8]; rfl) (by decide) ?_
        refine A_iload_n 3 d_Judge_detailOf_79 rfl rfl ?_
        refine A_bipush d_Judge_detailOf_80 rfl ?_
        refine A_ishr d_Judge_detailOf_82 ?_
        refine A_nrI (fun x14 ex14 _ _ => ?_)
        exact A_iret d_Judge_detailOf_83 (by decide) rfl ⟨_, rfl, ⟨by omega, by omega⟩, rfl⟩
      · refine A_tabOut (tgt := 84) d_Judge_detailOf_31 (by omega) (by decide) ?_
        refine A_iconst d_Judge_detailOf_84 rfl ?_
        exact A_iret d_Judge_detailOf_85 (by decide) rfl ⟨_, rfl, ⟨by omega, by omega⟩, rfl⟩
theorem s_Judge_isWhole {G : cx_T} {s : Nat} {h : ah_T} (hx : xi s h) {a0 : Nat} {a1 : Nat} {a2 : Int} (ha0 : isS a0) (ha1 : isV a1) (la2 : 0 ≤ a2) (ua2 : a2 ≤ 100) : con G 2 0 0 m_Judge_isWhole [av_R (some a0), av_R (some a1), av_I a2] h (fun r h' => ∃ z, r = some (av_I z) ∧ (z = 0 ∨ z = 1) ∧ h = h') := by
  refine con_of (L := [some (av_R (some a0)), some (av_R (some a1)), some (av_I a2), none]) (by decide +kernel) (Nat.le_of_ble_eq_true rfl) rfl ?_
  have hS : isS s := hx.2.1
  have hs0 : s = 17 ∨ s = 80 := hS
  have ga1 := lt_V ha1
  refine A_aload_n 1 d_Judge_isWhole_0 rfl rfl ?_
  refine A_iload_n 2 d_Judge_isWhole_1 rfl rfl ?_
  refine A_aload_n 0 d_Judge_isWhole_2 rfl rfl ?_
  refine A_getIf T_ok d_Judge_isWhole_3 f_Judge_65 (xs_S hx ha0) (fun x1 ex1 _ _ => ?_)
  refine A_aload_n 0 d_Judge_isWhole_6 rfl rfl ?_
  refine A_pc (pc' := 7) rfl ?_
  refine A_getIf T_ok d_Judge_isWhole_7 f_Judge_68 (xs_S hx ha0) (fun x2 ex2 _ _ => ?_)
  refine A_callV3 m_Voice_compareBar T_ok d_Judge_isWhole_10 l_Judge_71 k_Voice_compareBar (xs_V hx ha1) rfl (by decide +kernel) (by decide) (Nat.le_of_ble_eq_true rfl) (s_Voice_compareBar hx ha1 (by omega) (by omega)) (fun r h3 hq => ?_)
  obtain ⟨x5, rfl, ⟨_, _⟩, rfl⟩ := hq
  refine A_istore_n 3 (L' := [some (av_R (some a0)), some (av_R (some a1)), some (av_I a2), some (av_I x5)]) d_Judge_isWhole_13 rfl (Nat.le_of_ble_eq_true rfl) rfl ?_
  refine A_iload_n 3 d_Judge_isWhole_14 rfl rfl ?_
  refine A_if_eq (tgt := 36) d_Judge_isWhole_15 (by decide) (fun c6 => ?_) (fun c6 => ?_)
  · refine A_iconst d_Judge_isWhole_36 rfl ?_
    refine A_goto (tgt := 41) d_Judge_isWhole_37 (by decide) ?_
    exact A_zret d_Judge_isWhole_41 (by decide) rfl (by omega) ⟨_, rfl, by omega, rfl⟩
  · refine A_iload_n 3 d_Judge_isWhole_18 rfl rfl ?_
    refine A_if_ge (tgt := 40) d_Judge_isWhole_19 (by decide) (fun c7 => ?_) (fun c7 => ?_)
    · refine A_iconst d_Judge_isWhole_40 rfl ?_
      exact A_zret d_Judge_isWhole_41 (by decide) rfl (by omega) ⟨_, rfl, by omega, rfl⟩
    · refine A_iload_n 2 d_Judge_isWhole_22 rfl rfl ?_
      refine A_if_eq (tgt := 36) d_Judge_isWhole_23 (by decide) (fun c8 => ?_) (fun c8 => ?_)
      · refine A_iconst d_Judge_isWhole_36 rfl ?_
        refine A_goto (tgt := 41) d_Judge_isWhole_37 (by decide) ?_
        exact A_zret d_Judge_isWhole_41 (by decide) rfl (by omega) ⟨_, rfl, by omega, rfl⟩
      · refine A_iload_n 2 d_Judge_isWhole_26 rfl rfl ?_
        refine A_aload_n 1 d_Judge_isWhole_27 rfl rfl ?_
        refine A_getIn (lo := 0) (hi := 101) T_ok d_Judge_isWhole_28 f_Judge_40 (xs_V hx ha1) (xi_g hx (lt1_V ha1) (rg_V_16 ha1)) (fun x9 ex9 _ _ => ?_)
        refine A_iconst d_Judge_isWhole_31 rfl ?_
        refine A_isubv (z := (x9 - 1)) d_Judge_isWhole_32 (w32_to (by omega) (by unfold i32; omega)) ?_
        refine A_pc (pc' := 33) rfl ?_
        refine A_icmp_ne (tgt := 40) d_Judge_isWhole_33 (by decide) (fun c10 => ?_) (fun c10 => ?_)
        · refine A_iconst d_Judge_isWhole_40 rfl ?_
          exact A_zret d_Judge_isWhole_41 (by decide) rfl (by omega) ⟨_, rfl, by omega, rfl⟩
        · refine A_iconst d_Judge_isWhole_36 rfl ?_
          refine A_goto (tgt := 41) d_Judge_isWhole_37 (by decide) ?_
          exact A_zret d_Judge_isWhole_41 (by decide) rfl (by omega) ⟨_, rfl, by omega, rfl⟩
theorem s_Judge_isHeld {G : cx_T} {s : Nat} {h : ah_T} (hx : xi s h) {a0 : Nat} {a1 : Int} (ha0 : isV a0) (la1 : 0 ≤ a1) (ua1 : a1 ≤ 299) : con G 2 0 0 m_Judge_isHeld [av_R (some a0), av_I a1] h (fun r h' => ∃ z, r = some (av_I z) ∧ (z = 0 ∨ z = 1) ∧ h = h') := by
  refine con_of (L := [some (av_R (some a0)), some (av_I a1), none]) (by decide +kernel) (Nat.le_of_ble_eq_true rfl) rfl ?_
  have hS : isS s := hx.2.1
  have hs0 : s = 17 ∨ s = 80 := hS
  have ga0 := lt_V ha0
  refine A_iload_n 1 d_Judge_isHeld_0 rfl rfl ?_
  refine A_iconst d_Judge_isHeld_1 rfl ?_
  refine A_iaddv (z := (a1 + 1)) d_Judge_isHeld_2 (w32_to (by omega) (by unfold i32; omega)) ?_
  refine A_aload_n 0 d_Judge_isHeld_3 rfl rfl ?_
  refine A_getIn (lo := 0) (hi := 300) T_ok d_Judge_isHeld_4 f_Judge_35 (xs_V hx ha0) (xi_g hx (lt1_V ha0) (rg_V_14 ha0)) (fun x1 ex1 _ _ => ?_)
  refine A_pc (pc' := 7) rfl ?_
  refine A_icmp_lt (tgt := 12) d_Judge_isHeld_7 (by decide) (fun c2 => ?_) (fun c2 => ?_)
  · refine A_iconst d_Judge_isHeld_12 rfl ?_
    refine A_istore_n 2 (L' := [some (av_R (some a0)), some (av_I a1), some (av_I 0)]) d_Judge_isHeld_13 rfl (Nat.le_of_ble_eq_true rfl) rfl ?_
    have lp14 : ∀ (n : Nat) (i3 : Int) , 0 ≤ i3 → i3 ≤ 300 → (301 - i3).toNat < n → aw G (rm_R 2 0 0) m_Judge_isHeld 0 0 14 [some (av_R (some a0)), some (av_I a1), some (av_I i3)] [] h (fun r h' => ∃ z, r = some (av_I z) ∧ (z = 0 ∨ z = 1) ∧ h = h') := by
      intro n
      induction n with
      | zero => intro i3 _ _ hm; omega
      | succ n ih14 =>
        intro i3 hl0 hl1 hm
        refine A_iload_n 2 d_Judge_isHeld_14 rfl rfl ?_
        refine A_aload_n 0 d_Judge_isHeld_15 rfl rfl ?_
        refine A_iload_n 1 d_Judge_isHeld_16 rfl rfl ?_
        refine A_callV1 m_Voice_pitchesOf T_ok d_Judge_isHeld_17 l_Judge_95 k_Voice_pitchesOf (xs_V hx ha0) rfl (by decide +kernel) (by decide) (Nat.le_of_ble_eq_true rfl) (s_Voice_pitchesOf hx ha0 (by omega) (by omega)) (fun r h4 hq => ?_)
        obtain ⟨x6, rfl, ⟨_, _⟩, rfl⟩ := hq
        refine A_icmp_ge (tgt := 47) d_Judge_isHeld_20 (by decide) (fun c7 => ?_) (fun c7 => ?_)
        · refine A_iconst d_Judge_isHeld_47 rfl ?_
          exact A_zret d_Judge_isHeld_48 (by decide) rfl (by omega) ⟨_, rfl, by omega, rfl⟩
        · refine A_aload_n 0 d_Judge_isHeld_23 rfl rfl ?_
          refine A_iload_n 1 d_Judge_isHeld_24 rfl rfl ?_
          refine A_iconst d_Judge_isHeld_25 rfl ?_
          refine A_iaddv (z := (a1 + 1)) d_Judge_isHeld_26 (w32_to (by omega) (by unfold i32; omega)) ?_
          refine A_aload_n 0 d_Judge_isHeld_27 rfl rfl ?_
          refine A_pc (pc' := 28) rfl ?_
          refine A_iload_n 1 d_Judge_isHeld_28 rfl rfl ?_
          refine A_iload_n 2 d_Judge_isHeld_29 rfl rfl ?_
          refine A_callV2 m_Voice_keyOf T_ok d_Judge_isHeld_30 l_Judge_98 k_Voice_keyOf (xs_V hx ha0) rfl (by decide +kernel) (by decide) (Nat.le_of_ble_eq_true rfl) (s_Voice_keyOf hx ha0 (by omega) (by omega)) (fun r h8 hq => ?_)
          obtain ⟨x10, rfl, ⟨_, _⟩, rfl⟩ := hq
          refine A_callV2 m_Voice_hasKey T_ok d_Judge_isHeld_33 l_Judge_102 k_Voice_hasKey (xs_V hx ha0) rfl (by decide +kernel) (by decide) (Nat.le_of_ble_eq_true rfl) (s_Voice_hasKey hx ha0 (by omega) (by omega)) (fun r h11 hq => ?_)
          obtain ⟨x13, rfl, bx13, rfl⟩ := hq
          refine A_if_ne (tgt := 41) d_Judge_isHeld_36 (by decide) (fun c14 => ?_) (fun c14 => ?_)
          · refine A_iincv (z := (i3 + 1)) (L' := [some (av_R (some a0)), some (av_I a1), some (av_I (i3 + 1))]) d_Judge_isHeld_41 rfl (w32_to (by omega) (by unfold i32; omega)) rfl ?_
            refine A_goto (tgt := 14) d_Judge_isHeld_44 (by decide) ?_
            exact ih14 (i3 + 1) (by omega) (by omega) (by omega)
          · refine A_iconst d_Judge_isHeld_39 rfl ?_
            exact A_zret d_Judge_isHeld_40 (by decide) rfl (by omega) ⟨_, rfl, by omega, rfl⟩
    exact lp14 _ 0 (by omega) (by omega) (Nat.lt_succ_self _)
  · refine A_iconst d_Judge_isHeld_10 rfl ?_
    exact A_zret d_Judge_isHeld_11 (by decide) rfl (by omega) ⟨_, rfl, by omega, rfl⟩
theorem s_Judge_hearAlone {G : cx_T} {s : Nat} {h : ah_T} (hx : xi s h) {a1 : Nat} {a2 : Int} {a3 : Int} (ha1 : isV a1) (la3 : 0 ≤ a3) (ua3 : a3 ≤ 299) : con G 3 0 0 m_Judge_hearAlone [av_R (some 143), av_R (some a1), av_I a2, av_I a3] h (fun r h' => r = none ∧ kF FC s h h') := by
  refine con_of (L := [some (av_R (some 143)), some (av_R (some a1)), some (av_I a2), some (av_I a3)]) (by decide +kernel) (Nat.le_of_ble_eq_true rfl) rfl ?_
  have hS : isS s := hx.2.1
  have hs0 : s = 17 ∨ s = 80 := hS
  have k0 : kF FC s h h := kF_0 hx
  have ga1 := lt_V ha1
  refine A_locI 2 rfl (fun ra => ?_)
  obtain ⟨_, _⟩ := ra
  refine A_aload_n 1 d_Judge_hearAlone_0 rfl rfl ?_
  refine A_iload_n 3 d_Judge_hearAlone_1 rfl rfl ?_
  refine A_callV1 m_Voice_isTied T_ok d_Judge_hearAlone_2 l_Judge_75 k_Voice_isTied (xs_V k0.1 ha1) rfl (by decide +kernel) (by decide) (Nat.le_of_ble_eq_true rfl) (s_Voice_isTied k0.1 ha1 (by omega) (by omega)) (fun r h1 hq => ?_)
  obtain ⟨x3, rfl, bx3, rfl⟩ := hq
  refine A_if_eq (tgt := 24) d_Judge_hearAlone_5 (by decide) (fun c4 => ?_) (fun c4 => ?_)
  · refine A_iload_n 3 d_Judge_hearAlone_24 rfl rfl ?_
    refine A_if_le (tgt := 75) d_Judge_hearAlone_25 (by decide) (fun c5 => ?_) (fun c5 => ?_)
    · exact A_vret d_Judge_hearAlone_75 (by decide) rfl ⟨rfl, k0⟩
    · refine A_aload_n 1 d_Judge_hearAlone_28 rfl rfl ?_
      refine A_iload_n 3 d_Judge_hearAlone_29 rfl rfl ?_
      refine A_callV1 m_Voice_isRest T_ok d_Judge_hearAlone_30 l_Judge_83 k_Voice_isRest (xs_V k0.1 ha1) rfl (by decide +kernel) (by decide) (Nat.le_of_ble_eq_true rfl) (s_Voice_isRest k0.1 ha1 (by omega) (by omega)) (fun r h6 hq => ?_)
      obtain ⟨x8, rfl, bx8, rfl⟩ := hq
      refine A_if_ne (tgt := 75) d_Judge_hearAlone_33 (by decide) (fun c9 => ?_) (fun c9 => ?_)
      · exact A_vret d_Judge_hearAlone_75 (by decide) rfl ⟨rfl, k0⟩
      · refine A_aload_n 1 d_Judge_hearAlone_36 rfl rfl ?_
        refine A_iload_n 3 d_Judge_hearAlone_37 rfl rfl ?_
        refine A_iconst d_Judge_hearAlone_38 rfl ?_
        refine A_isubv (z := (a3 - 1)) d_Judge_hearAlone_39 (w32_to (by omega) (by unfold i32; omega)) ?_
        refine A_callV1 m_Voice_isRest T_ok d_Judge_hearAlone_40 l_Judge_83 k_Voice_isRest (xs_V k0.1 ha1) rfl (by decide +kernel) (by decide) (Nat.le_of_ble_eq_true rfl) (s_Voice_isRest k0.1 ha1 (by omega) (by omega)) (fun r h10 hq => ?_)
        obtain ⟨x12, rfl, bx12, rfl⟩ := hq
        refine A_if_ne (tgt := 75) d_Judge_hearAlone_43 (by decide) (fun c13 => ?_) (fun c13 => ?_)
        · exact A_vret d_Judge_hearAlone_75 (by decide) rfl ⟨rfl, k0⟩
        · refine A_aload_n 1 d_Judge_hearAlone_46 rfl rfl ?_
          refine A_iload_n 3 d_Judge_hearAlone_47 rfl rfl ?_
          refine A_callV1 m_Voice_lowestKey T_ok d_Judge_hearAlone_48 l_Judge_86 k_Voice_lowestKey (xs_V k0.1 ha1) rfl (by decide +kernel) (by decide) (Nat.le_of_ble_eq_true rfl) (s_Voice_lowestKey k0.1 ha1 (by omega) (by omega)) (fun r h14 hq => ?_)
          obtain ⟨x16, rfl, ⟨_, _⟩, rfl⟩ := hq
          refine A_aload_n 1 d_Judge_hearAlone_51 rfl rfl ?_
          refine A_iload_n 3 d_Judge_hearAlone_52 rfl rfl ?_
          refine A_iconst d_Judge_hearAlone_53 rfl ?_
          refine A_isubv (z := (a3 - 1)) d_Judge_hearAlone_54 (w32_to (by omega) (by unfold i32; omega)) ?_
          refine A_callV1 m_Voice_lowestKey T_ok d_Judge_hearAlone_55 l_Judge_86 k_Voice_lowestKey (xs_V k0.1 ha1) rfl (by decide +kernel) (by decide) (Nat.le_of_ble_eq_true rfl) (s_Voice_lowestKey k0.1 ha1 (by omega) (by omega)) (fun r h17 hq => ?_)
          obtain ⟨x19, rfl, ⟨_, _⟩, rfl⟩ := hq
          refine A_isubw d_Judge_hearAlone_58 (fun x20 _ _ _ => ?_)
          refine A_mabs d_Judge_hearAlone_59 lm_Judge_90 ma_abs (by decide) (by decide) (Nat.le_of_ble_eq_true rfl) rfl ?_
          refine A_nrI (fun x21 ex21 _ _ => ?_)
          refine A_bipush d_Judge_hearAlone_62 rfl ?_
          refine A_icmp_le (tgt := 75) d_Judge_hearAlone_64 (by decide) (fun c22 => ?_) (fun c22 => ?_)
          · exact A_vret d_Judge_hearAlone_75 (by decide) rfl ⟨rfl, k0⟩
          · refine A_aload_n 0 d_Judge_hearAlone_67 rfl rfl ?_
            refine A_iconst d_Judge_hearAlone_68 rfl ?_
            refine A_iload_n 2 d_Judge_hearAlone_69 rfl rfl ?_
            refine A_iload_n 3 d_Judge_hearAlone_70 rfl rfl ?_
            refine A_iconst d_Judge_hearAlone_71 rfl ?_
            refine A_pc (pc' := 72) rfl ?_
            refine A_callV4 m_Judge_add T_ok d_Judge_hearAlone_72 l_Judge_50 k_Judge_add (xi_s k0.1 sf_143) rfl (by decide +kernel) (by decide) (Nat.le_of_ble_eq_true rfl) (s_Judge_add k0.1 ) (fun r h23 hq => ?_)
            obtain ⟨rfl, k24⟩ := hq
            have k25 := kF_t k0 k24 (fun _ q => q)
            exact A_vret d_Judge_hearAlone_75 (by decide) rfl ⟨rfl, k25⟩
  · refine A_aload_n 1 d_Judge_hearAlone_8 rfl rfl ?_
    refine A_iload_n 3 d_Judge_hearAlone_9 rfl rfl ?_
    refine A_callS2 m_Judge_isHeld d_Judge_hearAlone_10 l_Judge_79 k_Judge_isHeld (by decide +kernel) (by decide) (Nat.le_of_ble_eq_true rfl) (s_Judge_isHeld k0.1 ha1 (by omega) (by omega)) (fun r h26 hq => ?_)
    obtain ⟨x28, rfl, bx28, rfl⟩ := hq
    refine A_if_ne (tgt := 24) d_Judge_hearAlone_13 (by decide) (fun c29 => ?_) (fun c29 => ?_)
    · refine A_iload_n 3 d_Judge_hearAlone_24 rfl rfl ?_
      refine A_if_le (tgt := 75) d_Judge_hearAlone_25 (by decide) (fun c30 => ?_) (fun c30 => ?_)
      · exact A_vret d_Judge_hearAlone_75 (by decide) rfl ⟨rfl, k0⟩
      · refine A_aload_n 1 d_Judge_hearAlone_28 rfl rfl ?_
        refine A_iload_n 3 d_Judge_hearAlone_29 rfl rfl ?_
        refine A_callV1 m_Voice_isRest T_ok d_Judge_hearAlone_30 l_Judge_83 k_Voice_isRest (xs_V k0.1 ha1) rfl (by decide +kernel) (by decide) (Nat.le_of_ble_eq_true rfl) (s_Voice_isRest k0.1 ha1 (by omega) (by omega)) (fun r h31 hq => ?_)
        obtain ⟨x33, rfl, bx33, rfl⟩ := hq
        refine A_if_ne (tgt := 75) d_Judge_hearAlone_33 (by decide) (fun c34 => ?_) (fun c34 => ?_)
        · exact A_vret d_Judge_hearAlone_75 (by decide) rfl ⟨rfl, k0⟩
        · refine A_aload_n 1 d_Judge_hearAlone_36 rfl rfl ?_
          refine A_iload_n 3 d_Judge_hearAlone_37 rfl rfl ?_
          refine A_iconst d_Judge_hearAlone_38 rfl ?_
          refine A_isubv (z := (a3 - 1)) d_Judge_hearAlone_39 (w32_to (by omega) (by unfold i32; omega)) ?_
          refine A_callV1 m_Voice_isRest T_ok d_Judge_hearAlone_40 l_Judge_83 k_Voice_isRest (xs_V k0.1 ha1) rfl (by decide +kernel) (by decide) (Nat.le_of_ble_eq_true rfl) (s_Voice_isRest k0.1 ha1 (by omega) (by omega)) (fun r h35 hq => ?_)
          obtain ⟨x37, rfl, bx37, rfl⟩ := hq
          refine A_if_ne (tgt := 75) d_Judge_hearAlone_43 (by decide) (fun c38 => ?_) (fun c38 => ?_)
          · exact A_vret d_Judge_hearAlone_75 (by decide) rfl ⟨rfl, k0⟩
          · refine A_aload_n 1 d_Judge_hearAlone_46 rfl rfl ?_
            refine A_iload_n 3 d_Judge_hearAlone_47 rfl rfl ?_
            refine A_callV1 m_Voice_lowestKey T_ok d_Judge_hearAlone_48 l_Judge_86 k_Voice_lowestKey (xs_V k0.1 ha1) rfl (by decide +kernel) (by decide) (Nat.le_of_ble_eq_true rfl) (s_Voice_lowestKey k0.1 ha1 (by omega) (by omega)) (fun r h39 hq => ?_)
            obtain ⟨x41, rfl, ⟨_, _⟩, rfl⟩ := hq
            refine A_aload_n 1 d_Judge_hearAlone_51 rfl rfl ?_
            refine A_iload_n 3 d_Judge_hearAlone_52 rfl rfl ?_
            refine A_iconst d_Judge_hearAlone_53 rfl ?_
            refine A_isubv (z := (a3 - 1)) d_Judge_hearAlone_54 (w32_to (by omega) (by unfold i32; omega)) ?_
            refine A_callV1 m_Voice_lowestKey T_ok d_Judge_hearAlone_55 l_Judge_86 k_Voice_lowestKey (xs_V k0.1 ha1) rfl (by decide +kernel) (by decide) (Nat.le_of_ble_eq_true rfl) (s_Voice_lowestKey k0.1 ha1 (by omega) (by omega)) (fun r h42 hq => ?_)
            obtain ⟨x44, rfl, ⟨_, _⟩, rfl⟩ := hq
            refine A_isubw d_Judge_hearAlone_58 (fun x45 _ _ _ => ?_)
            refine A_mabs d_Judge_hearAlone_59 lm_Judge_90 ma_abs (by decide) (by decide) (Nat.le_of_ble_eq_true rfl) rfl ?_
            refine A_nrI (fun x46 ex46 _ _ => ?_)
            refine A_bipush d_Judge_hearAlone_62 rfl ?_
            refine A_icmp_le (tgt := 75) d_Judge_hearAlone_64 (by decide) (fun c47 => ?_) (fun c47 => ?_)
            · exact A_vret d_Judge_hearAlone_75 (by decide) rfl ⟨rfl, k0⟩
            · refine A_aload_n 0 d_Judge_hearAlone_67 rfl rfl ?_
              refine A_iconst d_Judge_hearAlone_68 rfl ?_
              refine A_iload_n 2 d_Judge_hearAlone_69 rfl rfl ?_
              refine A_iload_n 3 d_Judge_hearAlone_70 rfl rfl ?_
              refine A_iconst d_Judge_hearAlone_71 rfl ?_
              refine A_pc (pc' := 72) rfl ?_
              refine A_callV4 m_Judge_add T_ok d_Judge_hearAlone_72 l_Judge_50 k_Judge_add (xi_s k0.1 sf_143) rfl (by decide +kernel) (by decide) (Nat.le_of_ble_eq_true rfl) (s_Judge_add k0.1 ) (fun r h48 hq => ?_)
              obtain ⟨rfl, k49⟩ := hq
              have k50 := kF_t k0 k49 (fun _ q => q)
              exact A_vret d_Judge_hearAlone_75 (by decide) rfl ⟨rfl, k50⟩
    · refine A_aload_n 0 d_Judge_hearAlone_16 rfl rfl ?_
      refine A_iconst d_Judge_hearAlone_17 rfl ?_
      refine A_iload_n 2 d_Judge_hearAlone_18 rfl rfl ?_
      refine A_iload_n 3 d_Judge_hearAlone_19 rfl rfl ?_
      refine A_iconst d_Judge_hearAlone_20 rfl ?_
      refine A_pc (pc' := 21) rfl ?_
      refine A_callV4 m_Judge_add T_ok d_Judge_hearAlone_21 l_Judge_50 k_Judge_add (xi_s k0.1 sf_143) rfl (by decide +kernel) (by decide) (Nat.le_of_ble_eq_true rfl) (s_Judge_add k0.1 ) (fun r h51 hq => ?_)
      obtain ⟨rfl, k52⟩ := hq
      have k53 := kF_t k0 k52 (fun _ q => q)
      refine A_iload_n 3 d_Judge_hearAlone_24 rfl rfl ?_
      refine A_if_le (tgt := 75) d_Judge_hearAlone_25 (by decide) (fun c54 => ?_) (fun c54 => ?_)
      · exact A_vret d_Judge_hearAlone_75 (by decide) rfl ⟨rfl, k53⟩
      · refine A_aload_n 1 d_Judge_hearAlone_28 rfl rfl ?_
        refine A_iload_n 3 d_Judge_hearAlone_29 rfl rfl ?_
        refine A_callV1 m_Voice_isRest T_ok d_Judge_hearAlone_30 l_Judge_83 k_Voice_isRest (xs_V k53.1 ha1) rfl (by decide +kernel) (by decide) (Nat.le_of_ble_eq_true rfl) (s_Voice_isRest k53.1 ha1 (by omega) (by omega)) (fun r h55 hq => ?_)
        obtain ⟨x57, rfl, bx57, rfl⟩ := hq
        refine A_if_ne (tgt := 75) d_Judge_hearAlone_33 (by decide) (fun c58 => ?_) (fun c58 => ?_)
        · exact A_vret d_Judge_hearAlone_75 (by decide) rfl ⟨rfl, k53⟩
        · refine A_aload_n 1 d_Judge_hearAlone_36 rfl rfl ?_
          refine A_iload_n 3 d_Judge_hearAlone_37 rfl rfl ?_
          refine A_iconst d_Judge_hearAlone_38 rfl ?_
          refine A_isubv (z := (a3 - 1)) d_Judge_hearAlone_39 (w32_to (by omega) (by unfold i32; omega)) ?_
          refine A_callV1 m_Voice_isRest T_ok d_Judge_hearAlone_40 l_Judge_83 k_Voice_isRest (xs_V k53.1 ha1) rfl (by decide +kernel) (by decide) (Nat.le_of_ble_eq_true rfl) (s_Voice_isRest k53.1 ha1 (by omega) (by omega)) (fun r h59 hq => ?_)
          obtain ⟨x61, rfl, bx61, rfl⟩ := hq
          refine A_if_ne (tgt := 75) d_Judge_hearAlone_43 (by decide) (fun c62 => ?_) (fun c62 => ?_)
          · exact A_vret d_Judge_hearAlone_75 (by decide) rfl ⟨rfl, k53⟩
          · refine A_aload_n 1 d_Judge_hearAlone_46 rfl rfl ?_
            refine A_iload_n 3 d_Judge_hearAlone_47 rfl rfl ?_
            refine A_callV1 m_Voice_lowestKey T_ok d_Judge_hearAlone_48 l_Judge_86 k_Voice_lowestKey (xs_V k53.1 ha1) rfl (by decide +kernel) (by decide) (Nat.le_of_ble_eq_true rfl) (s_Voice_lowestKey k53.1 ha1 (by omega) (by omega)) (fun r h63 hq => ?_)
            obtain ⟨x65, rfl, ⟨_, _⟩, rfl⟩ := hq
            refine A_aload_n 1 d_Judge_hearAlone_51 rfl rfl ?_
            refine A_iload_n 3 d_Judge_hearAlone_52 rfl rfl ?_
            refine A_iconst d_Judge_hearAlone_53 rfl ?_
            refine A_isubv (z := (a3 - 1)) d_Judge_hearAlone_54 (w32_to (by omega) (by unfold i32; omega)) ?_
            refine A_callV1 m_Voice_lowestKey T_ok d_Judge_hearAlone_55 l_Judge_86 k_Voice_lowestKey (xs_V k53.1 ha1) rfl (by decide +kernel) (by decide) (Nat.le_of_ble_eq_true rfl) (s_Voice_lowestKey k53.1 ha1 (by omega) (by omega)) (fun r h66 hq => ?_)
            obtain ⟨x68, rfl, ⟨_, _⟩, rfl⟩ := hq
            refine A_isubw d_Judge_hearAlone_58 (fun x69 _ _ _ => ?_)
            refine A_mabs d_Judge_hearAlone_59 lm_Judge_90 ma_abs (by decide) (by decide) (Nat.le_of_ble_eq_true rfl) rfl ?_
            refine A_nrI (fun x70 ex70 _ _ => ?_)
            refine A_bipush d_Judge_hearAlone_62 rfl ?_
            refine A_icmp_le (tgt := 75) d_Judge_hearAlone_64 (by decide) (fun c71 => ?_) (fun c71 => ?_)
            · exact A_vret d_Judge_hearAlone_75 (by decide) rfl ⟨rfl, k53⟩
            · refine A_aload_n 0 d_Judge_hearAlone_67 rfl rfl ?_
              refine A_iconst d_Judge_hearAlone_68 rfl ?_
              refine A_iload_n 2 d_Judge_hearAlone_69 rfl rfl ?_
              refine A_iload_n 3 d_Judge_hearAlone_70 rfl rfl ?_
              refine A_iconst d_Judge_hearAlone_71 rfl ?_
              refine A_pc (pc' := 72) rfl ?_
              refine A_callV4 m_Judge_add T_ok d_Judge_hearAlone_72 l_Judge_50 k_Judge_add (xi_s k53.1 sf_143) rfl (by decide +kernel) (by decide) (Nat.le_of_ble_eq_true rfl) (s_Judge_add k53.1 ) (fun r h72 hq => ?_)
              obtain ⟨rfl, k73⟩ := hq
              have k74 := kF_t k53 k73 (fun _ q => q)
              exact A_vret d_Judge_hearAlone_75 (by decide) rfl ⟨rfl, k74⟩
theorem s_Judge_compareStarts {G : cx_T} {s : Nat} {h : ah_T} (hx : xi s h) {a0 : Nat} {a1 : Int} {a2 : Nat} {a3 : Int} (ha0 : isV a0) (la1 : 0 ≤ a1) (ua1 : a1 ≤ 300) (ha2 : isV a2) (la3 : 0 ≤ a3) (ua3 : a3 ≤ 300) : con G 1 0 0 m_Judge_compareStarts [av_R (some a0), av_I a1, av_R (some a2), av_I a3] h (fun r h' => ∃ z, r = some (av_I z) ∧ ((-1) ≤ z ∧ z ≤ 1) ∧ h = h') := by
  refine con_of (L := [some (av_R (some a0)), some (av_I a1), some (av_R (some a2)), some (av_I a3)]) (by decide +kernel) (Nat.le_of_ble_eq_true rfl) rfl ?_
  have hS : isS s := hx.2.1
  have hs0 : s = 17 ∨ s = 80 := hS
  have ga0 := lt_V ha0
  have ga2 := lt_V ha2
  refine A_aload_n 0 d_Judge_compareStarts_0 rfl rfl ?_
  refine A_getAv (z := some (a0 + 9)) T_ok d_Judge_compareStarts_1 f_Judge_120 (xs_V hx ha0) (xr_V_10 hx ha0) ?_
  refine A_iload_n 1 d_Judge_compareStarts_4 rfl rfl ?_
  refine A_laloadf d_Judge_compareStarts_5 (xs_V_10 hx ha0) (by omega) (by omega) (fun x2 ex2 _ _ => ?_)
  refine A_aload_n 2 d_Judge_compareStarts_6 rfl rfl ?_
  refine A_pc (pc' := 7) rfl ?_
  refine A_getAv (z := some (a2 + 10)) T_ok d_Judge_compareStarts_7 f_Judge_124 (xs_V hx ha2) (xr_V_11 hx ha2) ?_
  refine A_iload_n 3 d_Judge_compareStarts_10 rfl rfl ?_
  refine A_laloadf d_Judge_compareStarts_11 (xs_V_11 hx ha2) (by omega) (by omega) (fun x4 ex4 _ _ => ?_)
  refine A_lmulw d_Judge_compareStarts_12 (fun x5 _ _ _ => ?_)
  refine A_aload_n 2 d_Judge_compareStarts_13 rfl rfl ?_
  refine A_getAv (z := some (a2 + 9)) T_ok d_Judge_compareStarts_14 f_Judge_120 (xs_V hx ha2) (xr_V_10 hx ha2) ?_
  refine A_pc (pc' := 17) rfl ?_
  refine A_iload_n 3 d_Judge_compareStarts_17 rfl rfl ?_
  refine A_laloadf d_Judge_compareStarts_18 (xs_V_10 hx ha2) (by omega) (by omega) (fun x7 ex7 _ _ => ?_)
  refine A_aload_n 0 d_Judge_compareStarts_19 rfl rfl ?_
  refine A_getAv (z := some (a0 + 10)) T_ok d_Judge_compareStarts_20 f_Judge_124 (xs_V hx ha0) (xr_V_11 hx ha0) ?_
  refine A_iload_n 1 d_Judge_compareStarts_23 rfl rfl ?_
  refine A_laloadf d_Judge_compareStarts_24 (xs_V_11 hx ha0) (by omega) (by omega) (fun x9 ex9 _ _ => ?_)
  refine A_pc (pc' := 25) rfl ?_
  refine A_lmulw d_Judge_compareStarts_25 (fun x10 _ _ _ => ?_)
  refine A_callS2 m_JLong_compare d_Judge_compareStarts_26 l_Judge_127 k_JLong_compare (by decide +kernel) (by decide) (Nat.le_of_ble_eq_true rfl) (s_JLong_compare  ) (fun r h11 hq => ?_)
  obtain ⟨x13, rfl, ⟨_, _⟩, xx13, rfl⟩ := hq
  exact A_iret d_Judge_compareStarts_29 (by decide) rfl ⟨_, rfl, ⟨by omega, by omega⟩, rfl⟩
theorem s_Judge_firstNotEnded {G : cx_T} {s : Nat} {h : ah_T} (hx : xi s h) {a0 : Nat} {a1 : Int} {a2 : Nat} {a3 : Int} (ha0 : isV a0) (la1 : 0 ≤ a1) (ua1 : a1 ≤ 300) (ha2 : isV a2) (la3 : 0 ≤ a3) (ua3 : a3 ≤ 299) : con G 2 0 0 m_Judge_firstNotEnded [av_R (some a0), av_I a1, av_R (some a2), av_I a3] h (fun r h' => ∃ z, r = some (av_I z) ∧ (0 ≤ z ∧ z ≤ 300) ∧ h = h') := by
  refine con_of (L := [some (av_R (some a0)), some (av_I a1), some (av_R (some a2)), some (av_I a3), none]) (by decide +kernel) (Nat.le_of_ble_eq_true rfl) rfl ?_
  have hS : isS s := hx.2.1
  have hs0 : s = 17 ∨ s = 80 := hS
  have ga0 := lt_V ha0
  have ga2 := lt_V ha2
  refine A_iload_n 1 d_Judge_firstNotEnded_0 rfl rfl ?_
  refine A_istore (L' := [some (av_R (some a0)), some (av_I a1), some (av_R (some a2)), some (av_I a3), some (av_I a1)]) d_Judge_firstNotEnded_1 (Nat.le_of_ble_eq_true rfl) rfl ?_
  have lp3 : ∀ (n : Nat) (i1 : Int) , 0 ≤ i1 → i1 ≤ 300 → (301 - i1).toNat < n → aw G (rm_R 2 0 0) m_Judge_firstNotEnded 0 0 3 [some (av_R (some a0)), some (av_I a1), some (av_R (some a2)), some (av_I a3), some (av_I i1)] [] h (fun r h' => ∃ z, r = some (av_I z) ∧ (0 ≤ z ∧ z ≤ 300) ∧ h = h') := by
    intro n
    induction n with
    | zero => intro i1 _ _ hm; omega
    | succ n ih3 =>
      intro i1 hl0 hl1 hm
      refine A_iload d_Judge_firstNotEnded_3 rfl ?_
      refine A_aload_n 0 d_Judge_firstNotEnded_5 rfl rfl ?_
      refine A_getIn (lo := 0) (hi := 300) T_ok d_Judge_firstNotEnded_6 f_Judge_35 (xs_V hx ha0) (xi_g hx (lt1_V ha0) (rg_V_14 ha0)) (fun x2 ex2 _ _ => ?_)
      refine A_icmp_ge (tgt := 31) d_Judge_firstNotEnded_9 (by decide) (fun c3 => ?_) (fun c3 => ?_)
      · refine A_iload d_Judge_firstNotEnded_31 rfl ?_
        exact A_iret d_Judge_firstNotEnded_33 (by decide) rfl ⟨_, rfl, ⟨by omega, by omega⟩, rfl⟩
      · refine A_aload_n 0 d_Judge_firstNotEnded_12 rfl rfl ?_
        refine A_iload d_Judge_firstNotEnded_13 rfl ?_
        refine A_iconst d_Judge_firstNotEnded_15 rfl ?_
        refine A_iaddv (z := (i1 + 1)) d_Judge_firstNotEnded_16 (w32_to (by omega) (by unfold i32; omega)) ?_
        refine A_aload_n 2 d_Judge_firstNotEnded_17 rfl rfl ?_
        refine A_pc (pc' := 18) rfl ?_
        refine A_iload_n 3 d_Judge_firstNotEnded_18 rfl rfl ?_
        refine A_callS4 m_Judge_compareStarts d_Judge_firstNotEnded_19 l_Judge_114 k_Judge_compareStarts (by decide +kernel) (by decide) (Nat.le_of_ble_eq_true rfl) (s_Judge_compareStarts hx ha0 (by omega) (by omega) ha2 (by omega) (by omega)) (fun r h4 hq => ?_)
        obtain ⟨x6, rfl, ⟨_, _⟩, rfl⟩ := hq
        refine A_if_gt (tgt := 31) d_Judge_firstNotEnded_22 (by decide) (fun c7 => ?_) (fun c7 => ?_)
        · refine A_iload d_Judge_firstNotEnded_31 rfl ?_
          exact A_iret d_Judge_firstNotEnded_33 (by decide) rfl ⟨_, rfl, ⟨by omega, by omega⟩, rfl⟩
        · refine A_iincv (z := (i1 + 1)) (L' := [some (av_R (some a0)), some (av_I a1), some (av_R (some a2)), some (av_I a3), some (av_I (i1 + 1))]) d_Judge_firstNotEnded_25 rfl (w32_to (by omega) (by unfold i32; omega)) rfl ?_
          refine A_goto (tgt := 3) d_Judge_firstNotEnded_28 (by decide) ?_
          exact ih3 (i1 + 1) (by omega) (by omega) (by omega)
  exact lp3 _ a1 (by omega) (by omega) (Nat.lt_succ_self _)
theorem s_Judge_isCrossed {G : cx_T} {s : Nat} {h : ah_T} (hx : xi s h) {a0 : Nat} {a1 : Int} {a2 : Nat} {a3 : Int} (ha0 : isV a0) (la1 : 0 ≤ a1) (ua1 : a1 ≤ 300) (ha2 : isV a2) (la3 : 0 ≤ a3) (ua3 : a3 ≤ 299) : con G 2 0 0 m_Judge_isCrossed [av_R (some a0), av_I a1, av_R (some a2), av_I a3] h (fun r h' => ∃ z, r = some (av_I z) ∧ (z = 0 ∨ z = 1) ∧ h = h') := by
  refine con_of (L := [some (av_R (some a0)), some (av_I a1), some (av_R (some a2)), some (av_I a3), none]) (by decide +kernel) (Nat.le_of_ble_eq_true rfl) rfl ?_
  have hS : isS s := hx.2.1
  have hs0 : s = 17 ∨ s = 80 := hS
  have ga0 := lt_V ha0
  have ga2 := lt_V ha2
  refine A_aload_n 2 d_Judge_isCrossed_0 rfl rfl ?_
  refine A_iload_n 3 d_Judge_isCrossed_1 rfl rfl ?_
  refine A_callV1 m_Voice_isRest T_ok d_Judge_isCrossed_2 l_Judge_83 k_Voice_isRest (xs_V hx ha2) rfl (by decide +kernel) (by decide) (Nat.le_of_ble_eq_true rfl) (s_Voice_isRest hx ha2 (by omega) (by omega)) (fun r h1 hq => ?_)
  obtain ⟨x3, rfl, bx3, rfl⟩ := hq
  refine A_if_eq (tgt := 10) d_Judge_isCrossed_5 (by decide) (fun c4 => ?_) (fun c4 => ?_)
  · refine A_iload_n 1 d_Judge_isCrossed_10 rfl rfl ?_
    refine A_istore (L' := [some (av_R (some a0)), some (av_I a1), some (av_R (some a2)), some (av_I a3), some (av_I a1)]) d_Judge_isCrossed_11 (Nat.le_of_ble_eq_true rfl) rfl ?_
    have lp13 : ∀ (n : Nat) (i5 : Int) , 0 ≤ i5 → i5 ≤ 300 → (301 - i5).toNat < n → aw G (rm_R 2 0 0) m_Judge_isCrossed 0 0 13 [some (av_R (some a0)), some (av_I a1), some (av_R (some a2)), some (av_I a3), some (av_I i5)] [] h (fun r h' => ∃ z, r = some (av_I z) ∧ (z = 0 ∨ z = 1) ∧ h = h') := by
      intro n
      induction n with
      | zero => intro i5 _ _ hm; omega
      | succ n ih13 =>
        intro i5 hl0 hl1 hm
        refine A_iload d_Judge_isCrossed_13 rfl ?_
        refine A_aload_n 0 d_Judge_isCrossed_15 rfl rfl ?_
        refine A_getIn (lo := 0) (hi := 300) T_ok d_Judge_isCrossed_16 f_Judge_35 (xs_V hx ha0) (xi_g hx (lt1_V ha0) (rg_V_14 ha0)) (fun x6 ex6 _ _ => ?_)
        refine A_icmp_ge (tgt := 66) d_Judge_isCrossed_19 (by decide) (fun c7 => ?_) (fun c7 => ?_)
        · refine A_iconst d_Judge_isCrossed_66 rfl ?_
          exact A_zret d_Judge_isCrossed_67 (by decide) rfl (by omega) ⟨_, rfl, by omega, rfl⟩
        · refine A_aload_n 0 d_Judge_isCrossed_22 rfl rfl ?_
          refine A_iload d_Judge_isCrossed_23 rfl ?_
          refine A_aload_n 2 d_Judge_isCrossed_25 rfl rfl ?_
          refine A_iload_n 3 d_Judge_isCrossed_26 rfl rfl ?_
          refine A_iconst d_Judge_isCrossed_27 rfl ?_
          refine A_pc (pc' := 28) rfl ?_
          refine A_iaddv (z := (a3 + 1)) d_Judge_isCrossed_28 (w32_to (by omega) (by unfold i32; omega)) ?_
          refine A_callS4 m_Judge_compareStarts d_Judge_isCrossed_29 l_Judge_114 k_Judge_compareStarts (by decide +kernel) (by decide) (Nat.le_of_ble_eq_true rfl) (s_Judge_compareStarts hx ha0 (by omega) (by omega) ha2 (by omega) (by omega)) (fun r h8 hq => ?_)
          obtain ⟨x10, rfl, ⟨_, _⟩, rfl⟩ := hq
          refine A_if_ge (tgt := 66) d_Judge_isCrossed_32 (by decide) (fun c11 => ?_) (fun c11 => ?_)
          · refine A_iconst d_Judge_isCrossed_66 rfl ?_
            exact A_zret d_Judge_isCrossed_67 (by decide) rfl (by omega) ⟨_, rfl, by omega, rfl⟩
          · refine A_aload_n 0 d_Judge_isCrossed_35 rfl rfl ?_
            refine A_iload d_Judge_isCrossed_36 rfl ?_
            refine A_callV1 m_Voice_isRest T_ok d_Judge_isCrossed_38 l_Judge_83 k_Voice_isRest (xs_V hx ha0) rfl (by decide +kernel) (by decide) (Nat.le_of_ble_eq_true rfl) (s_Voice_isRest hx ha0 (by omega) (by omega)) (fun r h12 hq => ?_)
            obtain ⟨x14, rfl, bx14, rfl⟩ := hq
            refine A_if_ne (tgt := 60) d_Judge_isCrossed_41 (by decide) (fun c15 => ?_) (fun c15 => ?_)
            · refine A_iincv (z := (i5 + 1)) (L' := [some (av_R (some a0)), some (av_I a1), some (av_R (some a2)), some (av_I a3), some (av_I (i5 + 1))]) d_Judge_isCrossed_60 rfl (w32_to (by omega) (by unfold i32; omega)) rfl ?_
              refine A_goto (tgt := 13) d_Judge_isCrossed_63 (by decide) ?_
              exact ih13 (i5 + 1) (by omega) (by omega) (by omega)
            · refine A_aload_n 0 d_Judge_isCrossed_44 rfl rfl ?_
              refine A_iload d_Judge_isCrossed_45 rfl ?_
              refine A_callV1 m_Voice_lowestKey T_ok d_Judge_isCrossed_47 l_Judge_86 k_Voice_lowestKey (xs_V hx ha0) rfl (by decide +kernel) (by decide) (Nat.le_of_ble_eq_true rfl) (s_Voice_lowestKey hx ha0 (by omega) (by omega)) (fun r h16 hq => ?_)
              obtain ⟨x18, rfl, ⟨_, _⟩, rfl⟩ := hq
              refine A_aload_n 2 d_Judge_isCrossed_50 rfl rfl ?_
              refine A_iload_n 3 d_Judge_isCrossed_51 rfl rfl ?_
              refine A_callV1 m_Voice_highestKey T_ok d_Judge_isCrossed_52 l_Judge_117 k_Voice_highestKey (xs_V hx ha2) rfl (by decide +kernel) (by decide) (Nat.le_of_ble_eq_true rfl) (s_Voice_highestKey hx ha2 (by omega) (by omega)) (fun r h19 hq => ?_)
              obtain ⟨x21, rfl, ⟨_, _⟩, rfl⟩ := hq
              refine A_icmp_ge (tgt := 60) d_Judge_isCrossed_55 (by decide) (fun c22 => ?_) (fun c22 => ?_)
              · refine A_iincv (z := (i5 + 1)) (L' := [some (av_R (some a0)), some (av_I a1), some (av_R (some a2)), some (av_I a3), some (av_I (i5 + 1))]) d_Judge_isCrossed_60 rfl (w32_to (by omega) (by unfold i32; omega)) rfl ?_
                refine A_goto (tgt := 13) d_Judge_isCrossed_63 (by decide) ?_
                exact ih13 (i5 + 1) (by omega) (by omega) (by omega)
              · refine A_iconst d_Judge_isCrossed_58 rfl ?_
                exact A_zret d_Judge_isCrossed_59 (by decide) rfl (by omega) ⟨_, rfl, by omega, rfl⟩
    exact lp13 _ a1 (by omega) (by omega) (Nat.lt_succ_self _)
  · refine A_iconst d_Judge_isCrossed_8 rfl ?_
    exact A_zret d_Judge_isCrossed_9 (by decide) rfl (by omega) ⟨_, rfl, by omega, rfl⟩
theorem s_Judge_hearCrossings {G : cx_T} {s : Nat} {h : ah_T} (hx : xi s h) {a1 : Nat} {a2 : Nat} {a3 : Int} {a4 : Int} (ha1 : isS a1) (ha2 : isV a2) (la4 : 0 ≤ a4) (ua4 : a4 ≤ 299) : con G 3 0 0 m_Judge_hearCrossings [av_R (some 143), av_R (some a1), av_R (some a2), av_I a3, av_I a4] h (fun r h' => r = none ∧ kF FC s h h') := by
  refine con_of (L := [some (av_R (some 143)), some (av_R (some a1)), some (av_R (some a2)), some (av_I a3), some (av_I a4), none, none]) (by decide +kernel) (Nat.le_of_ble_eq_true rfl) rfl ?_
  have hS : isS s := hx.2.1
  have hs0 : s = 17 ∨ s = 80 := hS
  have k0 : kF FC s h h := kF_0 hx
  have ga2 := lt_V ha2
  refine A_locI 3 rfl (fun ra => ?_)
  obtain ⟨_, _⟩ := ra
  refine A_iconst d_Judge_hearCrossings_0 rfl ?_
  refine A_istore (L' := [some (av_R (some 143)), some (av_R (some a1)), some (av_R (some a2)), some (av_I a3), some (av_I a4), some (av_I 0), none]) d_Judge_hearCrossings_1 (Nat.le_of_ble_eq_true rfl) rfl ?_
  have lp3 : ∀ (n : Nat) (i1 : Int) (h2 : ah_T) , 0 ≤ i1 → i1 ≤ 4 → kF FC s h h2 → (5 - i1).toNat < n → aw G (rm_R 3 0 0) m_Judge_hearCrossings 0 0 3 [some (av_R (some 143)), some (av_R (some a1)), some (av_R (some a2)), some (av_I a3), some (av_I a4), some (av_I i1), none] [] h2 (fun r h' => r = none ∧ kF FC s h h') := by
    intro n
    induction n with
    | zero => intro i1 h2 _ _ _ hm; omega
    | succ n ih3 =>
      intro i1 h2 hl0 hl1 k3 hm
      refine A_iload d_Judge_hearCrossings_3 rfl ?_
      refine A_iload_n 3 d_Judge_hearCrossings_5 rfl rfl ?_
      refine A_icmp_ge (tgt := 88) d_Judge_hearCrossings_6 (by decide) (fun c4 => ?_) (fun c4 => ?_)
      · exact A_vret d_Judge_hearCrossings_88 (by decide) rfl ⟨rfl, k3⟩
      · refine A_iload d_Judge_hearCrossings_9 rfl ?_
        refine A_aload_n 0 d_Judge_hearCrossings_11 rfl rfl ?_
        refine A_getAv (z := some 145) T_ok d_Judge_hearCrossings_12 f_Judge_15 (xi_s k3.1 sf_143) (xi_r k3.1 rff_143_2) ?_
        refine A_alenN d_Judge_hearCrossings_15 (xi_s k3.1 sf_145) (by decide) (by decide) ?_
        refine A_icmp_ge (tgt := 88) d_Judge_hearCrossings_16 (by decide) (fun c6 => ?_) (fun c6 => ?_)
        · exact A_vret d_Judge_hearCrossings_88 (by decide) rfl ⟨rfl, k3⟩
        · refine A_aload_n 1 d_Judge_hearCrossings_19 rfl rfl ?_
          refine A_iload d_Judge_hearCrossings_20 rfl ?_
          refine A_callV1 m_Score_voiceAt T_ok d_Judge_hearCrossings_22 l_Judge_27 k_Score_voiceAt (xs_S k3.1 ha1) rfl (by decide +kernel) (by decide) (Nat.le_of_ble_eq_true rfl) (s_Score_voiceAt k3.1 ha1) (fun r h7 hq => ?_)
          obtain ⟨ox9, rfl, qx9, rfl⟩ := hq
          rcases qx9 with rfl | ⟨x9, rfl, tx9⟩
          · refine A_astore (L' := [some (av_R (some 143)), some (av_R (some a1)), some (av_R (some a2)), some (av_I a3), some (av_I a4), some (av_I i1), some (av_R none)]) d_Judge_hearCrossings_25 (Nat.le_of_ble_eq_true rfl) rfl ?_
            refine A_aload d_Judge_hearCrossings_27 rfl ?_
            refine A_ifnull (tgt := 82) d_Judge_hearCrossings_29 (by decide) (fun _ => ?_) (fun a q => by cases q)
            refine A_iincv (z := (i1 + 1)) (L' := [some (av_R (some 143)), some (av_R (some a1)), some (av_R (some a2)), some (av_I a3), some (av_I a4), some (av_I (i1 + 1)), some (av_R none)]) d_Judge_hearCrossings_82 rfl (w32_to (by omega) (by unfold i32; omega)) rfl ?_
            refine A_goto (tgt := 3) d_Judge_hearCrossings_85 (by decide) ?_
            refine A_free (L' := [some (av_R (some 143)), some (av_R (some a1)), some (av_R (some a2)), some (av_I a3), some (av_I a4), some (av_I (i1 + 1)), none]) (And.intro rfl (And.intro rfl (And.intro rfl (And.intro rfl (And.intro rfl (And.intro rfl trivial)))))) ?_
            exact ih3 (i1 + 1) h2 (by omega) (by omega) k3 (by omega)
          · refine A_astore (L' := [some (av_R (some 143)), some (av_R (some a1)), some (av_R (some a2)), some (av_I a3), some (av_I a4), some (av_I i1), some (av_R (some x9))]) d_Judge_hearCrossings_25 (Nat.le_of_ble_eq_true rfl) rfl ?_
            refine A_aload d_Judge_hearCrossings_27 rfl ?_
            refine A_ifnull (tgt := 82) d_Judge_hearCrossings_29 (by decide) (fun q => by cases q) (fun _ _ => ?_)
            refine A_aload_n 0 d_Judge_hearCrossings_32 rfl rfl ?_
            refine A_getAv (z := some 145) T_ok d_Judge_hearCrossings_33 f_Judge_15 (xi_s k3.1 sf_143) (xi_r k3.1 rff_143_2) ?_
            refine A_iload d_Judge_hearCrossings_36 rfl ?_
            refine A_aload d_Judge_hearCrossings_38 rfl ?_
            refine A_aload_n 0 d_Judge_hearCrossings_40 rfl rfl ?_
            refine A_pc (pc' := 41) rfl ?_
            refine A_getAv (z := some 145) T_ok d_Judge_hearCrossings_41 f_Judge_15 (xi_s k3.1 sf_143) (xi_r k3.1 rff_143_2) ?_
            refine A_iload d_Judge_hearCrossings_44 rfl ?_
            refine A_ialoadn (lo := 0) (hi := 300) d_Judge_hearCrossings_46 (xi_s k3.1 sf_145) (by omega) (by omega) (xi_g k3.1 (by decide) (rgf_145 _)) (fun x12 ex12 _ _ => ?_)
            refine A_aload_n 2 d_Judge_hearCrossings_47 rfl rfl ?_
            refine A_iload d_Judge_hearCrossings_48 rfl ?_
            refine A_callS4 m_Judge_firstNotEnded d_Judge_hearCrossings_50 l_Judge_106 k_Judge_firstNotEnded (by decide +kernel) (by decide) (Nat.le_of_ble_eq_true rfl) (s_Judge_firstNotEnded k3.1 (tV_V ha1 tx9) (by omega) (by omega) ha2 (by omega) (by omega)) (fun r h13 hq => ?_)
            obtain ⟨x15, rfl, ⟨_, _⟩, rfl⟩ := hq
            refine A_iastorek (KR := kF FC s h) d_Judge_hearCrossings_53 (xi_s k3.1 sf_145) (by omega) (by omega) (kF_j k3 (by decide) (ns_b rfl) (rgf_145 _) (by omega) (by omega)) (fun h16 k17 eh16 => ?_)
            refine A_aload d_Judge_hearCrossings_54 rfl ?_
            refine A_aload_n 0 d_Judge_hearCrossings_56 rfl rfl ?_
            refine A_getAv (z := some 145) T_ok d_Judge_hearCrossings_57 f_Judge_15 (xi_s k17.1 sf_143) (xi_r k17.1 rff_143_2) ?_
            refine A_iload d_Judge_hearCrossings_60 rfl ?_
            refine A_pc (pc' := 62) rfl ?_
            refine A_ialoadv (z := x15) d_Judge_hearCrossings_62 (xi_s k17.1 sf_145) (by omega) (by omega) eh16.2.1 ?_
            refine A_aload_n 2 d_Judge_hearCrossings_63 rfl rfl ?_
            refine A_iload d_Judge_hearCrossings_64 rfl ?_
            refine A_callS4 m_Judge_isCrossed d_Judge_hearCrossings_66 l_Judge_110 k_Judge_isCrossed (by decide +kernel) (by decide) (Nat.le_of_ble_eq_true rfl) (s_Judge_isCrossed k17.1 (tV_V ha1 tx9) (by omega) (by omega) ha2 (by omega) (by omega)) (fun r h20 hq => ?_)
            obtain ⟨x22, rfl, bx22, rfl⟩ := hq
            refine A_if_eq (tgt := 82) d_Judge_hearCrossings_69 (by decide) (fun c23 => ?_) (fun c23 => ?_)
            · refine A_iincv (z := (i1 + 1)) (L' := [some (av_R (some 143)), some (av_R (some a1)), some (av_R (some a2)), some (av_I a3), some (av_I a4), some (av_I (i1 + 1)), some (av_R (some x9))]) d_Judge_hearCrossings_82 rfl (w32_to (by omega) (by unfold i32; omega)) rfl ?_
              refine A_goto (tgt := 3) d_Judge_hearCrossings_85 (by decide) ?_
              refine A_free (L' := [some (av_R (some 143)), some (av_R (some a1)), some (av_R (some a2)), some (av_I a3), some (av_I a4), some (av_I (i1 + 1)), none]) (And.intro rfl (And.intro rfl (And.intro rfl (And.intro rfl (And.intro rfl (And.intro rfl trivial)))))) ?_
              exact ih3 (i1 + 1) h16 (by omega) (by omega) k17 (by omega)
            · refine A_aload_n 0 d_Judge_hearCrossings_72 rfl rfl ?_
              refine A_iconst d_Judge_hearCrossings_73 rfl ?_
              refine A_iload_n 3 d_Judge_hearCrossings_74 rfl rfl ?_
              refine A_iload d_Judge_hearCrossings_75 rfl ?_
              refine A_iload d_Judge_hearCrossings_77 rfl ?_
              refine A_pc (pc' := 79) rfl ?_
              refine A_callV4 m_Judge_add T_ok d_Judge_hearCrossings_79 l_Judge_50 k_Judge_add (xi_s k17.1 sf_143) rfl (by decide +kernel) (by decide) (Nat.le_of_ble_eq_true rfl) (s_Judge_add k17.1 ) (fun r h24 hq => ?_)
              obtain ⟨rfl, k25⟩ := hq
              have k26 := kF_t k17 k25 (fun _ q => q)
              refine A_iincv (z := (i1 + 1)) (L' := [some (av_R (some 143)), some (av_R (some a1)), some (av_R (some a2)), some (av_I a3), some (av_I a4), some (av_I (i1 + 1)), some (av_R (some x9))]) d_Judge_hearCrossings_82 rfl (w32_to (by omega) (by unfold i32; omega)) rfl ?_
              refine A_goto (tgt := 3) d_Judge_hearCrossings_85 (by decide) ?_
              refine A_free (L' := [some (av_R (some 143)), some (av_R (some a1)), some (av_R (some a2)), some (av_I a3), some (av_I a4), some (av_I (i1 + 1)), none]) (And.intro rfl (And.intro rfl (And.intro rfl (And.intro rfl (And.intro rfl (And.intro rfl trivial)))))) ?_
              exact ih3 (i1 + 1) h24 (by omega) (by omega) k26 (by omega)
  exact lp3 _ 0 h (by omega) (by omega) k0 (Nat.lt_succ_self _)
theorem s_Judge_isParallel {G : cx_T} {s : Nat} {h : ah_T} (hx : xi s h) {a0 : Nat} {a1 : Int} {a2 : Nat} {a3 : Int} (ha0 : isV a0) (la1 : 0 ≤ a1) (ua1 : a1 ≤ 300) (ha2 : isV a2) (la3 : 0 ≤ a3) (ua3 : a3 ≤ 299) : con G 2 0 0 m_Judge_isParallel [av_R (some a0), av_I a1, av_R (some a2), av_I a3] h (fun r h' => ∃ z, r = some (av_I z) ∧ (z = 0 ∨ z = 1) ∧ h = h') := by
  refine con_of (L := [some (av_R (some a0)), some (av_I a1), some (av_R (some a2)), some (av_I a3), none, none]) (by decide +kernel) (Nat.le_of_ble_eq_true rfl) rfl ?_
  have hS : isS s := hx.2.1
  have hs0 : s = 17 ∨ s = 80 := hS
  have ga0 := lt_V ha0
  have ga2 := lt_V ha2
  refine A_iload_n 3 d_Judge_isParallel_0 rfl rfl ?_
  refine A_iconst d_Judge_isParallel_1 rfl ?_
  refine A_icmp_lt (tgt := 28) d_Judge_isParallel_2 (by decide) (fun c1 => ?_) (fun c1 => ?_)
  · refine A_iconst d_Judge_isParallel_28 rfl ?_
    exact A_zret d_Judge_isParallel_29 (by decide) rfl (by omega) ⟨_, rfl, by omega, rfl⟩
  · refine A_iload_n 1 d_Judge_isParallel_5 rfl rfl ?_
    refine A_iconst d_Judge_isParallel_6 rfl ?_
    refine A_icmp_lt (tgt := 28) d_Judge_isParallel_7 (by decide) (fun c2 => ?_) (fun c2 => ?_)
    · refine A_iconst d_Judge_isParallel_28 rfl ?_
      exact A_zret d_Judge_isParallel_29 (by decide) rfl (by omega) ⟨_, rfl, by omega, rfl⟩
    · refine A_iload_n 1 d_Judge_isParallel_10 rfl rfl ?_
      refine A_aload_n 0 d_Judge_isParallel_11 rfl rfl ?_
      refine A_getIn (lo := 0) (hi := 300) T_ok d_Judge_isParallel_12 f_Judge_35 (xs_V hx ha0) (xi_g hx (lt1_V ha0) (rg_V_14 ha0)) (fun x3 ex3 _ _ => ?_)
      refine A_icmp_ge (tgt := 28) d_Judge_isParallel_15 (by decide) (fun c4 => ?_) (fun c4 => ?_)
      · refine A_iconst d_Judge_isParallel_28 rfl ?_
        exact A_zret d_Judge_isParallel_29 (by decide) rfl (by omega) ⟨_, rfl, by omega, rfl⟩
      · refine A_aload_n 0 d_Judge_isParallel_18 rfl rfl ?_
        refine A_iload_n 1 d_Judge_isParallel_19 rfl rfl ?_
        refine A_aload_n 2 d_Judge_isParallel_20 rfl rfl ?_
        refine A_iload_n 3 d_Judge_isParallel_21 rfl rfl ?_
        refine A_callS4 m_Judge_compareStarts d_Judge_isParallel_22 l_Judge_114 k_Judge_compareStarts (by decide +kernel) (by decide) (Nat.le_of_ble_eq_true rfl) (s_Judge_compareStarts hx ha0 (by omega) (by omega) ha2 (by omega) (by omega)) (fun r h5 hq => ?_)
        obtain ⟨x7, rfl, ⟨_, _⟩, rfl⟩ := hq
        refine A_if_eq (tgt := 30) d_Judge_isParallel_25 (by decide) (fun c8 => ?_) (fun c8 => ?_)
        · refine A_aload_n 2 d_Judge_isParallel_30 rfl rfl ?_
          refine A_iload_n 3 d_Judge_isParallel_31 rfl rfl ?_
          refine A_callV1 m_Voice_isRest T_ok d_Judge_isParallel_32 l_Judge_83 k_Voice_isRest (xs_V hx ha2) rfl (by decide +kernel) (by decide) (Nat.le_of_ble_eq_true rfl) (s_Voice_isRest hx ha2 (by omega) (by omega)) (fun r h9 hq => ?_)
          obtain ⟨x11, rfl, bx11, rfl⟩ := hq
          refine A_if_ne (tgt := 66) d_Judge_isParallel_35 (by decide) (fun c12 => ?_) (fun c12 => ?_)
          · refine A_iconst d_Judge_isParallel_66 rfl ?_
            exact A_zret d_Judge_isParallel_67 (by decide) rfl (by omega) ⟨_, rfl, by omega, rfl⟩
          · refine A_aload_n 2 d_Judge_isParallel_38 rfl rfl ?_
            refine A_iload_n 3 d_Judge_isParallel_39 rfl rfl ?_
            refine A_iconst d_Judge_isParallel_40 rfl ?_
            refine A_isubv (z := (a3 - 1)) d_Judge_isParallel_41 (w32_to (by omega) (by unfold i32; omega)) ?_
            refine A_callV1 m_Voice_isRest T_ok d_Judge_isParallel_42 l_Judge_83 k_Voice_isRest (xs_V hx ha2) rfl (by decide +kernel) (by decide) (Nat.le_of_ble_eq_true rfl) (s_Voice_isRest hx ha2 (by omega) (by omega)) (fun r h13 hq => ?_)
            obtain ⟨x15, rfl, bx15, rfl⟩ := hq
            refine A_if_ne (tgt := 66) d_Judge_isParallel_45 (by decide) (fun c16 => ?_) (fun c16 => ?_)
            · refine A_iconst d_Judge_isParallel_66 rfl ?_
              exact A_zret d_Judge_isParallel_67 (by decide) rfl (by omega) ⟨_, rfl, by omega, rfl⟩
            · refine A_aload_n 0 d_Judge_isParallel_48 rfl rfl ?_
              refine A_iload_n 1 d_Judge_isParallel_49 rfl rfl ?_
              refine A_callV1 m_Voice_isRest T_ok d_Judge_isParallel_50 l_Judge_83 k_Voice_isRest (xs_V hx ha0) rfl (by decide +kernel) (by decide) (Nat.le_of_ble_eq_true rfl) (s_Voice_isRest hx ha0 (by omega) (by omega)) (fun r h17 hq => ?_)
              obtain ⟨x19, rfl, bx19, rfl⟩ := hq
              refine A_if_ne (tgt := 66) d_Judge_isParallel_53 (by decide) (fun c20 => ?_) (fun c20 => ?_)
              · refine A_iconst d_Judge_isParallel_66 rfl ?_
                exact A_zret d_Judge_isParallel_67 (by decide) rfl (by omega) ⟨_, rfl, by omega, rfl⟩
              · refine A_aload_n 0 d_Judge_isParallel_56 rfl rfl ?_
                refine A_iload_n 1 d_Judge_isParallel_57 rfl rfl ?_
                refine A_iconst d_Judge_isParallel_58 rfl ?_
                refine A_isubv (z := (a1 - 1)) d_Judge_isParallel_59 (w32_to (by omega) (by unfold i32; omega)) ?_
                refine A_callV1 m_Voice_isRest T_ok d_Judge_isParallel_60 l_Judge_83 k_Voice_isRest (xs_V hx ha0) rfl (by decide +kernel) (by decide) (Nat.le_of_ble_eq_true rfl) (s_Voice_isRest hx ha0 (by omega) (by omega)) (fun r h21 hq => ?_)
                obtain ⟨x23, rfl, bx23, rfl⟩ := hq
                refine A_if_eq (tgt := 68) d_Judge_isParallel_63 (by decide) (fun c24 => ?_) (fun c24 => ?_)
                · refine A_aload_n 0 d_Judge_isParallel_68 rfl rfl ?_
                  refine A_iload_n 1 d_Judge_isParallel_69 rfl rfl ?_
                  refine A_callV1 m_Voice_lowestKey T_ok d_Judge_isParallel_70 l_Judge_86 k_Voice_lowestKey (xs_V hx ha0) rfl (by decide +kernel) (by decide) (Nat.le_of_ble_eq_true rfl) (s_Voice_lowestKey hx ha0 (by omega) (by omega)) (fun r h25 hq => ?_)
                  obtain ⟨x27, rfl, ⟨_, _⟩, rfl⟩ := hq
                  refine A_aload_n 2 d_Judge_isParallel_73 rfl rfl ?_
                  refine A_iload_n 3 d_Judge_isParallel_74 rfl rfl ?_
                  refine A_callV1 m_Voice_lowestKey T_ok d_Judge_isParallel_75 l_Judge_86 k_Voice_lowestKey (xs_V hx ha2) rfl (by decide +kernel) (by decide) (Nat.le_of_ble_eq_true rfl) (s_Voice_lowestKey hx ha2 (by omega) (by omega)) (fun r h28 hq => ?_)
                  obtain ⟨x30, rfl, ⟨_, _⟩, rfl⟩ := hq
                  refine A_isubw d_Judge_isParallel_78 (fun x31 _ _ _ => ?_)
                  refine A_bipush d_Judge_isParallel_79 rfl ?_
                  refine A_callS2 m_JMath_floorMod d_Judge_isParallel_81 l_Judge_136 k_JMath_floorMod (by decide +kernel) (by decide) (Nat.le_of_ble_eq_true rfl) (s_JMath_floorMod  (by omega) (by omega)) (fun r h32 hq => ?_)
                  obtain ⟨x34, rfl, ⟨_, _⟩, xx34, rfl⟩ := hq
                  refine A_istore (L' := [some (av_R (some a0)), some (av_I a1), some (av_R (some a2)), some (av_I a3), some (av_I x34), none]) d_Judge_isParallel_84 (Nat.le_of_ble_eq_true rfl) rfl ?_
                  refine A_aload_n 0 d_Judge_isParallel_86 rfl rfl ?_
                  refine A_iload_n 1 d_Judge_isParallel_87 rfl rfl ?_
                  refine A_iconst d_Judge_isParallel_88 rfl ?_
                  refine A_isubv (z := (a1 - 1)) d_Judge_isParallel_89 (w32_to (by omega) (by unfold i32; omega)) ?_
                  refine A_pc (pc' := 90) rfl ?_
                  refine A_callV1 m_Voice_lowestKey T_ok d_Judge_isParallel_90 l_Judge_86 k_Voice_lowestKey (xs_V hx ha0) rfl (by decide +kernel) (by decide) (Nat.le_of_ble_eq_true rfl) (s_Voice_lowestKey hx ha0 (by omega) (by omega)) (fun r h35 hq => ?_)
                  obtain ⟨x37, rfl, ⟨_, _⟩, rfl⟩ := hq
                  refine A_aload_n 2 d_Judge_isParallel_93 rfl rfl ?_
                  refine A_iload_n 3 d_Judge_isParallel_94 rfl rfl ?_
                  refine A_iconst d_Judge_isParallel_95 rfl ?_
                  refine A_isubv (z := (a3 - 1)) d_Judge_isParallel_96 (w32_to (by omega) (by unfold i32; omega)) ?_
                  refine A_callV1 m_Voice_lowestKey T_ok d_Judge_isParallel_97 l_Judge_86 k_Voice_lowestKey (xs_V hx ha2) rfl (by decide +kernel) (by decide) (Nat.le_of_ble_eq_true rfl) (s_Voice_lowestKey hx ha2 (by omega) (by omega)) (fun r h38 hq => ?_)
                  obtain ⟨x40, rfl, ⟨_, _⟩, rfl⟩ := hq
                  refine A_isubw d_Judge_isParallel_100 (fun x41 _ _ _ => ?_)
                  refine A_bipush d_Judge_isParallel_101 rfl ?_
                  refine A_callS2 m_JMath_floorMod d_Judge_isParallel_103 l_Judge_136 k_JMath_floorMod (by decide +kernel) (by decide) (Nat.le_of_ble_eq_true rfl) (s_JMath_floorMod  (by omega) (by omega)) (fun r h42 hq => ?_)
                  obtain ⟨x44, rfl, ⟨_, _⟩, xx44, rfl⟩ := hq
                  refine A_istore (L' := [some (av_R (some a0)), some (av_I a1), some (av_R (some a2)), some (av_I a3), some (av_I x34), some (av_I x44)]) d_Judge_isParallel_106 (Nat.le_of_ble_eq_true rfl) rfl ?_
                  refine A_iload d_Judge_isParallel_108 rfl ?_
                  refine A_iload d_Judge_isParallel_110 rfl ?_
                  refine A_icmp_ne (tgt := 146) d_Judge_isParallel_112 (by decide) (fun c45 => ?_) (fun c45 => ?_)
                  · refine A_iconst d_Judge_isParallel_146 rfl ?_
                    exact A_zret d_Judge_isParallel_147 (by decide) rfl (by omega) ⟨_, rfl, by omega, rfl⟩
                  · refine A_iload d_Judge_isParallel_115 rfl ?_
                    refine A_if_eq (tgt := 127) d_Judge_isParallel_117 (by decide) (fun c46 => ?_) (fun c46 => ?_)
                    · refine A_aload_n 2 d_Judge_isParallel_127 rfl rfl ?_
                      refine A_iload_n 3 d_Judge_isParallel_128 rfl rfl ?_
                      refine A_callV1 m_Voice_lowestKey T_ok d_Judge_isParallel_129 l_Judge_86 k_Voice_lowestKey (xs_V hx ha2) rfl (by decide +kernel) (by decide) (Nat.le_of_ble_eq_true rfl) (s_Voice_lowestKey hx ha2 (by omega) (by omega)) (fun r h47 hq => ?_)
                      obtain ⟨x49, rfl, ⟨_, _⟩, rfl⟩ := hq
                      refine A_aload_n 2 d_Judge_isParallel_132 rfl rfl ?_
                      refine A_iload_n 3 d_Judge_isParallel_133 rfl rfl ?_
                      refine A_iconst d_Judge_isParallel_134 rfl ?_
                      refine A_isubv (z := (a3 - 1)) d_Judge_isParallel_135 (w32_to (by omega) (by unfold i32; omega)) ?_
                      refine A_callV1 m_Voice_lowestKey T_ok d_Judge_isParallel_136 l_Judge_86 k_Voice_lowestKey (xs_V hx ha2) rfl (by decide +kernel) (by decide) (Nat.le_of_ble_eq_true rfl) (s_Voice_lowestKey hx ha2 (by omega) (by omega)) (fun r h50 hq => ?_)
                      obtain ⟨x52, rfl, ⟨_, _⟩, rfl⟩ := hq
                      refine A_icmp_eq (tgt := 146) d_Judge_isParallel_139 (by decide) (fun c53 => ?_) (fun c53 => ?_)
                      · refine A_iconst d_Judge_isParallel_146 rfl ?_
                        exact A_zret d_Judge_isParallel_147 (by decide) rfl (by omega) ⟨_, rfl, by omega, rfl⟩
                      · refine A_iconst d_Judge_isParallel_142 rfl ?_
                        refine A_goto (tgt := 147) d_Judge_isParallel_143 (by decide) ?_
                        exact A_zret d_Judge_isParallel_147 (by decide) rfl (by omega) ⟨_, rfl, by omega, rfl⟩
                    · refine A_iload d_Judge_isParallel_120 rfl ?_
                      refine A_bipush d_Judge_isParallel_122 rfl ?_
                      refine A_icmp_ne (tgt := 146) d_Judge_isParallel_124 (by decide) (fun c54 => ?_) (fun c54 => ?_)
                      · refine A_iconst d_Judge_isParallel_146 rfl ?_
                        exact A_zret d_Judge_isParallel_147 (by decide) rfl (by omega) ⟨_, rfl, by omega, rfl⟩
                      · refine A_aload_n 2 d_Judge_isParallel_127 rfl rfl ?_
                        refine A_iload_n 3 d_Judge_isParallel_128 rfl rfl ?_
                        refine A_callV1 m_Voice_lowestKey T_ok d_Judge_isParallel_129 l_Judge_86 k_Voice_lowestKey (xs_V hx ha2) rfl (by decide +kernel) (by decide) (Nat.le_of_ble_eq_true rfl) (s_Voice_lowestKey hx ha2 (by omega) (by omega)) (fun r h55 hq => ?_)
                        obtain ⟨x57, rfl, ⟨_, _⟩, rfl⟩ := hq
                        refine A_aload_n 2 d_Judge_isParallel_132 rfl rfl ?_
                        refine A_iload_n 3 d_Judge_isParallel_133 rfl rfl ?_
                        refine A_iconst d_Judge_isParallel_134 rfl ?_
                        refine A_isubv (z := (a3 - 1)) d_Judge_isParallel_135 (w32_to (by omega) (by unfold i32; omega)) ?_
                        refine A_callV1 m_Voice_lowestKey T_ok d_Judge_isParallel_136 l_Judge_86 k_Voice_lowestKey (xs_V hx ha2) rfl (by decide +kernel) (by decide) (Nat.le_of_ble_eq_true rfl) (s_Voice_lowestKey hx ha2 (by omega) (by omega)) (fun r h58 hq => ?_)
                        obtain ⟨x60, rfl, ⟨_, _⟩, rfl⟩ := hq
                        refine A_icmp_eq (tgt := 146) d_Judge_isParallel_139 (by decide) (fun c61 => ?_) (fun c61 => ?_)
                        · refine A_iconst d_Judge_isParallel_146 rfl ?_
                          exact A_zret d_Judge_isParallel_147 (by decide) rfl (by omega) ⟨_, rfl, by omega, rfl⟩
                        · refine A_iconst d_Judge_isParallel_142 rfl ?_
                          refine A_goto (tgt := 147) d_Judge_isParallel_143 (by decide) ?_
                          exact A_zret d_Judge_isParallel_147 (by decide) rfl (by omega) ⟨_, rfl, by omega, rfl⟩
                · refine A_iconst d_Judge_isParallel_66 rfl ?_
                  exact A_zret d_Judge_isParallel_67 (by decide) rfl (by omega) ⟨_, rfl, by omega, rfl⟩
        · refine A_iconst d_Judge_isParallel_28 rfl ?_
          exact A_zret d_Judge_isParallel_29 (by decide) rfl (by omega) ⟨_, rfl, by omega, rfl⟩
theorem s_Judge_hearParallels {G : cx_T} {s : Nat} {h : ah_T} (hx : xi s h) {a1 : Nat} {a2 : Nat} {a3 : Int} {a4 : Int} (ha1 : isS a1) (ha2 : isV a2) (la4 : 0 ≤ a4) (ua4 : a4 ≤ 299) : con G 3 0 0 m_Judge_hearParallels [av_R (some 143), av_R (some a1), av_R (some a2), av_I a3, av_I a4] h (fun r h' => r = none ∧ kF FC s h h') := by
  refine con_of (L := [some (av_R (some 143)), some (av_R (some a1)), some (av_R (some a2)), some (av_I a3), some (av_I a4), none, none]) (by decide +kernel) (Nat.le_of_ble_eq_true rfl) rfl ?_
  have hS : isS s := hx.2.1
  have hs0 : s = 17 ∨ s = 80 := hS
  have k0 : kF FC s h h := kF_0 hx
  have ga2 := lt_V ha2
  refine A_locI 3 rfl (fun ra => ?_)
  obtain ⟨_, _⟩ := ra
  refine A_iconst d_Judge_hearParallels_0 rfl ?_
  refine A_istore (L' := [some (av_R (some 143)), some (av_R (some a1)), some (av_R (some a2)), some (av_I a3), some (av_I a4), some (av_I 0), none]) d_Judge_hearParallels_1 (Nat.le_of_ble_eq_true rfl) rfl ?_
  have lp3 : ∀ (n : Nat) (i1 : Int) (h2 : ah_T) , 0 ≤ i1 → i1 ≤ 4 → kF FC s h h2 → (5 - i1).toNat < n → aw G (rm_R 3 0 0) m_Judge_hearParallels 0 0 3 [some (av_R (some 143)), some (av_R (some a1)), some (av_R (some a2)), some (av_I a3), some (av_I a4), some (av_I i1), none] [] h2 (fun r h' => r = none ∧ kF FC s h h') := by
    intro n
    induction n with
    | zero => intro i1 h2 _ _ _ hm; omega
    | succ n ih3 =>
      intro i1 h2 hl0 hl1 k3 hm
      refine A_iload d_Judge_hearParallels_3 rfl ?_
      refine A_iload_n 3 d_Judge_hearParallels_5 rfl rfl ?_
      refine A_icmp_ge (tgt := 66) d_Judge_hearParallels_6 (by decide) (fun c4 => ?_) (fun c4 => ?_)
      · exact A_vret d_Judge_hearParallels_66 (by decide) rfl ⟨rfl, k3⟩
      · refine A_iload d_Judge_hearParallels_9 rfl ?_
        refine A_aload_n 0 d_Judge_hearParallels_11 rfl rfl ?_
        refine A_getAv (z := some 145) T_ok d_Judge_hearParallels_12 f_Judge_15 (xi_s k3.1 sf_143) (xi_r k3.1 rff_143_2) ?_
        refine A_alenN d_Judge_hearParallels_15 (xi_s k3.1 sf_145) (by decide) (by decide) ?_
        refine A_icmp_ge (tgt := 66) d_Judge_hearParallels_16 (by decide) (fun c6 => ?_) (fun c6 => ?_)
        · exact A_vret d_Judge_hearParallels_66 (by decide) rfl ⟨rfl, k3⟩
        · refine A_aload_n 1 d_Judge_hearParallels_19 rfl rfl ?_
          refine A_iload d_Judge_hearParallels_20 rfl ?_
          refine A_callV1 m_Score_voiceAt T_ok d_Judge_hearParallels_22 l_Judge_27 k_Score_voiceAt (xs_S k3.1 ha1) rfl (by decide +kernel) (by decide) (Nat.le_of_ble_eq_true rfl) (s_Score_voiceAt k3.1 ha1) (fun r h7 hq => ?_)
          obtain ⟨ox9, rfl, qx9, rfl⟩ := hq
          rcases qx9 with rfl | ⟨x9, rfl, tx9⟩
          · refine A_astore (L' := [some (av_R (some 143)), some (av_R (some a1)), some (av_R (some a2)), some (av_I a3), some (av_I a4), some (av_I i1), some (av_R none)]) d_Judge_hearParallels_25 (Nat.le_of_ble_eq_true rfl) rfl ?_
            refine A_aload d_Judge_hearParallels_27 rfl ?_
            refine A_ifnull (tgt := 60) d_Judge_hearParallels_29 (by decide) (fun _ => ?_) (fun a q => by cases q)
            refine A_iincv (z := (i1 + 1)) (L' := [some (av_R (some 143)), some (av_R (some a1)), some (av_R (some a2)), some (av_I a3), some (av_I a4), some (av_I (i1 + 1)), some (av_R none)]) d_Judge_hearParallels_60 rfl (w32_to (by omega) (by unfold i32; omega)) rfl ?_
            refine A_goto (tgt := 3) d_Judge_hearParallels_63 (by decide) ?_
            refine A_free (L' := [some (av_R (some 143)), some (av_R (some a1)), some (av_R (some a2)), some (av_I a3), some (av_I a4), some (av_I (i1 + 1)), none]) (And.intro rfl (And.intro rfl (And.intro rfl (And.intro rfl (And.intro rfl (And.intro rfl trivial)))))) ?_
            exact ih3 (i1 + 1) h2 (by omega) (by omega) k3 (by omega)
          · refine A_astore (L' := [some (av_R (some 143)), some (av_R (some a1)), some (av_R (some a2)), some (av_I a3), some (av_I a4), some (av_I i1), some (av_R (some x9))]) d_Judge_hearParallels_25 (Nat.le_of_ble_eq_true rfl) rfl ?_
            refine A_aload d_Judge_hearParallels_27 rfl ?_
            refine A_ifnull (tgt := 60) d_Judge_hearParallels_29 (by decide) (fun q => by cases q) (fun _ _ => ?_)
            refine A_aload d_Judge_hearParallels_32 rfl ?_
            refine A_aload_n 0 d_Judge_hearParallels_34 rfl rfl ?_
            refine A_getAv (z := some 145) T_ok d_Judge_hearParallels_35 f_Judge_15 (xi_s k3.1 sf_143) (xi_r k3.1 rff_143_2) ?_
            refine A_iload d_Judge_hearParallels_38 rfl ?_
            refine A_ialoadn (lo := 0) (hi := 300) d_Judge_hearParallels_40 (xi_s k3.1 sf_145) (by omega) (by omega) (xi_g k3.1 (by decide) (rgf_145 _)) (fun x11 ex11 _ _ => ?_)
            refine A_pc (pc' := 41) rfl ?_
            refine A_aload_n 2 d_Judge_hearParallels_41 rfl rfl ?_
            refine A_iload d_Judge_hearParallels_42 rfl ?_
            refine A_callS4 m_Judge_isParallel d_Judge_hearParallels_44 l_Judge_133 k_Judge_isParallel (by decide +kernel) (by decide) (Nat.le_of_ble_eq_true rfl) (s_Judge_isParallel k3.1 (tV_V ha1 tx9) (by omega) (by omega) ha2 (by omega) (by omega)) (fun r h12 hq => ?_)
            obtain ⟨x14, rfl, bx14, rfl⟩ := hq
            refine A_if_eq (tgt := 60) d_Judge_hearParallels_47 (by decide) (fun c15 => ?_) (fun c15 => ?_)
            · refine A_iincv (z := (i1 + 1)) (L' := [some (av_R (some 143)), some (av_R (some a1)), some (av_R (some a2)), some (av_I a3), some (av_I a4), some (av_I (i1 + 1)), some (av_R (some x9))]) d_Judge_hearParallels_60 rfl (w32_to (by omega) (by unfold i32; omega)) rfl ?_
              refine A_goto (tgt := 3) d_Judge_hearParallels_63 (by decide) ?_
              refine A_free (L' := [some (av_R (some 143)), some (av_R (some a1)), some (av_R (some a2)), some (av_I a3), some (av_I a4), some (av_I (i1 + 1)), none]) (And.intro rfl (And.intro rfl (And.intro rfl (And.intro rfl (And.intro rfl (And.intro rfl trivial)))))) ?_
              exact ih3 (i1 + 1) h2 (by omega) (by omega) k3 (by omega)
            · refine A_aload_n 0 d_Judge_hearParallels_50 rfl rfl ?_
              refine A_iconst d_Judge_hearParallels_51 rfl ?_
              refine A_iload_n 3 d_Judge_hearParallels_52 rfl rfl ?_
              refine A_iload d_Judge_hearParallels_53 rfl ?_
              refine A_iload d_Judge_hearParallels_55 rfl ?_
              refine A_pc (pc' := 57) rfl ?_
              refine A_callV4 m_Judge_add T_ok d_Judge_hearParallels_57 l_Judge_50 k_Judge_add (xi_s k3.1 sf_143) rfl (by decide +kernel) (by decide) (Nat.le_of_ble_eq_true rfl) (s_Judge_add k3.1 ) (fun r h16 hq => ?_)
              obtain ⟨rfl, k17⟩ := hq
              have k18 := kF_t k3 k17 (fun _ q => q)
              refine A_iincv (z := (i1 + 1)) (L' := [some (av_R (some 143)), some (av_R (some a1)), some (av_R (some a2)), some (av_I a3), some (av_I a4), some (av_I (i1 + 1)), some (av_R (some x9))]) d_Judge_hearParallels_60 rfl (w32_to (by omega) (by unfold i32; omega)) rfl ?_
              refine A_goto (tgt := 3) d_Judge_hearParallels_63 (by decide) ?_
              refine A_free (L' := [some (av_R (some 143)), some (av_R (some a1)), some (av_R (some a2)), some (av_I a3), some (av_I a4), some (av_I (i1 + 1)), none]) (And.intro rfl (And.intro rfl (And.intro rfl (And.intro rfl (And.intro rfl (And.intro rfl trivial)))))) ?_
              exact ih3 (i1 + 1) h16 (by omega) (by omega) k18 (by omega)
  exact lp3 _ 0 h (by omega) (by omega) k0 (Nat.lt_succ_self _)
theorem s_Judge_hearVoice {G : cx_T} {s : Nat} {h : ah_T} (hx : xi s h) {a1 : Nat} {a2 : Nat} {a3 : Int} (ha1 : isS a1) (ha2 : isV a2) : con G 4 0 0 m_Judge_hearVoice [av_R (some 143), av_R (some a1), av_R (some a2), av_I a3] h (fun r h' => r = none ∧ kF FC s h h') := by
  refine con_of (L := [some (av_R (some 143)), some (av_R (some a1)), some (av_R (some a2)), some (av_I a3), none, none]) (by decide +kernel) (Nat.le_of_ble_eq_true rfl) rfl ?_
  have hS : isS s := hx.2.1
  have hs0 : s = 17 ∨ s = 80 := hS
  have k0 : kF FC s h h := kF_0 hx
  have ga2 := lt_V ha2
  refine A_locI 3 rfl (fun ra => ?_)
  obtain ⟨_, _⟩ := ra
  refine A_iconst d_Judge_hearVoice_0 rfl ?_
  refine A_istore (L' := [some (av_R (some 143)), some (av_R (some a1)), some (av_R (some a2)), some (av_I a3), some (av_I 0), none]) d_Judge_hearVoice_1 (Nat.le_of_ble_eq_true rfl) rfl ?_
  have lp3 : ∀ (n : Nat) (i1 : Int) (h2 : ah_T) , 0 ≤ i1 → i1 ≤ 4 → kF FC s h h2 → (5 - i1).toNat < n → aw G (rm_R 4 0 0) m_Judge_hearVoice 0 0 3 [some (av_R (some 143)), some (av_R (some a1)), some (av_R (some a2)), some (av_I a3), some (av_I i1), none] [] h2 (fun r h' => r = none ∧ kF FC s h h') := by
    intro n
    induction n with
    | zero => intro i1 h2 _ _ _ hm; omega
    | succ n ih3 =>
      intro i1 h2 hl0 hl1 k3 hm
      refine A_iload d_Judge_hearVoice_3 rfl ?_
      refine A_aload_n 0 d_Judge_hearVoice_5 rfl rfl ?_
      refine A_getAv (z := some 145) T_ok d_Judge_hearVoice_6 f_Judge_15 (xi_s k3.1 sf_143) (xi_r k3.1 rff_143_2) ?_
      refine A_alenN d_Judge_hearVoice_9 (xi_s k3.1 sf_145) (by decide) (by decide) ?_
      refine A_icmp_ge (tgt := 27) d_Judge_hearVoice_10 (by decide) (fun c5 => ?_) (fun c5 => ?_)
      · refine A_iconst d_Judge_hearVoice_27 rfl ?_
        refine A_istore (L' := [some (av_R (some 143)), some (av_R (some a1)), some (av_R (some a2)), some (av_I a3), some (av_I 0), none]) d_Judge_hearVoice_28 (Nat.le_of_ble_eq_true rfl) rfl ?_
        refine A_iconst d_Judge_hearVoice_30 rfl ?_
        refine A_istore (L' := [some (av_R (some 143)), some (av_R (some a1)), some (av_R (some a2)), some (av_I a3), some (av_I 0), some (av_I 0)]) d_Judge_hearVoice_31 (Nat.le_of_ble_eq_true rfl) rfl ?_
        have lp33 : ∀ (n : Nat) (i6 i7 : Int) (h8 : ah_T) , 0 ≤ i6 → i6 ≤ 101 → 0 ≤ i7 → i7 ≤ 301 → kF FC s h h8 → (302 - i7).toNat < n → aw G (rm_R 4 0 0) m_Judge_hearVoice 0 0 33 [some (av_R (some 143)), some (av_R (some a1)), some (av_R (some a2)), some (av_I a3), some (av_I i6), some (av_I i7)] [] h8 (fun r h' => r = none ∧ kF FC s h h') := by
          intro n
          induction n with
          | zero => intro i6 i7 h8 _ _ _ _ _ hm; omega
          | succ n ih33 =>
            intro i6 i7 h8 hl0 hl1 hl2 hl3 k9 hm
            refine A_iload d_Judge_hearVoice_33 rfl ?_
            refine A_aload_n 2 d_Judge_hearVoice_35 rfl rfl ?_
            refine A_getIn (lo := 0) (hi := 300) T_ok d_Judge_hearVoice_36 f_Judge_35 (xs_V k9.1 ha2) (xi_g k9.1 (lt1_V ha2) (rg_V_14 ha2)) (fun x10 ex10 _ _ => ?_)
            refine A_icmp_gt (tgt := 130) d_Judge_hearVoice_39 (by decide) (fun c11 => ?_) (fun c11 => ?_)
            · exact A_vret d_Judge_hearVoice_130 (by decide) rfl ⟨rfl, k9⟩
            · have lp42 : ∀ (n : Nat) (i12 : Int) (h13 : ah_T) , 0 ≤ i12 → i12 ≤ 101 → kF FC s h h13 → (102 - i12).toNat < n → aw G (rm_R 4 0 0) m_Judge_hearVoice 0 0 42 [some (av_R (some 143)), some (av_R (some a1)), some (av_R (some a2)), some (av_I a3), some (av_I i12), some (av_I i7)] [] h13 (fun r h' => r = none ∧ kF FC s h h') := by
                intro n
                induction n with
                | zero => intro i12 h13 _ _ _ hm; omega
                | succ n ih42 =>
                  intro i12 h13 hl0 hl1 k14 hm
                  refine A_iload d_Judge_hearVoice_42 rfl ?_
                  refine A_aload_n 2 d_Judge_hearVoice_44 rfl rfl ?_
                  refine A_getIn (lo := 0) (hi := 101) T_ok d_Judge_hearVoice_45 f_Judge_40 (xs_V k14.1 ha2) (xi_g k14.1 (lt1_V ha2) (rg_V_16 ha2)) (fun x15 ex15 _ _ => ?_)
                  refine A_icmp_ge (tgt := 89) d_Judge_hearVoice_48 (by decide) (fun c16 => ?_) (fun c16 => ?_)
                  · refine A_iload d_Judge_hearVoice_89 rfl ?_
                    refine A_aload_n 2 d_Judge_hearVoice_91 rfl rfl ?_
                    refine A_getIn (lo := 0) (hi := 300) T_ok d_Judge_hearVoice_92 f_Judge_35 (xs_V k14.1 ha2) (xi_g k14.1 (lt1_V ha2) (rg_V_14 ha2)) (fun x17 ex17 _ _ => ?_)
                    refine A_icmp_ge (tgt := 124) d_Judge_hearVoice_95 (by decide) (fun c18 => ?_) (fun c18 => ?_)
                    · refine A_iincv (z := (i7 + 1)) (L' := [some (av_R (some 143)), some (av_R (some a1)), some (av_R (some a2)), some (av_I a3), some (av_I i12), some (av_I (i7 + 1))]) d_Judge_hearVoice_124 rfl (w32_to (by omega) (by unfold i32; omega)) rfl ?_
                      refine A_goto (tgt := 33) d_Judge_hearVoice_127 (by decide) ?_
                      exact ih33 i12 (i7 + 1) h13 (by omega) (by omega) (by omega) (by omega) k14 (by omega)
                    · refine A_aload_n 0 d_Judge_hearVoice_98 rfl rfl ?_
                      refine A_aload_n 2 d_Judge_hearVoice_99 rfl rfl ?_
                      refine A_iload_n 3 d_Judge_hearVoice_100 rfl rfl ?_
                      refine A_iload d_Judge_hearVoice_101 rfl ?_
                      refine A_callV3 m_Judge_hearAlone T_ok d_Judge_hearVoice_103 l_Judge_54 k_Judge_hearAlone (xi_s k14.1 sf_143) rfl (by decide +kernel) (by decide) (Nat.le_of_ble_eq_true rfl) (s_Judge_hearAlone k14.1 ha2 (by omega) (by omega)) (fun r h19 hq => ?_)
                      obtain ⟨rfl, k20⟩ := hq
                      have k21 := kF_t k14 k20 (fun _ q => q)
                      refine A_aload_n 0 d_Judge_hearVoice_106 rfl rfl ?_
                      refine A_aload_n 1 d_Judge_hearVoice_107 rfl rfl ?_
                      refine A_aload_n 2 d_Judge_hearVoice_108 rfl rfl ?_
                      refine A_iload_n 3 d_Judge_hearVoice_109 rfl rfl ?_
                      refine A_iload d_Judge_hearVoice_110 rfl ?_
                      refine A_pc (pc' := 112) rfl ?_
                      refine A_callV4 m_Judge_hearCrossings T_ok d_Judge_hearVoice_112 l_Judge_58 k_Judge_hearCrossings (xi_s k21.1 sf_143) rfl (by decide +kernel) (by decide) (Nat.le_of_ble_eq_true rfl) (s_Judge_hearCrossings k21.1 ha1 ha2 (by omega) (by omega)) (fun r h22 hq => ?_)
                      obtain ⟨rfl, k23⟩ := hq
                      have k24 := kF_t k21 k23 (fun _ q => q)
                      refine A_aload_n 0 d_Judge_hearVoice_115 rfl rfl ?_
                      refine A_aload_n 1 d_Judge_hearVoice_116 rfl rfl ?_
                      refine A_aload_n 2 d_Judge_hearVoice_117 rfl rfl ?_
                      refine A_iload_n 3 d_Judge_hearVoice_118 rfl rfl ?_
                      refine A_iload d_Judge_hearVoice_119 rfl ?_
                      refine A_pc (pc' := 121) rfl ?_
                      refine A_callV4 m_Judge_hearParallels T_ok d_Judge_hearVoice_121 l_Judge_62 k_Judge_hearParallels (xi_s k24.1 sf_143) rfl (by decide +kernel) (by decide) (Nat.le_of_ble_eq_true rfl) (s_Judge_hearParallels k24.1 ha1 ha2 (by omega) (by omega)) (fun r h25 hq => ?_)
                      obtain ⟨rfl, k26⟩ := hq
                      have k27 := kF_t k24 k26 (fun _ q => q)
                      refine A_iincv (z := (i7 + 1)) (L' := [some (av_R (some 143)), some (av_R (some a1)), some (av_R (some a2)), some (av_I a3), some (av_I i12), some (av_I (i7 + 1))]) d_Judge_hearVoice_124 rfl (w32_to (by omega) (by unfold i32; omega)) rfl ?_
                      refine A_goto (tgt := 33) d_Judge_hearVoice_127 (by decide) ?_
                      exact ih33 i12 (i7 + 1) h25 (by omega) (by omega) (by omega) (by omega) k27 (by omega)
                  · refine A_aload_n 2 d_Judge_hearVoice_51 rfl rfl ?_
                    refine A_getAv (z := some (a2 + 13)) T_ok d_Judge_hearVoice_52 f_Judge_43 (xs_V k14.1 ha2) (xr_V_15 k14.1 ha2) ?_
                    refine A_iload d_Judge_hearVoice_55 rfl ?_
                    refine A_ialoadn (lo := 0) (hi := 300) d_Judge_hearVoice_57 (xs_V_15 k14.1 ha2) (by omega) (by omega) (xi_g k14.1 (lt2_V ha2 (by decide)) (rg_V_15 ha2 _)) (fun x29 ex29 _ _ => ?_)
                    refine A_iload d_Judge_hearVoice_58 rfl ?_
                    refine A_pc (pc' := 60) rfl ?_
                    refine A_icmp_gt (tgt := 89) d_Judge_hearVoice_60 (by decide) (fun c30 => ?_) (fun c30 => ?_)
                    · refine A_iload d_Judge_hearVoice_89 rfl ?_
                      refine A_aload_n 2 d_Judge_hearVoice_91 rfl rfl ?_
                      refine A_getIn (lo := 0) (hi := 300) T_ok d_Judge_hearVoice_92 f_Judge_35 (xs_V k14.1 ha2) (xi_g k14.1 (lt1_V ha2) (rg_V_14 ha2)) (fun x31 ex31 _ _ => ?_)
                      refine A_icmp_ge (tgt := 124) d_Judge_hearVoice_95 (by decide) (fun c32 => ?_) (fun c32 => ?_)
                      · refine A_iincv (z := (i7 + 1)) (L' := [some (av_R (some 143)), some (av_R (some a1)), some (av_R (some a2)), some (av_I a3), some (av_I i12), some (av_I (i7 + 1))]) d_Judge_hearVoice_124 rfl (w32_to (by omega) (by unfold i32; omega)) rfl ?_
                        refine A_goto (tgt := 33) d_Judge_hearVoice_127 (by decide) ?_
                        exact ih33 i12 (i7 + 1) h13 (by omega) (by omega) (by omega) (by omega) k14 (by omega)
                      · refine A_aload_n 0 d_Judge_hearVoice_98 rfl rfl ?_
                        refine A_aload_n 2 d_Judge_hearVoice_99 rfl rfl ?_
                        refine A_iload_n 3 d_Judge_hearVoice_100 rfl rfl ?_
                        refine A_iload d_Judge_hearVoice_101 rfl ?_
                        refine A_callV3 m_Judge_hearAlone T_ok d_Judge_hearVoice_103 l_Judge_54 k_Judge_hearAlone (xi_s k14.1 sf_143) rfl (by decide +kernel) (by decide) (Nat.le_of_ble_eq_true rfl) (s_Judge_hearAlone k14.1 ha2 (by omega) (by omega)) (fun r h33 hq => ?_)
                        obtain ⟨rfl, k34⟩ := hq
                        have k35 := kF_t k14 k34 (fun _ q => q)
                        refine A_aload_n 0 d_Judge_hearVoice_106 rfl rfl ?_
                        refine A_aload_n 1 d_Judge_hearVoice_107 rfl rfl ?_
                        refine A_aload_n 2 d_Judge_hearVoice_108 rfl rfl ?_
                        refine A_iload_n 3 d_Judge_hearVoice_109 rfl rfl ?_
                        refine A_iload d_Judge_hearVoice_110 rfl ?_
                        refine A_pc (pc' := 112) rfl ?_
                        refine A_callV4 m_Judge_hearCrossings T_ok d_Judge_hearVoice_112 l_Judge_58 k_Judge_hearCrossings (xi_s k35.1 sf_143) rfl (by decide +kernel) (by decide) (Nat.le_of_ble_eq_true rfl) (s_Judge_hearCrossings k35.1 ha1 ha2 (by omega) (by omega)) (fun r h36 hq => ?_)
                        obtain ⟨rfl, k37⟩ := hq
                        have k38 := kF_t k35 k37 (fun _ q => q)
                        refine A_aload_n 0 d_Judge_hearVoice_115 rfl rfl ?_
                        refine A_aload_n 1 d_Judge_hearVoice_116 rfl rfl ?_
                        refine A_aload_n 2 d_Judge_hearVoice_117 rfl rfl ?_
                        refine A_iload_n 3 d_Judge_hearVoice_118 rfl rfl ?_
                        refine A_iload d_Judge_hearVoice_119 rfl ?_
                        refine A_pc (pc' := 121) rfl ?_
                        refine A_callV4 m_Judge_hearParallels T_ok d_Judge_hearVoice_121 l_Judge_62 k_Judge_hearParallels (xi_s k38.1 sf_143) rfl (by decide +kernel) (by decide) (Nat.le_of_ble_eq_true rfl) (s_Judge_hearParallels k38.1 ha1 ha2 (by omega) (by omega)) (fun r h39 hq => ?_)
                        obtain ⟨rfl, k40⟩ := hq
                        have k41 := kF_t k38 k40 (fun _ q => q)
                        refine A_iincv (z := (i7 + 1)) (L' := [some (av_R (some 143)), some (av_R (some a1)), some (av_R (some a2)), some (av_I a3), some (av_I i12), some (av_I (i7 + 1))]) d_Judge_hearVoice_124 rfl (w32_to (by omega) (by unfold i32; omega)) rfl ?_
                        refine A_goto (tgt := 33) d_Judge_hearVoice_127 (by decide) ?_
                        exact ih33 i12 (i7 + 1) h39 (by omega) (by omega) (by omega) (by omega) k41 (by omega)
                    · refine A_aload_n 1 d_Judge_hearVoice_63 rfl rfl ?_
                      refine A_aload_n 2 d_Judge_hearVoice_64 rfl rfl ?_
                      refine A_iload d_Judge_hearVoice_65 rfl ?_
                      refine A_callS3 m_Judge_isWhole d_Judge_hearVoice_67 l_Judge_46 k_Judge_isWhole (by decide +kernel) (by decide) (Nat.le_of_ble_eq_true rfl) (s_Judge_isWhole k14.1 ha1 ha2 (by omega) (by omega)) (fun r h42 hq => ?_)
                      obtain ⟨x44, rfl, bx44, rfl⟩ := hq
                      refine A_if_ne (tgt := 83) d_Judge_hearVoice_70 (by decide) (fun c45 => ?_) (fun c45 => ?_)
                      · refine A_iincv (z := (i12 + 1)) (L' := [some (av_R (some 143)), some (av_R (some a1)), some (av_R (some a2)), some (av_I a3), some (av_I (i12 + 1)), some (av_I i7)]) d_Judge_hearVoice_83 rfl (w32_to (by omega) (by unfold i32; omega)) rfl ?_
                        refine A_goto (tgt := 42) d_Judge_hearVoice_86 (by decide) ?_
                        exact ih42 (i12 + 1) h13 (by omega) (by omega) k14 (by omega)
                      · refine A_aload_n 0 d_Judge_hearVoice_73 rfl rfl ?_
                        refine A_iconst d_Judge_hearVoice_74 rfl ?_
                        refine A_iload_n 3 d_Judge_hearVoice_75 rfl rfl ?_
                        refine A_iload d_Judge_hearVoice_76 rfl ?_
                        refine A_iload d_Judge_hearVoice_78 rfl ?_
                        refine A_pc (pc' := 80) rfl ?_
                        refine A_callV4 m_Judge_add T_ok d_Judge_hearVoice_80 l_Judge_50 k_Judge_add (xi_s k14.1 sf_143) rfl (by decide +kernel) (by decide) (Nat.le_of_ble_eq_true rfl) (s_Judge_add k14.1 ) (fun r h46 hq => ?_)
                        obtain ⟨rfl, k47⟩ := hq
                        have k48 := kF_t k14 k47 (fun _ q => q)
                        refine A_iincv (z := (i12 + 1)) (L' := [some (av_R (some 143)), some (av_R (some a1)), some (av_R (some a2)), some (av_I a3), some (av_I (i12 + 1)), some (av_I i7)]) d_Judge_hearVoice_83 rfl (w32_to (by omega) (by unfold i32; omega)) rfl ?_
                        refine A_goto (tgt := 42) d_Judge_hearVoice_86 (by decide) ?_
                        exact ih42 (i12 + 1) h46 (by omega) (by omega) k48 (by omega)
              exact lp42 _ i6 h8 (by omega) (by omega) k9 (Nat.lt_succ_self _)
        exact lp33 _ 0 0 h2 (by omega) (by omega) (by omega) (by omega) k3 (Nat.lt_succ_self _)
      · refine A_aload_n 0 d_Judge_hearVoice_13 rfl rfl ?_
        refine A_getAv (z := some 145) T_ok d_Judge_hearVoice_14 f_Judge_15 (xi_s k3.1 sf_143) (xi_r k3.1 rff_143_2) ?_
        refine A_iload d_Judge_hearVoice_17 rfl ?_
        refine A_iconst d_Judge_hearVoice_19 rfl ?_
        refine A_iastorek (KR := kF FC s h) d_Judge_hearVoice_20 (xi_s k3.1 sf_145) (by omega) (by omega) (kF_j k3 (by decide) (ns_b rfl) (rgf_145 _) (by omega) (by omega)) (fun h50 k51 eh50 => ?_)
        refine A_pc (pc' := 21) rfl ?_
        refine A_iincv (z := (i1 + 1)) (L' := [some (av_R (some 143)), some (av_R (some a1)), some (av_R (some a2)), some (av_I a3), some (av_I (i1 + 1)), none]) d_Judge_hearVoice_21 rfl (w32_to (by omega) (by unfold i32; omega)) rfl ?_
        refine A_goto (tgt := 3) d_Judge_hearVoice_24 (by decide) ?_
        exact ih3 (i1 + 1) h50 (by omega) (by omega) k51 (by omega)
  exact lp3 _ 0 h (by omega) (by omega) k0 (Nat.lt_succ_self _)
theorem s_Judge_hear {G : cx_T} {s : Nat} {h : ah_T} (hx : xi s h) {a1 : Nat} (ha1 : isS a1) : con G 5 0 0 m_Judge_hear [av_R (some 143), av_R (some a1)] h (fun r h' => ∃ z, r = some (av_I z) ∧ (0 ≤ z ∧ z ≤ 6404) ∧ kF FC s h h') := by
  refine con_of (L := [some (av_R (some 143)), some (av_R (some a1)), none, none]) (by decide +kernel) (Nat.le_of_ble_eq_true rfl) rfl ?_
  have hS : isS s := hx.2.1
  have hs0 : s = 17 ∨ s = 80 := hS
  have k0 : kF FC s h h := kF_0 hx
  refine A_aload_n 0 d_Judge_hear_0 rfl rfl ?_
  refine A_iconst d_Judge_hear_1 rfl ?_
  refine A_putIk (KR := kF FC s h) T_ok d_Judge_hear_2 f_Judge_18 (xi_s k0.1 sf_143) fin_f (kF_j k0 (by decide) (ns_b rfl) rgf_143_1 (by omega) (by omega)) (fun h1 k2 eh1 => ?_)
  refine A_iconst d_Judge_hear_5 rfl ?_
  refine A_istore_n 2 (L' := [some (av_R (some 143)), some (av_R (some a1)), some (av_I 0), none]) d_Judge_hear_6 rfl (Nat.le_of_ble_eq_true rfl) rfl ?_
  have lp7 : ∀ (n : Nat) (i3 : Int) (h4 : ah_T) , 0 ≤ i3 → i3 ≤ 4 → kF FC s h h4 → (5 - i3).toNat < n → aw G (rm_R 5 0 0) m_Judge_hear 0 0 7 [some (av_R (some 143)), some (av_R (some a1)), some (av_I i3), none] [] h4 (fun r h' => ∃ z, r = some (av_I z) ∧ (0 ≤ z ∧ z ≤ 6404) ∧ kF FC s h h') := by
    intro n
    induction n with
    | zero => intro i3 h4 _ _ _ hm; omega
    | succ n ih7 =>
      intro i3 h4 hl0 hl1 k5 hm
      refine A_iload_n 2 d_Judge_hear_7 rfl rfl ?_
      refine A_aload_n 1 d_Judge_hear_8 rfl rfl ?_
      refine A_getIn (lo := 0) (hi := 4) T_ok d_Judge_hear_9 f_Judge_22 (xs_S k5.1 ha1) (xi_g k5.1 (lt1_S ha1) (rg_S_1 ha1)) (fun x6 ex6 _ _ => ?_)
      refine A_icmp_ge (tgt := 38) d_Judge_hear_12 (by decide) (fun c7 => ?_) (fun c7 => ?_)
      · refine A_aload_n 0 d_Judge_hear_38 rfl rfl ?_
        refine A_getIn (lo := 0) (hi := 6404) T_ok d_Judge_hear_39 f_Judge_18 (xi_s k5.1 sf_143) (xi_g k5.1 (by decide) rgf_143_1) (fun x8 ex8 _ _ => ?_)
        exact A_iret d_Judge_hear_42 (by decide) rfl ⟨_, rfl, ⟨by omega, by omega⟩, k5⟩
      · refine A_aload_n 1 d_Judge_hear_15 rfl rfl ?_
        refine A_iload_n 2 d_Judge_hear_16 rfl rfl ?_
        refine A_callV1 m_Score_voiceAt T_ok d_Judge_hear_17 l_Judge_27 k_Score_voiceAt (xs_S k5.1 ha1) rfl (by decide +kernel) (by decide) (Nat.le_of_ble_eq_true rfl) (s_Score_voiceAt k5.1 ha1) (fun r h9 hq => ?_)
        obtain ⟨ox11, rfl, qx11, rfl⟩ := hq
        rcases qx11 with rfl | ⟨x11, rfl, tx11⟩
        · refine A_astore_n 3 (L' := [some (av_R (some 143)), some (av_R (some a1)), some (av_I i3), some (av_R none)]) d_Judge_hear_20 rfl (Nat.le_of_ble_eq_true rfl) rfl ?_
          refine A_aload_n 3 d_Judge_hear_21 rfl rfl ?_
          refine A_ifnull (tgt := 32) d_Judge_hear_22 (by decide) (fun _ => ?_) (fun a q => by cases q)
          refine A_iincv (z := (i3 + 1)) (L' := [some (av_R (some 143)), some (av_R (some a1)), some (av_I (i3 + 1)), some (av_R none)]) d_Judge_hear_32 rfl (w32_to (by omega) (by unfold i32; omega)) rfl ?_
          refine A_goto (tgt := 7) d_Judge_hear_35 (by decide) ?_
          refine A_free (L' := [some (av_R (some 143)), some (av_R (some a1)), some (av_I (i3 + 1)), none]) (And.intro rfl (And.intro rfl (And.intro rfl trivial))) ?_
          exact ih7 (i3 + 1) h4 (by omega) (by omega) k5 (by omega)
        · refine A_astore_n 3 (L' := [some (av_R (some 143)), some (av_R (some a1)), some (av_I i3), some (av_R (some x11))]) d_Judge_hear_20 rfl (Nat.le_of_ble_eq_true rfl) rfl ?_
          refine A_aload_n 3 d_Judge_hear_21 rfl rfl ?_
          refine A_ifnull (tgt := 32) d_Judge_hear_22 (by decide) (fun q => by cases q) (fun _ _ => ?_)
          refine A_aload_n 0 d_Judge_hear_25 rfl rfl ?_
          refine A_aload_n 1 d_Judge_hear_26 rfl rfl ?_
          refine A_aload_n 3 d_Judge_hear_27 rfl rfl ?_
          refine A_iload_n 2 d_Judge_hear_28 rfl rfl ?_
          refine A_callV3 m_Judge_hearVoice T_ok d_Judge_hear_29 l_Judge_31 k_Judge_hearVoice (xi_s k5.1 sf_143) rfl (by decide +kernel) (by decide) (Nat.le_of_ble_eq_true rfl) (s_Judge_hearVoice k5.1 ha1 (tV_V ha1 tx11)) (fun r h12 hq => ?_)
          obtain ⟨rfl, k13⟩ := hq
          have k14 := kF_t k5 k13 (fun _ q => q)
          refine A_iincv (z := (i3 + 1)) (L' := [some (av_R (some 143)), some (av_R (some a1)), some (av_I (i3 + 1)), some (av_R (some x11))]) d_Judge_hear_32 rfl (w32_to (by omega) (by unfold i32; omega)) rfl ?_
          refine A_goto (tgt := 7) d_Judge_hear_35 (by decide) ?_
          refine A_free (L' := [some (av_R (some 143)), some (av_R (some a1)), some (av_I (i3 + 1)), none]) (And.intro rfl (And.intro rfl (And.intro rfl trivial))) ?_
          exact ih7 (i3 + 1) h12 (by omega) (by omega) k14 (by omega)
  exact lp7 _ 0 h1 (by omega) (by omega) k2 (Nat.lt_succ_self _)
