/-! ===== the class's methods, 22m ===== -/
def m_PM_putBytes : mr_T := (⟨"PlainMusic", "putBytes", "(I)V"⟩, prog_1_method_3_code, 3, none)
theorem rgf_0_1 : rg 0 1 = (0, 2000) := by decide +kernel
theorem d_PM_putBytes_0 : decode prog_1_method_3_code 0 = .ok (.bipush 24, 2) := by decide +kernel
theorem d_PM_putBytes_2 : decode prog_1_method_3_code 2 = .ok (.istore_n 2, 1) := by decide +kernel
theorem d_PM_putBytes_3 : decode prog_1_method_3_code 3 = .ok (.iload_n 2, 1) := by decide +kernel
theorem d_PM_putBytes_4 : decode prog_1_method_3_code 4 = .ok (.ifCond .lt 47, 3) := by decide +kernel
theorem d_PM_putBytes_7 : decode prog_1_method_3_code 7 = .ok (.aload_n 0, 1) := by decide +kernel
theorem d_PM_putBytes_8 : decode prog_1_method_3_code 8 = .ok (.getfield 13, 3) := by decide +kernel
theorem sf_0 : sh_L[0]? = some (11 + 4, 11) := by decide +kernel
theorem d_PM_putBytes_11 : decode prog_1_method_3_code 11 = .ok (.aload_n 0, 1) := by decide +kernel
theorem d_PM_putBytes_12 : decode prog_1_method_3_code 12 = .ok (.getfield 9, 3) := by decide +kernel
theorem rff_0_0 : (0, 0, 1) ∈ rf_L := by decide +kernel
theorem d_PM_putBytes_15 : decode prog_1_method_3_code 15 = .ok (.arraylength, 1) := by decide +kernel
theorem d_PM_putBytes_16 : decode prog_1_method_3_code 16 = .ok (.if_icmp .ge 29, 3) := by decide +kernel
theorem d_PM_putBytes_45 : decode prog_1_method_3_code 45 = .ok (.iinc 2 (-8), 3) := by decide +kernel
theorem d_PM_putBytes_48 : decode prog_1_method_3_code 48 = .ok (.goto (-45), 3) := by decide +kernel
theorem d_PM_putBytes_19 : decode prog_1_method_3_code 19 = .ok (.aload_n 0, 1) := by decide +kernel
theorem d_PM_putBytes_20 : decode prog_1_method_3_code 20 = .ok (.getfield 9, 3) := by decide +kernel
theorem d_PM_putBytes_23 : decode prog_1_method_3_code 23 = .ok (.aload_n 0, 1) := by decide +kernel
theorem d_PM_putBytes_24 : decode prog_1_method_3_code 24 = .ok (.getfield 13, 3) := by decide +kernel
theorem d_PM_putBytes_27 : decode prog_1_method_3_code 27 = .ok (.iload_n 1, 1) := by decide +kernel
theorem d_PM_putBytes_28 : decode prog_1_method_3_code 28 = .ok (.iload_n 2, 1) := by decide +kernel
theorem d_PM_putBytes_29 : decode prog_1_method_3_code 29 = .ok (.iushr, 1) := by decide +kernel
theorem d_PM_putBytes_30 : decode prog_1_method_3_code 30 = .ok (.sipush 255, 3) := by decide +kernel
theorem d_PM_putBytes_33 : decode prog_1_method_3_code 33 = .ok (.iand, 1) := by decide +kernel
theorem d_PM_putBytes_34 : decode prog_1_method_3_code 34 = .ok (.iastore, 1) := by decide +kernel
theorem d_PM_putBytes_35 : decode prog_1_method_3_code 35 = .ok (.aload_n 0, 1) := by decide +kernel
theorem d_PM_putBytes_36 : decode prog_1_method_3_code 36 = .ok (.dup, 1) := by decide +kernel
theorem d_PM_putBytes_37 : decode prog_1_method_3_code 37 = .ok (.getfield 13, 3) := by decide +kernel
theorem d_PM_putBytes_40 : decode prog_1_method_3_code 40 = .ok (.iconst 1, 1) := by decide +kernel
theorem d_PM_putBytes_41 : decode prog_1_method_3_code 41 = .ok (.iadd, 1) := by decide +kernel
theorem d_PM_putBytes_42 : decode prog_1_method_3_code 42 = .ok (.putfield 13, 3) := by decide +kernel
theorem d_PM_putBytes_51 : decode prog_1_method_3_code 51 = .ok (.return_, 1) := by decide +kernel
def m_PM_feed : mr_T := (⟨"PlainMusic", "feed", "(IIIII)I"⟩, prog_1_method_2_code, 6, some .int)
theorem d_PM_feed_0 : decode prog_1_method_2_code 0 = .ok (.aload_n 0, 1) := by decide +kernel
theorem d_PM_feed_1 : decode prog_1_method_2_code 1 = .ok (.getfield 13, 3) := by decide +kernel
theorem d_PM_feed_4 : decode prog_1_method_2_code 4 = .ok (.bipush 20, 2) := by decide +kernel
theorem d_PM_feed_6 : decode prog_1_method_2_code 6 = .ok (.iadd, 1) := by decide +kernel
theorem d_PM_feed_7 : decode prog_1_method_2_code 7 = .ok (.sipush 2000, 3) := by decide +kernel
theorem d_PM_feed_10 : decode prog_1_method_2_code 10 = .ok (.if_icmp .le 6, 3) := by decide +kernel
theorem d_PM_feed_16 : decode prog_1_method_2_code 16 = .ok (.aload_n 0, 1) := by decide +kernel
theorem d_PM_feed_17 : decode prog_1_method_2_code 17 = .ok (.iload_n 1, 1) := by decide +kernel
theorem d_PM_feed_18 : decode prog_1_method_2_code 18 = .ok (.invokevirtual 76, 3) := by decide +kernel
theorem k_PM_putBytes : mt_OK m_PM_putBytes 1 1 := ⟨gwi_635, gwi_134, ⟨by decide +kernel, by decide +kernel, by decide +kernel⟩, fun h => absurd h (by decide), fun _ => ⟨gwi_634, gwi_0⟩, fun h => absurd h (by decide)⟩
theorem l_PM_76 : ml_OK "PlainMusic" 76 ⟨"PlainMusic", "putBytes", "(I)V"⟩ := Or.inl gwi_632
theorem d_PM_feed_21 : decode prog_1_method_2_code 21 = .ok (.aload_n 0, 1) := by decide +kernel
theorem d_PM_feed_22 : decode prog_1_method_2_code 22 = .ok (.iload_n 2, 1) := by decide +kernel
theorem d_PM_feed_23 : decode prog_1_method_2_code 23 = .ok (.invokevirtual 76, 3) := by decide +kernel
theorem d_PM_feed_26 : decode prog_1_method_2_code 26 = .ok (.aload_n 0, 1) := by decide +kernel
theorem d_PM_feed_27 : decode prog_1_method_2_code 27 = .ok (.iload_n 3, 1) := by decide +kernel
theorem d_PM_feed_28 : decode prog_1_method_2_code 28 = .ok (.invokevirtual 76, 3) := by decide +kernel
theorem d_PM_feed_31 : decode prog_1_method_2_code 31 = .ok (.aload_n 0, 1) := by decide +kernel
theorem d_PM_feed_32 : decode prog_1_method_2_code 32 = .ok (.iload 4, 2) := by decide +kernel
theorem d_PM_feed_34 : decode prog_1_method_2_code 34 = .ok (.invokevirtual 76, 3) := by decide +kernel
theorem d_PM_feed_37 : decode prog_1_method_2_code 37 = .ok (.aload_n 0, 1) := by decide +kernel
theorem d_PM_feed_38 : decode prog_1_method_2_code 38 = .ok (.iload 5, 2) := by decide +kernel
theorem d_PM_feed_40 : decode prog_1_method_2_code 40 = .ok (.invokevirtual 76, 3) := by decide +kernel
theorem d_PM_feed_43 : decode prog_1_method_2_code 43 = .ok (.aload_n 0, 1) := by decide +kernel
theorem d_PM_feed_44 : decode prog_1_method_2_code 44 = .ok (.getfield 13, 3) := by decide +kernel
theorem d_PM_feed_47 : decode prog_1_method_2_code 47 = .ok (.ireturn, 1) := by decide +kernel
theorem d_PM_feed_13 : decode prog_1_method_2_code 13 = .ok (.bipush (-3), 2) := by decide +kernel
theorem d_PM_feed_15 : decode prog_1_method_2_code 15 = .ok (.ireturn, 1) := by decide +kernel
def m_PM_cut : mr_T := (⟨"PlainMusic", "cut", "(I)I"⟩, prog_1_method_4_code, 2, some .int)
theorem d_PM_cut_0 : decode prog_1_method_4_code 0 = .ok (.iload_n 1, 1) := by decide +kernel
theorem d_PM_cut_1 : decode prog_1_method_4_code 1 = .ok (.ifCond .lt 11, 3) := by decide +kernel
theorem d_PM_cut_12 : decode prog_1_method_4_code 12 = .ok (.iconst (-1), 1) := by decide +kernel
theorem d_PM_cut_13 : decode prog_1_method_4_code 13 = .ok (.ireturn, 1) := by decide +kernel
theorem d_PM_cut_4 : decode prog_1_method_4_code 4 = .ok (.iload_n 1, 1) := by decide +kernel
theorem d_PM_cut_5 : decode prog_1_method_4_code 5 = .ok (.aload_n 0, 1) := by decide +kernel
theorem d_PM_cut_6 : decode prog_1_method_4_code 6 = .ok (.getfield 13, 3) := by decide +kernel
theorem d_PM_cut_9 : decode prog_1_method_4_code 9 = .ok (.if_icmp .le 5, 3) := by decide +kernel
theorem d_PM_cut_14 : decode prog_1_method_4_code 14 = .ok (.aload_n 0, 1) := by decide +kernel
theorem d_PM_cut_15 : decode prog_1_method_4_code 15 = .ok (.dup, 1) := by decide +kernel
theorem d_PM_cut_16 : decode prog_1_method_4_code 16 = .ok (.getfield 13, 3) := by decide +kernel
theorem d_PM_cut_19 : decode prog_1_method_4_code 19 = .ok (.iload_n 1, 1) := by decide +kernel
theorem d_PM_cut_20 : decode prog_1_method_4_code 20 = .ok (.isub, 1) := by decide +kernel
theorem d_PM_cut_21 : decode prog_1_method_4_code 21 = .ok (.putfield 13, 3) := by decide +kernel
theorem d_PM_cut_24 : decode prog_1_method_4_code 24 = .ok (.aload_n 0, 1) := by decide +kernel
theorem d_PM_cut_25 : decode prog_1_method_4_code 25 = .ok (.getfield 13, 3) := by decide +kernel
theorem d_PM_cut_28 : decode prog_1_method_4_code 28 = .ok (.ireturn, 1) := by decide +kernel
def m_PM_forgetFindings : mr_T := (⟨"PlainMusic", "forgetFindings", "()V"⟩, prog_1_method_6_code, 1, none)
theorem d_PM_forgetFindings_0 : decode prog_1_method_6_code 0 = .ok (.aload_n 0, 1) := by decide +kernel
theorem d_PM_forgetFindings_1 : decode prog_1_method_6_code 1 = .ok (.getfield 37, 3) := by decide +kernel
theorem rff_0_5 : (0, 5, 143) ∈ rf_L := by decide +kernel
theorem d_PM_forgetFindings_4 : decode prog_1_method_6_code 4 = .ok (.invokevirtual 96, 3) := by decide +kernel
theorem k_Judge_forget : mt_OK m_Judge_forget 0 1 := ⟨gwi_990, gwi_140, ⟨by decide +kernel, by decide +kernel, by decide +kernel⟩, fun h => absurd h (by decide), fun _ => ⟨gwi_988, gwi_989⟩, fun h => absurd h (by decide)⟩
theorem l_PM_96 : ml_OK "PlainMusic" 96 ⟨"PlainMusic$Judge", "forget", "()V"⟩ := Or.inl gwi_987
theorem d_PM_forgetFindings_7 : decode prog_1_method_6_code 7 = .ok (.aload_n 0, 1) := by decide +kernel
theorem d_PM_forgetFindings_8 : decode prog_1_method_6_code 8 = .ok (.getfield 44, 3) := by decide +kernel
theorem rff_0_6 : (0, 6, 146) ∈ rf_L := by decide +kernel
theorem d_PM_forgetFindings_11 : decode prog_1_method_6_code 11 = .ok (.invokevirtual 99, 3) := by decide +kernel
theorem k_Beams_forget : mt_OK m_Beams_forget 0 1 := ⟨gwi_994, gwi_141, ⟨by decide +kernel, by decide +kernel, by decide +kernel⟩, fun h => absurd h (by decide), fun _ => ⟨gwi_992, gwi_993⟩, fun h => absurd h (by decide)⟩
theorem l_PM_99 : ml_OK "PlainMusic" 99 ⟨"PlainMusic$Beams", "forget", "()V"⟩ := Or.inl gwi_991
theorem d_PM_forgetFindings_14 : decode prog_1_method_6_code 14 = .ok (.aload_n 0, 1) := by decide +kernel
theorem d_PM_forgetFindings_15 : decode prog_1_method_6_code 15 = .ok (.getfield 51, 3) := by decide +kernel
theorem rff_0_7 : (0, 7, 150) ∈ rf_L := by decide +kernel
theorem d_PM_forgetFindings_18 : decode prog_1_method_6_code 18 = .ok (.invokevirtual 100, 3) := by decide +kernel
theorem k_Page_forget : mt_OK m_Page_forget 0 1 := ⟨gwi_998, gwi_142, ⟨by decide +kernel, by decide +kernel, by decide +kernel⟩, fun h => absurd h (by decide), fun _ => ⟨gwi_996, gwi_997⟩, fun h => absurd h (by decide)⟩
theorem l_PM_100 : ml_OK "PlainMusic" 100 ⟨"PlainMusic$Page", "forget", "()V"⟩ := Or.inl gwi_995
theorem d_PM_forgetFindings_21 : decode prog_1_method_6_code 21 = .ok (.aload_n 0, 1) := by decide +kernel
theorem d_PM_forgetFindings_22 : decode prog_1_method_6_code 22 = .ok (.getfield 58, 3) := by decide +kernel
theorem rff_0_8 : (0, 8, 158) ∈ rf_L := by decide +kernel
theorem d_PM_forgetFindings_25 : decode prog_1_method_6_code 25 = .ok (.invokevirtual 101, 3) := by decide +kernel
theorem k_Seconds_forget : mt_OK m_Seconds_forget 0 1 := ⟨gwi_1002, gwi_143, ⟨by decide +kernel, by decide +kernel, by decide +kernel⟩, fun h => absurd h (by decide), fun _ => ⟨gwi_1000, gwi_1001⟩, fun h => absurd h (by decide)⟩
theorem l_PM_101 : ml_OK "PlainMusic" 101 ⟨"PlainMusic$Seconds", "forget", "()V"⟩ := Or.inl gwi_999
theorem d_PM_forgetFindings_28 : decode prog_1_method_6_code 28 = .ok (.aload_n 0, 1) := by decide +kernel
theorem d_PM_forgetFindings_29 : decode prog_1_method_6_code 29 = .ok (.getfield 65, 3) := by decide +kernel
theorem rff_0_9 : (0, 9, 162) ∈ rf_L := by decide +kernel
theorem d_PM_forgetFindings_32 : decode prog_1_method_6_code 32 = .ok (.invokevirtual 102, 3) := by decide +kernel
theorem k_Trees_forget : mt_OK m_Trees_forget 0 1 := ⟨gwi_1006, gwi_144, ⟨by decide +kernel, by decide +kernel, by decide +kernel⟩, fun h => absurd h (by decide), fun _ => ⟨gwi_1004, gwi_1005⟩, fun h => absurd h (by decide)⟩
theorem l_PM_102 : ml_OK "PlainMusic" 102 ⟨"PlainMusic$Trees", "forget", "()V"⟩ := Or.inl gwi_1003
theorem d_PM_forgetFindings_35 : decode prog_1_method_6_code 35 = .ok (.aload_n 0, 1) := by decide +kernel
theorem d_PM_forgetFindings_36 : decode prog_1_method_6_code 36 = .ok (.getfield 72, 3) := by decide +kernel
theorem rff_0_10 : (0, 10, 164) ∈ rf_L := by decide +kernel
theorem d_PM_forgetFindings_39 : decode prog_1_method_6_code 39 = .ok (.invokevirtual 103, 3) := by decide +kernel
theorem k_Pairing_forget : mt_OK m_Pairing_forget 0 1 := ⟨gwi_1010, gwi_145, ⟨by decide +kernel, by decide +kernel, by decide +kernel⟩, fun h => absurd h (by decide), fun _ => ⟨gwi_1008, gwi_1009⟩, fun h => absurd h (by decide)⟩
theorem l_PM_103 : ml_OK "PlainMusic" 103 ⟨"PlainMusic$Pairing", "forget", "()V"⟩ := Or.inl gwi_1007
theorem d_PM_forgetFindings_42 : decode prog_1_method_6_code 42 = .ok (.return_, 1) := by decide +kernel
def m_PM_place : mr_T := (⟨"PlainMusic", "place", "()I"⟩, prog_1_method_7_code, 1, some .int)
theorem d_PM_place_0 : decode prog_1_method_7_code 0 = .ok (.aload_n 0, 1) := by decide +kernel
theorem d_PM_place_1 : decode prog_1_method_7_code 1 = .ok (.getfield 31, 3) := by decide +kernel
theorem rgf_0_4 : rg 0 4 = ((-2147483648), 2147483647) := by decide +kernel
theorem d_PM_place_4 : decode prog_1_method_7_code 4 = .ok (.ireturn, 1) := by decide +kernel
def m_PM_told : mr_T := (⟨"PlainMusic", "told", "(I)I"⟩, prog_1_method_8_code, 2, some .int)
theorem d_PM_told_0 : decode prog_1_method_8_code 0 = .ok (.iload_n 1, 1) := by decide +kernel
theorem d_PM_told_1 : decode prog_1_method_8_code 1 = .ok (.tableswitch 99 0 6 #[43, 51, 59, 67, 75, 83, 91], 43) := by decide +kernel
theorem d_PM_told_100 : decode prog_1_method_8_code 100 = .ok (.iconst (-1), 1) := by decide +kernel
theorem d_PM_told_101 : decode prog_1_method_8_code 101 = .ok (.ireturn, 1) := by decide +kernel
theorem d_PM_told_44 : decode prog_1_method_8_code 44 = .ok (.aload_n 0, 1) := by decide +kernel
theorem d_PM_told_45 : decode prog_1_method_8_code 45 = .ok (.getfield 27, 3) := by decide +kernel
theorem d_PM_told_48 : decode prog_1_method_8_code 48 = .ok (.getfield 104, 3) := by decide +kernel
theorem f_PM_104 : fl_OK "PlainMusic" 104 6 1 .int false := ⟨_, rfl, by decide, gwi_354, rfl, rfl⟩
theorem d_PM_told_51 : decode prog_1_method_8_code 51 = .ok (.ireturn, 1) := by decide +kernel
theorem d_PM_told_52 : decode prog_1_method_8_code 52 = .ok (.aload_n 0, 1) := by decide +kernel
theorem d_PM_told_53 : decode prog_1_method_8_code 53 = .ok (.getfield 27, 3) := by decide +kernel
theorem d_PM_told_56 : decode prog_1_method_8_code 56 = .ok (.getfield 107, 3) := by decide +kernel
theorem f_PM_107 : fl_OK "PlainMusic" 107 6 6 .int false := ⟨_, rfl, by decide, gwi_367, rfl, rfl⟩
theorem d_PM_told_59 : decode prog_1_method_8_code 59 = .ok (.ireturn, 1) := by decide +kernel
theorem d_PM_told_60 : decode prog_1_method_8_code 60 = .ok (.aload_n 0, 1) := by decide +kernel
theorem d_PM_told_61 : decode prog_1_method_8_code 61 = .ok (.getfield 27, 3) := by decide +kernel
theorem d_PM_told_64 : decode prog_1_method_8_code 64 = .ok (.getfield 110, 3) := by decide +kernel
theorem f_PM_110 : fl_OK "PlainMusic" 110 6 10 .int false := ⟨_, rfl, by decide, gwi_377, rfl, rfl⟩
theorem d_PM_told_67 : decode prog_1_method_8_code 67 = .ok (.ireturn, 1) := by decide +kernel
theorem d_PM_told_68 : decode prog_1_method_8_code 68 = .ok (.aload_n 0, 1) := by decide +kernel
theorem d_PM_told_69 : decode prog_1_method_8_code 69 = .ok (.getfield 27, 3) := by decide +kernel
theorem d_PM_told_72 : decode prog_1_method_8_code 72 = .ok (.getfield 113, 3) := by decide +kernel
theorem f_PM_113 : fl_OK "PlainMusic" 113 6 12 .int false := ⟨_, rfl, by decide, gwi_383, rfl, rfl⟩
theorem d_PM_told_75 : decode prog_1_method_8_code 75 = .ok (.ireturn, 1) := by decide +kernel
theorem d_PM_told_76 : decode prog_1_method_8_code 76 = .ok (.aload_n 0, 1) := by decide +kernel
theorem d_PM_told_77 : decode prog_1_method_8_code 77 = .ok (.getfield 27, 3) := by decide +kernel
theorem d_PM_told_80 : decode prog_1_method_8_code 80 = .ok (.invokevirtual 116, 3) := by decide +kernel
theorem l_PM_116 : ml_OK "PlainMusic" 116 ⟨"PlainMusic$Score", "mostBars", "()I"⟩ := Or.inl gwi_1028
theorem d_PM_told_83 : decode prog_1_method_8_code 83 = .ok (.ireturn, 1) := by decide +kernel
theorem d_PM_told_84 : decode prog_1_method_8_code 84 = .ok (.aload_n 0, 1) := by decide +kernel
theorem d_PM_told_85 : decode prog_1_method_8_code 85 = .ok (.getfield 27, 3) := by decide +kernel
theorem d_PM_told_88 : decode prog_1_method_8_code 88 = .ok (.getfield 119, 3) := by decide +kernel
theorem f_PM_119 : fl_OK "PlainMusic" 119 6 2 .int false := ⟨_, rfl, by decide, gwi_357, rfl, rfl⟩
theorem d_PM_told_91 : decode prog_1_method_8_code 91 = .ok (.ireturn, 1) := by decide +kernel
theorem d_PM_told_92 : decode prog_1_method_8_code 92 = .ok (.aload_n 0, 1) := by decide +kernel
theorem d_PM_told_93 : decode prog_1_method_8_code 93 = .ok (.getfield 27, 3) := by decide +kernel
theorem d_PM_told_96 : decode prog_1_method_8_code 96 = .ok (.getfield 122, 3) := by decide +kernel
theorem f_PM_122 : fl_OK "PlainMusic" 122 6 3 .int false := ⟨_, rfl, by decide, gwi_360, rfl, rfl⟩
theorem d_PM_told_99 : decode prog_1_method_8_code 99 = .ok (.ireturn, 1) := by decide +kernel
def m_PM_count : mr_T := (⟨"PlainMusic", "count", "(II)I"⟩, prog_1_method_9_code, 4, some .int)
theorem d_PM_count_0 : decode prog_1_method_9_code 0 = .ok (.aload_n 0, 1) := by decide +kernel
theorem d_PM_count_1 : decode prog_1_method_9_code 1 = .ok (.getfield 27, 3) := by decide +kernel
theorem d_PM_count_4 : decode prog_1_method_9_code 4 = .ok (.iload_n 1, 1) := by decide +kernel
theorem d_PM_count_5 : decode prog_1_method_9_code 5 = .ok (.invokevirtual 125, 3) := by decide +kernel
theorem l_PM_125 : ml_OK "PlainMusic" 125 ⟨"PlainMusic$Score", "voiceAt", "(I)LPlainMusic$Voice;"⟩ := Or.inl gwi_1037
theorem d_PM_count_8 : decode prog_1_method_9_code 8 = .ok (.astore_n 3, 1) := by decide +kernel
theorem d_PM_count_9 : decode prog_1_method_9_code 9 = .ok (.aload_n 3, 1) := by decide +kernel
theorem d_PM_count_10 : decode prog_1_method_9_code 10 = .ok (.ifnonnull 5, 3) := by decide +kernel
theorem d_PM_count_13 : decode prog_1_method_9_code 13 = .ok (.iconst (-1), 1) := by decide +kernel
theorem d_PM_count_14 : decode prog_1_method_9_code 14 = .ok (.ireturn, 1) := by decide +kernel
theorem d_PM_count_15 : decode prog_1_method_9_code 15 = .ok (.iload_n 2, 1) := by decide +kernel
theorem d_PM_count_16 : decode prog_1_method_9_code 16 = .ok (.ifCond .ne 8, 3) := by decide +kernel
theorem d_PM_count_24 : decode prog_1_method_9_code 24 = .ok (.iload_n 2, 1) := by decide +kernel
theorem d_PM_count_25 : decode prog_1_method_9_code 25 = .ok (.iconst 1, 1) := by decide +kernel
theorem d_PM_count_26 : decode prog_1_method_9_code 26 = .ok (.if_icmp .ne 10, 3) := by decide +kernel
theorem d_PM_count_36 : decode prog_1_method_9_code 36 = .ok (.iconst (-1), 1) := by decide +kernel
theorem d_PM_count_37 : decode prog_1_method_9_code 37 = .ok (.ireturn, 1) := by decide +kernel
theorem d_PM_count_29 : decode prog_1_method_9_code 29 = .ok (.aload_n 3, 1) := by decide +kernel
theorem d_PM_count_30 : decode prog_1_method_9_code 30 = .ok (.getfield 134, 3) := by decide +kernel
theorem f_PM_134 : fl_OK "PlainMusic" 134 10 16 .int false := ⟨_, rfl, by decide, gwi_312, rfl, rfl⟩
theorem d_PM_count_33 : decode prog_1_method_9_code 33 = .ok (.goto 4, 3) := by decide +kernel
theorem d_PM_count_19 : decode prog_1_method_9_code 19 = .ok (.aload_n 3, 1) := by decide +kernel
theorem d_PM_count_20 : decode prog_1_method_9_code 20 = .ok (.getfield 129, 3) := by decide +kernel
theorem f_PM_129 : fl_OK "PlainMusic" 129 10 14 .int false := ⟨_, rfl, by decide, gwi_303, rfl, rfl⟩
theorem d_PM_count_23 : decode prog_1_method_9_code 23 = .ok (.ireturn, 1) := by decide +kernel
def m_PM_event : mr_T := (⟨"PlainMusic", "event", "(III)J"⟩, prog_1_method_10_code, 5, some .long)
theorem d_PM_event_0 : decode prog_1_method_10_code 0 = .ok (.aload_n 0, 1) := by decide +kernel
theorem d_PM_event_1 : decode prog_1_method_10_code 1 = .ok (.getfield 27, 3) := by decide +kernel
theorem d_PM_event_4 : decode prog_1_method_10_code 4 = .ok (.iload_n 1, 1) := by decide +kernel
theorem d_PM_event_5 : decode prog_1_method_10_code 5 = .ok (.invokevirtual 125, 3) := by decide +kernel
theorem d_PM_event_8 : decode prog_1_method_10_code 8 = .ok (.astore 4, 2) := by decide +kernel
theorem d_PM_event_10 : decode prog_1_method_10_code 10 = .ok (.aload 4, 2) := by decide +kernel
theorem d_PM_event_12 : decode prog_1_method_10_code 12 = .ok (.ifnull 16, 3) := by decide +kernel
theorem d_PM_event_28 : decode prog_1_method_10_code 28 = .ok (.ldc2_w 137, 3) := by decide +kernel
theorem cst_PM_137 : Cond.constantLong "PlainMusic" 137 (Int64.ofInt 10000) ∈ gw := gwi_1042
theorem d_PM_event_31 : decode prog_1_method_10_code 31 = .ok (.lreturn, 1) := by decide +kernel
theorem d_PM_event_15 : decode prog_1_method_10_code 15 = .ok (.iload_n 2, 1) := by decide +kernel
theorem d_PM_event_16 : decode prog_1_method_10_code 16 = .ok (.ifCond .lt 12, 3) := by decide +kernel
theorem d_PM_event_19 : decode prog_1_method_10_code 19 = .ok (.iload_n 2, 1) := by decide +kernel
theorem d_PM_event_20 : decode prog_1_method_10_code 20 = .ok (.aload 4, 2) := by decide +kernel
theorem d_PM_event_22 : decode prog_1_method_10_code 22 = .ok (.getfield 129, 3) := by decide +kernel
theorem d_PM_event_25 : decode prog_1_method_10_code 25 = .ok (.if_icmp .lt 7, 3) := by decide +kernel
theorem d_PM_event_32 : decode prog_1_method_10_code 32 = .ok (.iload_n 3, 1) := by decide +kernel
theorem d_PM_event_33 : decode prog_1_method_10_code 33 = .ok (.ifCond .lt 16, 3) := by decide +kernel
theorem d_PM_event_49 : decode prog_1_method_10_code 49 = .ok (.iload_n 3, 1) := by decide +kernel
theorem d_PM_event_50 : decode prog_1_method_10_code 50 = .ok (.iconst 4, 1) := by decide +kernel
theorem d_PM_event_51 : decode prog_1_method_10_code 51 = .ok (.if_icmp .lt 18, 3) := by decide +kernel
theorem d_PM_event_69 : decode prog_1_method_10_code 69 = .ok (.iload_n 3, 1) := by decide +kernel
theorem d_PM_event_70 : decode prog_1_method_10_code 70 = .ok (.bipush 10, 2) := by decide +kernel
theorem d_PM_event_72 : decode prog_1_method_10_code 72 = .ok (.if_icmp .lt 34, 3) := by decide +kernel
theorem d_PM_event_106 : decode prog_1_method_10_code 106 = .ok (.iload_n 3, 1) := by decide +kernel
theorem d_PM_event_107 : decode prog_1_method_10_code 107 = .ok (.bipush 20, 2) := by decide +kernel
theorem d_PM_event_109 : decode prog_1_method_10_code 109 = .ok (.if_icmp .lt 34, 3) := by decide +kernel
theorem d_PM_event_143 : decode prog_1_method_10_code 143 = .ok (.ldc2_w 137, 3) := by decide +kernel
theorem d_PM_event_146 : decode prog_1_method_10_code 146 = .ok (.lreturn, 1) := by decide +kernel
theorem d_PM_event_36 : decode prog_1_method_10_code 36 = .ok (.iload_n 3, 1) := by decide +kernel
theorem d_PM_event_37 : decode prog_1_method_10_code 37 = .ok (.iconst 3, 1) := by decide +kernel
theorem d_PM_event_38 : decode prog_1_method_10_code 38 = .ok (.if_icmp .gt 11, 3) := by decide +kernel
theorem d_PM_event_54 : decode prog_1_method_10_code 54 = .ok (.iload_n 3, 1) := by decide +kernel
theorem d_PM_event_55 : decode prog_1_method_10_code 55 = .ok (.bipush 8, 2) := by decide +kernel
theorem d_PM_event_57 : decode prog_1_method_10_code 57 = .ok (.if_icmp .gt 12, 3) := by decide +kernel
theorem d_PM_event_75 : decode prog_1_method_10_code 75 = .ok (.iload_n 3, 1) := by decide +kernel
theorem d_PM_event_76 : decode prog_1_method_10_code 76 = .ok (.bipush 13, 2) := by decide +kernel
theorem d_PM_event_78 : decode prog_1_method_10_code 78 = .ok (.if_icmp .gt 28, 3) := by decide +kernel
theorem d_PM_event_112 : decode prog_1_method_10_code 112 = .ok (.iload_n 3, 1) := by decide +kernel
theorem d_PM_event_113 : decode prog_1_method_10_code 113 = .ok (.bipush 23, 2) := by decide +kernel
theorem d_PM_event_115 : decode prog_1_method_10_code 115 = .ok (.if_icmp .gt 28, 3) := by decide +kernel
theorem d_PM_event_118 : decode prog_1_method_10_code 118 = .ok (.iload_n 3, 1) := by decide +kernel
theorem d_PM_event_119 : decode prog_1_method_10_code 119 = .ok (.bipush 20, 2) := by decide +kernel
theorem d_PM_event_121 : decode prog_1_method_10_code 121 = .ok (.isub, 1) := by decide +kernel
theorem d_PM_event_122 : decode prog_1_method_10_code 122 = .ok (.aload 4, 2) := by decide +kernel
theorem d_PM_event_124 : decode prog_1_method_10_code 124 = .ok (.iload_n 2, 1) := by decide +kernel
theorem d_PM_event_125 : decode prog_1_method_10_code 125 = .ok (.invokevirtual 147, 3) := by decide +kernel
theorem l_PM_147 : ml_OK "PlainMusic" 147 ⟨"PlainMusic$Voice", "pitchesOf", "(I)I"⟩ := Or.inl gwi_1063
theorem d_PM_event_128 : decode prog_1_method_10_code 128 = .ok (.if_icmp .ge 15, 3) := by decide +kernel
theorem d_PM_event_131 : decode prog_1_method_10_code 131 = .ok (.aload 4, 2) := by decide +kernel
theorem d_PM_event_133 : decode prog_1_method_10_code 133 = .ok (.iload_n 2, 1) := by decide +kernel
theorem d_PM_event_134 : decode prog_1_method_10_code 134 = .ok (.iload_n 3, 1) := by decide +kernel
theorem d_PM_event_135 : decode prog_1_method_10_code 135 = .ok (.bipush 20, 2) := by decide +kernel
theorem d_PM_event_137 : decode prog_1_method_10_code 137 = .ok (.isub, 1) := by decide +kernel
theorem d_PM_event_138 : decode prog_1_method_10_code 138 = .ok (.invokevirtual 154, 3) := by decide +kernel
theorem l_PM_154 : ml_OK "PlainMusic" 154 ⟨"PlainMusic$Voice", "stepOf", "(II)I"⟩ := Or.inl gwi_1068
theorem d_PM_event_141 : decode prog_1_method_10_code 141 = .ok (.i2l, 1) := by decide +kernel
theorem d_PM_event_142 : decode prog_1_method_10_code 142 = .ok (.lreturn, 1) := by decide +kernel
theorem d_PM_event_81 : decode prog_1_method_10_code 81 = .ok (.iload_n 3, 1) := by decide +kernel
theorem d_PM_event_82 : decode prog_1_method_10_code 82 = .ok (.bipush 10, 2) := by decide +kernel
theorem d_PM_event_84 : decode prog_1_method_10_code 84 = .ok (.isub, 1) := by decide +kernel
theorem d_PM_event_85 : decode prog_1_method_10_code 85 = .ok (.aload 4, 2) := by decide +kernel
theorem d_PM_event_87 : decode prog_1_method_10_code 87 = .ok (.iload_n 2, 1) := by decide +kernel
theorem d_PM_event_88 : decode prog_1_method_10_code 88 = .ok (.invokevirtual 147, 3) := by decide +kernel
theorem d_PM_event_91 : decode prog_1_method_10_code 91 = .ok (.if_icmp .ge 15, 3) := by decide +kernel
theorem d_PM_event_94 : decode prog_1_method_10_code 94 = .ok (.aload 4, 2) := by decide +kernel
theorem d_PM_event_96 : decode prog_1_method_10_code 96 = .ok (.iload_n 2, 1) := by decide +kernel
theorem d_PM_event_97 : decode prog_1_method_10_code 97 = .ok (.iload_n 3, 1) := by decide +kernel
theorem d_PM_event_98 : decode prog_1_method_10_code 98 = .ok (.bipush 10, 2) := by decide +kernel
theorem d_PM_event_100 : decode prog_1_method_10_code 100 = .ok (.isub, 1) := by decide +kernel
theorem d_PM_event_101 : decode prog_1_method_10_code 101 = .ok (.invokevirtual 151, 3) := by decide +kernel
theorem l_PM_151 : ml_OK "PlainMusic" 151 ⟨"PlainMusic$Voice", "keyOf", "(II)I"⟩ := Or.inl gwi_1064
theorem d_PM_event_104 : decode prog_1_method_10_code 104 = .ok (.i2l, 1) := by decide +kernel
theorem d_PM_event_105 : decode prog_1_method_10_code 105 = .ok (.lreturn, 1) := by decide +kernel
theorem d_PM_event_60 : decode prog_1_method_10_code 60 = .ok (.aload 4, 2) := by decide +kernel
theorem d_PM_event_62 : decode prog_1_method_10_code 62 = .ok (.iload_n 2, 1) := by decide +kernel
theorem d_PM_event_63 : decode prog_1_method_10_code 63 = .ok (.iload_n 3, 1) := by decide +kernel
theorem d_PM_event_64 : decode prog_1_method_10_code 64 = .ok (.invokevirtual 143, 3) := by decide +kernel
theorem k_Voice_writingOf : mt_OK m_Voice_writingOf 2 1 := ⟨gwi_1050, gwi_139, ⟨by decide +kernel, by decide +kernel, by decide +kernel⟩, fun h => absurd h (by decide), fun _ => ⟨gwi_1048, gwi_1049⟩, fun h => absurd h (by decide)⟩
theorem l_PM_143 : ml_OK "PlainMusic" 143 ⟨"PlainMusic$Voice", "writingOf", "(II)I"⟩ := Or.inl gwi_1047
theorem d_PM_event_67 : decode prog_1_method_10_code 67 = .ok (.i2l, 1) := by decide +kernel
theorem d_PM_event_68 : decode prog_1_method_10_code 68 = .ok (.lreturn, 1) := by decide +kernel
theorem d_PM_event_41 : decode prog_1_method_10_code 41 = .ok (.aload 4, 2) := by decide +kernel
theorem d_PM_event_43 : decode prog_1_method_10_code 43 = .ok (.iload_n 2, 1) := by decide +kernel
theorem d_PM_event_44 : decode prog_1_method_10_code 44 = .ok (.iload_n 3, 1) := by decide +kernel
theorem d_PM_event_45 : decode prog_1_method_10_code 45 = .ok (.invokevirtual 139, 3) := by decide +kernel
theorem k_Voice_timeOf : mt_OK m_Voice_timeOf 2 1 := ⟨gwi_1046, gwi_139, ⟨by decide +kernel, by decide +kernel, by decide +kernel⟩, fun h => absurd h (by decide), fun _ => ⟨gwi_1044, gwi_1045⟩, fun h => absurd h (by decide)⟩
theorem l_PM_139 : ml_OK "PlainMusic" 139 ⟨"PlainMusic$Voice", "timeOf", "(II)J"⟩ := Or.inl gwi_1043
theorem d_PM_event_48 : decode prog_1_method_10_code 48 = .ok (.lreturn, 1) := by decide +kernel
def m_PM_judge : mr_T := (⟨"PlainMusic", "judge", "()I"⟩, prog_1_method_11_code, 1, some .int)
theorem d_PM_judge_0 : decode prog_1_method_11_code 0 = .ok (.aload_n 0, 1) := by decide +kernel
theorem d_PM_judge_1 : decode prog_1_method_11_code 1 = .ok (.getfield 37, 3) := by decide +kernel
theorem d_PM_judge_4 : decode prog_1_method_11_code 4 = .ok (.aload_n 0, 1) := by decide +kernel
theorem d_PM_judge_5 : decode prog_1_method_11_code 5 = .ok (.getfield 27, 3) := by decide +kernel
theorem d_PM_judge_8 : decode prog_1_method_11_code 8 = .ok (.invokevirtual 157, 3) := by decide +kernel
theorem k_Judge_hear : mt_OK m_Judge_hear 1 1 := ⟨gwi_1079, gwi_140, ⟨by decide +kernel, by decide +kernel, by decide +kernel⟩, fun h => absurd h (by decide), fun _ => ⟨gwi_1077, gwi_1078⟩, fun h => absurd h (by decide)⟩
theorem l_PM_157 : ml_OK "PlainMusic" 157 ⟨"PlainMusic$Judge", "hear", "(LPlainMusic$Score;)I"⟩ := Or.inl gwi_1076
theorem d_PM_judge_11 : decode prog_1_method_11_code 11 = .ok (.ireturn, 1) := by decide +kernel
def m_PM_fault : mr_T := (⟨"PlainMusic", "fault", "(II)I"⟩, prog_1_method_12_code, 3, some .int)
theorem d_PM_fault_0 : decode prog_1_method_12_code 0 = .ok (.aload_n 0, 1) := by decide +kernel
theorem d_PM_fault_1 : decode prog_1_method_12_code 1 = .ok (.getfield 37, 3) := by decide +kernel
theorem d_PM_fault_4 : decode prog_1_method_12_code 4 = .ok (.iload_n 1, 1) := by decide +kernel
theorem d_PM_fault_5 : decode prog_1_method_12_code 5 = .ok (.iload_n 2, 1) := by decide +kernel
theorem d_PM_fault_6 : decode prog_1_method_12_code 6 = .ok (.invokevirtual 161, 3) := by decide +kernel
theorem k_Judge_detailOf : mt_OK m_Judge_detailOf 2 1 := ⟨gwi_1166, gwi_140, ⟨by decide +kernel, by decide +kernel, by decide +kernel⟩, fun h => absurd h (by decide), fun _ => ⟨gwi_1164, gwi_1165⟩, fun h => absurd h (by decide)⟩
theorem l_PM_161 : ml_OK "PlainMusic" 161 ⟨"PlainMusic$Judge", "detailOf", "(II)I"⟩ := Or.inl gwi_1163
theorem d_PM_fault_9 : decode prog_1_method_12_code 9 = .ok (.ireturn, 1) := by decide +kernel
def m_PM_beam : mr_T := (⟨"PlainMusic", "beam", "(II)I"⟩, prog_1_method_13_code, 4, some .int)
theorem d_PM_beam_0 : decode prog_1_method_13_code 0 = .ok (.aload_n 0, 1) := by decide +kernel
theorem d_PM_beam_1 : decode prog_1_method_13_code 1 = .ok (.getfield 27, 3) := by decide +kernel
theorem d_PM_beam_4 : decode prog_1_method_13_code 4 = .ok (.iload_n 1, 1) := by decide +kernel
theorem d_PM_beam_5 : decode prog_1_method_13_code 5 = .ok (.invokevirtual 125, 3) := by decide +kernel
theorem d_PM_beam_8 : decode prog_1_method_13_code 8 = .ok (.astore_n 3, 1) := by decide +kernel
theorem d_PM_beam_9 : decode prog_1_method_13_code 9 = .ok (.aload_n 3, 1) := by decide +kernel
theorem d_PM_beam_10 : decode prog_1_method_13_code 10 = .ok (.ifnull 15, 3) := by decide +kernel
theorem d_PM_beam_25 : decode prog_1_method_13_code 25 = .ok (.iconst (-1), 1) := by decide +kernel
theorem d_PM_beam_26 : decode prog_1_method_13_code 26 = .ok (.ireturn, 1) := by decide +kernel
theorem d_PM_beam_13 : decode prog_1_method_13_code 13 = .ok (.iload_n 2, 1) := by decide +kernel
theorem d_PM_beam_14 : decode prog_1_method_13_code 14 = .ok (.ifCond .lt 11, 3) := by decide +kernel
theorem d_PM_beam_17 : decode prog_1_method_13_code 17 = .ok (.iload_n 2, 1) := by decide +kernel
theorem d_PM_beam_18 : decode prog_1_method_13_code 18 = .ok (.aload_n 3, 1) := by decide +kernel
theorem d_PM_beam_19 : decode prog_1_method_13_code 19 = .ok (.getfield 134, 3) := by decide +kernel
theorem d_PM_beam_22 : decode prog_1_method_13_code 22 = .ok (.if_icmp .lt 5, 3) := by decide +kernel
theorem d_PM_beam_27 : decode prog_1_method_13_code 27 = .ok (.aload_n 0, 1) := by decide +kernel
theorem d_PM_beam_28 : decode prog_1_method_13_code 28 = .ok (.getfield 44, 3) := by decide +kernel
theorem d_PM_beam_31 : decode prog_1_method_13_code 31 = .ok (.aload_n 3, 1) := by decide +kernel
theorem d_PM_beam_32 : decode prog_1_method_13_code 32 = .ok (.iload_n 2, 1) := by decide +kernel
theorem d_PM_beam_33 : decode prog_1_method_13_code 33 = .ok (.aload_n 0, 1) := by decide +kernel
theorem d_PM_beam_34 : decode prog_1_method_13_code 34 = .ok (.getfield 27, 3) := by decide +kernel
theorem d_PM_beam_37 : decode prog_1_method_13_code 37 = .ok (.getfield 122, 3) := by decide +kernel
theorem d_PM_beam_40 : decode prog_1_method_13_code 40 = .ok (.invokevirtual 164, 3) := by decide +kernel
theorem k_Beams_find : mt_OK m_Beams_find 3 1 := ⟨gwi_1174, gwi_141, ⟨by decide +kernel, by decide +kernel, by decide +kernel⟩, fun h => absurd h (by decide), fun _ => ⟨gwi_1172, gwi_1173⟩, fun h => absurd h (by decide)⟩
theorem l_PM_164 : ml_OK "PlainMusic" 164 ⟨"PlainMusic$Beams", "find", "(LPlainMusic$Voice;II)I"⟩ := Or.inl gwi_1171
theorem d_PM_beam_43 : decode prog_1_method_13_code 43 = .ok (.ireturn, 1) := by decide +kernel
def m_PM_group : mr_T := (⟨"PlainMusic", "group", "(I)I"⟩, prog_1_method_14_code, 2, some .int)
theorem d_PM_group_0 : decode prog_1_method_14_code 0 = .ok (.aload_n 0, 1) := by decide +kernel
theorem d_PM_group_1 : decode prog_1_method_14_code 1 = .ok (.getfield 44, 3) := by decide +kernel
theorem d_PM_group_4 : decode prog_1_method_14_code 4 = .ok (.iload_n 1, 1) := by decide +kernel
theorem d_PM_group_5 : decode prog_1_method_14_code 5 = .ok (.invokevirtual 168, 3) := by decide +kernel
theorem k_Beams_eventsIn : mt_OK m_Beams_eventsIn 1 1 := ⟨gwi_1204, gwi_141, ⟨by decide +kernel, by decide +kernel, by decide +kernel⟩, fun h => absurd h (by decide), fun _ => ⟨gwi_1202, gwi_1203⟩, fun h => absurd h (by decide)⟩
theorem l_PM_168 : ml_OK "PlainMusic" 168 ⟨"PlainMusic$Beams", "eventsIn", "(I)I"⟩ := Or.inl gwi_1201
theorem d_PM_group_8 : decode prog_1_method_14_code 8 = .ok (.ireturn, 1) := by decide +kernel
def m_PM_breaks : mr_T := (⟨"PlainMusic", "breaks", "(I)I"⟩, prog_1_method_15_code, 2, some .int)
theorem d_PM_breaks_0 : decode prog_1_method_15_code 0 = .ok (.iload_n 1, 1) := by decide +kernel
theorem d_PM_breaks_1 : decode prog_1_method_15_code 1 = .ok (.iconst 1, 1) := by decide +kernel
theorem d_PM_breaks_2 : decode prog_1_method_15_code 2 = .ok (.if_icmp .lt 10, 3) := by decide +kernel
theorem d_PM_breaks_12 : decode prog_1_method_15_code 12 = .ok (.iconst (-1), 1) := by decide +kernel
theorem d_PM_breaks_13 : decode prog_1_method_15_code 13 = .ok (.ireturn, 1) := by decide +kernel
theorem d_PM_breaks_5 : decode prog_1_method_15_code 5 = .ok (.iload_n 1, 1) := by decide +kernel
theorem d_PM_breaks_6 : decode prog_1_method_15_code 6 = .ok (.sipush 1000, 3) := by decide +kernel
theorem d_PM_breaks_9 : decode prog_1_method_15_code 9 = .ok (.if_icmp .le 5, 3) := by decide +kernel
theorem d_PM_breaks_14 : decode prog_1_method_15_code 14 = .ok (.aload_n 0, 1) := by decide +kernel
theorem d_PM_breaks_15 : decode prog_1_method_15_code 15 = .ok (.getfield 27, 3) := by decide +kernel
theorem d_PM_breaks_18 : decode prog_1_method_15_code 18 = .ok (.getfield 104, 3) := by decide +kernel
theorem d_PM_breaks_21 : decode prog_1_method_15_code 21 = .ok (.ifCond .ne 6, 3) := by decide +kernel
theorem d_PM_breaks_27 : decode prog_1_method_15_code 27 = .ok (.aload_n 0, 1) := by decide +kernel
theorem d_PM_breaks_28 : decode prog_1_method_15_code 28 = .ok (.getfield 51, 3) := by decide +kernel
theorem d_PM_breaks_31 : decode prog_1_method_15_code 31 = .ok (.aload_n 0, 1) := by decide +kernel
theorem d_PM_breaks_32 : decode prog_1_method_15_code 32 = .ok (.getfield 27, 3) := by decide +kernel
theorem d_PM_breaks_35 : decode prog_1_method_15_code 35 = .ok (.iload_n 1, 1) := by decide +kernel
theorem d_PM_breaks_36 : decode prog_1_method_15_code 36 = .ok (.invokevirtual 171, 3) := by decide +kernel
theorem k_Page_find : mt_OK m_Page_find 2 1 := ⟨gwi_1212, gwi_142, ⟨by decide +kernel, by decide +kernel, by decide +kernel⟩, fun h => absurd h (by decide), fun _ => ⟨gwi_1210, gwi_1211⟩, fun h => absurd h (by decide)⟩
theorem l_PM_171 : ml_OK "PlainMusic" 171 ⟨"PlainMusic$Page", "find", "(LPlainMusic$Score;I)I"⟩ := Or.inl gwi_1209
theorem d_PM_breaks_39 : decode prog_1_method_15_code 39 = .ok (.ireturn, 1) := by decide +kernel
theorem d_PM_breaks_24 : decode prog_1_method_15_code 24 = .ok (.bipush (-2), 2) := by decide +kernel
theorem d_PM_breaks_26 : decode prog_1_method_15_code 26 = .ok (.ireturn, 1) := by decide +kernel
def m_PM_line : mr_T := (⟨"PlainMusic", "line", "(I)I"⟩, prog_1_method_16_code, 2, some .int)
theorem d_PM_line_0 : decode prog_1_method_16_code 0 = .ok (.aload_n 0, 1) := by decide +kernel
theorem d_PM_line_1 : decode prog_1_method_16_code 1 = .ok (.getfield 51, 3) := by decide +kernel
theorem d_PM_line_4 : decode prog_1_method_16_code 4 = .ok (.iload_n 1, 1) := by decide +kernel
theorem d_PM_line_5 : decode prog_1_method_16_code 5 = .ok (.invokevirtual 174, 3) := by decide +kernel
theorem k_Page_barsIn : mt_OK m_Page_barsIn 1 1 := ⟨gwi_1269, gwi_142, ⟨by decide +kernel, by decide +kernel, by decide +kernel⟩, fun h => absurd h (by decide), fun _ => ⟨gwi_1267, gwi_1268⟩, fun h => absurd h (by decide)⟩
theorem l_PM_174 : ml_OK "PlainMusic" 174 ⟨"PlainMusic$Page", "barsIn", "(I)I"⟩ := Or.inl gwi_1266
theorem d_PM_line_8 : decode prog_1_method_16_code 8 = .ok (.ireturn, 1) := by decide +kernel
def m_PM_width : mr_T := (⟨"PlainMusic", "width", "(I)I"⟩, prog_1_method_17_code, 2, some .int)
theorem d_PM_width_0 : decode prog_1_method_17_code 0 = .ok (.iload_n 1, 1) := by decide +kernel
theorem d_PM_width_1 : decode prog_1_method_17_code 1 = .ok (.ifCond .lt 14, 3) := by decide +kernel
theorem d_PM_width_15 : decode prog_1_method_17_code 15 = .ok (.iconst (-1), 1) := by decide +kernel
theorem d_PM_width_16 : decode prog_1_method_17_code 16 = .ok (.ireturn, 1) := by decide +kernel
theorem d_PM_width_4 : decode prog_1_method_17_code 4 = .ok (.iload_n 1, 1) := by decide +kernel
theorem d_PM_width_5 : decode prog_1_method_17_code 5 = .ok (.aload_n 0, 1) := by decide +kernel
theorem d_PM_width_6 : decode prog_1_method_17_code 6 = .ok (.getfield 27, 3) := by decide +kernel
theorem d_PM_width_9 : decode prog_1_method_17_code 9 = .ok (.invokevirtual 116, 3) := by decide +kernel
theorem d_PM_width_12 : decode prog_1_method_17_code 12 = .ok (.if_icmp .lt 5, 3) := by decide +kernel
theorem d_PM_width_17 : decode prog_1_method_17_code 17 = .ok (.aload_n 0, 1) := by decide +kernel
theorem d_PM_width_18 : decode prog_1_method_17_code 18 = .ok (.getfield 51, 3) := by decide +kernel
theorem d_PM_width_21 : decode prog_1_method_17_code 21 = .ok (.aload_n 0, 1) := by decide +kernel
theorem d_PM_width_22 : decode prog_1_method_17_code 22 = .ok (.getfield 27, 3) := by decide +kernel
theorem d_PM_width_25 : decode prog_1_method_17_code 25 = .ok (.iload_n 1, 1) := by decide +kernel
theorem d_PM_width_26 : decode prog_1_method_17_code 26 = .ok (.invokevirtual 177, 3) := by decide +kernel
theorem l_PM_177 : ml_OK "PlainMusic" 177 ⟨"PlainMusic$Page", "widthOf", "(LPlainMusic$Score;I)I"⟩ := Or.inl gwi_1274
theorem d_PM_width_29 : decode prog_1_method_17_code 29 = .ok (.ireturn, 1) := by decide +kernel
def m_PM_lines : mr_T := (⟨"PlainMusic", "lines", "(III)I"⟩, prog_1_method_18_code, 4, some .int)
theorem d_PM_lines_0 : decode prog_1_method_18_code 0 = .ok (.iload_n 1, 1) := by decide +kernel
theorem d_PM_lines_1 : decode prog_1_method_18_code 1 = .ok (.ifCond .lt 25, 3) := by decide +kernel
theorem d_PM_lines_26 : decode prog_1_method_18_code 26 = .ok (.iconst (-1), 1) := by decide +kernel
theorem d_PM_lines_27 : decode prog_1_method_18_code 27 = .ok (.ireturn, 1) := by decide +kernel
theorem d_PM_lines_4 : decode prog_1_method_18_code 4 = .ok (.iload_n 2, 1) := by decide +kernel
theorem d_PM_lines_5 : decode prog_1_method_18_code 5 = .ok (.bipush 120, 2) := by decide +kernel
theorem d_PM_lines_7 : decode prog_1_method_18_code 7 = .ok (.if_icmp .gt 19, 3) := by decide +kernel
theorem d_PM_lines_10 : decode prog_1_method_18_code 10 = .ok (.iload_n 1, 1) := by decide +kernel
theorem d_PM_lines_11 : decode prog_1_method_18_code 11 = .ok (.iload_n 2, 1) := by decide +kernel
theorem d_PM_lines_12 : decode prog_1_method_18_code 12 = .ok (.if_icmp .gt 14, 3) := by decide +kernel
theorem d_PM_lines_15 : decode prog_1_method_18_code 15 = .ok (.iload_n 3, 1) := by decide +kernel
theorem d_PM_lines_16 : decode prog_1_method_18_code 16 = .ok (.ifCond .lt 10, 3) := by decide +kernel
theorem d_PM_lines_19 : decode prog_1_method_18_code 19 = .ok (.iload_n 3, 1) := by decide +kernel
theorem d_PM_lines_20 : decode prog_1_method_18_code 20 = .ok (.sipush 511, 3) := by decide +kernel
theorem d_PM_lines_23 : decode prog_1_method_18_code 23 = .ok (.if_icmp .le 5, 3) := by decide +kernel
theorem d_PM_lines_28 : decode prog_1_method_18_code 28 = .ok (.aload_n 0, 1) := by decide +kernel
theorem d_PM_lines_29 : decode prog_1_method_18_code 29 = .ok (.getfield 27, 3) := by decide +kernel
theorem d_PM_lines_32 : decode prog_1_method_18_code 32 = .ok (.getfield 107, 3) := by decide +kernel
theorem d_PM_lines_35 : decode prog_1_method_18_code 35 = .ok (.ifCond .ne 6, 3) := by decide +kernel
theorem d_PM_lines_41 : decode prog_1_method_18_code 41 = .ok (.aload_n 0, 1) := by decide +kernel
theorem d_PM_lines_42 : decode prog_1_method_18_code 42 = .ok (.getfield 58, 3) := by decide +kernel
theorem d_PM_lines_45 : decode prog_1_method_18_code 45 = .ok (.aload_n 0, 1) := by decide +kernel
theorem d_PM_lines_46 : decode prog_1_method_18_code 46 = .ok (.getfield 27, 3) := by decide +kernel
theorem d_PM_lines_49 : decode prog_1_method_18_code 49 = .ok (.iload_n 1, 1) := by decide +kernel
theorem d_PM_lines_50 : decode prog_1_method_18_code 50 = .ok (.iload_n 2, 1) := by decide +kernel
theorem d_PM_lines_51 : decode prog_1_method_18_code 51 = .ok (.iload_n 3, 1) := by decide +kernel
theorem d_PM_lines_52 : decode prog_1_method_18_code 52 = .ok (.invokevirtual 180, 3) := by decide +kernel
theorem k_Seconds_find : mt_OK m_Seconds_find 4 1 := ⟨gwi_1282, gwi_143, ⟨by decide +kernel, by decide +kernel, by decide +kernel⟩, fun h => absurd h (by decide), fun _ => ⟨gwi_1280, gwi_1281⟩, fun h => absurd h (by decide)⟩
theorem l_PM_180 : ml_OK "PlainMusic" 180 ⟨"PlainMusic$Seconds", "find", "(LPlainMusic$Score;III)I"⟩ := Or.inl gwi_1279
theorem d_PM_lines_55 : decode prog_1_method_18_code 55 = .ok (.ireturn, 1) := by decide +kernel
theorem d_PM_lines_38 : decode prog_1_method_18_code 38 = .ok (.bipush (-2), 2) := by decide +kernel
theorem d_PM_lines_40 : decode prog_1_method_18_code 40 = .ok (.ireturn, 1) := by decide +kernel
def m_PM_second : mr_T := (⟨"PlainMusic", "second", "(II)I"⟩, prog_1_method_19_code, 3, some .int)
theorem d_PM_second_0 : decode prog_1_method_19_code 0 = .ok (.aload_n 0, 1) := by decide +kernel
theorem d_PM_second_1 : decode prog_1_method_19_code 1 = .ok (.getfield 58, 3) := by decide +kernel
theorem d_PM_second_4 : decode prog_1_method_19_code 4 = .ok (.iload_n 1, 1) := by decide +kernel
theorem d_PM_second_5 : decode prog_1_method_19_code 5 = .ok (.iload_n 2, 1) := by decide +kernel
theorem d_PM_second_6 : decode prog_1_method_19_code 6 = .ok (.invokevirtual 183, 3) := by decide +kernel
theorem k_Seconds_keyIn : mt_OK m_Seconds_keyIn 2 1 := ⟨gwi_1321, gwi_143, ⟨by decide +kernel, by decide +kernel, by decide +kernel⟩, fun h => absurd h (by decide), fun _ => ⟨gwi_1319, gwi_1320⟩, fun h => absurd h (by decide)⟩
theorem l_PM_183 : ml_OK "PlainMusic" 183 ⟨"PlainMusic$Seconds", "keyIn", "(II)I"⟩ := Or.inl gwi_1318
theorem d_PM_second_9 : decode prog_1_method_19_code 9 = .ok (.ireturn, 1) := by decide +kernel
def m_PM_readings : mr_T := (⟨"PlainMusic", "readings", "()I"⟩, prog_1_method_20_code, 1, some .int)
theorem d_PM_readings_0 : decode prog_1_method_20_code 0 = .ok (.aload_n 0, 1) := by decide +kernel
theorem d_PM_readings_1 : decode prog_1_method_20_code 1 = .ok (.getfield 27, 3) := by decide +kernel
theorem d_PM_readings_4 : decode prog_1_method_20_code 4 = .ok (.getfield 110, 3) := by decide +kernel
theorem d_PM_readings_7 : decode prog_1_method_20_code 7 = .ok (.ifCond .eq 13, 3) := by decide +kernel
theorem d_PM_readings_20 : decode prog_1_method_20_code 20 = .ok (.bipush (-2), 2) := by decide +kernel
theorem d_PM_readings_22 : decode prog_1_method_20_code 22 = .ok (.ireturn, 1) := by decide +kernel
theorem d_PM_readings_10 : decode prog_1_method_20_code 10 = .ok (.aload_n 0, 1) := by decide +kernel
theorem d_PM_readings_11 : decode prog_1_method_20_code 11 = .ok (.getfield 27, 3) := by decide +kernel
theorem d_PM_readings_14 : decode prog_1_method_20_code 14 = .ok (.getfield 113, 3) := by decide +kernel
theorem d_PM_readings_17 : decode prog_1_method_20_code 17 = .ok (.ifCond .ne 6, 3) := by decide +kernel
theorem d_PM_readings_23 : decode prog_1_method_20_code 23 = .ok (.aload_n 0, 1) := by decide +kernel
theorem d_PM_readings_24 : decode prog_1_method_20_code 24 = .ok (.getfield 65, 3) := by decide +kernel
theorem d_PM_readings_27 : decode prog_1_method_20_code 27 = .ok (.aload_n 0, 1) := by decide +kernel
theorem d_PM_readings_28 : decode prog_1_method_20_code 28 = .ok (.getfield 27, 3) := by decide +kernel
theorem d_PM_readings_31 : decode prog_1_method_20_code 31 = .ok (.invokevirtual 186, 3) := by decide +kernel
theorem k_Trees_find : mt_OK m_Trees_find 1 1 := ⟨gwi_1339, gwi_144, ⟨by decide +kernel, by decide +kernel, by decide +kernel⟩, fun h => absurd h (by decide), fun _ => ⟨gwi_1337, gwi_1338⟩, fun h => absurd h (by decide)⟩
theorem l_PM_186 : ml_OK "PlainMusic" 186 ⟨"PlainMusic$Trees", "find", "(LPlainMusic$Score;)I"⟩ := Or.inl gwi_1336
theorem d_PM_readings_34 : decode prog_1_method_20_code 34 = .ok (.ireturn, 1) := by decide +kernel
def m_PM_tree : mr_T := (⟨"PlainMusic", "tree", "(II)I"⟩, prog_1_method_21_code, 3, some .int)
theorem d_PM_tree_0 : decode prog_1_method_21_code 0 = .ok (.aload_n 0, 1) := by decide +kernel
theorem d_PM_tree_1 : decode prog_1_method_21_code 1 = .ok (.getfield 65, 3) := by decide +kernel
theorem d_PM_tree_4 : decode prog_1_method_21_code 4 = .ok (.aload_n 0, 1) := by decide +kernel
theorem d_PM_tree_5 : decode prog_1_method_21_code 5 = .ok (.getfield 27, 3) := by decide +kernel
theorem d_PM_tree_8 : decode prog_1_method_21_code 8 = .ok (.iload_n 1, 1) := by decide +kernel
theorem d_PM_tree_9 : decode prog_1_method_21_code 9 = .ok (.iload_n 2, 1) := by decide +kernel
theorem d_PM_tree_10 : decode prog_1_method_21_code 10 = .ok (.invokevirtual 188, 3) := by decide +kernel
theorem k_Trees_ruleIn : mt_OK m_Trees_ruleIn 3 1 := ⟨gwi_1371, gwi_144, ⟨by decide +kernel, by decide +kernel, by decide +kernel⟩, fun h => absurd h (by decide), fun _ => ⟨gwi_1369, gwi_1370⟩, fun h => absurd h (by decide)⟩
theorem l_PM_188 : ml_OK "PlainMusic" 188 ⟨"PlainMusic$Trees", "ruleIn", "(LPlainMusic$Score;II)I"⟩ := Or.inl gwi_1368
theorem d_PM_tree_13 : decode prog_1_method_21_code 13 = .ok (.ireturn, 1) := by decide +kernel
def m_PM_beside : mr_T := (⟨"PlainMusic", "beside", "(II)I"⟩, prog_1_method_22_code, 5, some .int)
theorem d_PM_beside_0 : decode prog_1_method_22_code 0 = .ok (.aload_n 0, 1) := by decide +kernel
theorem d_PM_beside_1 : decode prog_1_method_22_code 1 = .ok (.getfield 27, 3) := by decide +kernel
theorem d_PM_beside_4 : decode prog_1_method_22_code 4 = .ok (.iload_n 1, 1) := by decide +kernel
theorem d_PM_beside_5 : decode prog_1_method_22_code 5 = .ok (.invokevirtual 125, 3) := by decide +kernel
theorem d_PM_beside_8 : decode prog_1_method_22_code 8 = .ok (.astore_n 3, 1) := by decide +kernel
theorem d_PM_beside_9 : decode prog_1_method_22_code 9 = .ok (.aload_n 0, 1) := by decide +kernel
theorem d_PM_beside_10 : decode prog_1_method_22_code 10 = .ok (.getfield 27, 3) := by decide +kernel
theorem d_PM_beside_13 : decode prog_1_method_22_code 13 = .ok (.iload_n 2, 1) := by decide +kernel
theorem d_PM_beside_14 : decode prog_1_method_22_code 14 = .ok (.invokevirtual 125, 3) := by decide +kernel
theorem d_PM_beside_17 : decode prog_1_method_22_code 17 = .ok (.astore 4, 2) := by decide +kernel
theorem d_PM_beside_19 : decode prog_1_method_22_code 19 = .ok (.aload_n 3, 1) := by decide +kernel
theorem d_PM_beside_20 : decode prog_1_method_22_code 20 = .ok (.ifnull 8, 3) := by decide +kernel
theorem d_PM_beside_28 : decode prog_1_method_22_code 28 = .ok (.iconst (-1), 1) := by decide +kernel
theorem d_PM_beside_29 : decode prog_1_method_22_code 29 = .ok (.ireturn, 1) := by decide +kernel
theorem d_PM_beside_23 : decode prog_1_method_22_code 23 = .ok (.aload 4, 2) := by decide +kernel
theorem d_PM_beside_25 : decode prog_1_method_22_code 25 = .ok (.ifnonnull 5, 3) := by decide +kernel
theorem d_PM_beside_30 : decode prog_1_method_22_code 30 = .ok (.aload_n 0, 1) := by decide +kernel
theorem d_PM_beside_31 : decode prog_1_method_22_code 31 = .ok (.getfield 72, 3) := by decide +kernel
theorem d_PM_beside_34 : decode prog_1_method_22_code 34 = .ok (.aload_n 3, 1) := by decide +kernel
theorem d_PM_beside_35 : decode prog_1_method_22_code 35 = .ok (.aload 4, 2) := by decide +kernel
theorem d_PM_beside_37 : decode prog_1_method_22_code 37 = .ok (.invokevirtual 192, 3) := by decide +kernel
theorem k_Pairing_find : mt_OK m_Pairing_find 2 1 := ⟨gwi_1392, gwi_145, ⟨by decide +kernel, by decide +kernel, by decide +kernel⟩, fun h => absurd h (by decide), fun _ => ⟨gwi_1390, gwi_1391⟩, fun h => absurd h (by decide)⟩
theorem l_PM_192 : ml_OK "PlainMusic" 192 ⟨"PlainMusic$Pairing", "find", "(LPlainMusic$Voice;LPlainMusic$Voice;)I"⟩ := Or.inl gwi_1389
theorem d_PM_beside_40 : decode prog_1_method_22_code 40 = .ok (.ireturn, 1) := by decide +kernel
def m_PM_partner : mr_T := (⟨"PlainMusic", "partner", "(I)I"⟩, prog_1_method_23_code, 2, some .int)
theorem d_PM_partner_0 : decode prog_1_method_23_code 0 = .ok (.aload_n 0, 1) := by decide +kernel
theorem d_PM_partner_1 : decode prog_1_method_23_code 1 = .ok (.getfield 72, 3) := by decide +kernel
theorem d_PM_partner_4 : decode prog_1_method_23_code 4 = .ok (.iload_n 1, 1) := by decide +kernel
theorem d_PM_partner_5 : decode prog_1_method_23_code 5 = .ok (.invokevirtual 195, 3) := by decide +kernel
theorem k_Pairing_partnerOf : mt_OK m_Pairing_partnerOf 1 1 := ⟨gwi_1436, gwi_145, ⟨by decide +kernel, by decide +kernel, by decide +kernel⟩, fun h => absurd h (by decide), fun _ => ⟨gwi_1434, gwi_1435⟩, fun h => absurd h (by decide)⟩
theorem l_PM_195 : ml_OK "PlainMusic" 195 ⟨"PlainMusic$Pairing", "partnerOf", "(I)I"⟩ := Or.inl gwi_1433
theorem d_PM_partner_8 : decode prog_1_method_23_code 8 = .ok (.ireturn, 1) := by decide +kernel
def m_PM_ways : mr_T := (⟨"PlainMusic", "ways", "()I"⟩, prog_1_method_24_code, 1, some .int)
theorem d_PM_ways_0 : decode prog_1_method_24_code 0 = .ok (.aload_n 0, 1) := by decide +kernel
theorem d_PM_ways_1 : decode prog_1_method_24_code 1 = .ok (.getfield 72, 3) := by decide +kernel
theorem d_PM_ways_4 : decode prog_1_method_24_code 4 = .ok (.getfield 198, 3) := by decide +kernel
theorem f_PM_198 : fl_OK "PlainMusic" 198 3 7 .int false := ⟨_, rfl, by decide, gwi_576, rfl, rfl⟩
theorem d_PM_ways_7 : decode prog_1_method_24_code 7 = .ok (.ireturn, 1) := by decide +kernel
def m_PM_divided : mr_T := (⟨"PlainMusic", "divided", "(JJ)D"⟩, prog_1_method_29_code, 6, some .double)
theorem d_PM_divided_0 : decode prog_1_method_29_code 0 = .ok (.lload_n 2, 1) := by decide +kernel
theorem d_PM_divided_1 : decode prog_1_method_29_code 1 = .ok (.lconst 0, 1) := by decide +kernel
theorem d_PM_divided_2 : decode prog_1_method_29_code 2 = .ok (.lcmp, 1) := by decide +kernel
theorem d_PM_divided_3 : decode prog_1_method_29_code 3 = .ok (.ifCond .gt 5, 3) := by decide +kernel
theorem d_PM_divided_8 : decode prog_1_method_29_code 8 = .ok (.lload_n 0, 1) := by decide +kernel
theorem d_PM_divided_9 : decode prog_1_method_29_code 9 = .ok (.lload_n 2, 1) := by decide +kernel
theorem d_PM_divided_10 : decode prog_1_method_29_code 10 = .ok (.invokestatic 266, 3) := by decide +kernel
theorem l_PM_266 : ml_OK "PlainMusic" 266 ⟨"PlainMusic", "greatestDivisor", "(JJ)J"⟩ := Or.inl gwi_1459
theorem d_PM_divided_13 : decode prog_1_method_29_code 13 = .ok (.lstore 4, 2) := by decide +kernel
theorem d_PM_divided_15 : decode prog_1_method_29_code 15 = .ok (.lload_n 0, 1) := by decide +kernel
theorem d_PM_divided_16 : decode prog_1_method_29_code 16 = .ok (.lload 4, 2) := by decide +kernel
theorem d_PM_divided_18 : decode prog_1_method_29_code 18 = .ok (.ldiv, 1) := by decide +kernel
theorem d_PM_divided_19 : decode prog_1_method_29_code 19 = .ok (.l2d, 1) := by decide +kernel
theorem d_PM_divided_20 : decode prog_1_method_29_code 20 = .ok (.lload_n 2, 1) := by decide +kernel
theorem d_PM_divided_21 : decode prog_1_method_29_code 21 = .ok (.lload 4, 2) := by decide +kernel
theorem d_PM_divided_23 : decode prog_1_method_29_code 23 = .ok (.ldiv, 1) := by decide +kernel
theorem d_PM_divided_24 : decode prog_1_method_29_code 24 = .ok (.l2d, 1) := by decide +kernel
theorem d_PM_divided_25 : decode prog_1_method_29_code 25 = .ok (.ddiv, 1) := by decide +kernel
theorem d_PM_divided_26 : decode prog_1_method_29_code 26 = .ok (.dreturn, 1) := by decide +kernel
theorem d_PM_divided_6 : decode prog_1_method_29_code 6 = .ok (.dconst 0, 1) := by decide +kernel
theorem d_PM_divided_7 : decode prog_1_method_29_code 7 = .ok (.dreturn, 1) := by decide +kernel
def m_PM_waveAt : mr_T := (⟨"PlainMusic", "waveAt", "(IJJ)D"⟩, prog_1_method_28_code, 15, some .double)
theorem d_PM_waveAt_0 : decode prog_1_method_28_code 0 = .ok (.iload_n 0, 1) := by decide +kernel
theorem d_PM_waveAt_1 : decode prog_1_method_28_code 1 = .ok (.bipush 12, 2) := by decide +kernel
theorem d_PM_waveAt_3 : decode prog_1_method_28_code 3 = .ok (.invokestatic 238, 3) := by decide +kernel
theorem l_PM_238 : ml_OK "PlainMusic" 238 ⟨"java/lang/Math", "floorMod", "(II)I"⟩ := Or.inl gwi_1464
theorem d_PM_waveAt_6 : decode prog_1_method_28_code 6 = .ok (.istore 5, 2) := by decide +kernel
theorem d_PM_waveAt_8 : decode prog_1_method_28_code 8 = .ok (.iload_n 0, 1) := by decide +kernel
theorem d_PM_waveAt_9 : decode prog_1_method_28_code 9 = .ok (.bipush 12, 2) := by decide +kernel
theorem d_PM_waveAt_11 : decode prog_1_method_28_code 11 = .ok (.invokestatic 243, 3) := by decide +kernel
theorem l_PM_243 : ml_OK "PlainMusic" 243 ⟨"java/lang/Math", "floorDiv", "(II)I"⟩ := Or.inl gwi_1465
theorem d_PM_waveAt_14 : decode prog_1_method_28_code 14 = .ok (.iconst (-1), 1) := by decide +kernel
theorem d_PM_waveAt_15 : decode prog_1_method_28_code 15 = .ok (.invokestatic 246, 3) := by decide +kernel
theorem lm_PM_246 : Cond.methodLink "PlainMusic" 246 Lib.Math.max.name ∈ gw := gwi_1466
theorem d_PM_waveAt_18 : decode prog_1_method_28_code 18 = .ok (.bipush 9, 2) := by decide +kernel
theorem d_PM_waveAt_20 : decode prog_1_method_28_code 20 = .ok (.invokestatic 249, 3) := by decide +kernel
theorem lm_PM_249 : Cond.methodLink "PlainMusic" 249 Lib.Math.min.name ∈ gw := gwi_1467
theorem d_PM_waveAt_23 : decode prog_1_method_28_code 23 = .ok (.istore 6, 2) := by decide +kernel
theorem d_PM_waveAt_25 : decode prog_1_method_28_code 25 = .ok (.ldc2_w 252, 3) := by decide +kernel
theorem cst_PM_252 : Cond.constantLong "PlainMusic" 252 (Int64.ofInt 8) ∈ gw := gwi_1468
theorem d_PM_waveAt_28 : decode prog_1_method_28_code 28 = .ok (.iload 6, 2) := by decide +kernel
theorem d_PM_waveAt_30 : decode prog_1_method_28_code 30 = .ok (.iconst 1, 1) := by decide +kernel
theorem d_PM_waveAt_31 : decode prog_1_method_28_code 31 = .ok (.iadd, 1) := by decide +kernel
theorem d_PM_waveAt_32 : decode prog_1_method_28_code 32 = .ok (.lshl, 1) := by decide +kernel
theorem d_PM_waveAt_33 : decode prog_1_method_28_code 33 = .ok (.getstatic 254, 3) := by decide +kernel
theorem gs_PM_254 : Cond.fieldLink "PlainMusic" 254 "PlainMusic" "RATIO_TOPS" "[I" ∈ gw ∨ ∃ host, Cond.fieldLinkNest "PlainMusic" 254 "PlainMusic" "RATIO_TOPS" "[I" host ∈ lw_tbl := Or.inl gwi_1469
theorem d_PM_waveAt_36 : decode prog_1_method_28_code 36 = .ok (.iload 5, 2) := by decide +kernel
theorem d_PM_waveAt_38 : decode prog_1_method_28_code 38 = .ok (.iaload, 1) := by decide +kernel
theorem d_PM_waveAt_39 : decode prog_1_method_28_code 39 = .ok (.i2l, 1) := by decide +kernel
theorem d_PM_waveAt_40 : decode prog_1_method_28_code 40 = .ok (.lmul, 1) := by decide +kernel
theorem d_PM_waveAt_41 : decode prog_1_method_28_code 41 = .ok (.lstore 7, 2) := by decide +kernel
theorem d_PM_waveAt_43 : decode prog_1_method_28_code 43 = .ok (.lload_n 3, 1) := by decide +kernel
theorem d_PM_waveAt_44 : decode prog_1_method_28_code 44 = .ok (.getstatic 257, 3) := by decide +kernel
theorem gs_PM_257 : Cond.fieldLink "PlainMusic" 257 "PlainMusic" "RATIO_BOTTOMS" "[I" ∈ gw ∨ ∃ host, Cond.fieldLinkNest "PlainMusic" 257 "PlainMusic" "RATIO_BOTTOMS" "[I" host ∈ lw_tbl := Or.inl gwi_1471
theorem d_PM_waveAt_47 : decode prog_1_method_28_code 47 = .ok (.iload 5, 2) := by decide +kernel
theorem d_PM_waveAt_49 : decode prog_1_method_28_code 49 = .ok (.iaload, 1) := by decide +kernel
theorem d_PM_waveAt_50 : decode prog_1_method_28_code 50 = .ok (.i2l, 1) := by decide +kernel
theorem d_PM_waveAt_51 : decode prog_1_method_28_code 51 = .ok (.lmul, 1) := by decide +kernel
theorem d_PM_waveAt_52 : decode prog_1_method_28_code 52 = .ok (.lstore 9, 2) := by decide +kernel
theorem d_PM_waveAt_54 : decode prog_1_method_28_code 54 = .ok (.lload 9, 2) := by decide +kernel
theorem d_PM_waveAt_56 : decode prog_1_method_28_code 56 = .ok (.lconst 0, 1) := by decide +kernel
theorem d_PM_waveAt_57 : decode prog_1_method_28_code 57 = .ok (.lcmp, 1) := by decide +kernel
theorem d_PM_waveAt_58 : decode prog_1_method_28_code 58 = .ok (.ifCond .le 16, 3) := by decide +kernel
theorem d_PM_waveAt_74 : decode prog_1_method_28_code 74 = .ok (.lconst 0, 1) := by decide +kernel
theorem d_PM_waveAt_75 : decode prog_1_method_28_code 75 = .ok (.lstore 11, 2) := by decide +kernel
theorem d_PM_waveAt_77 : decode prog_1_method_28_code 77 = .ok (.lload 11, 2) := by decide +kernel
theorem d_PM_waveAt_79 : decode prog_1_method_28_code 79 = .ok (.lload 9, 2) := by decide +kernel
theorem d_PM_waveAt_81 : decode prog_1_method_28_code 81 = .ok (.invokestatic 228, 3) := by decide +kernel
theorem k_PM_divided : mt_OK m_PM_divided 2 0 := ⟨gwi_1458, gwi_134, ⟨by decide +kernel, by decide +kernel, by decide +kernel⟩, fun _ => gwi_1457, fun h => absurd h (by decide), fun h => absurd h (by decide)⟩
theorem l_PM_228 : ml_OK "PlainMusic" 228 ⟨"PlainMusic", "divided", "(JJ)D"⟩ := Or.inl gwi_1456
theorem d_PM_waveAt_84 : decode prog_1_method_28_code 84 = .ok (.dstore 13, 2) := by decide +kernel
theorem d_PM_waveAt_86 : decode prog_1_method_28_code 86 = .ok (.dload 13, 2) := by decide +kernel
theorem d_PM_waveAt_88 : decode prog_1_method_28_code 88 = .ok (.ldc2_w 232, 3) := by decide +kernel
theorem cst_PM_232 : Cond.constantDouble "PlainMusic" 232 4598175219545276416 ∈ gw := gwi_1460
theorem d_PM_waveAt_91 : decode prog_1_method_28_code 91 = .ok (.dcmp .g, 1) := by decide +kernel
theorem d_PM_waveAt_92 : decode prog_1_method_28_code 92 = .ok (.ifCond .ge 10, 3) := by decide +kernel
theorem d_PM_waveAt_102 : decode prog_1_method_28_code 102 = .ok (.dload 13, 2) := by decide +kernel
theorem d_PM_waveAt_104 : decode prog_1_method_28_code 104 = .ok (.ldc2_w 262, 3) := by decide +kernel
theorem cst_PM_262 : Cond.constantDouble "PlainMusic" 262 4604930618986332160 ∈ gw := gwi_1474
theorem d_PM_waveAt_107 : decode prog_1_method_28_code 107 = .ok (.dcmp .g, 1) := by decide +kernel
theorem d_PM_waveAt_108 : decode prog_1_method_28_code 108 = .ok (.ifCond .ge 16, 3) := by decide +kernel
theorem d_PM_waveAt_124 : decode prog_1_method_28_code 124 = .ok (.ldc2_w 260, 3) := by decide +kernel
theorem cst_PM_260 : Cond.constantDouble "PlainMusic" 260 4616189618054758400 ∈ gw := gwi_1473
theorem d_PM_waveAt_127 : decode prog_1_method_28_code 127 = .ok (.dload 13, 2) := by decide +kernel
theorem d_PM_waveAt_129 : decode prog_1_method_28_code 129 = .ok (.dmul, 1) := by decide +kernel
theorem d_PM_waveAt_130 : decode prog_1_method_28_code 130 = .ok (.ldc2_w 260, 3) := by decide +kernel
theorem d_PM_waveAt_133 : decode prog_1_method_28_code 133 = .ok (.dsub, 1) := by decide +kernel
theorem d_PM_waveAt_134 : decode prog_1_method_28_code 134 = .ok (.dreturn, 1) := by decide +kernel
theorem d_PM_waveAt_111 : decode prog_1_method_28_code 111 = .ok (.ldc2_w 264, 3) := by decide +kernel
theorem cst_PM_264 : Cond.constantDouble "PlainMusic" 264 4611686018427387904 ∈ gw := gwi_1475
theorem d_PM_waveAt_114 : decode prog_1_method_28_code 114 = .ok (.ldc2_w 260, 3) := by decide +kernel
theorem d_PM_waveAt_117 : decode prog_1_method_28_code 117 = .ok (.dload 13, 2) := by decide +kernel
theorem d_PM_waveAt_119 : decode prog_1_method_28_code 119 = .ok (.dmul, 1) := by decide +kernel
theorem d_PM_waveAt_120 : decode prog_1_method_28_code 120 = .ok (.dsub, 1) := by decide +kernel
theorem d_PM_waveAt_121 : decode prog_1_method_28_code 121 = .ok (.goto 13, 3) := by decide +kernel
theorem d_PM_waveAt_95 : decode prog_1_method_28_code 95 = .ok (.ldc2_w 260, 3) := by decide +kernel
theorem d_PM_waveAt_98 : decode prog_1_method_28_code 98 = .ok (.dload 13, 2) := by decide +kernel
theorem d_PM_waveAt_100 : decode prog_1_method_28_code 100 = .ok (.dmul, 1) := by decide +kernel
theorem d_PM_waveAt_101 : decode prog_1_method_28_code 101 = .ok (.dreturn, 1) := by decide +kernel
theorem d_PM_waveAt_61 : decode prog_1_method_28_code 61 = .ok (.lload_n 1, 1) := by decide +kernel
theorem d_PM_waveAt_62 : decode prog_1_method_28_code 62 = .ok (.lload 9, 2) := by decide +kernel
theorem d_PM_waveAt_64 : decode prog_1_method_28_code 64 = .ok (.lrem, 1) := by decide +kernel
theorem d_PM_waveAt_65 : decode prog_1_method_28_code 65 = .ok (.lload 7, 2) := by decide +kernel
theorem d_PM_waveAt_67 : decode prog_1_method_28_code 67 = .ok (.lmul, 1) := by decide +kernel
theorem d_PM_waveAt_68 : decode prog_1_method_28_code 68 = .ok (.lload 9, 2) := by decide +kernel
theorem d_PM_waveAt_70 : decode prog_1_method_28_code 70 = .ok (.lrem, 1) := by decide +kernel
theorem d_PM_waveAt_71 : decode prog_1_method_28_code 71 = .ok (.goto 4, 3) := by decide +kernel
def m_PM_addEvent : mr_T := (⟨"PlainMusic", "addEvent", "(DLPlainMusic$Voice;III)D"⟩, prog_1_method_27_code, 17, some .double)
theorem d_PM_addEvent_0 : decode prog_1_method_27_code 0 = .ok (.iload 4, 2) := by decide +kernel
theorem d_PM_addEvent_2 : decode prog_1_method_27_code 2 = .ok (.i2l, 1) := by decide +kernel
theorem d_PM_addEvent_3 : decode prog_1_method_27_code 3 = .ok (.aload_n 2, 1) := by decide +kernel
theorem d_PM_addEvent_4 : decode prog_1_method_27_code 4 = .ok (.getfield 213, 3) := by decide +kernel
theorem f_PM_213 : fl_OK "PlainMusic" 213 10 11 (.array .long) true := ⟨_, rfl, by decide, gwi_293, rfl, rfl⟩
theorem d_PM_addEvent_7 : decode prog_1_method_27_code 7 = .ok (.iload_n 3, 1) := by decide +kernel
theorem d_PM_addEvent_8 : decode prog_1_method_27_code 8 = .ok (.laload, 1) := by decide +kernel
theorem d_PM_addEvent_9 : decode prog_1_method_27_code 9 = .ok (.lmul, 1) := by decide +kernel
theorem d_PM_addEvent_10 : decode prog_1_method_27_code 10 = .ok (.ldc2_w 217, 3) := by decide +kernel
theorem cst_PM_217 : Cond.constantLong "PlainMusic" 217 (Int64.ofInt 2) ∈ gw := gwi_1455
theorem d_PM_addEvent_13 : decode prog_1_method_27_code 13 = .ok (.aload_n 2, 1) := by decide +kernel
theorem d_PM_addEvent_14 : decode prog_1_method_27_code 14 = .ok (.getfield 219, 3) := by decide +kernel
theorem f_PM_219 : fl_OK "PlainMusic" 219 10 10 (.array .long) true := ⟨_, rfl, by decide, gwi_290, rfl, rfl⟩
theorem d_PM_addEvent_17 : decode prog_1_method_27_code 17 = .ok (.iload_n 3, 1) := by decide +kernel
theorem d_PM_addEvent_18 : decode prog_1_method_27_code 18 = .ok (.laload, 1) := by decide +kernel
theorem d_PM_addEvent_19 : decode prog_1_method_27_code 19 = .ok (.lmul, 1) := by decide +kernel
theorem d_PM_addEvent_20 : decode prog_1_method_27_code 20 = .ok (.iload 5, 2) := by decide +kernel
theorem d_PM_addEvent_22 : decode prog_1_method_27_code 22 = .ok (.i2l, 1) := by decide +kernel
theorem d_PM_addEvent_23 : decode prog_1_method_27_code 23 = .ok (.lmul, 1) := by decide +kernel
theorem d_PM_addEvent_24 : decode prog_1_method_27_code 24 = .ok (.lsub, 1) := by decide +kernel
theorem d_PM_addEvent_25 : decode prog_1_method_27_code 25 = .ok (.lstore 6, 2) := by decide +kernel
theorem d_PM_addEvent_27 : decode prog_1_method_27_code 27 = .ok (.iload 5, 2) := by decide +kernel
theorem d_PM_addEvent_29 : decode prog_1_method_27_code 29 = .ok (.i2l, 1) := by decide +kernel
theorem d_PM_addEvent_30 : decode prog_1_method_27_code 30 = .ok (.aload_n 2, 1) := by decide +kernel
theorem d_PM_addEvent_31 : decode prog_1_method_27_code 31 = .ok (.getfield 213, 3) := by decide +kernel
theorem d_PM_addEvent_34 : decode prog_1_method_27_code 34 = .ok (.iload_n 3, 1) := by decide +kernel
theorem d_PM_addEvent_35 : decode prog_1_method_27_code 35 = .ok (.laload, 1) := by decide +kernel
theorem d_PM_addEvent_36 : decode prog_1_method_27_code 36 = .ok (.lmul, 1) := by decide +kernel
theorem d_PM_addEvent_37 : decode prog_1_method_27_code 37 = .ok (.lstore 8, 2) := by decide +kernel
theorem d_PM_addEvent_39 : decode prog_1_method_27_code 39 = .ok (.ldc2_w 217, 3) := by decide +kernel
theorem d_PM_addEvent_42 : decode prog_1_method_27_code 42 = .ok (.aload_n 2, 1) := by decide +kernel
theorem d_PM_addEvent_43 : decode prog_1_method_27_code 43 = .ok (.getfield 222, 3) := by decide +kernel
theorem f_PM_222 : fl_OK "PlainMusic" 222 10 12 (.array .long) true := ⟨_, rfl, by decide, gwi_296, rfl, rfl⟩
theorem d_PM_addEvent_46 : decode prog_1_method_27_code 46 = .ok (.iload_n 3, 1) := by decide +kernel
theorem d_PM_addEvent_47 : decode prog_1_method_27_code 47 = .ok (.laload, 1) := by decide +kernel
theorem d_PM_addEvent_48 : decode prog_1_method_27_code 48 = .ok (.lmul, 1) := by decide +kernel
theorem d_PM_addEvent_49 : decode prog_1_method_27_code 49 = .ok (.aload_n 2, 1) := by decide +kernel
theorem d_PM_addEvent_50 : decode prog_1_method_27_code 50 = .ok (.getfield 225, 3) := by decide +kernel
theorem f_PM_225 : fl_OK "PlainMusic" 225 10 13 (.array .long) true := ⟨_, rfl, by decide, gwi_299, rfl, rfl⟩
theorem d_PM_addEvent_53 : decode prog_1_method_27_code 53 = .ok (.iload_n 3, 1) := by decide +kernel
theorem d_PM_addEvent_54 : decode prog_1_method_27_code 54 = .ok (.laload, 1) := by decide +kernel
theorem d_PM_addEvent_55 : decode prog_1_method_27_code 55 = .ok (.invokestatic 228, 3) := by decide +kernel
theorem d_PM_addEvent_58 : decode prog_1_method_27_code 58 = .ok (.dstore 10, 2) := by decide +kernel
theorem d_PM_addEvent_60 : decode prog_1_method_27_code 60 = .ok (.dconst 1, 1) := by decide +kernel
theorem d_PM_addEvent_61 : decode prog_1_method_27_code 61 = .ok (.lload 6, 2) := by decide +kernel
theorem d_PM_addEvent_63 : decode prog_1_method_27_code 63 = .ok (.lload 8, 2) := by decide +kernel
theorem d_PM_addEvent_65 : decode prog_1_method_27_code 65 = .ok (.invokestatic 228, 3) := by decide +kernel
theorem d_PM_addEvent_68 : decode prog_1_method_27_code 68 = .ok (.dload 10, 2) := by decide +kernel
theorem d_PM_addEvent_70 : decode prog_1_method_27_code 70 = .ok (.ddiv, 1) := by decide +kernel
theorem d_PM_addEvent_71 : decode prog_1_method_27_code 71 = .ok (.dsub, 1) := by decide +kernel
theorem d_PM_addEvent_72 : decode prog_1_method_27_code 72 = .ok (.dstore 12, 2) := by decide +kernel
theorem d_PM_addEvent_74 : decode prog_1_method_27_code 74 = .ok (.dload_n 0, 1) := by decide +kernel
theorem d_PM_addEvent_75 : decode prog_1_method_27_code 75 = .ok (.dstore 14, 2) := by decide +kernel
theorem d_PM_addEvent_77 : decode prog_1_method_27_code 77 = .ok (.iconst 0, 1) := by decide +kernel
theorem d_PM_addEvent_78 : decode prog_1_method_27_code 78 = .ok (.istore 16, 2) := by decide +kernel
theorem d_PM_addEvent_80 : decode prog_1_method_27_code 80 = .ok (.iload 16, 2) := by decide +kernel
theorem d_PM_addEvent_82 : decode prog_1_method_27_code 82 = .ok (.aload_n 2, 1) := by decide +kernel
theorem d_PM_addEvent_83 : decode prog_1_method_27_code 83 = .ok (.iload_n 3, 1) := by decide +kernel
theorem d_PM_addEvent_84 : decode prog_1_method_27_code 84 = .ok (.invokevirtual 147, 3) := by decide +kernel
theorem d_PM_addEvent_87 : decode prog_1_method_27_code 87 = .ok (.if_icmp .ge 35, 3) := by decide +kernel
theorem d_PM_addEvent_122 : decode prog_1_method_27_code 122 = .ok (.dload 14, 2) := by decide +kernel
theorem d_PM_addEvent_124 : decode prog_1_method_27_code 124 = .ok (.dreturn, 1) := by decide +kernel
theorem d_PM_addEvent_90 : decode prog_1_method_27_code 90 = .ok (.dload 14, 2) := by decide +kernel
theorem d_PM_addEvent_92 : decode prog_1_method_27_code 92 = .ok (.ldc2_w 232, 3) := by decide +kernel
theorem d_PM_addEvent_95 : decode prog_1_method_27_code 95 = .ok (.aload_n 2, 1) := by decide +kernel
theorem d_PM_addEvent_96 : decode prog_1_method_27_code 96 = .ok (.iload_n 3, 1) := by decide +kernel
theorem d_PM_addEvent_97 : decode prog_1_method_27_code 97 = .ok (.iload 16, 2) := by decide +kernel
theorem d_PM_addEvent_99 : decode prog_1_method_27_code 99 = .ok (.invokevirtual 151, 3) := by decide +kernel
theorem d_PM_addEvent_102 : decode prog_1_method_27_code 102 = .ok (.lload 6, 2) := by decide +kernel
theorem d_PM_addEvent_104 : decode prog_1_method_27_code 104 = .ok (.lload 8, 2) := by decide +kernel
theorem d_PM_addEvent_106 : decode prog_1_method_27_code 106 = .ok (.invokestatic 234, 3) := by decide +kernel
theorem k_PM_waveAt : mt_OK m_PM_waveAt 3 0 := ⟨gwi_1463, gwi_134, ⟨by decide +kernel, by decide +kernel, by decide +kernel⟩, fun _ => gwi_1462, fun h => absurd h (by decide), fun h => absurd h (by decide)⟩
theorem l_PM_234 : ml_OK "PlainMusic" 234 ⟨"PlainMusic", "waveAt", "(IJJ)D"⟩ := Or.inl gwi_1461
theorem d_PM_addEvent_109 : decode prog_1_method_27_code 109 = .ok (.dmul, 1) := by decide +kernel
theorem d_PM_addEvent_110 : decode prog_1_method_27_code 110 = .ok (.dload 12, 2) := by decide +kernel
theorem d_PM_addEvent_112 : decode prog_1_method_27_code 112 = .ok (.dmul, 1) := by decide +kernel
theorem d_PM_addEvent_113 : decode prog_1_method_27_code 113 = .ok (.dadd, 1) := by decide +kernel
theorem d_PM_addEvent_114 : decode prog_1_method_27_code 114 = .ok (.dstore 14, 2) := by decide +kernel
theorem d_PM_addEvent_116 : decode prog_1_method_27_code 116 = .ok (.iinc 16 1, 3) := by decide +kernel
theorem d_PM_addEvent_119 : decode prog_1_method_27_code 119 = .ok (.goto (-39), 3) := by decide +kernel
def m_PM_addVoice : mr_T := (⟨"PlainMusic", "addVoice", "(DLPlainMusic$Voice;II)D"⟩, prog_1_method_26_code, 8, some .double)
theorem d_PM_addVoice_0 : decode prog_1_method_26_code 0 = .ok (.dload_n 0, 1) := by decide +kernel
theorem d_PM_addVoice_1 : decode prog_1_method_26_code 1 = .ok (.dstore 5, 2) := by decide +kernel
theorem d_PM_addVoice_3 : decode prog_1_method_26_code 3 = .ok (.iconst 0, 1) := by decide +kernel
theorem d_PM_addVoice_4 : decode prog_1_method_26_code 4 = .ok (.istore 7, 2) := by decide +kernel
theorem d_PM_addVoice_6 : decode prog_1_method_26_code 6 = .ok (.iload 7, 2) := by decide +kernel
theorem d_PM_addVoice_8 : decode prog_1_method_26_code 8 = .ok (.aload_n 2, 1) := by decide +kernel
theorem d_PM_addVoice_9 : decode prog_1_method_26_code 9 = .ok (.getfield 129, 3) := by decide +kernel
theorem d_PM_addVoice_12 : decode prog_1_method_26_code 12 = .ok (.if_icmp .ge 52, 3) := by decide +kernel
theorem d_PM_addVoice_64 : decode prog_1_method_26_code 64 = .ok (.dload 5, 2) := by decide +kernel
theorem d_PM_addVoice_66 : decode prog_1_method_26_code 66 = .ok (.dreturn, 1) := by decide +kernel
theorem d_PM_addVoice_15 : decode prog_1_method_26_code 15 = .ok (.aload_n 2, 1) := by decide +kernel
theorem d_PM_addVoice_16 : decode prog_1_method_26_code 16 = .ok (.iload 7, 2) := by decide +kernel
theorem d_PM_addVoice_18 : decode prog_1_method_26_code 18 = .ok (.iload_n 3, 1) := by decide +kernel
theorem d_PM_addVoice_19 : decode prog_1_method_26_code 19 = .ok (.i2l, 1) := by decide +kernel
theorem d_PM_addVoice_20 : decode prog_1_method_26_code 20 = .ok (.iload 4, 2) := by decide +kernel
theorem d_PM_addVoice_22 : decode prog_1_method_26_code 22 = .ok (.i2l, 1) := by decide +kernel
theorem d_PM_addVoice_23 : decode prog_1_method_26_code 23 = .ok (.invokevirtual 205, 3) := by decide +kernel
theorem k_Voice_isReached : mt_OK m_Voice_isReached 3 1 := ⟨gwi_1451, gwi_139, ⟨by decide +kernel, by decide +kernel, by decide +kernel⟩, fun h => absurd h (by decide), fun _ => ⟨gwi_1449, gwi_1450⟩, fun h => absurd h (by decide)⟩
theorem l_PM_205 : ml_OK "PlainMusic" 205 ⟨"PlainMusic$Voice", "isReached", "(IJJ)Z"⟩ := Or.inl gwi_1448
theorem d_PM_addVoice_26 : decode prog_1_method_26_code 26 = .ok (.ifCond .eq 32, 3) := by decide +kernel
theorem d_PM_addVoice_58 : decode prog_1_method_26_code 58 = .ok (.iinc 7 1, 3) := by decide +kernel
theorem d_PM_addVoice_61 : decode prog_1_method_26_code 61 = .ok (.goto (-55), 3) := by decide +kernel
theorem d_PM_addVoice_29 : decode prog_1_method_26_code 29 = .ok (.aload_n 2, 1) := by decide +kernel
theorem d_PM_addVoice_30 : decode prog_1_method_26_code 30 = .ok (.iload 7, 2) := by decide +kernel
theorem d_PM_addVoice_32 : decode prog_1_method_26_code 32 = .ok (.iconst 1, 1) := by decide +kernel
theorem d_PM_addVoice_33 : decode prog_1_method_26_code 33 = .ok (.iadd, 1) := by decide +kernel
theorem d_PM_addVoice_34 : decode prog_1_method_26_code 34 = .ok (.iload_n 3, 1) := by decide +kernel
theorem d_PM_addVoice_35 : decode prog_1_method_26_code 35 = .ok (.i2l, 1) := by decide +kernel
theorem d_PM_addVoice_36 : decode prog_1_method_26_code 36 = .ok (.iload 4, 2) := by decide +kernel
theorem d_PM_addVoice_38 : decode prog_1_method_26_code 38 = .ok (.i2l, 1) := by decide +kernel
theorem d_PM_addVoice_39 : decode prog_1_method_26_code 39 = .ok (.invokevirtual 205, 3) := by decide +kernel
theorem d_PM_addVoice_42 : decode prog_1_method_26_code 42 = .ok (.ifCond .ne 16, 3) := by decide +kernel
theorem d_PM_addVoice_45 : decode prog_1_method_26_code 45 = .ok (.dload 5, 2) := by decide +kernel
theorem d_PM_addVoice_47 : decode prog_1_method_26_code 47 = .ok (.aload_n 2, 1) := by decide +kernel
theorem d_PM_addVoice_48 : decode prog_1_method_26_code 48 = .ok (.iload 7, 2) := by decide +kernel
theorem d_PM_addVoice_50 : decode prog_1_method_26_code 50 = .ok (.iload_n 3, 1) := by decide +kernel
theorem d_PM_addVoice_51 : decode prog_1_method_26_code 51 = .ok (.iload 4, 2) := by decide +kernel
theorem d_PM_addVoice_53 : decode prog_1_method_26_code 53 = .ok (.invokestatic 209, 3) := by decide +kernel
theorem k_PM_addEvent : mt_OK m_PM_addEvent 5 0 := ⟨gwi_1454, gwi_134, ⟨by decide +kernel, by decide +kernel, by decide +kernel⟩, fun _ => gwi_1453, fun h => absurd h (by decide), fun h => absurd h (by decide)⟩
theorem l_PM_209 : ml_OK "PlainMusic" 209 ⟨"PlainMusic", "addEvent", "(DLPlainMusic$Voice;III)D"⟩ := Or.inl gwi_1452
theorem d_PM_addVoice_56 : decode prog_1_method_26_code 56 = .ok (.dstore 5, 2) := by decide +kernel
def m_PM_sample : mr_T := (⟨"PlainMusic", "sample", "(II)D"⟩, prog_1_method_25_code, 7, some .double)
theorem d_PM_sample_0 : decode prog_1_method_25_code 0 = .ok (.dconst 0, 1) := by decide +kernel
theorem d_PM_sample_1 : decode prog_1_method_25_code 1 = .ok (.dstore_n 3, 1) := by decide +kernel
theorem d_PM_sample_2 : decode prog_1_method_25_code 2 = .ok (.iload_n 1, 1) := by decide +kernel
theorem d_PM_sample_3 : decode prog_1_method_25_code 3 = .ok (.ifCond .lt 15, 3) := by decide +kernel
theorem d_PM_sample_18 : decode prog_1_method_25_code 18 = .ok (.dload_n 3, 1) := by decide +kernel
theorem d_PM_sample_19 : decode prog_1_method_25_code 19 = .ok (.dreturn, 1) := by decide +kernel
theorem d_PM_sample_6 : decode prog_1_method_25_code 6 = .ok (.iload_n 2, 1) := by decide +kernel
theorem d_PM_sample_7 : decode prog_1_method_25_code 7 = .ok (.iconst 1, 1) := by decide +kernel
theorem d_PM_sample_8 : decode prog_1_method_25_code 8 = .ok (.if_icmp .lt 10, 3) := by decide +kernel
theorem d_PM_sample_11 : decode prog_1_method_25_code 11 = .ok (.iload_n 2, 1) := by decide +kernel
theorem d_PM_sample_12 : decode prog_1_method_25_code 12 = .ok (.sipush 10000, 3) := by decide +kernel
theorem d_PM_sample_15 : decode prog_1_method_25_code 15 = .ok (.if_icmp .le 5, 3) := by decide +kernel
theorem d_PM_sample_20 : decode prog_1_method_25_code 20 = .ok (.iconst 0, 1) := by decide +kernel
theorem d_PM_sample_21 : decode prog_1_method_25_code 21 = .ok (.istore 5, 2) := by decide +kernel
theorem d_PM_sample_23 : decode prog_1_method_25_code 23 = .ok (.iload 5, 2) := by decide +kernel
theorem d_PM_sample_25 : decode prog_1_method_25_code 25 = .ok (.aload_n 0, 1) := by decide +kernel
theorem d_PM_sample_26 : decode prog_1_method_25_code 26 = .ok (.getfield 27, 3) := by decide +kernel
theorem d_PM_sample_29 : decode prog_1_method_25_code 29 = .ok (.getfield 104, 3) := by decide +kernel
theorem d_PM_sample_32 : decode prog_1_method_25_code 32 = .ok (.if_icmp .ge 34, 3) := by decide +kernel
theorem d_PM_sample_66 : decode prog_1_method_25_code 66 = .ok (.dload_n 3, 1) := by decide +kernel
theorem d_PM_sample_67 : decode prog_1_method_25_code 67 = .ok (.dreturn, 1) := by decide +kernel
theorem d_PM_sample_35 : decode prog_1_method_25_code 35 = .ok (.aload_n 0, 1) := by decide +kernel
theorem d_PM_sample_36 : decode prog_1_method_25_code 36 = .ok (.getfield 27, 3) := by decide +kernel
theorem d_PM_sample_39 : decode prog_1_method_25_code 39 = .ok (.iload 5, 2) := by decide +kernel
theorem d_PM_sample_41 : decode prog_1_method_25_code 41 = .ok (.invokevirtual 125, 3) := by decide +kernel
theorem d_PM_sample_44 : decode prog_1_method_25_code 44 = .ok (.astore 6, 2) := by decide +kernel
theorem d_PM_sample_46 : decode prog_1_method_25_code 46 = .ok (.aload 6, 2) := by decide +kernel
theorem d_PM_sample_48 : decode prog_1_method_25_code 48 = .ok (.ifnull 12, 3) := by decide +kernel
theorem d_PM_sample_60 : decode prog_1_method_25_code 60 = .ok (.iinc 5 1, 3) := by decide +kernel
theorem d_PM_sample_63 : decode prog_1_method_25_code 63 = .ok (.goto (-40), 3) := by decide +kernel
theorem d_PM_sample_51 : decode prog_1_method_25_code 51 = .ok (.dload_n 3, 1) := by decide +kernel
theorem d_PM_sample_52 : decode prog_1_method_25_code 52 = .ok (.aload 6, 2) := by decide +kernel
theorem d_PM_sample_54 : decode prog_1_method_25_code 54 = .ok (.iload_n 1, 1) := by decide +kernel
theorem d_PM_sample_55 : decode prog_1_method_25_code 55 = .ok (.iload_n 2, 1) := by decide +kernel
theorem d_PM_sample_56 : decode prog_1_method_25_code 56 = .ok (.invokestatic 201, 3) := by decide +kernel
theorem k_PM_addVoice : mt_OK m_PM_addVoice 4 0 := ⟨gwi_1447, gwi_134, ⟨by decide +kernel, by decide +kernel, by decide +kernel⟩, fun _ => gwi_1446, fun h => absurd h (by decide), fun h => absurd h (by decide)⟩
theorem l_PM_201 : ml_OK "PlainMusic" 201 ⟨"PlainMusic", "addVoice", "(DLPlainMusic$Voice;II)D"⟩ := Or.inl gwi_1445
theorem d_PM_sample_59 : decode prog_1_method_25_code 59 = .ok (.dstore_n 3, 1) := by decide +kernel
def m_PM_score : mr_T := (⟨"PlainMusic", "score", "()I"⟩, prog_1_method_5_code, 2, some .int)
theorem d_PM_score_0 : decode prog_1_method_5_code 0 = .ok (.aload_n 0, 1) := by decide +kernel
theorem d_PM_score_1 : decode prog_1_method_5_code 1 = .ok (.getfield 20, 3) := by decide +kernel
theorem rff_0_2 : (0, 2, 2) ∈ rf_L := by decide +kernel
theorem d_PM_score_4 : decode prog_1_method_5_code 4 = .ok (.aload_n 0, 1) := by decide +kernel
theorem d_PM_score_5 : decode prog_1_method_5_code 5 = .ok (.getfield 9, 3) := by decide +kernel
theorem d_PM_score_8 : decode prog_1_method_5_code 8 = .ok (.aload_n 0, 1) := by decide +kernel
theorem d_PM_score_9 : decode prog_1_method_5_code 9 = .ok (.getfield 13, 3) := by decide +kernel
theorem d_PM_score_12 : decode prog_1_method_5_code 12 = .ok (.invokevirtual 80, 3) := by decide +kernel
theorem k_Reader_read : mt_OK m_Reader_read 2 1 := ⟨gwi_647, gwi_135, ⟨by decide +kernel, by decide +kernel, by decide +kernel⟩, fun h => absurd h (by decide), fun _ => ⟨gwi_645, gwi_646⟩, fun h => absurd h (by decide)⟩
theorem l_PM_80 : ml_OK "PlainMusic" 80 ⟨"PlainMusic$Reader", "read", "([II)I"⟩ := Or.inl gwi_644
theorem d_PM_score_15 : decode prog_1_method_5_code 15 = .ok (.istore_n 1, 1) := by decide +kernel
theorem d_PM_score_16 : decode prog_1_method_5_code 16 = .ok (.aload_n 0, 1) := by decide +kernel
theorem d_PM_score_17 : decode prog_1_method_5_code 17 = .ok (.iconst 0, 1) := by decide +kernel
theorem d_PM_score_18 : decode prog_1_method_5_code 18 = .ok (.putfield 13, 3) := by decide +kernel
theorem d_PM_score_21 : decode prog_1_method_5_code 21 = .ok (.iload_n 1, 1) := by decide +kernel
theorem d_PM_score_22 : decode prog_1_method_5_code 22 = .ok (.ifCond .eq 19, 3) := by decide +kernel
theorem d_PM_score_41 : decode prog_1_method_5_code 41 = .ok (.aload_n 0, 1) := by decide +kernel
theorem d_PM_score_42 : decode prog_1_method_5_code 42 = .ok (.bipush (-2), 2) := by decide +kernel
theorem d_PM_score_44 : decode prog_1_method_5_code 44 = .ok (.putfield 31, 3) := by decide +kernel
theorem d_PM_score_47 : decode prog_1_method_5_code 47 = .ok (.aload_n 0, 1) := by decide +kernel
theorem d_PM_score_48 : decode prog_1_method_5_code 48 = .ok (.aload_n 0, 1) := by decide +kernel
theorem d_PM_score_49 : decode prog_1_method_5_code 49 = .ok (.getfield 20, 3) := by decide +kernel
theorem d_PM_score_52 : decode prog_1_method_5_code 52 = .ok (.aload_n 0, 1) := by decide +kernel
theorem d_PM_score_53 : decode prog_1_method_5_code 53 = .ok (.getfield 27, 3) := by decide +kernel
theorem d_PM_score_56 : decode prog_1_method_5_code 56 = .ok (.invokevirtual 85, 3) := by decide +kernel
def m_Reader_swap : mr_T := (⟨"PlainMusic$Reader", "swap", "(LPlainMusic$Score;)LPlainMusic$Score;"⟩, prog_7_method_3_code, 3, some (.object "PlainMusic$Score"))
theorem l_PM_85 : ml_OK "PlainMusic" 85 ⟨"PlainMusic$Reader", "swap", "(LPlainMusic$Score;)LPlainMusic$Score;"⟩ := Or.inl gwi_979
theorem k_Reader_swap : mt_OK m_Reader_swap 1 1 := ⟨gwi_982, gwi_135, ⟨by decide +kernel, by decide +kernel, by decide +kernel⟩, fun h => absurd h (by decide), fun _ => ⟨gwi_980, gwi_981⟩, fun h => absurd h (by decide)⟩
theorem d_PM_score_59 : decode prog_1_method_5_code 59 = .ok (.putfield 27, 3) := by decide +kernel
theorem d_PM_score_62 : decode prog_1_method_5_code 62 = .ok (.aload_n 0, 1) := by decide +kernel
theorem d_PM_score_63 : decode prog_1_method_5_code 63 = .ok (.invokevirtual 89, 3) := by decide +kernel
theorem k_PM_forgetFindings : mt_OK m_PM_forgetFindings 0 1 := ⟨gwi_986, gwi_134, ⟨by decide +kernel, by decide +kernel, by decide +kernel⟩, fun h => absurd h (by decide), fun _ => ⟨gwi_985, gwi_27⟩, fun h => absurd h (by decide)⟩
theorem l_PM_89 : ml_OK "PlainMusic" 89 ⟨"PlainMusic", "forgetFindings", "()V"⟩ := Or.inl gwi_983
theorem d_PM_score_66 : decode prog_1_method_5_code 66 = .ok (.aload_n 0, 1) := by decide +kernel
theorem d_PM_score_67 : decode prog_1_method_5_code 67 = .ok (.getfield 27, 3) := by decide +kernel
theorem d_PM_score_70 : decode prog_1_method_5_code 70 = .ok (.invokevirtual 92, 3) := by decide +kernel
theorem k_Score_allEvents : mt_OK m_Score_allEvents 0 1 := ⟨gwi_1014, gwi_138, ⟨by decide +kernel, by decide +kernel, by decide +kernel⟩, fun h => absurd h (by decide), fun _ => ⟨gwi_1012, gwi_1013⟩, fun h => absurd h (by decide)⟩
theorem l_PM_92 : ml_OK "PlainMusic" 92 ⟨"PlainMusic$Score", "allEvents", "()I"⟩ := Or.inl gwi_1011
theorem d_PM_score_73 : decode prog_1_method_5_code 73 = .ok (.ireturn, 1) := by decide +kernel
theorem d_PM_score_25 : decode prog_1_method_5_code 25 = .ok (.aload_n 0, 1) := by decide +kernel
theorem d_PM_score_26 : decode prog_1_method_5_code 26 = .ok (.aload_n 0, 1) := by decide +kernel
theorem d_PM_score_27 : decode prog_1_method_5_code 27 = .ok (.getfield 20, 3) := by decide +kernel
theorem d_PM_score_30 : decode prog_1_method_5_code 30 = .ok (.getfield 84, 3) := by decide +kernel
theorem f_PM_84 : fl_OK "PlainMusic" 84 5 7 .int false := ⟨_, rfl, by decide, gwi_420, rfl, rfl⟩
theorem d_PM_score_33 : decode prog_1_method_5_code 33 = .ok (.putfield 31, 3) := by decide +kernel
theorem d_PM_score_36 : decode prog_1_method_5_code 36 = .ok (.bipush (-10), 2) := by decide +kernel
theorem d_PM_score_38 : decode prog_1_method_5_code 38 = .ok (.iload_n 1, 1) := by decide +kernel
theorem d_PM_score_39 : decode prog_1_method_5_code 39 = .ok (.isub, 1) := by decide +kernel
theorem d_PM_score_40 : decode prog_1_method_5_code 40 = .ok (.ireturn, 1) := by decide +kernel
theorem d_Reader_swap_0 : decode prog_7_method_3_code 0 = .ok (.aload_n 0, 1) := by decide +kernel
theorem d_Reader_swap_1 : decode prog_7_method_3_code 1 = .ok (.getfield 32, 3) := by decide +kernel
theorem d_Reader_swap_4 : decode prog_7_method_3_code 4 = .ok (.astore_n 2, 1) := by decide +kernel
theorem d_Reader_swap_5 : decode prog_7_method_3_code 5 = .ok (.aload_n 0, 1) := by decide +kernel
theorem d_Reader_swap_6 : decode prog_7_method_3_code 6 = .ok (.aload_n 1, 1) := by decide +kernel
theorem d_Reader_swap_7 : decode prog_7_method_3_code 7 = .ok (.putfield 32, 3) := by decide +kernel
theorem d_Reader_swap_10 : decode prog_7_method_3_code 10 = .ok (.aload_n 2, 1) := by decide +kernel
theorem d_Reader_swap_11 : decode prog_7_method_3_code 11 = .ok (.areturn, 1) := by decide +kernel
theorem s_PM_putBytes {G : cx_T} {s : Nat} {h : ah_T} (hx : xi s h) {a1 : Int}  : con G 0 0 0 m_PM_putBytes [av_R (some 0), av_I a1] h (fun r h' => r = none ∧ (h.2.1 0 1 ≤ 1996 → h'.2.1 0 1 = h.2.1 0 1 + 4) ∧ kF FA s h h') := by
  refine con_of (L := [some (av_R (some 0)), some (av_I a1), none]) (by decide +kernel) (Nat.le_of_ble_eq_true rfl) rfl ?_
  have hS : isS s := hx.2.1
  have hs0 : s = 17 ∨ s = 80 := hS
  have hs0b : 17 ≤ s ∧ s ≤ 80 := by omega
  have k0 : kF FA s h h := kF_0 hx
  obtain ⟨sd1, esd1⟩ : ∃ x, x = h.2.1 0 1 := ⟨_, rfl⟩
  have rsd1 : 0 ≤ sd1 ∧ sd1 ≤ 2000 := (by rw [esd1]; exact xi_g k0.1 (by decide) rgf_0_1)
  refine A_locI 1 rfl (fun ra => ?_)
  obtain ⟨_, _⟩ := ra
  refine A_bipush d_PM_putBytes_0 rfl ?_
  refine A_istore_n 2 (L' := [some (av_R (some 0)), some (av_I a1), some (av_I 24)]) d_PM_putBytes_2 rfl (Nat.le_of_ble_eq_true rfl) rfl ?_
  have lp3 : ∀ (n : Nat) (i2 : Int) (h3 : ah_T) , (-8) ≤ i2 → i2 ≤ 24 → (h.2.1 0 1 ≤ 1996 → h3.2.1 0 1 * 8 = h.2.1 0 1 * 8 + 24 - i2) → kF FA s h h3 → (i2 + 9).toNat < n → aw G (rm_R 0 0 0) m_PM_putBytes 0 0 3 [some (av_R (some 0)), some (av_I a1), some (av_I i2)] [] h3 (fun r h' => r = none ∧ (h.2.1 0 1 ≤ 1996 → h'.2.1 0 1 = h.2.1 0 1 + 4) ∧ kF FA s h h') := by
    intro n
    induction n with
    | zero => intro i2 h3 _ _ _ _ hm; omega
    | succ n ih3 =>
      intro i2 h3 hl0 hl1 hinv k4 hm
      obtain ⟨sd5, esd5⟩ : ∃ x, x = h3.2.1 0 1 := ⟨_, rfl⟩
      have rsd5 : 0 ≤ sd5 ∧ sd5 ≤ 2000 := (by rw [esd5]; exact xi_g k4.1 (by decide) rgf_0_1)
      refine A_iload_n 2 d_PM_putBytes_3 rfl rfl ?_
      refine A_if_lt (tgt := 51) d_PM_putBytes_4 (by decide) (fun c6 => ?_) (fun c6 => ?_)
      · exact A_vret d_PM_putBytes_51 (by decide) rfl ⟨rfl, (fun p => by have qq0 := esd5.symm; have q9 := hinv p; omega), k4⟩
      · refine A_aload_n 0 d_PM_putBytes_7 rfl rfl ?_
        refine A_getIv (z := sd5) T_ok d_PM_putBytes_8 f_PM_13 (xi_s k4.1 sf_0) esd5.symm ?_
        refine A_aload_n 0 d_PM_putBytes_11 rfl rfl ?_
        refine A_getAv (z := some 1) T_ok d_PM_putBytes_12 f_PM_9 (xi_s k4.1 sf_0) (xi_r k4.1 rff_0_0) ?_
        refine A_alenN d_PM_putBytes_15 (xi_s k4.1 sf_1) (by decide) (by decide) ?_
        refine A_pc (pc' := 16) rfl ?_
        refine A_icmp_ge (tgt := 45) d_PM_putBytes_16 (by decide) (fun c9 => ?_) (fun c9 => ?_)
        · refine A_iincv (z := (i2 - 8)) (L' := [some (av_R (some 0)), some (av_I a1), some (av_I (i2 - 8))]) d_PM_putBytes_45 rfl (w32_to (by omega) (by unfold i32; omega)) rfl ?_
          refine A_goto (tgt := 3) d_PM_putBytes_48 (by decide) ?_
          exact ih3 (i2 - 8) h3 (by omega) (by omega) (fun p => by have qq0 := esd5.symm; have q9 := hinv p; omega) k4 (by omega)
        · refine A_aload_n 0 d_PM_putBytes_19 rfl rfl ?_
          refine A_getAv (z := some 1) T_ok d_PM_putBytes_20 f_PM_9 (xi_s k4.1 sf_0) (xi_r k4.1 rff_0_0) ?_
          refine A_aload_n 0 d_PM_putBytes_23 rfl rfl ?_
          refine A_getIv (z := sd5) T_ok d_PM_putBytes_24 f_PM_13 (xi_s k4.1 sf_0) esd5.symm ?_
          refine A_iload_n 1 d_PM_putBytes_27 rfl rfl ?_
          refine A_pc (pc' := 28) rfl ?_
          refine A_iload_n 2 d_PM_putBytes_28 rfl rfl ?_
          refine A_iushr d_PM_putBytes_29 ?_
          refine A_nrI (fun x12 ex12 _ _ => ?_)
          refine A_sipush d_PM_putBytes_30 rfl ?_
          refine A_iand d_PM_putBytes_33 ?_
          refine A_nrI (fun x13 ex13 _ _ => ?_)
          have bx13 := and_r (m := 255) 8 ex13 (by decide) (by decide) (by decide)
          refine A_iastorek (KR := kF FA s h) d_PM_putBytes_34 (xi_s k4.1 sf_1) (by omega) (by omega) (kF_j k4 (by decide) (ns_b rfl) (rgf_1 _) (by omega) (by omega)) (fun h14 k15 eh14 => ?_)
          refine A_aload_n 0 d_PM_putBytes_35 rfl rfl ?_
          refine A_pc (pc' := 36) rfl ?_
          refine A_dupR d_PM_putBytes_36 ?_
          refine A_getIv (z := sd5) T_ok d_PM_putBytes_37 f_PM_13 (xi_s k15.1 sf_0) ((eh14.1 _ _ (fun q => absurd q (by decide))).trans esd5.symm) ?_
          refine A_iconst d_PM_putBytes_40 rfl ?_
          refine A_iaddv (z := (sd5 + 1)) d_PM_putBytes_41 (w32_to (by omega) (by unfold i32; omega)) ?_
          refine A_putIk (KR := kF FA s h) T_ok d_PM_putBytes_42 f_PM_13 (xi_s k15.1 sf_0) fin_f (kF_j k15 (by decide) (ns_b rfl) rgf_0_1 (by omega) (by omega)) (fun h17 k18 eh17 => ?_)
          refine A_iincv (z := (i2 - 8)) (L' := [some (av_R (some 0)), some (av_I a1), some (av_I (i2 - 8))]) d_PM_putBytes_45 rfl (w32_to (by omega) (by unfold i32; omega)) rfl ?_
          refine A_pc (pc' := 48) rfl ?_
          refine A_goto (tgt := 3) d_PM_putBytes_48 (by decide) ?_
          exact ih3 (i2 - 8) h17 (by omega) (by omega) (fun p => by have qq0 := eh17.2.1; have q9 := hinv p; omega) k18 (by omega)
  exact lp3 _ 24 h (by omega) (by omega) (fun p => by have qq0 := esd1.symm; omega) k0 (Nat.lt_succ_self _)
theorem s_PM_feed {G : cx_T} {s : Nat} {h : ah_T} (hx : xi s h) {a1 : Int} {a2 : Int} {a3 : Int} {a4 : Int} {a5 : Int}  : con G 1 0 0 m_PM_feed [av_R (some 0), av_I a1, av_I a2, av_I a3, av_I a4, av_I a5] h (fun r h' => ∃ z, r = some (av_I z) ∧ ((-3) ≤ z ∧ z ≤ 2000) ∧ ((h.2.1 0 1 ≤ 1980 → z = h.2.1 0 1 + 20 ∧ h'.2.1 0 1 = h.2.1 0 1 + 20) ∧ (1980 < h.2.1 0 1 → z = -3 ∧ h'.2.1 0 1 = h.2.1 0 1)) ∧ kF FA s h h') := by
  refine con_of (L := [some (av_R (some 0)), some (av_I a1), some (av_I a2), some (av_I a3), some (av_I a4), some (av_I a5)]) (by decide +kernel) (Nat.le_of_ble_eq_true rfl) rfl ?_
  have hS : isS s := hx.2.1
  have hs0 : s = 17 ∨ s = 80 := hS
  have hs0b : 17 ≤ s ∧ s ≤ 80 := by omega
  have k0 : kF FA s h h := kF_0 hx
  obtain ⟨sd1, esd1⟩ : ∃ x, x = h.2.1 0 1 := ⟨_, rfl⟩
  have rsd1 : 0 ≤ sd1 ∧ sd1 ≤ 2000 := (by rw [esd1]; exact xi_g k0.1 (by decide) rgf_0_1)
  refine A_locI 1 rfl (fun ra => ?_)
  obtain ⟨_, _⟩ := ra
  refine A_locI 2 rfl (fun ra => ?_)
  obtain ⟨_, _⟩ := ra
  refine A_locI 3 rfl (fun ra => ?_)
  obtain ⟨_, _⟩ := ra
  refine A_locI 4 rfl (fun ra => ?_)
  obtain ⟨_, _⟩ := ra
  refine A_locI 5 rfl (fun ra => ?_)
  obtain ⟨_, _⟩ := ra
  refine A_aload_n 0 d_PM_feed_0 rfl rfl ?_
  refine A_getIv (z := sd1) T_ok d_PM_feed_1 f_PM_13 (xi_s k0.1 sf_0) esd1.symm ?_
  refine A_bipush d_PM_feed_4 rfl ?_
  refine A_iaddv (z := (sd1 + 20)) d_PM_feed_6 (w32_to (by omega) (by unfold i32; omega)) ?_
  refine A_sipush d_PM_feed_7 rfl ?_
  refine A_pc (pc' := 10) rfl ?_
  refine A_icmp_le (tgt := 16) d_PM_feed_10 (by decide) (fun c3 => ?_) (fun c3 => ?_)
  · refine A_aload_n 0 d_PM_feed_16 rfl rfl ?_
    refine A_iload_n 1 d_PM_feed_17 rfl rfl ?_
    have zf5 := esd1.symm
    refine A_callV1 m_PM_putBytes T_ok d_PM_feed_18 l_PM_76 k_PM_putBytes (xi_s k0.1 sf_0) rfl (by decide +kernel) (by decide) (Nat.le_of_ble_eq_true rfl) (s_PM_putBytes k0.1 ) (fun r h4 hq => ?_)
    obtain ⟨rfl, xk6, k6⟩ := hq
    have k7 := kF_t k0 k6 (fun _ q => q)
    obtain ⟨sd8, esd8⟩ : ∃ x, x = h4.2.1 0 1 := ⟨_, rfl⟩
    have rsd8 : 0 ≤ sd8 ∧ sd8 ≤ 2000 := (by rw [esd8]; exact xi_g k7.1 (by decide) rgf_0_1)
    refine A_aload_n 0 d_PM_feed_21 rfl rfl ?_
    refine A_iload_n 2 d_PM_feed_22 rfl rfl ?_
    have zf10 := esd8.symm
    refine A_callV1 m_PM_putBytes T_ok d_PM_feed_23 l_PM_76 k_PM_putBytes (xi_s k7.1 sf_0) rfl (by decide +kernel) (by decide) (Nat.le_of_ble_eq_true rfl) (s_PM_putBytes k7.1 ) (fun r h9 hq => ?_)
    obtain ⟨rfl, xk11, k11⟩ := hq
    have k12 := kF_t k7 k11 (fun _ q => q)
    obtain ⟨sd13, esd13⟩ : ∃ x, x = h9.2.1 0 1 := ⟨_, rfl⟩
    have rsd13 : 0 ≤ sd13 ∧ sd13 ≤ 2000 := (by rw [esd13]; exact xi_g k12.1 (by decide) rgf_0_1)
    refine A_aload_n 0 d_PM_feed_26 rfl rfl ?_
    refine A_iload_n 3 d_PM_feed_27 rfl rfl ?_
    have zf15 := esd13.symm
    refine A_callV1 m_PM_putBytes T_ok d_PM_feed_28 l_PM_76 k_PM_putBytes (xi_s k12.1 sf_0) rfl (by decide +kernel) (by decide) (Nat.le_of_ble_eq_true rfl) (s_PM_putBytes k12.1 ) (fun r h14 hq => ?_)
    obtain ⟨rfl, xk16, k16⟩ := hq
    have k17 := kF_t k12 k16 (fun _ q => q)
    obtain ⟨sd18, esd18⟩ : ∃ x, x = h14.2.1 0 1 := ⟨_, rfl⟩
    have rsd18 : 0 ≤ sd18 ∧ sd18 ≤ 2000 := (by rw [esd18]; exact xi_g k17.1 (by decide) rgf_0_1)
    refine A_aload_n 0 d_PM_feed_31 rfl rfl ?_
    refine A_iload d_PM_feed_32 rfl ?_
    have zf20 := esd18.symm
    refine A_callV1 m_PM_putBytes T_ok d_PM_feed_34 l_PM_76 k_PM_putBytes (xi_s k17.1 sf_0) rfl (by decide +kernel) (by decide) (Nat.le_of_ble_eq_true rfl) (s_PM_putBytes k17.1 ) (fun r h19 hq => ?_)
    obtain ⟨rfl, xk21, k21⟩ := hq
    have k22 := kF_t k17 k21 (fun _ q => q)
    obtain ⟨sd23, esd23⟩ : ∃ x, x = h19.2.1 0 1 := ⟨_, rfl⟩
    have rsd23 : 0 ≤ sd23 ∧ sd23 ≤ 2000 := (by rw [esd23]; exact xi_g k22.1 (by decide) rgf_0_1)
    refine A_aload_n 0 d_PM_feed_37 rfl rfl ?_
    refine A_iload d_PM_feed_38 rfl ?_
    have zf25 := esd23.symm
    refine A_callV1 m_PM_putBytes T_ok d_PM_feed_40 l_PM_76 k_PM_putBytes (xi_s k22.1 sf_0) rfl (by decide +kernel) (by decide) (Nat.le_of_ble_eq_true rfl) (s_PM_putBytes k22.1 ) (fun r h24 hq => ?_)
    obtain ⟨rfl, xk26, k26⟩ := hq
    have k27 := kF_t k22 k26 (fun _ q => q)
    obtain ⟨sd28, esd28⟩ : ∃ x, x = h24.2.1 0 1 := ⟨_, rfl⟩
    have rsd28 : 0 ≤ sd28 ∧ sd28 ≤ 2000 := (by rw [esd28]; exact xi_g k27.1 (by decide) rgf_0_1)
    refine A_aload_n 0 d_PM_feed_43 rfl rfl ?_
    refine A_getIv (z := sd28) T_ok d_PM_feed_44 f_PM_13 (xi_s k27.1 sf_0) esd28.symm ?_
    exact A_iret d_PM_feed_47 (by decide) rfl ⟨_, rfl, ⟨by omega, by omega⟩, (by have qq0 := esd28.symm; omega), k27⟩
  · refine A_bipush d_PM_feed_13 rfl ?_
    exact A_iret d_PM_feed_15 (by decide) rfl ⟨_, rfl, ⟨by omega, by omega⟩, (by have qq0 := esd1.symm; omega), k0⟩
theorem s_PM_cut {G : cx_T} {s : Nat} {h : ah_T} (hx : xi s h) {a1 : Int}  : con G 0 0 0 m_PM_cut [av_R (some 0), av_I a1] h (fun r h' => ∃ z, r = some (av_I z) ∧ ((-1) ≤ z ∧ z ≤ 2000) ∧ ((a1 < 0 ∨ h.2.1 0 1 < a1 → z = -1 ∧ h'.2.1 0 1 = h.2.1 0 1) ∧ (0 ≤ a1 → a1 ≤ h.2.1 0 1 → z = h.2.1 0 1 - a1 ∧ h'.2.1 0 1 = h.2.1 0 1 - a1)) ∧ kF FA s h h') := by
  refine con_of (L := [some (av_R (some 0)), some (av_I a1)]) (by decide +kernel) (Nat.le_of_ble_eq_true rfl) rfl ?_
  have hS : isS s := hx.2.1
  have hs0 : s = 17 ∨ s = 80 := hS
  have hs0b : 17 ≤ s ∧ s ≤ 80 := by omega
  have k0 : kF FA s h h := kF_0 hx
  obtain ⟨sd1, esd1⟩ : ∃ x, x = h.2.1 0 1 := ⟨_, rfl⟩
  have rsd1 : 0 ≤ sd1 ∧ sd1 ≤ 2000 := (by rw [esd1]; exact xi_g k0.1 (by decide) rgf_0_1)
  refine A_locI 1 rfl (fun ra => ?_)
  obtain ⟨_, _⟩ := ra
  refine A_iload_n 1 d_PM_cut_0 rfl rfl ?_
  refine A_if_lt (tgt := 12) d_PM_cut_1 (by decide) (fun c2 => ?_) (fun c2 => ?_)
  · refine A_iconst d_PM_cut_12 rfl ?_
    exact A_iret d_PM_cut_13 (by decide) rfl ⟨_, rfl, ⟨by omega, by omega⟩, (by have qq0 := esd1.symm; omega), k0⟩
  · refine A_iload_n 1 d_PM_cut_4 rfl rfl ?_
    refine A_aload_n 0 d_PM_cut_5 rfl rfl ?_
    refine A_getIv (z := sd1) T_ok d_PM_cut_6 f_PM_13 (xi_s k0.1 sf_0) esd1.symm ?_
    refine A_icmp_le (tgt := 14) d_PM_cut_9 (by decide) (fun c4 => ?_) (fun c4 => ?_)
    · refine A_aload_n 0 d_PM_cut_14 rfl rfl ?_
      refine A_dupR d_PM_cut_15 ?_
      refine A_getIv (z := sd1) T_ok d_PM_cut_16 f_PM_13 (xi_s k0.1 sf_0) esd1.symm ?_
      refine A_iload_n 1 d_PM_cut_19 rfl rfl ?_
      refine A_isubv (z := (sd1 - a1)) d_PM_cut_20 (w32_to (by omega) (by unfold i32; omega)) ?_
      refine A_pc (pc' := 21) rfl ?_
      refine A_putIk (KR := kF FA s h) T_ok d_PM_cut_21 f_PM_13 (xi_s k0.1 sf_0) fin_f (kF_j k0 (by decide) (ns_b rfl) rgf_0_1 (by omega) (by omega)) (fun h6 k7 eh6 => ?_)
      refine A_aload_n 0 d_PM_cut_24 rfl rfl ?_
      refine A_getIv (z := (sd1 - a1)) T_ok d_PM_cut_25 f_PM_13 (xi_s k7.1 sf_0) eh6.2.1 ?_
      exact A_iret d_PM_cut_28 (by decide) rfl ⟨_, rfl, ⟨by omega, by omega⟩, (by have qq0 := eh6.2.1; omega), k7⟩
    · refine A_iconst d_PM_cut_12 rfl ?_
      exact A_iret d_PM_cut_13 (by decide) rfl ⟨_, rfl, ⟨by omega, by omega⟩, (by have qq0 := esd1.symm; omega), k0⟩
theorem s_PM_forgetFindings {G : cx_T} {s : Nat} {h : ah_T} (hx : xi s h)   : con G 1 0 0 m_PM_forgetFindings [av_R (some 0)] h (fun r h' => r = none ∧ kF FC s h h') := by
  refine con_of (L := [some (av_R (some 0))]) (by decide +kernel) (Nat.le_of_ble_eq_true rfl) rfl ?_
  have hS : isS s := hx.2.1
  have hs0 : s = 17 ∨ s = 80 := hS
  have hs0b : 17 ≤ s ∧ s ≤ 80 := by omega
  have k0 : kF FC s h h := kF_0 hx
  refine A_aload_n 0 d_PM_forgetFindings_0 rfl rfl ?_
  refine A_getOv (z := some 143) T_ok d_PM_forgetFindings_1 f_PM_37 (xi_s k0.1 sf_0) (xi_r k0.1 rff_0_5) ?_
  refine A_callV0 m_Judge_forget T_ok d_PM_forgetFindings_4 l_PM_96 k_Judge_forget (xi_s k0.1 sf_143) rfl (by decide +kernel) (by decide) (Nat.le_of_ble_eq_true rfl) (s_Judge_forget k0.1 ) (fun r h2 hq => ?_)
  obtain ⟨rfl, k3⟩ := hq
  have k4 := kF_t k0 k3 (fun _ q => q)
  refine A_aload_n 0 d_PM_forgetFindings_7 rfl rfl ?_
  refine A_getOv (z := some 146) T_ok d_PM_forgetFindings_8 f_PM_44 (xi_s k4.1 sf_0) (xi_r k4.1 rff_0_6) ?_
  refine A_callV0 m_Beams_forget T_ok d_PM_forgetFindings_11 l_PM_99 k_Beams_forget (xi_s k4.1 sf_146) rfl (by decide +kernel) (by decide) (Nat.le_of_ble_eq_true rfl) (s_Beams_forget k4.1 ) (fun r h6 hq => ?_)
  obtain ⟨rfl, k7⟩ := hq
  have k8 := kF_t k4 k7 (fun _ q => q)
  refine A_aload_n 0 d_PM_forgetFindings_14 rfl rfl ?_
  refine A_getOv (z := some 150) T_ok d_PM_forgetFindings_15 f_PM_51 (xi_s k8.1 sf_0) (xi_r k8.1 rff_0_7) ?_
  refine A_callV0 m_Page_forget T_ok d_PM_forgetFindings_18 l_PM_100 k_Page_forget (xi_s k8.1 sf_150) rfl (by decide +kernel) (by decide) (Nat.le_of_ble_eq_true rfl) (s_Page_forget k8.1 ) (fun r h10 hq => ?_)
  obtain ⟨rfl, k11⟩ := hq
  have k12 := kF_t k8 k11 (fun _ q => q)
  refine A_aload_n 0 d_PM_forgetFindings_21 rfl rfl ?_
  refine A_getOv (z := some 158) T_ok d_PM_forgetFindings_22 f_PM_58 (xi_s k12.1 sf_0) (xi_r k12.1 rff_0_8) ?_
  refine A_callV0 m_Seconds_forget T_ok d_PM_forgetFindings_25 l_PM_101 k_Seconds_forget (xi_s k12.1 sf_158) rfl (by decide +kernel) (by decide) (Nat.le_of_ble_eq_true rfl) (s_Seconds_forget k12.1 ) (fun r h14 hq => ?_)
  obtain ⟨rfl, k15⟩ := hq
  have k16 := kF_t k12 k15 (fun _ q => q)
  refine A_aload_n 0 d_PM_forgetFindings_28 rfl rfl ?_
  refine A_getOv (z := some 162) T_ok d_PM_forgetFindings_29 f_PM_65 (xi_s k16.1 sf_0) (xi_r k16.1 rff_0_9) ?_
  refine A_callV0 m_Trees_forget T_ok d_PM_forgetFindings_32 l_PM_102 k_Trees_forget (xi_s k16.1 sf_162) rfl (by decide +kernel) (by decide) (Nat.le_of_ble_eq_true rfl) (s_Trees_forget k16.1 ) (fun r h18 hq => ?_)
  obtain ⟨rfl, k19⟩ := hq
  have k20 := kF_t k16 k19 (fun _ q => q)
  refine A_aload_n 0 d_PM_forgetFindings_35 rfl rfl ?_
  refine A_getOv (z := some 164) T_ok d_PM_forgetFindings_36 f_PM_72 (xi_s k20.1 sf_0) (xi_r k20.1 rff_0_10) ?_
  refine A_callV0 m_Pairing_forget T_ok d_PM_forgetFindings_39 l_PM_103 k_Pairing_forget (xi_s k20.1 sf_164) rfl (by decide +kernel) (by decide) (Nat.le_of_ble_eq_true rfl) (s_Pairing_forget k20.1 ) (fun r h22 hq => ?_)
  obtain ⟨rfl, k23⟩ := hq
  have k24 := kF_t k20 k23 (fun _ q => q)
  exact A_vret d_PM_forgetFindings_42 (by decide) rfl ⟨rfl, k24⟩
theorem s_PM_place {G : cx_T} {s : Nat} {h : ah_T} (hx : xi s h)   : con G 0 0 0 m_PM_place [av_R (some 0)] h (fun r h' => ∃ z, r = some (av_I z) ∧ ((-2147483648) ≤ z ∧ z ≤ 2147483647) ∧ h = h') := by
  refine con_of (L := [some (av_R (some 0))]) (by decide +kernel) (Nat.le_of_ble_eq_true rfl) rfl ?_
  have hS : isS s := hx.2.1
  have hs0 : s = 17 ∨ s = 80 := hS
  have hs0b : 17 ≤ s ∧ s ≤ 80 := by omega
  refine A_aload_n 0 d_PM_place_0 rfl rfl ?_
  refine A_getIf T_ok d_PM_place_1 f_PM_31 (xi_s hx sf_0) (fun x1 ex1 _ _ => ?_)
  exact A_iret d_PM_place_4 (by decide) rfl ⟨_, rfl, ⟨by omega, by omega⟩, rfl⟩
theorem s_PM_told {G : cx_T} {s : Nat} {h : ah_T} (hx : xi s h) {a1 : Int}  : con G 2 0 0 m_PM_told [av_R (some 0), av_I a1] h (fun r h' => ∃ z, r = some (av_I z) ∧ ((-2147483648) ≤ z ∧ z ≤ 2147483647) ∧ h = h') := by
  refine con_of (L := [some (av_R (some 0)), some (av_I a1)]) (by decide +kernel) (Nat.le_of_ble_eq_true rfl) rfl ?_
  have hS : isS s := hx.2.1
  have hs0 : s = 17 ∨ s = 80 := hS
  have hs0b : 17 ≤ s ∧ s ≤ 80 := by omega
  refine A_locI 1 rfl (fun ra => ?_)
  obtain ⟨_, _⟩ := ra
  refine A_iload_n 1 d_PM_told_0 rfl rfl ?_
  rcases (by omega : a1 < 0 ∨ a1 = 0 ∨ a1 = 1 ∨ a1 = 2 ∨ a1 = 3 ∨ a1 = 4 ∨ a1 = 5 ∨ a1 = 6 ∨ 6 < a1) with c1 | c1 | c1 | c1 | c1 | c1 | c1 | c1 | c1
  · refine A_tabOut (tgt := 100) d_PM_told_1 (by omega) (by decide) ?_
    refine A_iconst d_PM_told_100 rfl ?_
    exact A_iret d_PM_told_101 (by decide) rfl ⟨_, rfl, ⟨by omega, by omega⟩, rfl⟩
  · refine A_tabIn (tgt := 44) d_PM_told_1 (by omega) (by omega) (by rw [c1]; rfl) (by decide) ?_
    refine A_aload_n 0 d_PM_told_44 rfl rfl ?_
    refine A_getOv (z := some (97 - s)) T_ok d_PM_told_45 f_PM_27 (xi_s hx sf_0) hx.2.2.1 ?_
    refine A_getIn (lo := 0) (hi := 4) T_ok d_PM_told_48 f_PM_104 (xs_S hx (isS_o hS)) (xi_g hx (lt1_S (isS_o hS)) (rg_S_1 (isS_o hS))) (fun x3 ex3 _ _ => ?_)
    exact A_iret d_PM_told_51 (by decide) rfl ⟨_, rfl, ⟨by omega, by omega⟩, rfl⟩
  · refine A_tabIn (tgt := 52) d_PM_told_1 (by omega) (by omega) (by rw [c1]; rfl) (by decide) ?_
    refine A_aload_n 0 d_PM_told_52 rfl rfl ?_
    refine A_getOv (z := some (97 - s)) T_ok d_PM_told_53 f_PM_27 (xi_s hx sf_0) hx.2.2.1 ?_
    refine A_getIn (lo := 0) (hi := 8) T_ok d_PM_told_56 f_PM_107 (xs_S hx (isS_o hS)) (xi_g hx (lt1_S (isS_o hS)) (rg_S_6 (isS_o hS))) (fun x5 ex5 _ _ => ?_)
    exact A_iret d_PM_told_59 (by decide) rfl ⟨_, rfl, ⟨by omega, by omega⟩, rfl⟩
  · refine A_tabIn (tgt := 60) d_PM_told_1 (by omega) (by omega) (by rw [c1]; rfl) (by decide) ?_
    refine A_aload_n 0 d_PM_told_60 rfl rfl ?_
    refine A_getOv (z := some (97 - s)) T_ok d_PM_told_61 f_PM_27 (xi_s hx sf_0) hx.2.2.1 ?_
    refine A_getIn (lo := 0) (hi := 24) T_ok d_PM_told_64 f_PM_110 (xs_S hx (isS_o hS)) (xi_g hx (lt1_S (isS_o hS)) (rg_S_10 (isS_o hS))) (fun x7 ex7 _ _ => ?_)
    exact A_iret d_PM_told_67 (by decide) rfl ⟨_, rfl, ⟨by omega, by omega⟩, rfl⟩
  · refine A_tabIn (tgt := 68) d_PM_told_1 (by omega) (by omega) (by rw [c1]; rfl) (by decide) ?_
    refine A_aload_n 0 d_PM_told_68 rfl rfl ?_
    refine A_getOv (z := some (97 - s)) T_ok d_PM_told_69 f_PM_27 (xi_s hx sf_0) hx.2.2.1 ?_
    refine A_getIn (lo := 0) (hi := 12) T_ok d_PM_told_72 f_PM_113 (xs_S hx (isS_o hS)) (xi_g hx (lt1_S (isS_o hS)) (rg_S_12 (isS_o hS))) (fun x9 ex9 _ _ => ?_)
    exact A_iret d_PM_told_75 (by decide) rfl ⟨_, rfl, ⟨by omega, by omega⟩, rfl⟩
  · refine A_tabIn (tgt := 76) d_PM_told_1 (by omega) (by omega) (by rw [c1]; rfl) (by decide) ?_
    refine A_aload_n 0 d_PM_told_76 rfl rfl ?_
    refine A_getOv (z := some (97 - s)) T_ok d_PM_told_77 f_PM_27 (xi_s hx sf_0) hx.2.2.1 ?_
    refine A_callV0 m_Score_mostBars T_ok d_PM_told_80 l_PM_116 k_Score_mostBars (xs_S hx (isS_o hS)) rfl (by decide +kernel) (by decide) (Nat.le_of_ble_eq_true rfl) (s_Score_mostBars hx (isS_o hS)) (fun r h11 hq => ?_)
    obtain ⟨x13, rfl, ⟨_, _⟩, rfl⟩ := hq
    exact A_iret d_PM_told_83 (by decide) rfl ⟨_, rfl, ⟨by omega, by omega⟩, rfl⟩
  · refine A_tabIn (tgt := 84) d_PM_told_1 (by omega) (by omega) (by rw [c1]; rfl) (by decide) ?_
    refine A_aload_n 0 d_PM_told_84 rfl rfl ?_
    refine A_getOv (z := some (97 - s)) T_ok d_PM_told_85 f_PM_27 (xi_s hx sf_0) hx.2.2.1 ?_
    refine A_getIf T_ok d_PM_told_88 f_PM_119 (xs_S hx (isS_o hS)) (fun x15 ex15 _ _ => ?_)
    exact A_iret d_PM_told_91 (by decide) rfl ⟨_, rfl, ⟨by omega, by omega⟩, rfl⟩
  · refine A_tabIn (tgt := 92) d_PM_told_1 (by omega) (by omega) (by rw [c1]; rfl) (by decide) ?_
    refine A_aload_n 0 d_PM_told_92 rfl rfl ?_
    refine A_getOv (z := some (97 - s)) T_ok d_PM_told_93 f_PM_27 (xi_s hx sf_0) hx.2.2.1 ?_
    refine A_getIf T_ok d_PM_told_96 f_PM_122 (xs_S hx (isS_o hS)) (fun x17 ex17 _ _ => ?_)
    exact A_iret d_PM_told_99 (by decide) rfl ⟨_, rfl, ⟨by omega, by omega⟩, rfl⟩
  · refine A_tabOut (tgt := 100) d_PM_told_1 (by omega) (by decide) ?_
    refine A_iconst d_PM_told_100 rfl ?_
    exact A_iret d_PM_told_101 (by decide) rfl ⟨_, rfl, ⟨by omega, by omega⟩, rfl⟩
theorem s_PM_count {G : cx_T} {s : Nat} {h : ah_T} (hx : xi s h) {a1 : Int} {a2 : Int}  : con G 1 0 0 m_PM_count [av_R (some 0), av_I a1, av_I a2] h (fun r h' => ∃ z, r = some (av_I z) ∧ ((-2147483648) ≤ z ∧ z ≤ 2147483647) ∧ h = h') := by
  refine con_of (L := [some (av_R (some 0)), some (av_I a1), some (av_I a2), none]) (by decide +kernel) (Nat.le_of_ble_eq_true rfl) rfl ?_
  have hS : isS s := hx.2.1
  have hs0 : s = 17 ∨ s = 80 := hS
  have hs0b : 17 ≤ s ∧ s ≤ 80 := by omega
  refine A_locI 1 rfl (fun ra => ?_)
  obtain ⟨_, _⟩ := ra
  refine A_locI 2 rfl (fun ra => ?_)
  obtain ⟨_, _⟩ := ra
  refine A_aload_n 0 d_PM_count_0 rfl rfl ?_
  refine A_getOv (z := some (97 - s)) T_ok d_PM_count_1 f_PM_27 (xi_s hx sf_0) hx.2.2.1 ?_
  refine A_iload_n 1 d_PM_count_4 rfl rfl ?_
  refine A_callV1 m_Score_voiceAt T_ok d_PM_count_5 l_PM_125 k_Score_voiceAt (xs_S hx (isS_o hS)) rfl (by decide +kernel) (by decide) (Nat.le_of_ble_eq_true rfl) (s_Score_voiceAt hx (isS_o hS)) (fun r h2 hq => ?_)
  obtain ⟨ox4, rfl, qx4, rfl⟩ := hq
  rcases qx4 with rfl | ⟨x4, rfl, tx4⟩
  · refine A_astore_n 3 (L' := [some (av_R (some 0)), some (av_I a1), some (av_I a2), some (av_R none)]) d_PM_count_8 rfl (Nat.le_of_ble_eq_true rfl) rfl ?_
    refine A_aload_n 3 d_PM_count_9 rfl rfl ?_
    refine A_ifnonnull (tgt := 15) d_PM_count_10 (by decide) (fun a q => by cases q) (fun _ => ?_)
    refine A_iconst d_PM_count_13 rfl ?_
    exact A_iret d_PM_count_14 (by decide) rfl ⟨_, rfl, ⟨by omega, by omega⟩, rfl⟩
  · refine A_astore_n 3 (L' := [some (av_R (some 0)), some (av_I a1), some (av_I a2), some (av_R (some x4))]) d_PM_count_8 rfl (Nat.le_of_ble_eq_true rfl) rfl ?_
    refine A_aload_n 3 d_PM_count_9 rfl rfl ?_
    refine A_ifnonnull (tgt := 15) d_PM_count_10 (by decide) (fun _ _ => ?_) (fun q => by cases q)
    refine A_iload_n 2 d_PM_count_15 rfl rfl ?_
    refine A_if_ne (tgt := 24) d_PM_count_16 (by decide) (fun c5 => ?_) (fun c5 => ?_)
    · refine A_iload_n 2 d_PM_count_24 rfl rfl ?_
      refine A_iconst d_PM_count_25 rfl ?_
      refine A_icmp_ne (tgt := 36) d_PM_count_26 (by decide) (fun c6 => ?_) (fun c6 => ?_)
      · refine A_iconst d_PM_count_36 rfl ?_
        exact A_iret d_PM_count_37 (by decide) rfl ⟨_, rfl, ⟨by omega, by omega⟩, rfl⟩
      · refine A_aload_n 3 d_PM_count_29 rfl rfl ?_
        refine A_getIn (lo := 0) (hi := 101) T_ok d_PM_count_30 f_PM_134 (xs_V hx (tV_V (isS_o hS) tx4)) (xi_g hx (lt1_V (tV_V (isS_o hS) tx4)) (rg_V_16 (tV_V (isS_o hS) tx4))) (fun x7 ex7 _ _ => ?_)
        refine A_goto (tgt := 37) d_PM_count_33 (by decide) ?_
        exact A_iret d_PM_count_37 (by decide) rfl ⟨_, rfl, ⟨by omega, by omega⟩, rfl⟩
    · refine A_aload_n 3 d_PM_count_19 rfl rfl ?_
      refine A_getIn (lo := 0) (hi := 300) T_ok d_PM_count_20 f_PM_129 (xs_V hx (tV_V (isS_o hS) tx4)) (xi_g hx (lt1_V (tV_V (isS_o hS) tx4)) (rg_V_14 (tV_V (isS_o hS) tx4))) (fun x8 ex8 _ _ => ?_)
      exact A_iret d_PM_count_23 (by decide) rfl ⟨_, rfl, ⟨by omega, by omega⟩, rfl⟩
theorem s_PM_event {G : cx_T} {s : Nat} {h : ah_T} (hx : xi s h) {a1 : Int} {a2 : Int} {a3 : Int}  : con G 2 0 0 m_PM_event [av_R (some 0), av_I a1, av_I a2, av_I a3] h (fun r h' => ∃ z, r = some (av_L z) ∧ ((-9223372036854775808) ≤ z ∧ z ≤ 9223372036854775807) ∧ h = h') := by
  refine con_of (L := [some (av_R (some 0)), some (av_I a1), some (av_I a2), some (av_I a3), none]) (by decide +kernel) (Nat.le_of_ble_eq_true rfl) rfl ?_
  have hS : isS s := hx.2.1
  have hs0 : s = 17 ∨ s = 80 := hS
  have hs0b : 17 ≤ s ∧ s ≤ 80 := by omega
  refine A_locI 1 rfl (fun ra => ?_)
  obtain ⟨_, _⟩ := ra
  refine A_locI 2 rfl (fun ra => ?_)
  obtain ⟨_, _⟩ := ra
  refine A_locI 3 rfl (fun ra => ?_)
  obtain ⟨_, _⟩ := ra
  refine A_aload_n 0 d_PM_event_0 rfl rfl ?_
  refine A_getOv (z := some (97 - s)) T_ok d_PM_event_1 f_PM_27 (xi_s hx sf_0) hx.2.2.1 ?_
  refine A_iload_n 1 d_PM_event_4 rfl rfl ?_
  refine A_callV1 m_Score_voiceAt T_ok d_PM_event_5 l_PM_125 k_Score_voiceAt (xs_S hx (isS_o hS)) rfl (by decide +kernel) (by decide) (Nat.le_of_ble_eq_true rfl) (s_Score_voiceAt hx (isS_o hS)) (fun r h2 hq => ?_)
  obtain ⟨ox4, rfl, qx4, rfl⟩ := hq
  rcases qx4 with rfl | ⟨x4, rfl, tx4⟩
  · refine A_astore (L' := [some (av_R (some 0)), some (av_I a1), some (av_I a2), some (av_I a3), some (av_R none)]) d_PM_event_8 (Nat.le_of_ble_eq_true rfl) rfl ?_
    refine A_aload d_PM_event_10 rfl ?_
    refine A_ifnull (tgt := 28) d_PM_event_12 (by decide) (fun _ => ?_) (fun a q => by cases q)
    refine A_ldc2 (z := 10000) d_PM_event_28 cst_PM_137 rfl ?_
    exact A_lret d_PM_event_31 (by decide) rfl ⟨_, rfl, ⟨by omega, by omega⟩, rfl⟩
  · refine A_astore (L' := [some (av_R (some 0)), some (av_I a1), some (av_I a2), some (av_I a3), some (av_R (some x4))]) d_PM_event_8 (Nat.le_of_ble_eq_true rfl) rfl ?_
    refine A_aload d_PM_event_10 rfl ?_
    refine A_ifnull (tgt := 28) d_PM_event_12 (by decide) (fun q => by cases q) (fun _ _ => ?_)
    refine A_iload_n 2 d_PM_event_15 rfl rfl ?_
    refine A_if_lt (tgt := 28) d_PM_event_16 (by decide) (fun c5 => ?_) (fun c5 => ?_)
    · refine A_ldc2 (z := 10000) d_PM_event_28 cst_PM_137 rfl ?_
      exact A_lret d_PM_event_31 (by decide) rfl ⟨_, rfl, ⟨by omega, by omega⟩, rfl⟩
    · refine A_iload_n 2 d_PM_event_19 rfl rfl ?_
      refine A_aload d_PM_event_20 rfl ?_
      refine A_getIn (lo := 0) (hi := 300) T_ok d_PM_event_22 f_PM_129 (xs_V hx (tV_V (isS_o hS) tx4)) (xi_g hx (lt1_V (tV_V (isS_o hS) tx4)) (rg_V_14 (tV_V (isS_o hS) tx4))) (fun x6 ex6 _ _ => ?_)
      refine A_icmp_lt (tgt := 32) d_PM_event_25 (by decide) (fun c7 => ?_) (fun c7 => ?_)
      · refine A_iload_n 3 d_PM_event_32 rfl rfl ?_
        refine A_if_lt (tgt := 49) d_PM_event_33 (by decide) (fun c8 => ?_) (fun c8 => ?_)
        · refine A_iload_n 3 d_PM_event_49 rfl rfl ?_
          refine A_iconst d_PM_event_50 rfl ?_
          refine A_icmp_lt (tgt := 69) d_PM_event_51 (by decide) (fun c9 => ?_) (fun c => False.elim (by omega))
          refine A_iload_n 3 d_PM_event_69 rfl rfl ?_
          refine A_bipush d_PM_event_70 rfl ?_
          refine A_icmp_lt (tgt := 106) d_PM_event_72 (by decide) (fun c10 => ?_) (fun c => False.elim (by omega))
          refine A_iload_n 3 d_PM_event_106 rfl rfl ?_
          refine A_bipush d_PM_event_107 rfl ?_
          refine A_icmp_lt (tgt := 143) d_PM_event_109 (by decide) (fun c11 => ?_) (fun c => False.elim (by omega))
          refine A_ldc2 (z := 10000) d_PM_event_143 cst_PM_137 rfl ?_
          exact A_lret d_PM_event_146 (by decide) rfl ⟨_, rfl, ⟨by omega, by omega⟩, rfl⟩
        · refine A_iload_n 3 d_PM_event_36 rfl rfl ?_
          refine A_iconst d_PM_event_37 rfl ?_
          refine A_icmp_gt (tgt := 49) d_PM_event_38 (by decide) (fun c12 => ?_) (fun c12 => ?_)
          · refine A_iload_n 3 d_PM_event_49 rfl rfl ?_
            refine A_iconst d_PM_event_50 rfl ?_
            refine A_icmp_lt (tgt := 69) d_PM_event_51 (by decide) (fun c => False.elim (by omega)) (fun c13 => ?_)
            refine A_iload_n 3 d_PM_event_54 rfl rfl ?_
            refine A_bipush d_PM_event_55 rfl ?_
            refine A_icmp_gt (tgt := 69) d_PM_event_57 (by decide) (fun c14 => ?_) (fun c14 => ?_)
            · refine A_iload_n 3 d_PM_event_69 rfl rfl ?_
              refine A_bipush d_PM_event_70 rfl ?_
              refine A_icmp_lt (tgt := 106) d_PM_event_72 (by decide) (fun c15 => ?_) (fun c15 => ?_)
              · refine A_iload_n 3 d_PM_event_106 rfl rfl ?_
                refine A_bipush d_PM_event_107 rfl ?_
                refine A_icmp_lt (tgt := 143) d_PM_event_109 (by decide) (fun c16 => ?_) (fun c => False.elim (by omega))
                refine A_ldc2 (z := 10000) d_PM_event_143 cst_PM_137 rfl ?_
                exact A_lret d_PM_event_146 (by decide) rfl ⟨_, rfl, ⟨by omega, by omega⟩, rfl⟩
              · refine A_iload_n 3 d_PM_event_75 rfl rfl ?_
                refine A_bipush d_PM_event_76 rfl ?_
                refine A_icmp_gt (tgt := 106) d_PM_event_78 (by decide) (fun c17 => ?_) (fun c17 => ?_)
                · refine A_iload_n 3 d_PM_event_106 rfl rfl ?_
                  refine A_bipush d_PM_event_107 rfl ?_
                  refine A_icmp_lt (tgt := 143) d_PM_event_109 (by decide) (fun c18 => ?_) (fun c18 => ?_)
                  · refine A_ldc2 (z := 10000) d_PM_event_143 cst_PM_137 rfl ?_
                    exact A_lret d_PM_event_146 (by decide) rfl ⟨_, rfl, ⟨by omega, by omega⟩, rfl⟩
                  · refine A_iload_n 3 d_PM_event_112 rfl rfl ?_
                    refine A_bipush d_PM_event_113 rfl ?_
                    refine A_icmp_gt (tgt := 143) d_PM_event_115 (by decide) (fun c19 => ?_) (fun c19 => ?_)
                    · refine A_ldc2 (z := 10000) d_PM_event_143 cst_PM_137 rfl ?_
                      exact A_lret d_PM_event_146 (by decide) rfl ⟨_, rfl, ⟨by omega, by omega⟩, rfl⟩
                    · refine A_iload_n 3 d_PM_event_118 rfl rfl ?_
                      refine A_bipush d_PM_event_119 rfl ?_
                      refine A_isubv (z := (a3 - 20)) d_PM_event_121 (w32_to (by omega) (by unfold i32; omega)) ?_
                      refine A_aload d_PM_event_122 rfl ?_
                      refine A_iload_n 2 d_PM_event_124 rfl rfl ?_
                      refine A_pc (pc' := 125) rfl ?_
                      refine A_callV1 m_Voice_pitchesOf T_ok d_PM_event_125 l_PM_147 k_Voice_pitchesOf (xs_V hx (tV_V (isS_o hS) tx4)) rfl (by decide +kernel) (by decide) (Nat.le_of_ble_eq_true rfl) (s_Voice_pitchesOf hx (tV_V (isS_o hS) tx4) (by omega) (by omega)) (fun r h20 hq => ?_)
                      obtain ⟨x22, rfl, ⟨_, _⟩, rfl⟩ := hq
                      refine A_icmp_ge (tgt := 143) d_PM_event_128 (by decide) (fun c23 => ?_) (fun c23 => ?_)
                      · refine A_ldc2 (z := 10000) d_PM_event_143 cst_PM_137 rfl ?_
                        exact A_lret d_PM_event_146 (by decide) rfl ⟨_, rfl, ⟨by omega, by omega⟩, rfl⟩
                      · refine A_aload d_PM_event_131 rfl ?_
                        refine A_iload_n 2 d_PM_event_133 rfl rfl ?_
                        refine A_iload_n 3 d_PM_event_134 rfl rfl ?_
                        refine A_bipush d_PM_event_135 rfl ?_
                        refine A_isubv (z := (a3 - 20)) d_PM_event_137 (w32_to (by omega) (by unfold i32; omega)) ?_
                        refine A_pc (pc' := 138) rfl ?_
                        refine A_callV2 m_Voice_stepOf T_ok d_PM_event_138 l_PM_154 k_Voice_stepOf (xs_V hx (tV_V (isS_o hS) tx4)) rfl (by decide +kernel) (by decide) (Nat.le_of_ble_eq_true rfl) (s_Voice_stepOf hx (tV_V (isS_o hS) tx4) (by omega) (by omega)) (fun r h24 hq => ?_)
                        obtain ⟨x26, rfl, ⟨_, _⟩, rfl⟩ := hq
                        refine A_i2l d_PM_event_141 ?_
                        exact A_lret d_PM_event_142 (by decide) rfl ⟨_, rfl, ⟨by omega, by omega⟩, rfl⟩
                · refine A_iload_n 3 d_PM_event_81 rfl rfl ?_
                  refine A_bipush d_PM_event_82 rfl ?_
                  refine A_isubv (z := (a3 - 10)) d_PM_event_84 (w32_to (by omega) (by unfold i32; omega)) ?_
                  refine A_aload d_PM_event_85 rfl ?_
                  refine A_iload_n 2 d_PM_event_87 rfl rfl ?_
                  refine A_pc (pc' := 88) rfl ?_
                  refine A_callV1 m_Voice_pitchesOf T_ok d_PM_event_88 l_PM_147 k_Voice_pitchesOf (xs_V hx (tV_V (isS_o hS) tx4)) rfl (by decide +kernel) (by decide) (Nat.le_of_ble_eq_true rfl) (s_Voice_pitchesOf hx (tV_V (isS_o hS) tx4) (by omega) (by omega)) (fun r h27 hq => ?_)
                  obtain ⟨x29, rfl, ⟨_, _⟩, rfl⟩ := hq
                  refine A_icmp_ge (tgt := 106) d_PM_event_91 (by decide) (fun c30 => ?_) (fun c30 => ?_)
                  · refine A_iload_n 3 d_PM_event_106 rfl rfl ?_
                    refine A_bipush d_PM_event_107 rfl ?_
                    refine A_icmp_lt (tgt := 143) d_PM_event_109 (by decide) (fun c31 => ?_) (fun c => False.elim (by omega))
                    refine A_ldc2 (z := 10000) d_PM_event_143 cst_PM_137 rfl ?_
                    exact A_lret d_PM_event_146 (by decide) rfl ⟨_, rfl, ⟨by omega, by omega⟩, rfl⟩
                  · refine A_aload d_PM_event_94 rfl ?_
                    refine A_iload_n 2 d_PM_event_96 rfl rfl ?_
                    refine A_iload_n 3 d_PM_event_97 rfl rfl ?_
                    refine A_bipush d_PM_event_98 rfl ?_
                    refine A_isubv (z := (a3 - 10)) d_PM_event_100 (w32_to (by omega) (by unfold i32; omega)) ?_
                    refine A_pc (pc' := 101) rfl ?_
                    refine A_callV2 m_Voice_keyOf T_ok d_PM_event_101 l_PM_151 k_Voice_keyOf (xs_V hx (tV_V (isS_o hS) tx4)) rfl (by decide +kernel) (by decide) (Nat.le_of_ble_eq_true rfl) (s_Voice_keyOf hx (tV_V (isS_o hS) tx4) (by omega) (by omega)) (fun r h32 hq => ?_)
                    obtain ⟨x34, rfl, ⟨_, _⟩, rfl⟩ := hq
                    refine A_i2l d_PM_event_104 ?_
                    exact A_lret d_PM_event_105 (by decide) rfl ⟨_, rfl, ⟨by omega, by omega⟩, rfl⟩
            · refine A_aload d_PM_event_60 rfl ?_
              refine A_iload_n 2 d_PM_event_62 rfl rfl ?_
              refine A_iload_n 3 d_PM_event_63 rfl rfl ?_
              refine A_callV2 m_Voice_writingOf T_ok d_PM_event_64 l_PM_143 k_Voice_writingOf (xs_V hx (tV_V (isS_o hS) tx4)) rfl (by decide +kernel) (by decide) (Nat.le_of_ble_eq_true rfl) (s_Voice_writingOf hx (tV_V (isS_o hS) tx4) (by omega) (by omega)) (fun r h35 hq => ?_)
              obtain ⟨x37, rfl, ⟨_, _⟩, rfl⟩ := hq
              refine A_i2l d_PM_event_67 ?_
              exact A_lret d_PM_event_68 (by decide) rfl ⟨_, rfl, ⟨by omega, by omega⟩, rfl⟩
          · refine A_aload d_PM_event_41 rfl ?_
            refine A_iload_n 2 d_PM_event_43 rfl rfl ?_
            refine A_iload_n 3 d_PM_event_44 rfl rfl ?_
            refine A_callV2 m_Voice_timeOf T_ok d_PM_event_45 l_PM_139 k_Voice_timeOf (xs_V hx (tV_V (isS_o hS) tx4)) rfl (by decide +kernel) (by decide) (Nat.le_of_ble_eq_true rfl) (s_Voice_timeOf hx (tV_V (isS_o hS) tx4) (by omega) (by omega)) (fun r h38 hq => ?_)
            obtain ⟨x40, rfl, ⟨_, _⟩, rfl⟩ := hq
            exact A_lret d_PM_event_48 (by decide) rfl ⟨_, rfl, ⟨by omega, by omega⟩, rfl⟩
      · refine A_ldc2 (z := 10000) d_PM_event_28 cst_PM_137 rfl ?_
        exact A_lret d_PM_event_31 (by decide) rfl ⟨_, rfl, ⟨by omega, by omega⟩, rfl⟩
theorem s_PM_judge {G : cx_T} {s : Nat} {h : ah_T} (hx : xi s h)   : con G 6 0 0 m_PM_judge [av_R (some 0)] h (fun r h' => ∃ z, r = some (av_I z) ∧ ((-2147483648) ≤ z ∧ z ≤ 2147483647) ∧ kF FC s h h') := by
  refine con_of (L := [some (av_R (some 0))]) (by decide +kernel) (Nat.le_of_ble_eq_true rfl) rfl ?_
  have hS : isS s := hx.2.1
  have hs0 : s = 17 ∨ s = 80 := hS
  have hs0b : 17 ≤ s ∧ s ≤ 80 := by omega
  have k0 : kF FC s h h := kF_0 hx
  refine A_aload_n 0 d_PM_judge_0 rfl rfl ?_
  refine A_getOv (z := some 143) T_ok d_PM_judge_1 f_PM_37 (xi_s k0.1 sf_0) (xi_r k0.1 rff_0_5) ?_
  refine A_aload_n 0 d_PM_judge_4 rfl rfl ?_
  refine A_getOv (z := some (97 - s)) T_ok d_PM_judge_5 f_PM_27 (xi_s k0.1 sf_0) k0.1.2.2.1 ?_
  refine A_callV1 m_Judge_hear T_ok d_PM_judge_8 l_PM_157 k_Judge_hear (xi_s k0.1 sf_143) rfl (by decide +kernel) (by decide) (Nat.le_of_ble_eq_true rfl) (s_Judge_hear k0.1 (isS_o hS)) (fun r h3 hq => ?_)
  obtain ⟨x5, rfl, ⟨_, _⟩, k4⟩ := hq
  have k6 := kF_t k0 k4 (fun _ q => q)
  exact A_iret d_PM_judge_11 (by decide) rfl ⟨_, rfl, ⟨by omega, by omega⟩, k6⟩
theorem s_PM_fault {G : cx_T} {s : Nat} {h : ah_T} (hx : xi s h) {a1 : Int} {a2 : Int}  : con G 1 0 0 m_PM_fault [av_R (some 0), av_I a1, av_I a2] h (fun r h' => ∃ z, r = some (av_I z) ∧ ((-2147483648) ≤ z ∧ z ≤ 2147483647) ∧ h = h') := by
  refine con_of (L := [some (av_R (some 0)), some (av_I a1), some (av_I a2)]) (by decide +kernel) (Nat.le_of_ble_eq_true rfl) rfl ?_
  have hS : isS s := hx.2.1
  have hs0 : s = 17 ∨ s = 80 := hS
  have hs0b : 17 ≤ s ∧ s ≤ 80 := by omega
  refine A_locI 1 rfl (fun ra => ?_)
  obtain ⟨_, _⟩ := ra
  refine A_locI 2 rfl (fun ra => ?_)
  obtain ⟨_, _⟩ := ra
  refine A_aload_n 0 d_PM_fault_0 rfl rfl ?_
  refine A_getOv (z := some 143) T_ok d_PM_fault_1 f_PM_37 (xi_s hx sf_0) (xi_r hx rff_0_5) ?_
  refine A_iload_n 1 d_PM_fault_4 rfl rfl ?_
  refine A_iload_n 2 d_PM_fault_5 rfl rfl ?_
  refine A_callV2 m_Judge_detailOf T_ok d_PM_fault_6 l_PM_161 k_Judge_detailOf (xi_s hx sf_143) rfl (by decide +kernel) (by decide) (Nat.le_of_ble_eq_true rfl) (s_Judge_detailOf hx ) (fun r h2 hq => ?_)
  obtain ⟨x4, rfl, ⟨_, _⟩, rfl⟩ := hq
  exact A_iret d_PM_fault_9 (by decide) rfl ⟨_, rfl, ⟨by omega, by omega⟩, rfl⟩
theorem s_PM_beam {G : cx_T} {s : Nat} {h : ah_T} (hx : xi s h) {a1 : Int} {a2 : Int}  : con G 5 0 0 m_PM_beam [av_R (some 0), av_I a1, av_I a2] h (fun r h' => ∃ z, r = some (av_I z) ∧ ((-2147483648) ≤ z ∧ z ≤ 2147483647) ∧ kF FC s h h') := by
  refine con_of (L := [some (av_R (some 0)), some (av_I a1), some (av_I a2), none]) (by decide +kernel) (Nat.le_of_ble_eq_true rfl) rfl ?_
  have hS : isS s := hx.2.1
  have hs0 : s = 17 ∨ s = 80 := hS
  have hs0b : 17 ≤ s ∧ s ≤ 80 := by omega
  have k0 : kF FC s h h := kF_0 hx
  refine A_locI 1 rfl (fun ra => ?_)
  obtain ⟨_, _⟩ := ra
  refine A_locI 2 rfl (fun ra => ?_)
  obtain ⟨_, _⟩ := ra
  refine A_aload_n 0 d_PM_beam_0 rfl rfl ?_
  refine A_getOv (z := some (97 - s)) T_ok d_PM_beam_1 f_PM_27 (xi_s k0.1 sf_0) k0.1.2.2.1 ?_
  refine A_iload_n 1 d_PM_beam_4 rfl rfl ?_
  refine A_callV1 m_Score_voiceAt T_ok d_PM_beam_5 l_PM_125 k_Score_voiceAt (xs_S k0.1 (isS_o hS)) rfl (by decide +kernel) (by decide) (Nat.le_of_ble_eq_true rfl) (s_Score_voiceAt k0.1 (isS_o hS)) (fun r h2 hq => ?_)
  obtain ⟨ox4, rfl, qx4, rfl⟩ := hq
  rcases qx4 with rfl | ⟨x4, rfl, tx4⟩
  · refine A_astore_n 3 (L' := [some (av_R (some 0)), some (av_I a1), some (av_I a2), some (av_R none)]) d_PM_beam_8 rfl (Nat.le_of_ble_eq_true rfl) rfl ?_
    refine A_aload_n 3 d_PM_beam_9 rfl rfl ?_
    refine A_ifnull (tgt := 25) d_PM_beam_10 (by decide) (fun _ => ?_) (fun a q => by cases q)
    refine A_iconst d_PM_beam_25 rfl ?_
    exact A_iret d_PM_beam_26 (by decide) rfl ⟨_, rfl, ⟨by omega, by omega⟩, k0⟩
  · refine A_astore_n 3 (L' := [some (av_R (some 0)), some (av_I a1), some (av_I a2), some (av_R (some x4))]) d_PM_beam_8 rfl (Nat.le_of_ble_eq_true rfl) rfl ?_
    refine A_aload_n 3 d_PM_beam_9 rfl rfl ?_
    refine A_ifnull (tgt := 25) d_PM_beam_10 (by decide) (fun q => by cases q) (fun _ _ => ?_)
    refine A_iload_n 2 d_PM_beam_13 rfl rfl ?_
    refine A_if_lt (tgt := 25) d_PM_beam_14 (by decide) (fun c5 => ?_) (fun c5 => ?_)
    · refine A_iconst d_PM_beam_25 rfl ?_
      exact A_iret d_PM_beam_26 (by decide) rfl ⟨_, rfl, ⟨by omega, by omega⟩, k0⟩
    · refine A_iload_n 2 d_PM_beam_17 rfl rfl ?_
      refine A_aload_n 3 d_PM_beam_18 rfl rfl ?_
      refine A_getIn (lo := 0) (hi := 101) T_ok d_PM_beam_19 f_PM_134 (xs_V k0.1 (tV_V (isS_o hS) tx4)) (xi_g k0.1 (lt1_V (tV_V (isS_o hS) tx4)) (rg_V_16 (tV_V (isS_o hS) tx4))) (fun x6 ex6 _ _ => ?_)
      refine A_icmp_lt (tgt := 27) d_PM_beam_22 (by decide) (fun c7 => ?_) (fun c7 => ?_)
      · refine A_aload_n 0 d_PM_beam_27 rfl rfl ?_
        refine A_getOv (z := some 146) T_ok d_PM_beam_28 f_PM_44 (xi_s k0.1 sf_0) (xi_r k0.1 rff_0_6) ?_
        refine A_aload_n 3 d_PM_beam_31 rfl rfl ?_
        refine A_iload_n 2 d_PM_beam_32 rfl rfl ?_
        refine A_aload_n 0 d_PM_beam_33 rfl rfl ?_
        refine A_pc (pc' := 34) rfl ?_
        refine A_getOv (z := some (97 - s)) T_ok d_PM_beam_34 f_PM_27 (xi_s k0.1 sf_0) k0.1.2.2.1 ?_
        refine A_getIf T_ok d_PM_beam_37 f_PM_122 (xs_S k0.1 (isS_o hS)) (fun x10 ex10 _ _ => ?_)
        refine A_callV3 m_Beams_find T_ok d_PM_beam_40 l_PM_164 k_Beams_find (xi_s k0.1 sf_146) rfl (by decide +kernel) (by decide) (Nat.le_of_ble_eq_true rfl) (s_Beams_find k0.1 (tV_V (isS_o hS) tx4) (by omega) (by omega)) (fun r h11 hq => ?_)
        obtain ⟨x13, rfl, ⟨_, _⟩, k12⟩ := hq
        have k14 := kF_t k0 k12 (fun _ q => q)
        exact A_iret d_PM_beam_43 (by decide) rfl ⟨_, rfl, ⟨by omega, by omega⟩, k14⟩
      · refine A_iconst d_PM_beam_25 rfl ?_
        exact A_iret d_PM_beam_26 (by decide) rfl ⟨_, rfl, ⟨by omega, by omega⟩, k0⟩
theorem s_PM_group {G : cx_T} {s : Nat} {h : ah_T} (hx : xi s h) {a1 : Int}  : con G 1 0 0 m_PM_group [av_R (some 0), av_I a1] h (fun r h' => ∃ z, r = some (av_I z) ∧ ((-2147483648) ≤ z ∧ z ≤ 2147483647) ∧ h = h') := by
  refine con_of (L := [some (av_R (some 0)), some (av_I a1)]) (by decide +kernel) (Nat.le_of_ble_eq_true rfl) rfl ?_
  have hS : isS s := hx.2.1
  have hs0 : s = 17 ∨ s = 80 := hS
  have hs0b : 17 ≤ s ∧ s ≤ 80 := by omega
  refine A_locI 1 rfl (fun ra => ?_)
  obtain ⟨_, _⟩ := ra
  refine A_aload_n 0 d_PM_group_0 rfl rfl ?_
  refine A_getOv (z := some 146) T_ok d_PM_group_1 f_PM_44 (xi_s hx sf_0) (xi_r hx rff_0_6) ?_
  refine A_iload_n 1 d_PM_group_4 rfl rfl ?_
  refine A_callV1 m_Beams_eventsIn T_ok d_PM_group_5 l_PM_168 k_Beams_eventsIn (xi_s hx sf_146) rfl (by decide +kernel) (by decide) (Nat.le_of_ble_eq_true rfl) (s_Beams_eventsIn hx ) (fun r h2 hq => ?_)
  obtain ⟨x4, rfl, ⟨_, _⟩, rfl⟩ := hq
  exact A_iret d_PM_group_8 (by decide) rfl ⟨_, rfl, ⟨by omega, by omega⟩, rfl⟩
theorem s_PM_breaks {G : cx_T} {s : Nat} {h : ah_T} (hx : xi s h) {a1 : Int}  : con G 6 0 0 m_PM_breaks [av_R (some 0), av_I a1] h (fun r h' => ∃ z, r = some (av_I z) ∧ ((-2147483648) ≤ z ∧ z ≤ 2147483647) ∧ kF FC s h h') := by
  refine con_of (L := [some (av_R (some 0)), some (av_I a1)]) (by decide +kernel) (Nat.le_of_ble_eq_true rfl) rfl ?_
  have hS : isS s := hx.2.1
  have hs0 : s = 17 ∨ s = 80 := hS
  have hs0b : 17 ≤ s ∧ s ≤ 80 := by omega
  have k0 : kF FC s h h := kF_0 hx
  refine A_locI 1 rfl (fun ra => ?_)
  obtain ⟨_, _⟩ := ra
  refine A_iload_n 1 d_PM_breaks_0 rfl rfl ?_
  refine A_iconst d_PM_breaks_1 rfl ?_
  refine A_icmp_lt (tgt := 12) d_PM_breaks_2 (by decide) (fun c1 => ?_) (fun c1 => ?_)
  · refine A_iconst d_PM_breaks_12 rfl ?_
    exact A_iret d_PM_breaks_13 (by decide) rfl ⟨_, rfl, ⟨by omega, by omega⟩, k0⟩
  · refine A_iload_n 1 d_PM_breaks_5 rfl rfl ?_
    refine A_sipush d_PM_breaks_6 rfl ?_
    refine A_icmp_le (tgt := 14) d_PM_breaks_9 (by decide) (fun c2 => ?_) (fun c2 => ?_)
    · refine A_aload_n 0 d_PM_breaks_14 rfl rfl ?_
      refine A_getOv (z := some (97 - s)) T_ok d_PM_breaks_15 f_PM_27 (xi_s k0.1 sf_0) k0.1.2.2.1 ?_
      refine A_getIn (lo := 0) (hi := 4) T_ok d_PM_breaks_18 f_PM_104 (xs_S k0.1 (isS_o hS)) (xi_g k0.1 (lt1_S (isS_o hS)) (rg_S_1 (isS_o hS))) (fun x4 ex4 _ _ => ?_)
      refine A_if_ne (tgt := 27) d_PM_breaks_21 (by decide) (fun c5 => ?_) (fun c5 => ?_)
      · refine A_aload_n 0 d_PM_breaks_27 rfl rfl ?_
        refine A_getOv (z := some 150) T_ok d_PM_breaks_28 f_PM_51 (xi_s k0.1 sf_0) (xi_r k0.1 rff_0_7) ?_
        refine A_aload_n 0 d_PM_breaks_31 rfl rfl ?_
        refine A_getOv (z := some (97 - s)) T_ok d_PM_breaks_32 f_PM_27 (xi_s k0.1 sf_0) k0.1.2.2.1 ?_
        refine A_iload_n 1 d_PM_breaks_35 rfl rfl ?_
        refine A_pc (pc' := 36) rfl ?_
        refine A_callV2 m_Page_find T_ok d_PM_breaks_36 l_PM_171 k_Page_find (xi_s k0.1 sf_150) rfl (by decide +kernel) (by decide) (Nat.le_of_ble_eq_true rfl) (s_Page_find k0.1 (isS_o hS)) (fun r h8 hq => ?_)
        obtain ⟨x10, rfl, ⟨_, _⟩, k9⟩ := hq
        have k11 := kF_t k0 k9 (fun _ q => q)
        exact A_iret d_PM_breaks_39 (by decide) rfl ⟨_, rfl, ⟨by omega, by omega⟩, k11⟩
      · refine A_bipush d_PM_breaks_24 rfl ?_
        exact A_iret d_PM_breaks_26 (by decide) rfl ⟨_, rfl, ⟨by omega, by omega⟩, k0⟩
    · refine A_iconst d_PM_breaks_12 rfl ?_
      exact A_iret d_PM_breaks_13 (by decide) rfl ⟨_, rfl, ⟨by omega, by omega⟩, k0⟩
theorem s_PM_line {G : cx_T} {s : Nat} {h : ah_T} (hx : xi s h) {a1 : Int}  : con G 1 0 0 m_PM_line [av_R (some 0), av_I a1] h (fun r h' => ∃ z, r = some (av_I z) ∧ ((-2147483648) ≤ z ∧ z ≤ 2147483647) ∧ h = h') := by
  refine con_of (L := [some (av_R (some 0)), some (av_I a1)]) (by decide +kernel) (Nat.le_of_ble_eq_true rfl) rfl ?_
  have hS : isS s := hx.2.1
  have hs0 : s = 17 ∨ s = 80 := hS
  have hs0b : 17 ≤ s ∧ s ≤ 80 := by omega
  refine A_locI 1 rfl (fun ra => ?_)
  obtain ⟨_, _⟩ := ra
  refine A_aload_n 0 d_PM_line_0 rfl rfl ?_
  refine A_getOv (z := some 150) T_ok d_PM_line_1 f_PM_51 (xi_s hx sf_0) (xi_r hx rff_0_7) ?_
  refine A_iload_n 1 d_PM_line_4 rfl rfl ?_
  refine A_callV1 m_Page_barsIn T_ok d_PM_line_5 l_PM_174 k_Page_barsIn (xi_s hx sf_150) rfl (by decide +kernel) (by decide) (Nat.le_of_ble_eq_true rfl) (s_Page_barsIn hx ) (fun r h2 hq => ?_)
  obtain ⟨x4, rfl, ⟨_, _⟩, rfl⟩ := hq
  exact A_iret d_PM_line_8 (by decide) rfl ⟨_, rfl, ⟨by omega, by omega⟩, rfl⟩
theorem s_PM_width {G : cx_T} {s : Nat} {h : ah_T} (hx : xi s h) {a1 : Int}  : con G 5 0 0 m_PM_width [av_R (some 0), av_I a1] h (fun r h' => ∃ z, r = some (av_I z) ∧ ((-2147483648) ≤ z ∧ z ≤ 2147483647) ∧ kF FC s h h') := by
  refine con_of (L := [some (av_R (some 0)), some (av_I a1)]) (by decide +kernel) (Nat.le_of_ble_eq_true rfl) rfl ?_
  have hS : isS s := hx.2.1
  have hs0 : s = 17 ∨ s = 80 := hS
  have hs0b : 17 ≤ s ∧ s ≤ 80 := by omega
  have k0 : kF FC s h h := kF_0 hx
  refine A_locI 1 rfl (fun ra => ?_)
  obtain ⟨_, _⟩ := ra
  refine A_iload_n 1 d_PM_width_0 rfl rfl ?_
  refine A_if_lt (tgt := 15) d_PM_width_1 (by decide) (fun c1 => ?_) (fun c1 => ?_)
  · refine A_iconst d_PM_width_15 rfl ?_
    exact A_iret d_PM_width_16 (by decide) rfl ⟨_, rfl, ⟨by omega, by omega⟩, k0⟩
  · refine A_iload_n 1 d_PM_width_4 rfl rfl ?_
    refine A_aload_n 0 d_PM_width_5 rfl rfl ?_
    refine A_getOv (z := some (97 - s)) T_ok d_PM_width_6 f_PM_27 (xi_s k0.1 sf_0) k0.1.2.2.1 ?_
    refine A_callV0 m_Score_mostBars T_ok d_PM_width_9 l_PM_116 k_Score_mostBars (xs_S k0.1 (isS_o hS)) rfl (by decide +kernel) (by decide) (Nat.le_of_ble_eq_true rfl) (s_Score_mostBars k0.1 (isS_o hS)) (fun r h3 hq => ?_)
    obtain ⟨x5, rfl, ⟨_, _⟩, rfl⟩ := hq
    refine A_icmp_lt (tgt := 17) d_PM_width_12 (by decide) (fun c6 => ?_) (fun c6 => ?_)
    · refine A_aload_n 0 d_PM_width_17 rfl rfl ?_
      refine A_getOv (z := some 150) T_ok d_PM_width_18 f_PM_51 (xi_s k0.1 sf_0) (xi_r k0.1 rff_0_7) ?_
      refine A_aload_n 0 d_PM_width_21 rfl rfl ?_
      refine A_getOv (z := some (97 - s)) T_ok d_PM_width_22 f_PM_27 (xi_s k0.1 sf_0) k0.1.2.2.1 ?_
      refine A_iload_n 1 d_PM_width_25 rfl rfl ?_
      refine A_pc (pc' := 26) rfl ?_
      refine A_callV2 m_Page_widthOf T_ok d_PM_width_26 l_PM_177 k_Page_widthOf (xi_s k0.1 sf_150) rfl (by decide +kernel) (by decide) (Nat.le_of_ble_eq_true rfl) (s_Page_widthOf k0.1 (isS_o hS) (by omega) (by omega)) (fun r h9 hq => ?_)
      obtain ⟨x11, rfl, ⟨_, _⟩, k10⟩ := hq
      have k12 := kF_t k0 k10 (fun _ q => q)
      exact A_iret d_PM_width_29 (by decide) rfl ⟨_, rfl, ⟨by omega, by omega⟩, k12⟩
    · refine A_iconst d_PM_width_15 rfl ?_
      exact A_iret d_PM_width_16 (by decide) rfl ⟨_, rfl, ⟨by omega, by omega⟩, k0⟩
theorem s_PM_lines {G : cx_T} {s : Nat} {h : ah_T} (hx : xi s h) {a1 : Int} {a2 : Int} {a3 : Int}  : con G 14 0 0 m_PM_lines [av_R (some 0), av_I a1, av_I a2, av_I a3] h (fun r h' => ∃ z, r = some (av_I z) ∧ ((-2147483648) ≤ z ∧ z ≤ 2147483647) ∧ kF FC s h h') := by
  refine con_of (L := [some (av_R (some 0)), some (av_I a1), some (av_I a2), some (av_I a3)]) (by decide +kernel) (Nat.le_of_ble_eq_true rfl) rfl ?_
  have hS : isS s := hx.2.1
  have hs0 : s = 17 ∨ s = 80 := hS
  have hs0b : 17 ≤ s ∧ s ≤ 80 := by omega
  have k0 : kF FC s h h := kF_0 hx
  refine A_locI 1 rfl (fun ra => ?_)
  obtain ⟨_, _⟩ := ra
  refine A_locI 2 rfl (fun ra => ?_)
  obtain ⟨_, _⟩ := ra
  refine A_locI 3 rfl (fun ra => ?_)
  obtain ⟨_, _⟩ := ra
  refine A_iload_n 1 d_PM_lines_0 rfl rfl ?_
  refine A_if_lt (tgt := 26) d_PM_lines_1 (by decide) (fun c1 => ?_) (fun c1 => ?_)
  · refine A_iconst d_PM_lines_26 rfl ?_
    exact A_iret d_PM_lines_27 (by decide) rfl ⟨_, rfl, ⟨by omega, by omega⟩, k0⟩
  · refine A_iload_n 2 d_PM_lines_4 rfl rfl ?_
    refine A_bipush d_PM_lines_5 rfl ?_
    refine A_icmp_gt (tgt := 26) d_PM_lines_7 (by decide) (fun c2 => ?_) (fun c2 => ?_)
    · refine A_iconst d_PM_lines_26 rfl ?_
      exact A_iret d_PM_lines_27 (by decide) rfl ⟨_, rfl, ⟨by omega, by omega⟩, k0⟩
    · refine A_iload_n 1 d_PM_lines_10 rfl rfl ?_
      refine A_iload_n 2 d_PM_lines_11 rfl rfl ?_
      refine A_icmp_gt (tgt := 26) d_PM_lines_12 (by decide) (fun c3 => ?_) (fun c3 => ?_)
      · refine A_iconst d_PM_lines_26 rfl ?_
        exact A_iret d_PM_lines_27 (by decide) rfl ⟨_, rfl, ⟨by omega, by omega⟩, k0⟩
      · refine A_iload_n 3 d_PM_lines_15 rfl rfl ?_
        refine A_if_lt (tgt := 26) d_PM_lines_16 (by decide) (fun c4 => ?_) (fun c4 => ?_)
        · refine A_iconst d_PM_lines_26 rfl ?_
          exact A_iret d_PM_lines_27 (by decide) rfl ⟨_, rfl, ⟨by omega, by omega⟩, k0⟩
        · refine A_iload_n 3 d_PM_lines_19 rfl rfl ?_
          refine A_sipush d_PM_lines_20 rfl ?_
          refine A_icmp_le (tgt := 28) d_PM_lines_23 (by decide) (fun c5 => ?_) (fun c5 => ?_)
          · refine A_aload_n 0 d_PM_lines_28 rfl rfl ?_
            refine A_getOv (z := some (97 - s)) T_ok d_PM_lines_29 f_PM_27 (xi_s k0.1 sf_0) k0.1.2.2.1 ?_
            refine A_getIn (lo := 0) (hi := 8) T_ok d_PM_lines_32 f_PM_107 (xs_S k0.1 (isS_o hS)) (xi_g k0.1 (lt1_S (isS_o hS)) (rg_S_6 (isS_o hS))) (fun x7 ex7 _ _ => ?_)
            refine A_if_ne (tgt := 41) d_PM_lines_35 (by decide) (fun c8 => ?_) (fun c8 => ?_)
            · refine A_aload_n 0 d_PM_lines_41 rfl rfl ?_
              refine A_getOv (z := some 158) T_ok d_PM_lines_42 f_PM_58 (xi_s k0.1 sf_0) (xi_r k0.1 rff_0_8) ?_
              refine A_aload_n 0 d_PM_lines_45 rfl rfl ?_
              refine A_getOv (z := some (97 - s)) T_ok d_PM_lines_46 f_PM_27 (xi_s k0.1 sf_0) k0.1.2.2.1 ?_
              refine A_iload_n 1 d_PM_lines_49 rfl rfl ?_
              refine A_pc (pc' := 50) rfl ?_
              refine A_iload_n 2 d_PM_lines_50 rfl rfl ?_
              refine A_iload_n 3 d_PM_lines_51 rfl rfl ?_
              refine A_callV4 m_Seconds_find T_ok d_PM_lines_52 l_PM_180 k_Seconds_find (xi_s k0.1 sf_158) rfl (by decide +kernel) (by decide) (Nat.le_of_ble_eq_true rfl) (s_Seconds_find k0.1 (isS_o hS) (by omega) (by omega) (by omega) (by omega) (by omega)) (fun r h11 hq => ?_)
              obtain ⟨x13, rfl, ⟨_, _⟩, k12⟩ := hq
              have k14 := kF_t k0 k12 (fun _ q => q)
              exact A_iret d_PM_lines_55 (by decide) rfl ⟨_, rfl, ⟨by omega, by omega⟩, k14⟩
            · refine A_bipush d_PM_lines_38 rfl ?_
              exact A_iret d_PM_lines_40 (by decide) rfl ⟨_, rfl, ⟨by omega, by omega⟩, k0⟩
          · refine A_iconst d_PM_lines_26 rfl ?_
            exact A_iret d_PM_lines_27 (by decide) rfl ⟨_, rfl, ⟨by omega, by omega⟩, k0⟩
theorem s_PM_second {G : cx_T} {s : Nat} {h : ah_T} (hx : xi s h) {a1 : Int} {a2 : Int}  : con G 3 0 0 m_PM_second [av_R (some 0), av_I a1, av_I a2] h (fun r h' => ∃ z, r = some (av_I z) ∧ ((-2147483648) ≤ z ∧ z ≤ 2147483647) ∧ h = h') := by
  refine con_of (L := [some (av_R (some 0)), some (av_I a1), some (av_I a2)]) (by decide +kernel) (Nat.le_of_ble_eq_true rfl) rfl ?_
  have hS : isS s := hx.2.1
  have hs0 : s = 17 ∨ s = 80 := hS
  have hs0b : 17 ≤ s ∧ s ≤ 80 := by omega
  refine A_locI 1 rfl (fun ra => ?_)
  obtain ⟨_, _⟩ := ra
  refine A_locI 2 rfl (fun ra => ?_)
  obtain ⟨_, _⟩ := ra
  refine A_aload_n 0 d_PM_second_0 rfl rfl ?_
  refine A_getOv (z := some 158) T_ok d_PM_second_1 f_PM_58 (xi_s hx sf_0) (xi_r hx rff_0_8) ?_
  refine A_iload_n 1 d_PM_second_4 rfl rfl ?_
  refine A_iload_n 2 d_PM_second_5 rfl rfl ?_
  refine A_callV2 m_Seconds_keyIn T_ok d_PM_second_6 l_PM_183 k_Seconds_keyIn (xi_s hx sf_158) rfl (by decide +kernel) (by decide) (Nat.le_of_ble_eq_true rfl) (s_Seconds_keyIn hx ) (fun r h2 hq => ?_)
  obtain ⟨x4, rfl, ⟨_, _⟩, rfl⟩ := hq
  exact A_iret d_PM_second_9 (by decide) rfl ⟨_, rfl, ⟨by omega, by omega⟩, rfl⟩
theorem s_PM_readings {G : cx_T} {s : Nat} {h : ah_T} (hx : xi s h)   : con G 6 0 0 m_PM_readings [av_R (some 0)] h (fun r h' => ∃ z, r = some (av_I z) ∧ ((-2147483648) ≤ z ∧ z ≤ 2147483647) ∧ kF FC s h h') := by
  refine con_of (L := [some (av_R (some 0))]) (by decide +kernel) (Nat.le_of_ble_eq_true rfl) rfl ?_
  have hS : isS s := hx.2.1
  have hs0 : s = 17 ∨ s = 80 := hS
  have hs0b : 17 ≤ s ∧ s ≤ 80 := by omega
  have k0 : kF FC s h h := kF_0 hx
  refine A_aload_n 0 d_PM_readings_0 rfl rfl ?_
  refine A_getOv (z := some (97 - s)) T_ok d_PM_readings_1 f_PM_27 (xi_s k0.1 sf_0) k0.1.2.2.1 ?_
  refine A_getIn (lo := 0) (hi := 24) T_ok d_PM_readings_4 f_PM_110 (xs_S k0.1 (isS_o hS)) (xi_g k0.1 (lt1_S (isS_o hS)) (rg_S_10 (isS_o hS))) (fun x2 ex2 _ _ => ?_)
  refine A_if_eq (tgt := 20) d_PM_readings_7 (by decide) (fun c3 => ?_) (fun c3 => ?_)
  · refine A_bipush d_PM_readings_20 rfl ?_
    exact A_iret d_PM_readings_22 (by decide) rfl ⟨_, rfl, ⟨by omega, by omega⟩, k0⟩
  · refine A_aload_n 0 d_PM_readings_10 rfl rfl ?_
    refine A_getOv (z := some (97 - s)) T_ok d_PM_readings_11 f_PM_27 (xi_s k0.1 sf_0) k0.1.2.2.1 ?_
    refine A_getIn (lo := 0) (hi := 12) T_ok d_PM_readings_14 f_PM_113 (xs_S k0.1 (isS_o hS)) (xi_g k0.1 (lt1_S (isS_o hS)) (rg_S_12 (isS_o hS))) (fun x5 ex5 _ _ => ?_)
    refine A_if_ne (tgt := 23) d_PM_readings_17 (by decide) (fun c6 => ?_) (fun c6 => ?_)
    · refine A_aload_n 0 d_PM_readings_23 rfl rfl ?_
      refine A_getOv (z := some 162) T_ok d_PM_readings_24 f_PM_65 (xi_s k0.1 sf_0) (xi_r k0.1 rff_0_9) ?_
      refine A_aload_n 0 d_PM_readings_27 rfl rfl ?_
      refine A_getOv (z := some (97 - s)) T_ok d_PM_readings_28 f_PM_27 (xi_s k0.1 sf_0) k0.1.2.2.1 ?_
      refine A_callV1 m_Trees_find T_ok d_PM_readings_31 l_PM_186 k_Trees_find (xi_s k0.1 sf_162) rfl (by decide +kernel) (by decide) (Nat.le_of_ble_eq_true rfl) (s_Trees_find k0.1 (isS_o hS)) (fun r h9 hq => ?_)
      obtain ⟨x11, rfl, ⟨_, _⟩, k10⟩ := hq
      have k12 := kF_t k0 k10 (fun _ q => q)
      exact A_iret d_PM_readings_34 (by decide) rfl ⟨_, rfl, ⟨by omega, by omega⟩, k12⟩
    · refine A_bipush d_PM_readings_20 rfl ?_
      exact A_iret d_PM_readings_22 (by decide) rfl ⟨_, rfl, ⟨by omega, by omega⟩, k0⟩
theorem s_PM_tree {G : cx_T} {s : Nat} {h : ah_T} (hx : xi s h) {a1 : Int} {a2 : Int}  : con G 6 0 0 m_PM_tree [av_R (some 0), av_I a1, av_I a2] h (fun r h' => ∃ z, r = some (av_I z) ∧ ((-2147483648) ≤ z ∧ z ≤ 2147483647) ∧ kF FC s h h') := by
  refine con_of (L := [some (av_R (some 0)), some (av_I a1), some (av_I a2)]) (by decide +kernel) (Nat.le_of_ble_eq_true rfl) rfl ?_
  have hS : isS s := hx.2.1
  have hs0 : s = 17 ∨ s = 80 := hS
  have hs0b : 17 ≤ s ∧ s ≤ 80 := by omega
  have k0 : kF FC s h h := kF_0 hx
  refine A_locI 1 rfl (fun ra => ?_)
  obtain ⟨_, _⟩ := ra
  refine A_locI 2 rfl (fun ra => ?_)
  obtain ⟨_, _⟩ := ra
  refine A_aload_n 0 d_PM_tree_0 rfl rfl ?_
  refine A_getOv (z := some 162) T_ok d_PM_tree_1 f_PM_65 (xi_s k0.1 sf_0) (xi_r k0.1 rff_0_9) ?_
  refine A_aload_n 0 d_PM_tree_4 rfl rfl ?_
  refine A_getOv (z := some (97 - s)) T_ok d_PM_tree_5 f_PM_27 (xi_s k0.1 sf_0) k0.1.2.2.1 ?_
  refine A_iload_n 1 d_PM_tree_8 rfl rfl ?_
  refine A_pc (pc' := 9) rfl ?_
  refine A_iload_n 2 d_PM_tree_9 rfl rfl ?_
  refine A_callV3 m_Trees_ruleIn T_ok d_PM_tree_10 l_PM_188 k_Trees_ruleIn (xi_s k0.1 sf_162) rfl (by decide +kernel) (by decide) (Nat.le_of_ble_eq_true rfl) (s_Trees_ruleIn k0.1 (isS_o hS)) (fun r h3 hq => ?_)
  obtain ⟨x5, rfl, ⟨_, _⟩, k4⟩ := hq
  have k6 := kF_t k0 k4 (fun _ q => q)
  exact A_iret d_PM_tree_13 (by decide) rfl ⟨_, rfl, ⟨by omega, by omega⟩, k6⟩
theorem s_PM_beside {G : cx_T} {s : Nat} {h : ah_T} (hx : xi s h) {a1 : Int} {a2 : Int}  : con G 6 0 0 m_PM_beside [av_R (some 0), av_I a1, av_I a2] h (fun r h' => ∃ z, r = some (av_I z) ∧ ((-2147483648) ≤ z ∧ z ≤ 2147483647) ∧ kF FC s h h') := by
  refine con_of (L := [some (av_R (some 0)), some (av_I a1), some (av_I a2), none, none]) (by decide +kernel) (Nat.le_of_ble_eq_true rfl) rfl ?_
  have hS : isS s := hx.2.1
  have hs0 : s = 17 ∨ s = 80 := hS
  have hs0b : 17 ≤ s ∧ s ≤ 80 := by omega
  have k0 : kF FC s h h := kF_0 hx
  refine A_locI 1 rfl (fun ra => ?_)
  obtain ⟨_, _⟩ := ra
  refine A_locI 2 rfl (fun ra => ?_)
  obtain ⟨_, _⟩ := ra
  refine A_aload_n 0 d_PM_beside_0 rfl rfl ?_
  refine A_getOv (z := some (97 - s)) T_ok d_PM_beside_1 f_PM_27 (xi_s k0.1 sf_0) k0.1.2.2.1 ?_
  refine A_iload_n 1 d_PM_beside_4 rfl rfl ?_
  refine A_callV1 m_Score_voiceAt T_ok d_PM_beside_5 l_PM_125 k_Score_voiceAt (xs_S k0.1 (isS_o hS)) rfl (by decide +kernel) (by decide) (Nat.le_of_ble_eq_true rfl) (s_Score_voiceAt k0.1 (isS_o hS)) (fun r h2 hq => ?_)
  obtain ⟨ox4, rfl, qx4, rfl⟩ := hq
  rcases qx4 with rfl | ⟨x4, rfl, tx4⟩
  · refine A_astore_n 3 (L' := [some (av_R (some 0)), some (av_I a1), some (av_I a2), some (av_R none), none]) d_PM_beside_8 rfl (Nat.le_of_ble_eq_true rfl) rfl ?_
    refine A_aload_n 0 d_PM_beside_9 rfl rfl ?_
    refine A_getOv (z := some (97 - s)) T_ok d_PM_beside_10 f_PM_27 (xi_s k0.1 sf_0) k0.1.2.2.1 ?_
    refine A_iload_n 2 d_PM_beside_13 rfl rfl ?_
    refine A_callV1 m_Score_voiceAt T_ok d_PM_beside_14 l_PM_125 k_Score_voiceAt (xs_S k0.1 (isS_o hS)) rfl (by decide +kernel) (by decide) (Nat.le_of_ble_eq_true rfl) (s_Score_voiceAt k0.1 (isS_o hS)) (fun r h6 hq => ?_)
    obtain ⟨ox8, rfl, qx8, rfl⟩ := hq
    rcases qx8 with rfl | ⟨x8, rfl, tx8⟩
    · refine A_astore (L' := [some (av_R (some 0)), some (av_I a1), some (av_I a2), some (av_R none), some (av_R none)]) d_PM_beside_17 (Nat.le_of_ble_eq_true rfl) rfl ?_
      refine A_aload_n 3 d_PM_beside_19 rfl rfl ?_
      refine A_ifnull (tgt := 28) d_PM_beside_20 (by decide) (fun _ => ?_) (fun a q => by cases q)
      refine A_iconst d_PM_beside_28 rfl ?_
      exact A_iret d_PM_beside_29 (by decide) rfl ⟨_, rfl, ⟨by omega, by omega⟩, k0⟩
    · refine A_astore (L' := [some (av_R (some 0)), some (av_I a1), some (av_I a2), some (av_R none), some (av_R (some x8))]) d_PM_beside_17 (Nat.le_of_ble_eq_true rfl) rfl ?_
      refine A_aload_n 3 d_PM_beside_19 rfl rfl ?_
      refine A_ifnull (tgt := 28) d_PM_beside_20 (by decide) (fun _ => ?_) (fun a q => by cases q)
      refine A_iconst d_PM_beside_28 rfl ?_
      exact A_iret d_PM_beside_29 (by decide) rfl ⟨_, rfl, ⟨by omega, by omega⟩, k0⟩
  · refine A_astore_n 3 (L' := [some (av_R (some 0)), some (av_I a1), some (av_I a2), some (av_R (some x4)), none]) d_PM_beside_8 rfl (Nat.le_of_ble_eq_true rfl) rfl ?_
    refine A_aload_n 0 d_PM_beside_9 rfl rfl ?_
    refine A_getOv (z := some (97 - s)) T_ok d_PM_beside_10 f_PM_27 (xi_s k0.1 sf_0) k0.1.2.2.1 ?_
    refine A_iload_n 2 d_PM_beside_13 rfl rfl ?_
    refine A_callV1 m_Score_voiceAt T_ok d_PM_beside_14 l_PM_125 k_Score_voiceAt (xs_S k0.1 (isS_o hS)) rfl (by decide +kernel) (by decide) (Nat.le_of_ble_eq_true rfl) (s_Score_voiceAt k0.1 (isS_o hS)) (fun r h10 hq => ?_)
    obtain ⟨ox12, rfl, qx12, rfl⟩ := hq
    rcases qx12 with rfl | ⟨x12, rfl, tx12⟩
    · refine A_astore (L' := [some (av_R (some 0)), some (av_I a1), some (av_I a2), some (av_R (some x4)), some (av_R none)]) d_PM_beside_17 (Nat.le_of_ble_eq_true rfl) rfl ?_
      refine A_aload_n 3 d_PM_beside_19 rfl rfl ?_
      refine A_ifnull (tgt := 28) d_PM_beside_20 (by decide) (fun q => by cases q) (fun _ _ => ?_)
      refine A_aload d_PM_beside_23 rfl ?_
      refine A_ifnonnull (tgt := 30) d_PM_beside_25 (by decide) (fun a q => by cases q) (fun _ => ?_)
      refine A_iconst d_PM_beside_28 rfl ?_
      exact A_iret d_PM_beside_29 (by decide) rfl ⟨_, rfl, ⟨by omega, by omega⟩, k0⟩
    · refine A_astore (L' := [some (av_R (some 0)), some (av_I a1), some (av_I a2), some (av_R (some x4)), some (av_R (some x12))]) d_PM_beside_17 (Nat.le_of_ble_eq_true rfl) rfl ?_
      refine A_aload_n 3 d_PM_beside_19 rfl rfl ?_
      refine A_ifnull (tgt := 28) d_PM_beside_20 (by decide) (fun q => by cases q) (fun _ _ => ?_)
      refine A_aload d_PM_beside_23 rfl ?_
      refine A_ifnonnull (tgt := 30) d_PM_beside_25 (by decide) (fun _ _ => ?_) (fun q => by cases q)
      refine A_aload_n 0 d_PM_beside_30 rfl rfl ?_
      refine A_getOv (z := some 164) T_ok d_PM_beside_31 f_PM_72 (xi_s k0.1 sf_0) (xi_r k0.1 rff_0_10) ?_
      refine A_aload_n 3 d_PM_beside_34 rfl rfl ?_
      refine A_aload d_PM_beside_35 rfl ?_
      refine A_callV2 m_Pairing_find T_ok d_PM_beside_37 l_PM_192 k_Pairing_find (xi_s k0.1 sf_164) rfl (by decide +kernel) (by decide) (Nat.le_of_ble_eq_true rfl) (s_Pairing_find k0.1 (tV_V (isS_o hS) tx4) (tV_V (isS_o hS) tx12)) (fun r h14 hq => ?_)
      obtain ⟨x16, rfl, ⟨_, _⟩, k15⟩ := hq
      have k17 := kF_t k0 k15 (fun _ q => q)
      exact A_iret d_PM_beside_40 (by decide) rfl ⟨_, rfl, ⟨by omega, by omega⟩, k17⟩
theorem s_PM_partner {G : cx_T} {s : Nat} {h : ah_T} (hx : xi s h) {a1 : Int}  : con G 1 0 0 m_PM_partner [av_R (some 0), av_I a1] h (fun r h' => ∃ z, r = some (av_I z) ∧ ((-2147483648) ≤ z ∧ z ≤ 2147483647) ∧ h = h') := by
  refine con_of (L := [some (av_R (some 0)), some (av_I a1)]) (by decide +kernel) (Nat.le_of_ble_eq_true rfl) rfl ?_
  have hS : isS s := hx.2.1
  have hs0 : s = 17 ∨ s = 80 := hS
  have hs0b : 17 ≤ s ∧ s ≤ 80 := by omega
  refine A_locI 1 rfl (fun ra => ?_)
  obtain ⟨_, _⟩ := ra
  refine A_aload_n 0 d_PM_partner_0 rfl rfl ?_
  refine A_getOv (z := some 164) T_ok d_PM_partner_1 f_PM_72 (xi_s hx sf_0) (xi_r hx rff_0_10) ?_
  refine A_iload_n 1 d_PM_partner_4 rfl rfl ?_
  refine A_callV1 m_Pairing_partnerOf T_ok d_PM_partner_5 l_PM_195 k_Pairing_partnerOf (xi_s hx sf_164) rfl (by decide +kernel) (by decide) (Nat.le_of_ble_eq_true rfl) (s_Pairing_partnerOf hx ) (fun r h2 hq => ?_)
  obtain ⟨x4, rfl, ⟨_, _⟩, rfl⟩ := hq
  exact A_iret d_PM_partner_8 (by decide) rfl ⟨_, rfl, ⟨by omega, by omega⟩, rfl⟩
theorem s_PM_ways {G : cx_T} {s : Nat} {h : ah_T} (hx : xi s h)   : con G 0 0 0 m_PM_ways [av_R (some 0)] h (fun r h' => ∃ z, r = some (av_I z) ∧ ((-2147483648) ≤ z ∧ z ≤ 2147483647) ∧ h = h') := by
  refine con_of (L := [some (av_R (some 0))]) (by decide +kernel) (Nat.le_of_ble_eq_true rfl) rfl ?_
  have hS : isS s := hx.2.1
  have hs0 : s = 17 ∨ s = 80 := hS
  have hs0b : 17 ≤ s ∧ s ≤ 80 := by omega
  refine A_aload_n 0 d_PM_ways_0 rfl rfl ?_
  refine A_getOv (z := some 164) T_ok d_PM_ways_1 f_PM_72 (xi_s hx sf_0) (xi_r hx rff_0_10) ?_
  refine A_getIf T_ok d_PM_ways_4 f_PM_198 (xi_s hx sf_164) (fun x2 ex2 _ _ => ?_)
  exact A_iret d_PM_ways_7 (by decide) rfl ⟨_, rfl, ⟨by omega, by omega⟩, rfl⟩
theorem s_PM_divided {G : cx_T} {h : ah_T} {a0 : Int} {a1 : Int}  : con G 1 0 0 m_PM_divided [av_L a0, av_L a1] h (fun r h' => ∃ z, r = some (av_D z) ∧ (fbn z 1 63 ∧ (1 ≤ a0 → 1 ≤ a1 → flb z 63)) ∧ h = h') := by
  refine con_of (L := [some (av_L a0), none, some (av_L a1), none, none, none]) (by decide +kernel) (Nat.le_of_ble_eq_true rfl) rfl ?_
  refine A_locL 0 rfl (fun ra => ?_)
  obtain ⟨_, _⟩ := ra
  refine A_locL 2 rfl (fun ra => ?_)
  obtain ⟨_, _⟩ := ra
  refine A_lload_n 2 d_PM_divided_0 rfl rfl ?_
  refine A_lconst_0 d_PM_divided_1 ?_
  refine A_lcmpn d_PM_divided_2 (fun x1 lx1 ex1 gx1 _ _ => ?_)
  refine A_if_gt (tgt := 8) d_PM_divided_3 (by decide) (fun c2 => ?_) (fun c2 => ?_)
  · have mc2 : a1 > 0 := by omega
    refine A_lload_n 0 d_PM_divided_8 rfl rfl ?_
    refine A_lload_n 2 d_PM_divided_9 rfl rfl ?_
    refine A_callS2 m_PM_greatestDivisor d_PM_divided_10 l_PM_266 k_PM_greatestDivisor (by decide +kernel) (by decide) (Nat.le_of_ble_eq_true rfl) (s_PM_greatestDivisor  ) (fun r h3 hq => ?_)
    obtain ⟨x5, rfl, ⟨_, _⟩, xx5, rfl⟩ := hq
    refine A_lstore (L' := [some (av_L a0), none, some (av_L a1), none, some (av_L x5), none]) d_PM_divided_13 (Nat.le_of_ble_eq_true rfl) rfl ?_
    refine A_lload_n 0 d_PM_divided_15 rfl rfl ?_
    refine A_lload d_PM_divided_16 rfl ?_
    refine A_ldivc d_PM_divided_18 (by omega) (fun x6 ex6 _ _ => ?_)
    have gx6 : 1 ≤ a0 → 1 ≤ x6 := (fun p => by have q1 := xx5.1 (by omega) (by omega); have q2 := gdv_le (a := a0) (b := a1) p (by omega); exact div_ge1 (div_nn64 ex6 (by omega) (by omega) (by omega)).2.2 (by omega) (by omega))
    refine A_l2d d_PM_divided_19 ?_
    have b7 := fp_l2d x6 (by unfold i64; omega)
    refine A_lload_n 2 d_PM_divided_20 rfl rfl ?_
    refine A_pc (pc' := 21) rfl ?_
    refine A_lload d_PM_divided_21 rfl ?_
    refine A_ldivc d_PM_divided_23 (by omega) (fun x8 ex8 _ _ => ?_)
    have gx8 : 1 ≤ x8 := (by have q1 := xx5.2 (by omega); exact div_ge1 (div_nn64 ex8 (by omega) (by omega) (by omega)).2.2 (by omega) (by omega))
    refine A_l2d d_PM_divided_24 ?_
    have b9 := fp_l2d x8 (by unfold i64; omega)
    have b10 := fp_div b7.1 (b9.2 (by omega)) (by omega) (by decide)
    refine A_ddiv d_PM_divided_25 b10.2.1 ?_
    exact A_dret d_PM_divided_26 (by decide) rfl ⟨_, rfl, ⟨b10.1, fun p q => (b10.2.2 0 63 (by decide) (b7.2 (gx6 p)) b9.1)⟩, rfl⟩
  · have mc2 : a1 ≤ 0 := by omega
    refine A_dconst_0 d_PM_divided_6 ?_
    exact A_dret d_PM_divided_7 (by decide) rfl ⟨_, rfl, ⟨fbn_T (U := 63) fb_0 (by decide), fun p q => False.elim (by omega)⟩, rfl⟩
theorem s_PM_waveAt {G : cx_T} {h : ah_T} {a0 : Int} {a1 : Int} {a2 : Int}  : con G 2 0 0 m_PM_waveAt [av_I a0, av_L a1, av_L a2] h (fun r h' => ∃ z, r = some (av_D z) ∧ (fbn z 1 66) ∧ h = h') := by
  refine con_of (L := [some (av_I a0), some (av_L a1), none, some (av_L a2), none, none, none, none, none, none, none, none, none, none, none]) (by decide +kernel) (Nat.le_of_ble_eq_true rfl) rfl ?_
  refine A_locI 0 rfl (fun ra => ?_)
  obtain ⟨_, _⟩ := ra
  refine A_locL 1 rfl (fun ra => ?_)
  obtain ⟨_, _⟩ := ra
  refine A_locL 3 rfl (fun ra => ?_)
  obtain ⟨_, _⟩ := ra
  refine A_iload_n 0 d_PM_waveAt_0 rfl rfl ?_
  refine A_bipush d_PM_waveAt_1 rfl ?_
  refine A_callS2 m_JMath_floorMod d_PM_waveAt_3 l_PM_238 k_JMath_floorMod (by decide +kernel) (by decide) (Nat.le_of_ble_eq_true rfl) (s_JMath_floorMod  (by omega) (by omega)) (fun r h1 hq => ?_)
  obtain ⟨x3, rfl, ⟨_, _⟩, xx3, rfl⟩ := hq
  refine A_istore (L' := [some (av_I a0), some (av_L a1), none, some (av_L a2), none, some (av_I x3), none, none, none, none, none, none, none, none, none]) d_PM_waveAt_6 (Nat.le_of_ble_eq_true rfl) rfl ?_
  refine A_iload_n 0 d_PM_waveAt_8 rfl rfl ?_
  refine A_bipush d_PM_waveAt_9 rfl ?_
  refine A_callS2 m_JMath_floorDiv d_PM_waveAt_11 l_PM_243 k_JMath_floorDiv (by decide +kernel) (by decide) (Nat.le_of_ble_eq_true rfl) (s_JMath_floorDiv  (by omega) (by omega)) (fun r h4 hq => ?_)
  obtain ⟨x6, rfl, ⟨_, _⟩, xx6, rfl⟩ := hq
  refine A_iconst d_PM_waveAt_14 rfl ?_
  refine A_mmax d_PM_waveAt_15 lm_PM_246 ma_max (by decide) (by decide) (Nat.le_of_ble_eq_true rfl) rfl ?_
  refine A_nrI (fun x7 ex7 _ _ => ?_)
  have bx7 := mmax_r ex7
  refine A_bipush d_PM_waveAt_18 rfl ?_
  refine A_mmin d_PM_waveAt_20 lm_PM_249 ma_min (by decide) (by decide) (Nat.le_of_ble_eq_true rfl) rfl ?_
  refine A_nrI (fun x8 ex8 _ _ => ?_)
  have bx8 := mmin_r ex8
  refine A_istore (L' := [some (av_I a0), some (av_L a1), none, some (av_L a2), none, some (av_I x3), some (av_I x8), none, none, none, none, none, none, none, none]) d_PM_waveAt_23 (Nat.le_of_ble_eq_true rfl) rfl ?_
  refine A_pc (pc' := 25) rfl ?_
  refine A_ldc2 (z := 8) d_PM_waveAt_25 cst_PM_252 rfl ?_
  refine A_iload d_PM_waveAt_28 rfl ?_
  refine A_iconst d_PM_waveAt_30 rfl ?_
  refine A_iaddv (z := (x8 + 1)) d_PM_waveAt_31 (w32_to (by omega) (by unfold i32; omega)) ?_
  refine A_lshl d_PM_waveAt_32 ?_
  refine A_nrL (fun x9 ex9 _ _ => ?_)
  refine A_getsA (q := ("RATIO_TOPS", 2, [1, 16, 9, 6, 5, 4, 45, 3, 8, 5, 9, 15])) (by decide) gs_PM_254 d_PM_waveAt_33 ?_
  refine A_pc (pc' := 36) rfl ?_
  refine A_iload d_PM_waveAt_36 rfl ?_
  refine A_ialoadT (q := ("RATIO_TOPS", 2, [1, 16, 9, 6, 5, 4, 45, 3, 8, 5, 9, 15])) d_PM_waveAt_38 (by decide) (by decide) (by omega) (by simp only [List.length_cons, List.length_nil]; omega) (fun x10 ex10 => ?_)
  have bx10 := tab_r (lo := 0) (hi := 45) ex10 (by decide)
  refine A_i2l d_PM_waveAt_39 ?_
  refine A_lmulw d_PM_waveAt_40 (fun x11 _ _ _ => ?_)
  refine A_lstore (L' := [some (av_I a0), some (av_L a1), none, some (av_L a2), none, some (av_I x3), some (av_I x8), some (av_L x11), none, none, none, none, none, none, none]) d_PM_waveAt_41 (Nat.le_of_ble_eq_true rfl) rfl ?_
  refine A_lload_n 3 d_PM_waveAt_43 rfl rfl ?_
  refine A_pc (pc' := 44) rfl ?_
  refine A_getsA (q := ("RATIO_BOTTOMS", 3, [1, 15, 8, 5, 4, 3, 32, 2, 5, 3, 5, 8])) (by decide) gs_PM_257 d_PM_waveAt_44 ?_
  refine A_iload d_PM_waveAt_47 rfl ?_
  refine A_ialoadT (q := ("RATIO_BOTTOMS", 3, [1, 15, 8, 5, 4, 3, 32, 2, 5, 3, 5, 8])) d_PM_waveAt_49 (by decide) (by decide) (by omega) (by simp only [List.length_cons, List.length_nil]; omega) (fun x12 ex12 => ?_)
  have bx12 := tab_r (lo := 0) (hi := 32) ex12 (by decide)
  refine A_i2l d_PM_waveAt_50 ?_
  refine A_lmulw d_PM_waveAt_51 (fun x13 _ _ _ => ?_)
  refine A_lstore (L' := [some (av_I a0), some (av_L a1), none, some (av_L a2), none, some (av_I x3), some (av_I x8), some (av_L x11), none, some (av_L x13), none, none, none, none, none]) d_PM_waveAt_52 (Nat.le_of_ble_eq_true rfl) rfl ?_
  refine A_pc (pc' := 54) rfl ?_
  refine A_lload d_PM_waveAt_54 rfl ?_
  refine A_lconst_0 d_PM_waveAt_56 ?_
  refine A_lcmpn d_PM_waveAt_57 (fun x14 lx14 ex14 gx14 _ _ => ?_)
  refine A_if_le (tgt := 74) d_PM_waveAt_58 (by decide) (fun c15 => ?_) (fun c15 => ?_)
  · have mc15 : x13 ≤ 0 := by omega
    refine A_lconst_0 d_PM_waveAt_74 ?_
    refine A_lstore (L' := [some (av_I a0), some (av_L a1), none, some (av_L a2), none, some (av_I x3), some (av_I x8), some (av_L x11), none, some (av_L x13), none, some (av_L 0), none, none, none]) d_PM_waveAt_75 (Nat.le_of_ble_eq_true rfl) rfl ?_
    refine A_lload d_PM_waveAt_77 rfl ?_
    refine A_lload d_PM_waveAt_79 rfl ?_
    refine A_callS2 m_PM_divided d_PM_waveAt_81 l_PM_228 k_PM_divided (by decide +kernel) (by decide) (Nat.le_of_ble_eq_true rfl) (s_PM_divided  ) (fun r h16 hq => ?_)
    obtain ⟨d18, rfl, xd18, rfl⟩ := hq
    refine A_dstore (L' := [some (av_I a0), some (av_L a1), none, some (av_L a2), none, some (av_I x3), some (av_I x8), some (av_L x11), none, some (av_L x13), none, some (av_L 0), none, some (av_D d18), none]) d_PM_waveAt_84 (Nat.le_of_ble_eq_true rfl) rfl ?_
    refine A_dload d_PM_waveAt_86 rfl ?_
    refine A_ldc2d (z := 4598175219545276416) d_PM_waveAt_88 cst_PM_232 ?_
    refine A_dcmp d_PM_waveAt_91 ?_
    refine A_nrI (fun x19 ex19 _ _ => ?_)
    refine A_if_ge (tgt := 102) d_PM_waveAt_92 (by decide) (fun c20 => ?_) (fun c20 => ?_)
    · refine A_dload d_PM_waveAt_102 rfl ?_
      refine A_ldc2d (z := 4604930618986332160) d_PM_waveAt_104 cst_PM_262 ?_
      refine A_dcmp d_PM_waveAt_107 ?_
      refine A_nrI (fun x21 ex21 _ _ => ?_)
      refine A_if_ge (tgt := 124) d_PM_waveAt_108 (by decide) (fun c22 => ?_) (fun c22 => ?_)
      · refine A_ldc2d (z := 4616189618054758400) d_PM_waveAt_124 cst_PM_260 ?_
        refine A_dload d_PM_waveAt_127 rfl ?_
        have b23 := fp_mul fb_4 xd18.1 (by decide)
        refine A_dmul d_PM_waveAt_129 b23.2 ?_
        refine A_ldc2d (z := 4616189618054758400) d_PM_waveAt_130 cst_PM_260 ?_
        have b24 := fp_sub b23.1 (fbn_T (U := 65) fb_4 (by decide)) (by omega) (by decide)
        refine A_dsub d_PM_waveAt_133 b24.2 ?_
        refine A_pc (pc' := 134) rfl ?_
        exact A_dret d_PM_waveAt_134 (by decide) rfl ⟨_, rfl, (fbn_T (U := 66) (fbn_2 b24.1) (by decide)), rfl⟩
      · refine A_ldc2d (z := 4611686018427387904) d_PM_waveAt_111 cst_PM_264 ?_
        refine A_ldc2d (z := 4616189618054758400) d_PM_waveAt_114 cst_PM_260 ?_
        refine A_dload d_PM_waveAt_117 rfl ?_
        have b25 := fp_mul fb_4 xd18.1 (by decide)
        refine A_dmul d_PM_waveAt_119 b25.2 ?_
        have b26 := fp_sub (fbn_T (U := 65) fb_2 (by decide)) b25.1 (by omega) (by decide)
        refine A_dsub d_PM_waveAt_120 b26.2 ?_
        refine A_pc (pc' := 121) rfl ?_
        refine A_goto (tgt := 134) d_PM_waveAt_121 (by decide) ?_
        exact A_dret d_PM_waveAt_134 (by decide) rfl ⟨_, rfl, (fbn_T (U := 66) (fbn_2 b26.1) (by decide)), rfl⟩
    · refine A_ldc2d (z := 4616189618054758400) d_PM_waveAt_95 cst_PM_260 ?_
      refine A_dload d_PM_waveAt_98 rfl ?_
      have b27 := fp_mul fb_4 xd18.1 (by decide)
      refine A_dmul d_PM_waveAt_100 b27.2 ?_
      exact A_dret d_PM_waveAt_101 (by decide) rfl ⟨_, rfl, (fbn_n (fbn_T (U := 66) b27.1 (by decide)) (by omega)), rfl⟩
  · have mc15 : x13 > 0 := by omega
    refine A_lload_n 1 d_PM_waveAt_61 rfl rfl ?_
    refine A_lload d_PM_waveAt_62 rfl ?_
    refine A_lremc d_PM_waveAt_64 (by omega) (fun x28 ex28 _ _ => ?_)
    refine A_lload d_PM_waveAt_65 rfl ?_
    refine A_lmulw d_PM_waveAt_67 (fun x29 _ _ _ => ?_)
    refine A_pc (pc' := 68) rfl ?_
    refine A_lload d_PM_waveAt_68 rfl ?_
    refine A_lremc d_PM_waveAt_70 (by omega) (fun x30 ex30 _ _ => ?_)
    refine A_goto (tgt := 75) d_PM_waveAt_71 (by decide) ?_
    refine A_lstore (L' := [some (av_I a0), some (av_L a1), none, some (av_L a2), none, some (av_I x3), some (av_I x8), some (av_L x11), none, some (av_L x13), none, some (av_L x30), none, none, none]) d_PM_waveAt_75 (Nat.le_of_ble_eq_true rfl) rfl ?_
    refine A_lload d_PM_waveAt_77 rfl ?_
    refine A_lload d_PM_waveAt_79 rfl ?_
    refine A_callS2 m_PM_divided d_PM_waveAt_81 l_PM_228 k_PM_divided (by decide +kernel) (by decide) (Nat.le_of_ble_eq_true rfl) (s_PM_divided  ) (fun r h31 hq => ?_)
    obtain ⟨d33, rfl, xd33, rfl⟩ := hq
    refine A_dstore (L' := [some (av_I a0), some (av_L a1), none, some (av_L a2), none, some (av_I x3), some (av_I x8), some (av_L x11), none, some (av_L x13), none, some (av_L x30), none, some (av_D d33), none]) d_PM_waveAt_84 (Nat.le_of_ble_eq_true rfl) rfl ?_
    refine A_dload d_PM_waveAt_86 rfl ?_
    refine A_ldc2d (z := 4598175219545276416) d_PM_waveAt_88 cst_PM_232 ?_
    refine A_dcmp d_PM_waveAt_91 ?_
    refine A_nrI (fun x34 ex34 _ _ => ?_)
    refine A_if_ge (tgt := 102) d_PM_waveAt_92 (by decide) (fun c35 => ?_) (fun c35 => ?_)
    · refine A_dload d_PM_waveAt_102 rfl ?_
      refine A_ldc2d (z := 4604930618986332160) d_PM_waveAt_104 cst_PM_262 ?_
      refine A_dcmp d_PM_waveAt_107 ?_
      refine A_nrI (fun x36 ex36 _ _ => ?_)
      refine A_if_ge (tgt := 124) d_PM_waveAt_108 (by decide) (fun c37 => ?_) (fun c37 => ?_)
      · refine A_ldc2d (z := 4616189618054758400) d_PM_waveAt_124 cst_PM_260 ?_
        refine A_dload d_PM_waveAt_127 rfl ?_
        have b38 := fp_mul fb_4 xd33.1 (by decide)
        refine A_dmul d_PM_waveAt_129 b38.2 ?_
        refine A_ldc2d (z := 4616189618054758400) d_PM_waveAt_130 cst_PM_260 ?_
        have b39 := fp_sub b38.1 (fbn_T (U := 65) fb_4 (by decide)) (by omega) (by decide)
        refine A_dsub d_PM_waveAt_133 b39.2 ?_
        refine A_pc (pc' := 134) rfl ?_
        exact A_dret d_PM_waveAt_134 (by decide) rfl ⟨_, rfl, (fbn_T (U := 66) (fbn_2 b39.1) (by decide)), rfl⟩
      · refine A_ldc2d (z := 4611686018427387904) d_PM_waveAt_111 cst_PM_264 ?_
        refine A_ldc2d (z := 4616189618054758400) d_PM_waveAt_114 cst_PM_260 ?_
        refine A_dload d_PM_waveAt_117 rfl ?_
        have b40 := fp_mul fb_4 xd33.1 (by decide)
        refine A_dmul d_PM_waveAt_119 b40.2 ?_
        have b41 := fp_sub (fbn_T (U := 65) fb_2 (by decide)) b40.1 (by omega) (by decide)
        refine A_dsub d_PM_waveAt_120 b41.2 ?_
        refine A_pc (pc' := 121) rfl ?_
        refine A_goto (tgt := 134) d_PM_waveAt_121 (by decide) ?_
        exact A_dret d_PM_waveAt_134 (by decide) rfl ⟨_, rfl, (fbn_T (U := 66) (fbn_2 b41.1) (by decide)), rfl⟩
    · refine A_ldc2d (z := 4616189618054758400) d_PM_waveAt_95 cst_PM_260 ?_
      refine A_dload d_PM_waveAt_98 rfl ?_
      have b42 := fp_mul fb_4 xd33.1 (by decide)
      refine A_dmul d_PM_waveAt_100 b42.2 ?_
      exact A_dret d_PM_waveAt_101 (by decide) rfl ⟨_, rfl, (fbn_n (fbn_T (U := 66) b42.1 (by decide)) (by omega)), rfl⟩
theorem s_PM_addEvent {G : cx_T} {s : Nat} {h : ah_T} (hx : xi s h) {a0 : UInt64} {a1 : Nat} {a2 : Int} {a3 : Int} {a4 : Int} {N : Nat} (ha1 : isV a1) (la2 : 0 ≤ a2) (ua2 : a2 ≤ 299) (hf : fbn a0 N 193) (hN : N ≤ 1000000) (he : a2 < h.2.1 a1 14) : con G 3 0 0 m_PM_addEvent [av_D a0, av_R (some a1), av_I a2, av_I a3, av_I a4] h (fun r h' => ∃ z, r = some (av_D z) ∧ (fbn z (N + 300) 193) ∧ h = h') := by
  refine con_of (L := [some (av_D a0), none, some (av_R (some a1)), some (av_I a2), some (av_I a3), some (av_I a4), none, none, none, none, none, none, none, none, none, none, none]) (by decide +kernel) (Nat.le_of_ble_eq_true rfl) rfl ?_
  have hS : isS s := hx.2.1
  have hs0 : s = 17 ∨ s = 80 := hS
  have hs0b : 17 ≤ s ∧ s ≤ 80 := by omega
  have ga1 := lt_V ha1
  refine A_locI 4 rfl (fun ra => ?_)
  obtain ⟨_, _⟩ := ra
  refine A_locI 5 rfl (fun ra => ?_)
  obtain ⟨_, _⟩ := ra
  refine A_iload d_PM_addEvent_0 rfl ?_
  refine A_i2l d_PM_addEvent_2 ?_
  refine A_aload_n 2 d_PM_addEvent_3 rfl rfl ?_
  refine A_getAv (z := some (a1 + 10)) T_ok d_PM_addEvent_4 f_PM_213 (xs_V hx ha1) (xr_V_11 hx ha1) ?_
  refine A_iload_n 3 d_PM_addEvent_7 rfl rfl ?_
  refine A_pc (pc' := 8) rfl ?_
  refine A_laloadf d_PM_addEvent_8 (xs_V_11 hx ha1) (by omega) (by omega) (fun x2 ex2 _ _ => ?_)
  refine A_lmulw d_PM_addEvent_9 (fun x3 _ _ _ => ?_)
  refine A_ldc2 (z := 2) d_PM_addEvent_10 cst_PM_217 rfl ?_
  refine A_aload_n 2 d_PM_addEvent_13 rfl rfl ?_
  refine A_getAv (z := some (a1 + 9)) T_ok d_PM_addEvent_14 f_PM_219 (xs_V hx ha1) (xr_V_10 hx ha1) ?_
  refine A_iload_n 3 d_PM_addEvent_17 rfl rfl ?_
  refine A_pc (pc' := 18) rfl ?_
  refine A_laloadf d_PM_addEvent_18 (xs_V_10 hx ha1) (by omega) (by omega) (fun x5 ex5 _ _ => ?_)
  refine A_lmulw d_PM_addEvent_19 (fun x6 _ _ _ => ?_)
  refine A_iload d_PM_addEvent_20 rfl ?_
  refine A_i2l d_PM_addEvent_22 ?_
  refine A_lmulw d_PM_addEvent_23 (fun x7 _ _ _ => ?_)
  refine A_lsubw d_PM_addEvent_24 (fun x8 _ _ _ => ?_)
  refine A_pc (pc' := 25) rfl ?_
  refine A_lstore (L' := [some (av_D a0), none, some (av_R (some a1)), some (av_I a2), some (av_I a3), some (av_I a4), some (av_L x8), none, none, none, none, none, none, none, none, none, none]) d_PM_addEvent_25 (Nat.le_of_ble_eq_true rfl) rfl ?_
  refine A_iload d_PM_addEvent_27 rfl ?_
  refine A_i2l d_PM_addEvent_29 ?_
  refine A_aload_n 2 d_PM_addEvent_30 rfl rfl ?_
  refine A_getAv (z := some (a1 + 10)) T_ok d_PM_addEvent_31 f_PM_213 (xs_V hx ha1) (xr_V_11 hx ha1) ?_
  refine A_iload_n 3 d_PM_addEvent_34 rfl rfl ?_
  refine A_pc (pc' := 35) rfl ?_
  refine A_laloadv (z := x2) d_PM_addEvent_35 (xs_V_11 hx ha1) (by omega) (by omega) ex2.symm ?_
  refine A_lmulw d_PM_addEvent_36 (fun x11 _ _ _ => ?_)
  refine A_lstore (L' := [some (av_D a0), none, some (av_R (some a1)), some (av_I a2), some (av_I a3), some (av_I a4), some (av_L x8), none, some (av_L x11), none, none, none, none, none, none, none, none]) d_PM_addEvent_37 (Nat.le_of_ble_eq_true rfl) rfl ?_
  refine A_ldc2 (z := 2) d_PM_addEvent_39 cst_PM_217 rfl ?_
  refine A_aload_n 2 d_PM_addEvent_42 rfl rfl ?_
  refine A_getAv (z := some (a1 + 11)) T_ok d_PM_addEvent_43 f_PM_222 (xs_V hx ha1) (xr_V_12 hx ha1) ?_
  refine A_pc (pc' := 46) rfl ?_
  refine A_iload_n 3 d_PM_addEvent_46 rfl rfl ?_
  refine A_laloadf d_PM_addEvent_47 (xs_V_12 hx ha1) (by omega) (by omega) (fun x13 ex13 _ _ => ?_)
  have yx13 := (xi_sem hx).2 a1 ha1 (a2).toNat (by omega)
  refine A_lmulv (z := (2 * x13)) d_PM_addEvent_48 (w64_to (by omega) (by unfold i64; omega)) ?_
  refine A_aload_n 2 d_PM_addEvent_49 rfl rfl ?_
  refine A_getAv (z := some (a1 + 12)) T_ok d_PM_addEvent_50 f_PM_225 (xs_V hx ha1) (xr_V_13 hx ha1) ?_
  refine A_iload_n 3 d_PM_addEvent_53 rfl rfl ?_
  refine A_pc (pc' := 54) rfl ?_
  refine A_laloadf d_PM_addEvent_54 (xs_V_13 hx ha1) (by omega) (by omega) (fun x15 ex15 _ _ => ?_)
  have yx15 := (xi_sem hx).2 a1 ha1 (a2).toNat (by omega)
  refine A_callS2 m_PM_divided d_PM_addEvent_55 l_PM_228 k_PM_divided (by decide +kernel) (by decide) (Nat.le_of_ble_eq_true rfl) (s_PM_divided  ) (fun r h16 hq => ?_)
  obtain ⟨d18, rfl, xd18, rfl⟩ := hq
  refine A_dstore (L' := [some (av_D a0), none, some (av_R (some a1)), some (av_I a2), some (av_I a3), some (av_I a4), some (av_L x8), none, some (av_L x11), none, some (av_D d18), none, none, none, none, none, none]) d_PM_addEvent_58 (Nat.le_of_ble_eq_true rfl) rfl ?_
  refine A_dconst_1 d_PM_addEvent_60 ?_
  refine A_lload d_PM_addEvent_61 rfl ?_
  refine A_lload d_PM_addEvent_63 rfl ?_
  refine A_callS2 m_PM_divided d_PM_addEvent_65 l_PM_228 k_PM_divided (by decide +kernel) (by decide) (Nat.le_of_ble_eq_true rfl) (s_PM_divided  ) (fun r h19 hq => ?_)
  obtain ⟨d21, rfl, xd21, rfl⟩ := hq
  refine A_dload d_PM_addEvent_68 rfl ?_
  have b22 := fp_div xd21.1 (xd18.2 (by omega) (by omega)) (by omega) (by decide)
  refine A_ddiv d_PM_addEvent_70 b22.2.1 ?_
  have b23 := fp_sub (fbn_T (U := 126) fb_1 (by decide)) b22.1 (by omega) (by decide)
  refine A_dsub d_PM_addEvent_71 b23.2 ?_
  refine A_dstore (L' := [some (av_D a0), none, some (av_R (some a1)), some (av_I a2), some (av_I a3), some (av_I a4), some (av_L x8), none, some (av_L x11), none, some (av_D d18), none, some (av_D (FP.dsub FP.dconst1 (FP.ddiv d21 d18))), none, none, none, none]) d_PM_addEvent_72 (Nat.le_of_ble_eq_true rfl) rfl ?_
  refine A_dload_n 0 d_PM_addEvent_74 rfl rfl ?_
  refine A_pc (pc' := 75) rfl ?_
  refine A_dstore (L' := [some (av_D a0), none, some (av_R (some a1)), some (av_I a2), some (av_I a3), some (av_I a4), some (av_L x8), none, some (av_L x11), none, some (av_D d18), none, some (av_D (FP.dsub FP.dconst1 (FP.ddiv d21 d18))), none, some (av_D a0), none, none]) d_PM_addEvent_75 (Nat.le_of_ble_eq_true rfl) rfl ?_
  refine A_iconst d_PM_addEvent_77 rfl ?_
  refine A_istore (L' := [some (av_D a0), none, some (av_R (some a1)), some (av_I a2), some (av_I a3), some (av_I a4), some (av_L x8), none, some (av_L x11), none, some (av_D d18), none, some (av_D (FP.dsub FP.dconst1 (FP.ddiv d21 d18))), none, some (av_D a0), none, some (av_I 0)]) d_PM_addEvent_78 (Nat.le_of_ble_eq_true rfl) rfl ?_
  have lp80 : ∀ (n : Nat) (i25 : Int) (i24 : UInt64) , 0 ≤ i25 → i25 ≤ 300 → fbn i24 (N + (i25).toNat) 193 → (301 - i25).toNat < n → aw G (rm_R 3 0 0) m_PM_addEvent 0 0 80 [some (av_D a0), none, some (av_R (some a1)), some (av_I a2), some (av_I a3), some (av_I a4), some (av_L x8), none, some (av_L x11), none, some (av_D d18), none, some (av_D (FP.dsub FP.dconst1 (FP.ddiv d21 d18))), none, some (av_D i24), none, some (av_I i25)] [] h (fun r h' => ∃ z, r = some (av_D z) ∧ (fbn z (N + 300) 193) ∧ h = h') := by
    intro n
    induction n with
    | zero => intro i25 i24 _ _ _ hm; omega
    | succ n ih80 =>
      intro i25 i24 hl0 hl1 hinv hm
      refine A_iload d_PM_addEvent_80 rfl ?_
      refine A_aload_n 2 d_PM_addEvent_82 rfl rfl ?_
      refine A_iload_n 3 d_PM_addEvent_83 rfl rfl ?_
      refine A_callV1 m_Voice_pitchesOf T_ok d_PM_addEvent_84 l_PM_147 k_Voice_pitchesOf (xs_V hx ha1) rfl (by decide +kernel) (by decide) (Nat.le_of_ble_eq_true rfl) (s_Voice_pitchesOf hx ha1 (by omega) (by omega)) (fun r h26 hq => ?_)
      obtain ⟨x28, rfl, ⟨_, _⟩, rfl⟩ := hq
      refine A_icmp_ge (tgt := 122) d_PM_addEvent_87 (by decide) (fun c29 => ?_) (fun c29 => ?_)
      · refine A_dload d_PM_addEvent_122 rfl ?_
        exact A_dret d_PM_addEvent_124 (by decide) rfl ⟨_, rfl, (fbn_n hinv (by omega)), rfl⟩
      · refine A_dload d_PM_addEvent_90 rfl ?_
        refine A_ldc2d (z := 4598175219545276416) d_PM_addEvent_92 cst_PM_232 ?_
        refine A_aload_n 2 d_PM_addEvent_95 rfl rfl ?_
        refine A_iload_n 3 d_PM_addEvent_96 rfl rfl ?_
        refine A_iload d_PM_addEvent_97 rfl ?_
        refine A_pc (pc' := 99) rfl ?_
        refine A_callV2 m_Voice_keyOf T_ok d_PM_addEvent_99 l_PM_151 k_Voice_keyOf (xs_V hx ha1) rfl (by decide +kernel) (by decide) (Nat.le_of_ble_eq_true rfl) (s_Voice_keyOf hx ha1 (by omega) (by omega)) (fun r h30 hq => ?_)
        obtain ⟨x32, rfl, ⟨_, _⟩, rfl⟩ := hq
        refine A_lload d_PM_addEvent_102 rfl ?_
        refine A_lload d_PM_addEvent_104 rfl ?_
        refine A_callS3 m_PM_waveAt d_PM_addEvent_106 l_PM_234 k_PM_waveAt (by decide +kernel) (by decide) (Nat.le_of_ble_eq_true rfl) (s_PM_waveAt  ) (fun r h33 hq => ?_)
        obtain ⟨d35, rfl, xd35, rfl⟩ := hq
        have b36 := fp_mul fb_q xd35 (by decide)
        refine A_dmul d_PM_addEvent_109 b36.2 ?_
        refine A_dload d_PM_addEvent_110 rfl ?_
        have b37 := fp_mul b36.1 (fbn_2 b23.1) (by decide)
        refine A_dmul d_PM_addEvent_112 b37.2 ?_
        have b38 := fp_add hinv b37.1 (by omega) (by decide)
        refine A_dadd d_PM_addEvent_113 b38.2 ?_
        refine A_dstore (L' := [some (av_D a0), none, some (av_R (some a1)), some (av_I a2), some (av_I a3), some (av_I a4), some (av_L x8), none, some (av_L x11), none, some (av_D d18), none, some (av_D (FP.dsub FP.dconst1 (FP.ddiv d21 d18))), none, some (av_D (FP.dadd i24 (FP.dmul (FP.dmul 4598175219545276416 d35) (FP.dsub FP.dconst1 (FP.ddiv d21 d18))))), none, some (av_I i25)]) d_PM_addEvent_114 (Nat.le_of_ble_eq_true rfl) rfl ?_
        refine A_pc (pc' := 116) rfl ?_
        refine A_iincv (z := (i25 + 1)) (L' := [some (av_D a0), none, some (av_R (some a1)), some (av_I a2), some (av_I a3), some (av_I a4), some (av_L x8), none, some (av_L x11), none, some (av_D d18), none, some (av_D (FP.dsub FP.dconst1 (FP.ddiv d21 d18))), none, some (av_D (FP.dadd i24 (FP.dmul (FP.dmul 4598175219545276416 d35) (FP.dsub FP.dconst1 (FP.ddiv d21 d18))))), none, some (av_I (i25 + 1))]) d_PM_addEvent_116 rfl (w32_to (by omega) (by unfold i32; omega)) rfl ?_
        refine A_goto (tgt := 80) d_PM_addEvent_119 (by decide) ?_
        exact ih80 (i25 + 1) (FP.dadd i24 (FP.dmul (FP.dmul 4598175219545276416 d35) (FP.dsub FP.dconst1 (FP.ddiv d21 d18)))) (by omega) (by omega) (fbn_n b38.1 (by omega)) (by omega)
  exact lp80 _ 0 a0 (by omega) (by omega) (fbn_n hf (by omega)) (Nat.lt_succ_self _)
theorem s_PM_addVoice {G : cx_T} {s : Nat} {h : ah_T} (hx : xi s h) {a0 : UInt64} {a1 : Nat} {a2 : Int} {a3 : Int} {N : Nat} (ha1 : isV a1) (hf : fbn a0 N 193) (hN : N ≤ 900000) : con G 4 0 0 m_PM_addVoice [av_D a0, av_R (some a1), av_I a2, av_I a3] h (fun r h' => ∃ z, r = some (av_D z) ∧ (fbn z (N + 90000) 193) ∧ h = h') := by
  refine con_of (L := [some (av_D a0), none, some (av_R (some a1)), some (av_I a2), some (av_I a3), none, none, none]) (by decide +kernel) (Nat.le_of_ble_eq_true rfl) rfl ?_
  have hS : isS s := hx.2.1
  have hs0 : s = 17 ∨ s = 80 := hS
  have hs0b : 17 ≤ s ∧ s ≤ 80 := by omega
  have ga1 := lt_V ha1
  refine A_locI 3 rfl (fun ra => ?_)
  obtain ⟨_, _⟩ := ra
  refine A_locI 4 rfl (fun ra => ?_)
  obtain ⟨_, _⟩ := ra
  refine A_dload_n 0 d_PM_addVoice_0 rfl rfl ?_
  refine A_dstore (L' := [some (av_D a0), none, some (av_R (some a1)), some (av_I a2), some (av_I a3), some (av_D a0), none, none]) d_PM_addVoice_1 (Nat.le_of_ble_eq_true rfl) rfl ?_
  refine A_iconst d_PM_addVoice_3 rfl ?_
  refine A_istore (L' := [some (av_D a0), none, some (av_R (some a1)), some (av_I a2), some (av_I a3), some (av_D a0), none, some (av_I 0)]) d_PM_addVoice_4 (Nat.le_of_ble_eq_true rfl) rfl ?_
  have lp6 : ∀ (n : Nat) (i2 : Int) (i1 : UInt64) , 0 ≤ i2 → i2 ≤ 300 → fbn i1 (N + 300 * (i2).toNat) 193 → (301 - i2).toNat < n → aw G (rm_R 4 0 0) m_PM_addVoice 0 0 6 [some (av_D a0), none, some (av_R (some a1)), some (av_I a2), some (av_I a3), some (av_D i1), none, some (av_I i2)] [] h (fun r h' => ∃ z, r = some (av_D z) ∧ (fbn z (N + 90000) 193) ∧ h = h') := by
    intro n
    induction n with
    | zero => intro i2 i1 _ _ _ hm; omega
    | succ n ih6 =>
      intro i2 i1 hl0 hl1 hinv hm
      refine A_iload d_PM_addVoice_6 rfl ?_
      refine A_aload_n 2 d_PM_addVoice_8 rfl rfl ?_
      refine A_getIn (lo := 0) (hi := 300) T_ok d_PM_addVoice_9 f_PM_129 (xs_V hx ha1) (xi_g hx (lt1_V ha1) (rg_V_14 ha1)) (fun x3 ex3 _ _ => ?_)
      refine A_icmp_ge (tgt := 64) d_PM_addVoice_12 (by decide) (fun c4 => ?_) (fun c4 => ?_)
      · refine A_dload d_PM_addVoice_64 rfl ?_
        exact A_dret d_PM_addVoice_66 (by decide) rfl ⟨_, rfl, (fbn_n hinv (by omega)), rfl⟩
      · refine A_aload_n 2 d_PM_addVoice_15 rfl rfl ?_
        refine A_iload d_PM_addVoice_16 rfl ?_
        refine A_iload_n 3 d_PM_addVoice_18 rfl rfl ?_
        refine A_i2l d_PM_addVoice_19 ?_
        refine A_iload d_PM_addVoice_20 rfl ?_
        refine A_pc (pc' := 22) rfl ?_
        refine A_i2l d_PM_addVoice_22 ?_
        refine A_callV3 m_Voice_isReached T_ok d_PM_addVoice_23 l_PM_205 k_Voice_isReached (xs_V hx ha1) rfl (by decide +kernel) (by decide) (Nat.le_of_ble_eq_true rfl) (s_Voice_isReached hx ha1 (by omega) (by omega)) (fun r h5 hq => ?_)
        obtain ⟨x7, rfl, bx7, rfl⟩ := hq
        refine A_if_eq (tgt := 58) d_PM_addVoice_26 (by decide) (fun c8 => ?_) (fun c8 => ?_)
        · refine A_iincv (z := (i2 + 1)) (L' := [some (av_D a0), none, some (av_R (some a1)), some (av_I a2), some (av_I a3), some (av_D i1), none, some (av_I (i2 + 1))]) d_PM_addVoice_58 rfl (w32_to (by omega) (by unfold i32; omega)) rfl ?_
          refine A_goto (tgt := 6) d_PM_addVoice_61 (by decide) ?_
          exact ih6 (i2 + 1) i1 (by omega) (by omega) (fbn_n hinv (by omega)) (by omega)
        · refine A_aload_n 2 d_PM_addVoice_29 rfl rfl ?_
          refine A_iload d_PM_addVoice_30 rfl ?_
          refine A_iconst d_PM_addVoice_32 rfl ?_
          refine A_iaddv (z := (i2 + 1)) d_PM_addVoice_33 (w32_to (by omega) (by unfold i32; omega)) ?_
          refine A_iload_n 3 d_PM_addVoice_34 rfl rfl ?_
          refine A_pc (pc' := 35) rfl ?_
          refine A_i2l d_PM_addVoice_35 ?_
          refine A_iload d_PM_addVoice_36 rfl ?_
          refine A_i2l d_PM_addVoice_38 ?_
          refine A_callV3 m_Voice_isReached T_ok d_PM_addVoice_39 l_PM_205 k_Voice_isReached (xs_V hx ha1) rfl (by decide +kernel) (by decide) (Nat.le_of_ble_eq_true rfl) (s_Voice_isReached hx ha1 (by omega) (by omega)) (fun r h9 hq => ?_)
          obtain ⟨x11, rfl, bx11, rfl⟩ := hq
          refine A_if_ne (tgt := 58) d_PM_addVoice_42 (by decide) (fun c12 => ?_) (fun c12 => ?_)
          · refine A_iincv (z := (i2 + 1)) (L' := [some (av_D a0), none, some (av_R (some a1)), some (av_I a2), some (av_I a3), some (av_D i1), none, some (av_I (i2 + 1))]) d_PM_addVoice_58 rfl (w32_to (by omega) (by unfold i32; omega)) rfl ?_
            refine A_goto (tgt := 6) d_PM_addVoice_61 (by decide) ?_
            exact ih6 (i2 + 1) i1 (by omega) (by omega) (fbn_n hinv (by omega)) (by omega)
          · refine A_dload d_PM_addVoice_45 rfl ?_
            refine A_aload_n 2 d_PM_addVoice_47 rfl rfl ?_
            refine A_iload d_PM_addVoice_48 rfl ?_
            refine A_iload_n 3 d_PM_addVoice_50 rfl rfl ?_
            refine A_iload d_PM_addVoice_51 rfl ?_
            refine A_pc (pc' := 53) rfl ?_
            refine A_callS5 m_PM_addEvent d_PM_addVoice_53 l_PM_209 k_PM_addEvent (by decide +kernel) (by decide) (Nat.le_of_ble_eq_true rfl) (s_PM_addEvent hx ha1 (by omega) (by omega) hinv (by omega) (by have qq0 := ex3.symm; omega)) (fun r h13 hq => ?_)
            obtain ⟨d15, rfl, xd15, rfl⟩ := hq
            refine A_dstore (L' := [some (av_D a0), none, some (av_R (some a1)), some (av_I a2), some (av_I a3), some (av_D d15), none, some (av_I i2)]) d_PM_addVoice_56 (Nat.le_of_ble_eq_true rfl) rfl ?_
            refine A_iincv (z := (i2 + 1)) (L' := [some (av_D a0), none, some (av_R (some a1)), some (av_I a2), some (av_I a3), some (av_D d15), none, some (av_I (i2 + 1))]) d_PM_addVoice_58 rfl (w32_to (by omega) (by unfold i32; omega)) rfl ?_
            refine A_goto (tgt := 6) d_PM_addVoice_61 (by decide) ?_
            exact ih6 (i2 + 1) d15 (by omega) (by omega) (fbn_n xd15 (by omega)) (by omega)
  exact lp6 _ 0 a0 (by omega) (by omega) (fbn_n hf (by omega)) (Nat.lt_succ_self _)
theorem s_PM_sample {G : cx_T} {s : Nat} {h : ah_T} (hx : xi s h) {a1 : Int} {a2 : Int}  : con G 5 0 0 m_PM_sample [av_R (some 0), av_I a1, av_I a2] h (fun r h' => ∃ z, r = some (av_D z) ∧ h = h') := by
  refine con_of (L := [some (av_R (some 0)), some (av_I a1), some (av_I a2), none, none, none, none]) (by decide +kernel) (Nat.le_of_ble_eq_true rfl) rfl ?_
  have hS : isS s := hx.2.1
  have hs0 : s = 17 ∨ s = 80 := hS
  have hs0b : 17 ≤ s ∧ s ≤ 80 := by omega
  refine A_locI 1 rfl (fun ra => ?_)
  obtain ⟨_, _⟩ := ra
  refine A_locI 2 rfl (fun ra => ?_)
  obtain ⟨_, _⟩ := ra
  refine A_dconst_0 d_PM_sample_0 ?_
  refine A_dstore_n 3 (L' := [some (av_R (some 0)), some (av_I a1), some (av_I a2), some (av_D FP.dconst0), none, none, none]) d_PM_sample_1 rfl (Nat.le_of_ble_eq_true rfl) rfl ?_
  refine A_iload_n 1 d_PM_sample_2 rfl rfl ?_
  refine A_if_lt (tgt := 18) d_PM_sample_3 (by decide) (fun c1 => ?_) (fun c1 => ?_)
  · refine A_dload_n 3 d_PM_sample_18 rfl rfl ?_
    exact A_dret d_PM_sample_19 (by decide) rfl ⟨_, rfl, rfl⟩
  · refine A_iload_n 2 d_PM_sample_6 rfl rfl ?_
    refine A_iconst d_PM_sample_7 rfl ?_
    refine A_icmp_lt (tgt := 18) d_PM_sample_8 (by decide) (fun c2 => ?_) (fun c2 => ?_)
    · refine A_dload_n 3 d_PM_sample_18 rfl rfl ?_
      exact A_dret d_PM_sample_19 (by decide) rfl ⟨_, rfl, rfl⟩
    · refine A_iload_n 2 d_PM_sample_11 rfl rfl ?_
      refine A_sipush d_PM_sample_12 rfl ?_
      refine A_icmp_le (tgt := 20) d_PM_sample_15 (by decide) (fun c3 => ?_) (fun c3 => ?_)
      · refine A_iconst d_PM_sample_20 rfl ?_
        refine A_istore (L' := [some (av_R (some 0)), some (av_I a1), some (av_I a2), some (av_D FP.dconst0), none, some (av_I 0), none]) d_PM_sample_21 (Nat.le_of_ble_eq_true rfl) rfl ?_
        have lp23 : ∀ (n : Nat) (i5 : Int) (i4 : UInt64) , 0 ≤ i5 → i5 ≤ 4 → fbn i4 (1 + 90000 * (i5).toNat) 193 → (5 - i5).toNat < n → aw G (rm_R 5 0 0) m_PM_sample 0 0 23 [some (av_R (some 0)), some (av_I a1), some (av_I a2), some (av_D i4), none, some (av_I i5), none] [] h (fun r h' => ∃ z, r = some (av_D z) ∧ h = h') := by
          intro n
          induction n with
          | zero => intro i5 i4 _ _ _ hm; omega
          | succ n ih23 =>
            intro i5 i4 hl0 hl1 hinv hm
            refine A_iload d_PM_sample_23 rfl ?_
            refine A_aload_n 0 d_PM_sample_25 rfl rfl ?_
            refine A_getOv (z := some (97 - s)) T_ok d_PM_sample_26 f_PM_27 (xi_s hx sf_0) hx.2.2.1 ?_
            refine A_getIn (lo := 0) (hi := 4) T_ok d_PM_sample_29 f_PM_104 (xs_S hx (isS_o hS)) (xi_g hx (lt1_S (isS_o hS)) (rg_S_1 (isS_o hS))) (fun x7 ex7 _ _ => ?_)
            refine A_icmp_ge (tgt := 66) d_PM_sample_32 (by decide) (fun c8 => ?_) (fun c8 => ?_)
            · refine A_dload_n 3 d_PM_sample_66 rfl rfl ?_
              exact A_dret d_PM_sample_67 (by decide) rfl ⟨_, rfl, rfl⟩
            · refine A_aload_n 0 d_PM_sample_35 rfl rfl ?_
              refine A_getOv (z := some (97 - s)) T_ok d_PM_sample_36 f_PM_27 (xi_s hx sf_0) hx.2.2.1 ?_
              refine A_iload d_PM_sample_39 rfl ?_
              refine A_callV1 m_Score_voiceAt T_ok d_PM_sample_41 l_PM_125 k_Score_voiceAt (xs_S hx (isS_o hS)) rfl (by decide +kernel) (by decide) (Nat.le_of_ble_eq_true rfl) (s_Score_voiceAt hx (isS_o hS)) (fun r h10 hq => ?_)
              obtain ⟨ox12, rfl, qx12, rfl⟩ := hq
              rcases qx12 with rfl | ⟨x12, rfl, tx12⟩
              · refine A_astore (L' := [some (av_R (some 0)), some (av_I a1), some (av_I a2), some (av_D i4), none, some (av_I i5), some (av_R none)]) d_PM_sample_44 (Nat.le_of_ble_eq_true rfl) rfl ?_
                refine A_aload d_PM_sample_46 rfl ?_
                refine A_ifnull (tgt := 60) d_PM_sample_48 (by decide) (fun _ => ?_) (fun a q => by cases q)
                refine A_iincv (z := (i5 + 1)) (L' := [some (av_R (some 0)), some (av_I a1), some (av_I a2), some (av_D i4), none, some (av_I (i5 + 1)), some (av_R none)]) d_PM_sample_60 rfl (w32_to (by omega) (by unfold i32; omega)) rfl ?_
                refine A_goto (tgt := 23) d_PM_sample_63 (by decide) ?_
                refine A_free (L' := [some (av_R (some 0)), some (av_I a1), some (av_I a2), some (av_D i4), none, some (av_I (i5 + 1)), none]) (And.intro rfl (And.intro rfl (And.intro rfl (And.intro rfl (And.intro rfl trivial))))) ?_
                exact ih23 (i5 + 1) i4 (by omega) (by omega) (fbn_n hinv (by omega)) (by omega)
              · refine A_astore (L' := [some (av_R (some 0)), some (av_I a1), some (av_I a2), some (av_D i4), none, some (av_I i5), some (av_R (some x12))]) d_PM_sample_44 (Nat.le_of_ble_eq_true rfl) rfl ?_
                refine A_aload d_PM_sample_46 rfl ?_
                refine A_ifnull (tgt := 60) d_PM_sample_48 (by decide) (fun q => by cases q) (fun _ _ => ?_)
                refine A_dload_n 3 d_PM_sample_51 rfl rfl ?_
                refine A_aload d_PM_sample_52 rfl ?_
                refine A_iload_n 1 d_PM_sample_54 rfl rfl ?_
                refine A_iload_n 2 d_PM_sample_55 rfl rfl ?_
                refine A_callS4 m_PM_addVoice d_PM_sample_56 l_PM_201 k_PM_addVoice (by decide +kernel) (by decide) (Nat.le_of_ble_eq_true rfl) (s_PM_addVoice hx (tV_V (isS_o hS) tx12) hinv (by omega)) (fun r h13 hq => ?_)
                obtain ⟨d15, rfl, xd15, rfl⟩ := hq
                refine A_dstore_n 3 (L' := [some (av_R (some 0)), some (av_I a1), some (av_I a2), some (av_D d15), none, some (av_I i5), some (av_R (some x12))]) d_PM_sample_59 rfl (Nat.le_of_ble_eq_true rfl) rfl ?_
                refine A_iincv (z := (i5 + 1)) (L' := [some (av_R (some 0)), some (av_I a1), some (av_I a2), some (av_D d15), none, some (av_I (i5 + 1)), some (av_R (some x12))]) d_PM_sample_60 rfl (w32_to (by omega) (by unfold i32; omega)) rfl ?_
                refine A_goto (tgt := 23) d_PM_sample_63 (by decide) ?_
                refine A_free (L' := [some (av_R (some 0)), some (av_I a1), some (av_I a2), some (av_D d15), none, some (av_I (i5 + 1)), none]) (And.intro rfl (And.intro rfl (And.intro rfl (And.intro rfl (And.intro rfl trivial))))) ?_
                exact ih23 (i5 + 1) d15 (by omega) (by omega) (fbn_n xd15 (by omega)) (by omega)
        exact lp23 _ 0 FP.dconst0 (by omega) (by omega) (fbn_n (fbn_T (U := 193) fb_0 (by decide)) (by omega)) (Nat.lt_succ_self _)
      · refine A_dload_n 3 d_PM_sample_18 rfl rfl ?_
        exact A_dret d_PM_sample_19 (by decide) rfl ⟨_, rfl, rfl⟩
abbrev FM : Nat → Prop := fun a => 170 ≤ a
/-- the two scores change places -/
theorem kF_sw {s : Nat} {h0 h : ah_T} (hk : kF FM s h0 h) : kF FM (97 - s) h0 (st_r (st_r h 2 5 (some (97 - s))) 0 3 (some s)) := by
  obtain ⟨⟨x1, x2, x3, x4, x5, x6, x7, x8⟩, hf⟩ := hk
  have hs : s = 17 ∨ s = 80 := x2
  have key : ∀ a k, ¬ (a = 0 ∧ k = 3) → ¬ (a = 2 ∧ k = 5) → (st_r (st_r h 2 5 (some (97 - s))) 0 3 (some s)).2.2.2 a k = h.2.2.2 a k := fun a k q1 q2 => (up2_o q1).trans (up2_o q2)
  have e1 : 97 - (97 - s) = s := by omega
  refine ⟨⟨x1, by unfold isS; omega, ?_, ?_, ?_, fun q hq => ?_, x7, x8⟩, fun x hx => ⟨(hf x hx).1, (hf x hx).2.1, ?_⟩⟩
  · rw [e1]; simp [st_r, up2]
  · simp [st_r, up2]
  · rw [key 3 6 (by decide) (by decide)]; exact x5
  · have h9 : ∀ q ∈ rf_L, ¬ (q.1 = 0 ∧ q.2.1 = 3) ∧ ¬ (q.1 = 2 ∧ q.2.1 = 5) := by decide +kernel
    rw [key _ _ (h9 q hq).1 (h9 q hq).2]
    exact x6 q hq
  · funext k
    have hx' : 170 ≤ x := hx
    rw [key x k (fun q => by omega) (fun q => by omega)]
    exact congrFun (hf x hx).2.2 k
theorem s_Reader_swap {G : cx_T} {s : Nat} {h : ah_T} (hx : xi s h) : con G 0 0 0 m_Reader_swap [av_R (some 2), av_R (some (97 - s))] h (fun r h' => r = some (av_R (some s)) ∧ h' = st_r h 2 5 (some (97 - s))) := by
  refine con_of (L := [some (av_R (some 2)), some (av_R (some (97 - s))), none]) (by decide +kernel) (Nat.le_of_ble_eq_true rfl) rfl ?_
  refine A_aload_n 0 d_Reader_swap_0 rfl rfl ?_
  refine A_getOv (z := some s) T_ok d_Reader_swap_1 f_Reader_32 (xi_s hx sf_2) hx.2.2.2.1 ?_
  refine A_astore_n 2 (L' := [some (av_R (some 2)), some (av_R (some (97 - s))), some (av_R (some s))]) d_Reader_swap_4 rfl (Nat.le_of_ble_eq_true rfl) rfl ?_
  refine A_aload_n 0 d_Reader_swap_5 rfl rfl ?_
  refine A_aload_n 1 d_Reader_swap_6 rfl rfl ?_
  refine A_putRv T_ok d_Reader_swap_7 f_Reader_32 ty_o (xi_s hx sf_2) fin_f (fun h1 e1 => ?_)
  refine A_aload_n 2 d_Reader_swap_10 rfl rfl ?_
  exact A_aret d_Reader_swap_11 (by decide) rfl ty_o ⟨rfl, e1⟩
theorem s_PM_score {G : cx_T} {s : Nat} {h : ah_T} (hx : xi s h)   : con G 24 0 0 m_PM_score [av_R (some 0)] h (fun r h' => ∃ z, r = some (av_I z) ∧ ((-2147483648) ≤ z ∧ z ≤ 2147483647) ∧ ∃ s', xi s' h' ∧ h'.2.1 0 1 = 0 ∧ ∀ a, 170 ≤ a → same3 h h' a) := by
  refine con_of (L := [some (av_R (some 0)), none]) (by decide +kernel) (Nat.le_of_ble_eq_true rfl) rfl ?_
  have hS : isS s := hx.2.1
  have hs0 : s = 17 ∨ s = 80 := hS
  have hs0b : 17 ≤ s ∧ s ≤ 80 := by omega
  have k0 : kF FM s h h := kF_0 hx
  refine A_aload_n 0 d_PM_score_0 rfl rfl ?_
  refine A_getOv (z := some 2) T_ok d_PM_score_1 f_PM_20 (xi_s k0.1 sf_0) (xi_r k0.1 rff_0_2) ?_
  refine A_aload_n 0 d_PM_score_4 rfl rfl ?_
  refine A_getAv (z := some 1) T_ok d_PM_score_5 f_PM_9 (xi_s k0.1 sf_0) (xi_r k0.1 rff_0_0) ?_
  refine A_aload_n 0 d_PM_score_8 rfl rfl ?_
  refine A_pc (pc' := 9) rfl ?_
  refine A_getIn (lo := 0) (hi := 2000) T_ok d_PM_score_9 f_PM_13 (xi_s k0.1 sf_0) (xi_g k0.1 (by decide) rgf_0_1) (fun x3 ex3 _ _ => ?_)
  refine A_callV2 m_Reader_read T_ok d_PM_score_12 l_PM_80 k_Reader_read (xi_s k0.1 sf_2) rfl (by decide +kernel) (by decide) (Nat.le_of_ble_eq_true rfl) (s_Reader_read k0.1 (by omega) (by omega)) (fun r h4 hq => ?_)
  obtain ⟨x6, rfl, ⟨_, _⟩, k5⟩ := hq
  have k7 := kF_t k0 k5 (fun _ q => Or.inr q)
  refine A_istore_n 1 (L' := [some (av_R (some 0)), some (av_I x6)]) d_PM_score_15 rfl (Nat.le_of_ble_eq_true rfl) rfl ?_
  refine A_aload_n 0 d_PM_score_16 rfl rfl ?_
  refine A_iconst d_PM_score_17 rfl ?_
  refine A_putIk (KR := kF FM s h) T_ok d_PM_score_18 f_PM_13 (xi_s k7.1 sf_0) fin_f (kF_j k7 (by decide) (ns_b rfl) rgf_0_1 (by omega) (by omega)) (fun h8 k9 eh8 => ?_)
  refine A_iload_n 1 d_PM_score_21 rfl rfl ?_
  refine A_pc (pc' := 22) rfl ?_
  refine A_if_eq (tgt := 41) d_PM_score_22 (by decide) (fun c10 => ?_) (fun c10 => ?_)
  · refine A_aload_n 0 d_PM_score_41 rfl rfl ?_
    refine A_bipush d_PM_score_42 rfl ?_
    refine A_putIk (KR := kF FM s h) T_ok d_PM_score_44 f_PM_31 (xi_s k9.1 sf_0) fin_f (kF_j k9 (by decide) (ns_b rfl) rgf_0_4 (by omega) (by omega)) (fun h11 k12 eh11 => ?_)
    refine A_aload_n 0 d_PM_score_47 rfl rfl ?_
    refine A_aload_n 0 d_PM_score_48 rfl rfl ?_
    refine A_pc (pc' := 49) rfl ?_
    refine A_getOv (z := some 2) T_ok d_PM_score_49 f_PM_20 (xi_s k12.1 sf_0) (xi_r k12.1 rff_0_2) ?_
    refine A_aload_n 0 d_PM_score_52 rfl rfl ?_
    refine A_getOv (z := some (97 - s)) T_ok d_PM_score_53 f_PM_27 (xi_s k12.1 sf_0) k12.1.2.2.1 ?_
    refine A_callV1 m_Reader_swap T_ok d_PM_score_56 l_PM_85 k_Reader_swap (xi_s k12.1 sf_2) rfl (by decide +kernel) (by decide) (Nat.le_of_ble_eq_true rfl) (s_Reader_swap k12.1) (fun r h15 hq => ?_)
    obtain ⟨rfl, eh15⟩ := hq
    refine A_putRv T_ok d_PM_score_59 f_PM_27 ty_o (by rw [eh15]; exact (xi_s k12.1 sf_0)) fin_f (fun h16 eh16 => ?_)
    have k17 : kF FM (97 - s) h h16 := (by rw [eh16, eh15]; exact kF_sw k12)
    have zh16 : h16.2.1 0 1 = 0 := (by rw [eh16, eh15]; exact ((eh11.1 _ _ (fun _ => by decide)).trans eh8.2.1))
    obtain ⟨s, es⟩ : ∃ q, q = 97 - s := ⟨_, rfl⟩
    rw [← es] at k17
    have hS : isS s := k17.1.2.1
    have hs0 : s = 17 ∨ s = 80 := hS
    have hs0b : 17 ≤ s ∧ s ≤ 80 := by omega
    refine A_aload_n 0 d_PM_score_62 rfl rfl ?_
    refine A_callV0 m_PM_forgetFindings T_ok d_PM_score_63 l_PM_89 k_PM_forgetFindings (xi_s k17.1 sf_0) rfl (by decide +kernel) (by decide) (Nat.le_of_ble_eq_true rfl) (s_PM_forgetFindings k17.1 ) (fun r h18 hq => ?_)
    obtain ⟨rfl, k19⟩ := hq
    have k20 := kF_t k17 k19 (fun _ q => Or.inr q)
    refine A_aload_n 0 d_PM_score_66 rfl rfl ?_
    refine A_getOv (z := some (97 - s)) T_ok d_PM_score_67 f_PM_27 (xi_s k20.1 sf_0) k20.1.2.2.1 ?_
    refine A_callV0 m_Score_allEvents T_ok d_PM_score_70 l_PM_92 k_Score_allEvents (xs_S k20.1 (isS_o hS)) rfl (by decide +kernel) (by decide) (Nat.le_of_ble_eq_true rfl) (s_Score_allEvents k20.1 (isS_o hS)) (fun r h22 hq => ?_)
    obtain ⟨x24, rfl, ⟨_, _⟩, rfl⟩ := hq
    exact A_iret d_PM_score_73 (by decide) rfl ⟨_, rfl, ⟨by omega, by omega⟩, s, k20.1, ((congrFun (k19.2 0 (by decide)).1 _).trans zh16), k20.2⟩
  · refine A_aload_n 0 d_PM_score_25 rfl rfl ?_
    refine A_aload_n 0 d_PM_score_26 rfl rfl ?_
    refine A_getOv (z := some 2) T_ok d_PM_score_27 f_PM_20 (xi_s k9.1 sf_0) (xi_r k9.1 rff_0_2) ?_
    refine A_getIf T_ok d_PM_score_30 f_PM_84 (xi_s k9.1 sf_2) (fun x26 ex26 _ _ => ?_)
    refine A_putIk (KR := kF FM s h) T_ok d_PM_score_33 f_PM_31 (xi_s k9.1 sf_0) fin_f (kF_j k9 (by decide) (ns_b rfl) rgf_0_4 (by omega) (by omega)) (fun h27 k28 eh27 => ?_)
    refine A_pc (pc' := 36) rfl ?_
    refine A_bipush d_PM_score_36 rfl ?_
    refine A_iload_n 1 d_PM_score_38 rfl rfl ?_
    refine A_isubw d_PM_score_39 (fun x29 _ _ _ => ?_)
    exact A_iret d_PM_score_40 (by decide) rfl ⟨_, rfl, ⟨by omega, by omega⟩, s, k28.1, ((eh27.1 _ _ (fun _ => by decide)).trans eh8.2.1), k28.2⟩

/-! ===== the parts of a voice, as the reference holds them ===== -/
abbrev fn_T : Type := Nat → Int
/-- at place k: what opens, goes on, closes -/
def v_step (pt mt : fn_T) (stk : Nat → List Nat) (k : Nat) : Prop :=
  ((pt k = 0 ∨ pt k = 1) ∧ stk (k + 1) = stk k) ∨ ((pt k = 2 ∨ pt k = 5) ∧ stk (k + 1) = k :: stk k) ∨ (pt k = 3 ∧ stk (k + 1) = stk k ∧ ∃ p r, stk k = p :: r ∧ pt p = 2) ∨
  (pt k = 4 ∧ ∃ p r, stk k = p :: r ∧ pt p = 2 ∧ stk (k + 1) = r ∧ mt p = (k : Int)) ∨ (pt k = 6 ∧ ∃ p r, stk k = p :: r ∧ pt p = 5 ∧ stk (k + 1) = r ∧ mt k = (p : Int))
/-- the j-th : of p -/
def col (fc nc : fn_T) (p : Nat) : Nat → Nat
  | 0 => (fc p).toNat
  | j + 1 => (nc (col fc nc p j)).toNat
def v_col (pt fc nc lc cc : fn_T) (stk : Nat → List Nat) (n p : Nat) : Prop :=
  (∀ j : Nat, (j : Int) < cc p → col fc nc p j < n ∧ pt (col fc nc p j) = 3 ∧ (∃ r, stk (col fc nc p j) = p :: r) ∧ 0 ≤ fc p ∧ (∀ i, j = i + 1 → 0 ≤ nc (col fc nc p i) ∧ col fc nc p i < col fc nc p j)) ∧
  (1 ≤ cc p → lc p = (col fc nc p (cc p - 1).toNat : Int))
def VS (pt mt fc nc lc cc pT pL : fn_T) (n : Nat) (stk : Nat → List Nat) : Prop :=
  stk 0 = [] ∧ (∀ k, k < n → v_step pt mt stk k) ∧ (∀ p, p < n → pt p = 2 → 0 ≤ cc p ∧ v_col pt fc nc lc cc stk n p) ∧ (∀ c, c < n → pt c = 3 → ∀ p r, stk c = p :: r → 1 ≤ cc p) ∧
  (∀ k, k < n → pt k = 0 → 1 ≤ pT k ∧ pT k ≤ 64) ∧ (∀ k, k < n → pt k = 5 → (1 ≤ pT k ∧ pT k ≤ 16) ∧ 1 ≤ pL k ∧ pL k ≤ 16) ∧ ∀ k, k ≤ n → (stk k).length ≤ 7
/-- the open ones -/
def VO (pt op ok : fn_T) : List Nat → Prop
  | [] => True
  | p :: r => op r.length = (p : Int) ∧ ((ok r.length = 2 ∧ pt p = 2) ∨ (ok r.length = 5 ∧ pt p = 5)) ∧ VO pt op ok r
section VSL
variable {pt mt fc nc lc cc pT pL : fn_T} {n : Nat} {stk : Nat → List Nat}
theorem vs_chain (h0 : stk 0 = []) (hV : ∀ k, k < n → v_step pt mt stk k) : ∀ k, k ≤ n → ∀ p r, stk k = p :: r → p < k ∧ r = stk p ∧ (pt p = 2 ∨ pt p = 5) := by
  intro k
  induction k using Nat.strongRecOn with
  | _ k ih =>
    intro hk p r h
    cases k with
    | zero => rw [h0] at h; cases h
    | succ k =>
      have ihk := ih k (Nat.lt_succ_self k) (by omega)
      have pop : ∀ q r', stk k = q :: r' → stk (k + 1) = r' → p < k + 1 ∧ r = stk p ∧ (pt p = 2 ∨ pt p = 5) := by
        intro q r' e1 e
        have h1 := ihk q r' e1
        rw [e, h1.2.1] at h
        have h2 := ih q (by omega) (by omega) p r h
        exact ⟨by omega, h2.2⟩
      rcases hV k (by omega) with ⟨-, e⟩ | ⟨e2, e⟩ | ⟨-, e, -⟩ | ⟨-, q, r', e1, -, e, -⟩ | ⟨-, q, r', e1, -, e, -⟩
      · rw [e] at h; have h1 := ihk p r h; exact ⟨by omega, h1.2⟩
      · rw [e] at h; cases h; exact ⟨by omega, rfl, e2⟩
      · rw [e] at h; have h1 := ihk p r h; exact ⟨by omega, h1.2⟩
      · exact pop q r' e1 e
      · exact pop q r' e1 e
theorem vs_mem (h0 : stk 0 = []) (hV : ∀ k, k < n → v_step pt mt stk k) : ∀ k, k ≤ n → ∀ p, p ∈ stk k → p < k ∧ (pt p = 2 ∨ pt p = 5) := by
  intro k
  induction k using Nat.strongRecOn with
  | _ k ih =>
    intro hk p hp
    cases hs : stk k with
    | nil => rw [hs] at hp; cases hp
    | cons q r =>
      have h1 := vs_chain h0 hV k hk q r hs
      rw [hs] at hp
      rcases List.mem_cons.mp hp with rfl | hp
      · exact ⟨h1.1, h1.2.2⟩
      · rw [h1.2.1] at hp
        have h2 := ih q h1.1 (by omega) p hp
        exact ⟨by omega, h2.2⟩
/-- an open [ is closed further on -/
theorem vs_close (h0 : stk 0 = []) (hV : ∀ k, k < n → v_step pt mt stk k) (hn : stk n = []) : ∀ d k, k + d = n → ∀ p, p ∈ stk k → pt p = 2 → ∃ c : Nat, mt p = (c : Int) ∧ k ≤ c ∧ c < n ∧ pt c = 4 ∧ (∃ r, stk c = p :: r) ∧ stk (c + 1) = stk p := by
  intro d
  induction d with
  | zero => intro k hk p hp; have : k = n := by omega
            subst this; rw [hn] at hp; cases hp
  | succ d ih =>
    intro k hk p hp h2
    have go : p ∈ stk (k + 1) → ∃ c : Nat, mt p = (c : Int) ∧ k ≤ c ∧ c < n ∧ pt c = 4 ∧ (∃ r, stk c = p :: r) ∧ stk (c + 1) = stk p := fun hm => by
      obtain ⟨c, q1, q2, q3⟩ := ih (k + 1) (by omega) p hm h2
      exact ⟨c, q1, by omega, q3⟩
    rcases hV k (by omega) with ⟨-, e⟩ | ⟨-, e⟩ | ⟨-, e, -⟩ | ⟨e4, q, r', e1, e2, e, e5⟩ | ⟨-, q, r', e1, e2, e, -⟩
    · exact go (by rw [e]; exact hp)
    · exact go (by rw [e]; exact List.mem_cons_of_mem _ hp)
    · exact go (by rw [e]; exact hp)
    · by_cases hpq : p = q
      · subst hpq
        have h3 := vs_chain h0 hV k (by omega) p r' e1
        exact ⟨k, e5, Nat.le_refl k, by omega, e4, ⟨r', e1⟩, by rw [e, h3.2.1]⟩
      · rw [e1] at hp
        rcases List.mem_cons.mp hp with h4 | h4
        · exact absurd h4 hpq
        · exact go (by rw [e]; exact h4)
    · rw [e1] at hp
      rcases List.mem_cons.mp hp with h4 | h4
      · subst h4; rw [h2] at e2; omega
      · exact go (by rw [e]; exact h4)
/-- what was closed does not come back -/
theorem vs_gone (h0 : stk 0 = []) (hV : ∀ k, k < n → v_step pt mt stk k) {c p : Nat} {r : List Nat} (hc : c < n) (hs : stk c = p :: r) (hr : stk (c + 1) = r) : ∀ d, c + 1 + d ≤ n → p ∉ stk (c + 1 + d) := by
  have h1 := vs_chain h0 hV c (by omega) p r hs
  intro d
  induction d with
  | zero =>
    intro hd hp
    have h2 : p ∈ stk p := by rw [← h1.2.1, ← hr]; exact hp
    have h3 := vs_mem h0 hV p (by omega) p h2
    omega
  | succ d ih =>
    intro hd hp
    have ih' := ih (by omega)
    rcases hV (c + 1 + d) (by omega) with ⟨-, e⟩ | ⟨-, e⟩ | ⟨-, e, -⟩ | ⟨-, q, r', e1, -, e, -⟩ | ⟨-, q, r', e1, -, e, -⟩
    · exact ih' (by rw [← e]; exact hp)
    · rw [show c + 1 + (d + 1) = c + 1 + d + 1 by omega, e] at hp
      rcases List.mem_cons.mp hp with h4 | h4
      · omega
      · exact ih' h4
    · exact ih' (by rw [← e]; exact hp)
    · rw [show c + 1 + (d + 1) = c + 1 + d + 1 by omega, e] at hp
      exact ih' (by rw [e1]; exact List.mem_cons_of_mem _ hp)
    · rw [show c + 1 + (d + 1) = c + 1 + d + 1 by omega, e] at hp
      exact ih' (by rw [e1]; exact List.mem_cons_of_mem _ hp)
end VSL
/-- one place more -/
def stk_a (stk : Nat → List Nat) (n : Nat) (l : List Nat) : Nat → List Nat := fun k => if k ≤ n then stk k else l
theorem stk_l {stk : Nat → List Nat} {n k : Nat} {l : List Nat} (h : k ≤ n) : stk_a stk n l k = stk k := if_pos h
theorem stk_r {stk : Nat → List Nat} {n : Nat} {l : List Nat} : stk_a stk n l (n + 1) = l := if_neg (by omega)
section VSA
variable {pt mt fc nc lc cc pT pL pt' mt' fc' nc' lc' cc' pT' pL' : fn_T} {n : Nat} {stk : Nat → List Nat}
theorem vs_add (hV : VS pt mt fc nc lc cc pT pL n stk) {l : List Nat} (hp : ∀ k, k < n → pt' k = pt k) (hpT : ∀ k, k < n → pT' k = pT k) (hpL : ∀ k, k < n → pL' k = pL k)
    (hm4 : ∀ k, k < n → pt k = 4 → ∀ p r, stk k = p :: r → mt' p = mt p) (hm6 : ∀ k, k < n → pt k = 6 → mt' k = mt k)
    (hs : v_step pt' mt' (stk_a stk n l) n) (hcol : ∀ p, p < n + 1 → pt' p = 2 → 0 ≤ cc' p ∧ v_col pt' fc' nc' lc' cc' (stk_a stk n l) (n + 1) p)
    (h3 : pt' n = 3 → ∀ p r, stk n = p :: r → 1 ≤ cc' p) (hcc : ∀ p, p < n → cc p ≤ cc' p) (h0 : pt' n = 0 → 1 ≤ pT' n ∧ pT' n ≤ 64) (h5 : pt' n = 5 → (1 ≤ pT' n ∧ pT' n ≤ 16) ∧ 1 ≤ pL' n ∧ pL' n ≤ 16) (hl : l.length ≤ 7) :
    VS pt' mt' fc' nc' lc' cc' pT' pL' (n + 1) (stk_a stk n l) := by
  obtain ⟨v0, v1, v2, v3, v4, v5, v6⟩ := hV
  refine ⟨by rw [stk_l (by omega)]; exact v0, fun k hk => ?_, hcol, fun c hc hc3 p r hpr => ?_, fun k hk hk0 => ?_, fun k hk hk5 => ?_, fun k hk => ?_⟩
  · by_cases hkn : k = n
    · subst hkn; exact hs
    · have hk' : k < n := by omega
      have e1 : stk_a stk n l k = stk k := stk_l (by omega)
      have e2 : stk_a stk n l (k + 1) = stk (k + 1) := stk_l (by omega)
      have ep : ∀ p r, stk k = p :: r → pt' p = pt p := fun p r h => hp p (by have := (vs_chain v0 v1 k (by omega) p r h).1; omega)
      unfold v_step
      rw [e1, e2, hp k hk']
      rcases v1 k hk' with h | h | ⟨a1, a2, p, r, a3, a4⟩ | ⟨a1, p, r, a2, a3, a4, a5⟩ | ⟨a1, p, r, a2, a3, a4, a5⟩
      · exact Or.inl h
      · exact Or.inr (Or.inl h)
      · exact Or.inr (Or.inr (Or.inl ⟨a1, a2, p, r, a3, by rw [ep p r a3]; exact a4⟩))
      · exact Or.inr (Or.inr (Or.inr (Or.inl ⟨a1, p, r, a2, by rw [ep p r a2]; exact a3, a4, by rw [hm4 k hk' a1 p r a2]; exact a5⟩)))
      · exact Or.inr (Or.inr (Or.inr (Or.inr ⟨a1, p, r, a2, by rw [ep p r a2]; exact a3, a4, by rw [hm6 k hk' a1]; exact a5⟩)))
  · by_cases hcn : c = n
    · subst hcn
      rw [stk_l (Nat.le_refl c)] at hpr
      exact h3 hc3 p r hpr
    · rw [stk_l (by omega)] at hpr
      rw [hp c (by omega)] at hc3
      have h9 := v3 c (by omega) hc3 p r hpr
      have h10 := hcc p (by have := (vs_chain v0 v1 c (by omega) p r hpr).1; omega)
      omega
  · by_cases hkn : k = n
    · subst hkn; exact h0 hk0
    · rw [hpT k (by omega)]; exact v4 k (by omega) (by rw [← hp k (by omega)]; exact hk0)
  · by_cases hkn : k = n
    · subst hkn; exact h5 hk5
    · rw [hpT k (by omega), hpL k (by omega)]; exact v5 k (by omega) (by rw [← hp k (by omega)]; exact hk5)
  · by_cases hkn : k = n + 1
    · subst hkn; rw [stk_r]; exact hl
    · rw [stk_l (by omega)]; exact v6 k (by omega)
theorem col_e {p : Nat} (hf : fc' p = fc p) : ∀ j, (∀ i, i < j → nc' (col fc nc p i) = nc (col fc nc p i)) → col fc' nc' p j = col fc nc p j := by
  intro j
  induction j with
  | zero => intro _; show (fc' p).toNat = _; rw [hf]; rfl
  | succ j ih =>
    intro h
    have h1 := ih (fun i hi => h i (by omega))
    show (nc' (col fc' nc' p j)).toNat = (nc (col fc nc p j)).toNat
    rw [h1, h j (by omega)]
/-- the : of p stay, where none comes to them -/
theorem vcol_k {p : Nat} {l : List Nat} (h : v_col pt fc nc lc cc stk n p) (hp : ∀ k, k < n → pt' k = pt k) (hf : fc' p = fc p) (hl : lc' p = lc p) (hc : cc' p = cc p)
    (hn : ∀ i, ((i + 1 : Nat) : Int) < cc p → nc' (col fc nc p i) = nc (col fc nc p i)) : v_col pt' fc' nc' lc' cc' (stk_a stk n l) (n + 1) p := by
  obtain ⟨h1, h2⟩ := h
  have hcol : ∀ j : Nat, (j : Int) < cc p → col fc' nc' p j = col fc nc p j := fun j hj => col_e hf j (fun i hi => hn i (by omega))
  refine ⟨fun j hj => ?_, fun hc1 => ?_⟩
  · rw [hc] at hj
    obtain ⟨a1, a2, ⟨r, a3⟩, a4, a5⟩ := h1 j hj
    rw [hcol j hj, hf]
    refine ⟨by omega, by rw [hp _ a1]; exact a2, ⟨r, by rw [stk_l (by omega)]; exact a3⟩, a4, fun i hi => ?_⟩
    obtain ⟨b1, b2⟩ := a5 i hi
    rw [hcol i (by omega), hn i (by omega)]
    exact ⟨b1, b2⟩
  · rw [hc] at hc1 ⊢
    rw [hl, h2 hc1, hcol _ (by omega)]
end VSA
/-! ===== the same over a heap ===== -/
def VH (h : ah_T) (stk : Nat → List Nat) : Prop :=
  VS (h.2.1 201) (h.2.1 210) (h.2.1 211) (h.2.1 212) (h.2.1 213) (h.2.1 214) (h.2.1 202) (h.2.1 203) (h.2.1 170 43).toNat stk ∧ VO (h.2.1 201) (h.2.1 215) (h.2.1 216) (stk (h.2.1 170 43).toNat) ∧ ((stk (h.2.1 170 43).toNat).length : Int) = h.2.1 170 63
def VHx (h : ah_T) : Prop := 0 ≤ h.2.1 170 43 ∧ ∃ stk, VH h stk
/-- only what is said of the parts matters -/
theorem VHx_s {h h' : ah_T} (H : VHx h) (e43 : h'.2.1 170 43 = h.2.1 170 43) (e63 : h'.2.1 170 63 = h.2.1 170 63) (fe : ∀ a, a ∈ [201, 202, 203, 210, 211, 212, 213, 214, 215, 216] → h'.2.1 a = h.2.1 a) : VHx h' := by
  obtain ⟨h0, stk, h1, h2, h3⟩ := H
  have F : ∀ a, a ∈ [201, 202, 203, 210, 211, 212, 213, 214, 215, 216] → h'.2.1 a = h.2.1 a := fe
  refine ⟨by rw [e43]; exact h0, stk, ?_⟩
  unfold VH
  rw [e43, e63, F 201 (by decide), F 202 (by decide), F 203 (by decide), F 210 (by decide), F 211 (by decide), F 212 (by decide), F 213 (by decide), F 214 (by decide), F 215 (by decide), F 216 (by decide)]
  exact ⟨h1, h2, h3⟩
theorem VO_e {pt op ok pt' op' ok' : fn_T} : ∀ l : List Nat, (∀ p, p ∈ l → pt' p = pt p) → (∀ i, i < l.length → op' i = op i ∧ ok' i = ok i) → VO pt op ok l → VO pt' op' ok' l
  | [], _, _, _ => trivial
  | p :: r, hp, ho, h => by
    have h1 := ho r.length (by simp)
    refine ⟨by rw [h1.1]; exact h.1, by rw [h1.2, hp p List.mem_cons_self]; exact h.2.1, VO_e r (fun q hq => hp q (List.mem_cons_of_mem _ hq)) (fun i hi => ho i (by simp; omega)) h.2.2⟩
theorem VH_0 {h : ah_T} (e43 : h.2.1 170 43 = 0) (e63 : h.2.1 170 63 = 0) : VHx h := by
  refine ⟨by omega, fun _ => [], ?_⟩
  unfold VH
  rw [e43, e63]
  refine ⟨⟨rfl, fun k hk => absurd hk (Nat.not_lt_zero k), fun k hk => absurd hk (Nat.not_lt_zero k), fun k hk => absurd hk (Nat.not_lt_zero k), fun k hk => absurd hk (Nat.not_lt_zero k), fun k hk => absurd hk (Nat.not_lt_zero k), fun k _ => Nat.zero_le _⟩, trivial, rfl⟩
/-- a sound, or a | -/
theorem VH_s {h h' : ah_T} {x : Int} (H : VHx h) (ex : h.2.1 170 43 = x) (e43 : h'.2.1 170 43 = x + 1) (e63 : h'.2.1 170 63 = h.2.1 170 63) (f201 : ∀ k, k ≠ x.toNat → h'.2.1 201 k = h.2.1 201 k)
    (v201 : h'.2.1 201 x.toNat = 1 ∨ (h'.2.1 201 x.toNat = 0 ∧ 1 ≤ h'.2.1 202 x.toNat ∧ h'.2.1 202 x.toNat ≤ 64)) (f202 : ∀ k, k ≠ x.toNat → h'.2.1 202 k = h.2.1 202 k)
    (fe : ∀ a, a ∈ [203, 210, 211, 212, 213, 214, 215, 216] → h'.2.1 a = h.2.1 a) : VHx h' := by
  obtain ⟨h0, stk, h1, h2, h3⟩ := H
  have hn : (h'.2.1 170 43).toNat = x.toNat + 1 := by omega
  have hx : (h.2.1 170 43).toNat = x.toNat := by rw [ex]
  rw [hx] at h1 h2 h3
  refine ⟨by omega, stk_a stk x.toNat (stk x.toNat), ?_⟩
  unfold VH
  rw [hn, e63, stk_r, fe 203 (by decide), fe 210 (by decide), fe 211 (by decide), fe 212 (by decide), fe 213 (by decide), fe 214 (by decide), fe 215 (by decide), fe 216 (by decide)]
  obtain ⟨v0, v1, v2, v3, v4, v5, v6⟩ := id h1
  refine ⟨vs_add h1 (fun k hk => f201 k (by omega)) (fun k hk => f202 k (by omega)) (fun k hk => rfl) (fun _ _ _ _ _ _ => rfl) (fun _ _ _ => rfl) ?_ (fun p hp h9 => ?_) (fun q => ?_) (fun p _ => Int.le_refl _) (fun q => ?_) (fun q => ?_) (v6 _ (Nat.le_refl _)), ?_, h3⟩
  · refine Or.inl ⟨?_, by rw [stk_r, stk_l (Nat.le_refl _)]⟩
    rcases v201 with q | q
    · exact Or.inr q
    · exact Or.inl q.1
  · by_cases hpx : p = x.toNat
    · subst hpx; rcases v201 with q | q <;> omega
    · rw [f201 p hpx] at h9
      have h10 := v2 p (by omega) h9
      exact ⟨h10.1, vcol_k h10.2 (fun k hk => f201 k (by omega)) rfl rfl rfl (fun _ _ => rfl)⟩
  · rcases v201 with q' | q' <;> omega
  · rcases v201 with q' | q'
    · omega
    · exact q'.2
  · rcases v201 with q' | q' <;> omega
  · exact VO_e _ (fun p hp => f201 p (by have := (vs_mem v0 v1 _ (Nat.le_refl _) p hp).1; omega)) (fun i _ => ⟨rfl, rfl⟩) h2
/-- [ or { -/
theorem VH_o {h h' : ah_T} {x m c : Int} (H : VHx h) (ex : h.2.1 170 43 = x) (em : h.2.1 170 63 = m) (hm : m ≤ 6) (e43 : h'.2.1 170 43 = x + 1) (e63 : h'.2.1 170 63 = m + 1) (hc : c = 2 ∨ c = 5) (f201 : ∀ k, k ≠ x.toNat → h'.2.1 201 k = h.2.1 201 k) (v201 : h'.2.1 201 x.toNat = c)
    (f202 : ∀ k, k ≠ x.toNat → h'.2.1 202 k = h.2.1 202 k) (f203 : ∀ k, k ≠ x.toNat → h'.2.1 203 k = h.2.1 203 k) (hv : c = 5 → (1 ≤ h'.2.1 202 x.toNat ∧ h'.2.1 202 x.toNat ≤ 16) ∧ 1 ≤ h'.2.1 203 x.toNat ∧ h'.2.1 203 x.toNat ≤ 16)
    (f214 : ∀ k, k ≠ x.toNat → h'.2.1 214 k = h.2.1 214 k) (v214 : c = 2 → h'.2.1 214 x.toNat = 0) (f215 : ∀ k, k ≠ m.toNat → h'.2.1 215 k = h.2.1 215 k) (v215 : h'.2.1 215 m.toNat = x) (f216 : ∀ k, k ≠ m.toNat → h'.2.1 216 k = h.2.1 216 k) (v216 : h'.2.1 216 m.toNat = c)
    (fe : ∀ a, a ∈ [210, 211, 212, 213] → h'.2.1 a = h.2.1 a) : VHx h' := by
  obtain ⟨h0, stk, h1, h2, h3⟩ := H
  have hn : (h'.2.1 170 43).toNat = x.toNat + 1 := by omega
  have hx : (h.2.1 170 43).toNat = x.toNat := by rw [ex]
  rw [hx] at h1 h2 h3
  have hlen : (stk x.toNat).length = m.toNat := by omega
  refine ⟨by omega, stk_a stk x.toNat (x.toNat :: stk x.toNat), ?_⟩
  unfold VH
  rw [hn, e63, stk_r, fe 210 (by decide), fe 211 (by decide), fe 212 (by decide), fe 213 (by decide)]
  obtain ⟨v0, v1, v2, v3, v4, v5, v6⟩ := id h1
  refine ⟨vs_add h1 (fun k hk => f201 k (by omega)) (fun k hk => f202 k (by omega)) (fun k hk => f203 k (by omega)) (fun _ _ _ _ _ _ => rfl) (fun _ _ _ => rfl) ?_ (fun p hp h9 => ?_) (fun q => ?_) (fun p hp => ?_) (fun q => ?_) (fun q => hv (by omega)) (by simp only [List.length_cons]; omega), ?_, by simp only [List.length_cons]; omega⟩
  · exact Or.inr (Or.inl ⟨by omega, by rw [stk_r, stk_l (Nat.le_refl _)]⟩)
  · by_cases hpx : p = x.toNat
    · subst hpx
      have hz : h'.2.1 214 x.toNat = 0 := v214 (by omega)
      exact ⟨by omega, fun j hj => by omega, fun q => by omega⟩
    · rw [f201 p hpx] at h9
      have h10 := v2 p (by omega) h9
      exact ⟨by rw [f214 p hpx]; exact h10.1, vcol_k h10.2 (fun k hk => f201 k (by omega)) rfl rfl (f214 p hpx) (fun _ _ => rfl)⟩
  · omega
  · rw [f214 p (by omega)]; exact Int.le_refl _
  · omega
  · refine ⟨by rw [hlen, v215]; omega, by rw [hlen, v216, v201]; rcases hc with q | q <;> subst q <;> simp, ?_⟩
    exact VO_e _ (fun p hp => f201 p (by have := (vs_mem v0 v1 _ (Nat.le_refl _) p hp).1; omega)) (fun i hi => ⟨f215 i (by omega), f216 i (by omega)⟩) h2
/-- the innermost open one -/
theorem VH_top {h : ah_T} {m : Int} (H : VHx h) (em : h.2.1 170 63 = m) (hm : 1 ≤ m) : ∃ p : Nat, h.2.1 215 (m - 1).toNat = (p : Int) ∧ (p : Int) < h.2.1 170 43 ∧ ((h.2.1 216 (m - 1).toNat = 2 ∧ h.2.1 201 p = 2) ∨ (h.2.1 216 (m - 1).toNat = 5 ∧ h.2.1 201 p = 5)) := by
  obtain ⟨h0, stk, h1, h2, h3⟩ := H
  obtain ⟨v0, v1, v2, v3, v4, v5, v6⟩ := id h1
  cases hs : stk (h.2.1 170 43).toNat with
  | nil => rw [hs] at h3; simp at h3; omega
  | cons p r =>
    rw [hs] at h2 h3
    have hl : r.length = (m - 1).toNat := by simp only [List.length_cons] at h3; omega
    have h4 := (vs_chain v0 v1 _ (Nat.le_refl _) p r hs).1
    refine ⟨p, by rw [← hl]; exact h2.1, by omega, ?_⟩
    rw [← hl]
    exact h2.2.1
/-- ] or } -/
theorem VH_c {h h' : ah_T} {x m p c : Int} (H : VHx h) (ex : h.2.1 170 43 = x) (em : h.2.1 170 63 = m) (hm : 1 ≤ m) (ep : h.2.1 215 (m - 1).toNat = p) (e43 : h'.2.1 170 43 = x + 1) (e63 : h'.2.1 170 63 = m - 1) (hc : (h.2.1 216 (m - 1).toNat = 2 ∧ c = 4) ∨ (h.2.1 216 (m - 1).toNat ≠ 2 ∧ c = 6)) (f201 : ∀ k, k ≠ x.toNat → h'.2.1 201 k = h.2.1 201 k) (v201 : h'.2.1 201 x.toNat = c)
    (f210 : ∀ k, k ≠ x.toNat → k ≠ p.toNat → h'.2.1 210 k = h.2.1 210 k) (v210 : h'.2.1 210 x.toNat = p) (w210 : h'.2.1 210 p.toNat = x)
    (fe : ∀ a, a ∈ [202, 203, 211, 212, 213, 214, 215, 216] → h'.2.1 a = h.2.1 a) : VHx h' := by
  have HH := H
  obtain ⟨h0, stk, h1, h2, h3⟩ := H
  have hn : (h'.2.1 170 43).toNat = x.toNat + 1 := by omega
  have hx : (h.2.1 170 43).toNat = x.toNat := by rw [ex]
  rw [hx] at h1 h2 h3
  obtain ⟨v0, v1, v2, v3, v4, v5, v6⟩ := id h1
  cases hs : stk x.toNat with
  | nil => rw [hs] at h3; simp at h3; omega
  | cons q r =>
    rw [hs] at h2 h3
    have hl : r.length = (m - 1).toNat := by simp only [List.length_cons] at h3; omega
    have hch := vs_chain v0 v1 _ (Nat.le_refl _) q r hs
    have hq : h.2.1 215 (m - 1).toNat = (q : Int) := by rw [← hl]; exact h2.1
    have hpq : p = (q : Int) := by rw [← ep, hq]
    have hk := h2.2.1
    rw [hl] at hk
    have hpn : p.toNat = q := by omega
    refine ⟨by omega, stk_a stk x.toNat r, ?_⟩
    unfold VH
    rw [hn, e63, stk_r, fe 202 (by decide), fe 203 (by decide), fe 211 (by decide), fe 212 (by decide), fe 213 (by decide), fe 214 (by decide), fe 215 (by decide), fe 216 (by decide)]
    refine ⟨vs_add h1 (fun k hk => f201 k (by omega)) (fun k hk => rfl) (fun k hk => rfl) (fun k hkl h4 p' r' hs' => ?_) (fun k hkl h6 => ?_) ?_ (fun p' hp' h9 => ?_) (fun q' => ?_) (fun p _ => Int.le_refl _) (fun q' => ?_) (fun q' => ?_) (by have h20 := v6 _ (Nat.le_refl x.toNat); rw [hs] at h20; simp only [List.length_cons] at h20; omega), ?_, by omega⟩
    · -- p' was closed at k: it is not q, which is open at x
      have h5 := vs_chain v0 v1 k (by omega) p' r' hs'
      have hne : p' ≠ q := by
        intro e
        subst e
        rcases v1 k hkl with ⟨w, -⟩ | ⟨w, -⟩ | ⟨w, -⟩ | ⟨w, p2, r2, w2, w3, w4, w5⟩ | ⟨w, -⟩ <;> try omega
        rw [hs'] at w2
        cases w2
        have h6 := vs_gone v0 v1 hkl hs' w4 (x.toNat - (k + 1)) (by omega)
        rw [show k + 1 + (x.toNat - (k + 1)) = x.toNat by omega, hs] at h6
        exact h6 List.mem_cons_self
      exact f210 p' (by omega) (by omega)
    · have hne : k ≠ q := by
        intro e
        subst e
        rcases hk with q' | q' <;> omega
      exact f210 k (by omega) (by omega)
    · have e1 : h'.2.1 201 q = h.2.1 201 q := f201 q (by omega)
      rcases hc with ⟨c1, c2⟩ | ⟨c1, c2⟩
      · refine Or.inr (Or.inr (Or.inr (Or.inl ⟨by omega, q, r, by rw [stk_l (Nat.le_refl _)]; exact hs, by rw [e1]; rcases hk with q' | q' <;> omega, by rw [stk_r], ?_⟩)))
        rw [← hpn, w210]; omega
      · refine Or.inr (Or.inr (Or.inr (Or.inr ⟨by omega, q, r, by rw [stk_l (Nat.le_refl _)]; exact hs, by rw [e1]; rcases hk with q' | q' <;> omega, by rw [stk_r], ?_⟩)))
        rw [v210, hpq]
    · have hpx : p' ≠ x.toNat := by
        intro e; subst e; rcases hc with q' | q' <;> omega
      rw [f201 p' hpx] at h9
      have h10 := v2 p' (by omega) h9
      exact ⟨h10.1, vcol_k h10.2 (fun k hk => f201 k (by omega)) rfl rfl rfl (fun _ _ => rfl)⟩
    · rcases hc with w | w <;> omega
    · rcases hc with w | w <;> omega
    · rcases hc with w | w <;> omega
    · have hmem : ∀ p', p' ∈ r → p' ∈ stk x.toNat := fun p' hp' => by rw [hs]; exact List.mem_cons_of_mem _ hp'
      exact VO_e _ (fun p' hp' => f201 p' (by have := (vs_mem v0 v1 _ (Nat.le_refl _) p' (hmem p' hp')).1; omega)) (fun i _ => ⟨rfl, rfl⟩) h2.2.2
theorem col_lt {pt fc nc lc cc : fn_T} {stk : Nat → List Nat} {n p : Nat} (h : v_col pt fc nc lc cc stk n p) : ∀ j : Nat, (j : Int) < cc p → ∀ i, i < j → col fc nc p i < col fc nc p j := by
  intro j
  induction j with
  | zero => intro _ i hi; omega
  | succ j ih =>
    intro hj i hi
    have h1 := (h.1 (j + 1) hj).2.2.2.2 j rfl
    by_cases hij : i = j
    · subst hij; exact h1.2
    · have h2 := ih (by omega) i (by omega)
      omega
/-- a : of the innermost [ -/
theorem VH_k {h h' : ah_T} {x m p : Int} (H : VHx h) (ex : h.2.1 170 43 = x) (em : h.2.1 170 63 = m) (hm : 1 ≤ m) (ep : h.2.1 215 (m - 1).toNat = p) (ek : h.2.1 216 (m - 1).toNat = 2) (e43 : h'.2.1 170 43 = x + 1) (e63 : h'.2.1 170 63 = m) (f201 : ∀ k, k ≠ x.toNat → h'.2.1 201 k = h.2.1 201 k) (v201 : h'.2.1 201 x.toNat = 3)
    (hc : (h.2.1 214 p.toNat = 0 ∧ (∀ k, k ≠ p.toNat → h'.2.1 211 k = h.2.1 211 k) ∧ h'.2.1 211 p.toNat = x ∧ (∀ k, h'.2.1 212 k = h.2.1 212 k)) ∨ (h.2.1 214 p.toNat ≠ 0 ∧ (∀ k, h'.2.1 211 k = h.2.1 211 k) ∧ (∀ k, k ≠ (h.2.1 213 p.toNat).toNat → h'.2.1 212 k = h.2.1 212 k) ∧ h'.2.1 212 (h.2.1 213 p.toNat).toNat = x))
    (f213 : ∀ k, k ≠ p.toNat → h'.2.1 213 k = h.2.1 213 k) (v213 : h'.2.1 213 p.toNat = x) (f214 : ∀ k, k ≠ p.toNat → h'.2.1 214 k = h.2.1 214 k) (v214 : h'.2.1 214 p.toNat = h.2.1 214 p.toNat + 1)
    (fe : ∀ a, a ∈ [202, 203, 210, 215, 216] → h'.2.1 a = h.2.1 a) : VHx h' := by
  obtain ⟨h0, stk, h1, h2, h3⟩ := H
  have hn : (h'.2.1 170 43).toNat = x.toNat + 1 := by omega
  have hx : (h.2.1 170 43).toNat = x.toNat := by rw [ex]
  rw [hx] at h1 h2 h3
  obtain ⟨v0, v1, v2, v3, v4, v5, v6⟩ := id h1
  cases hs : stk x.toNat with
  | nil => rw [hs] at h3; simp at h3; omega
  | cons q r =>
    rw [hs] at h2 h3
    have hl : r.length = (m - 1).toNat := by simp only [List.length_cons] at h3; omega
    have hch := vs_chain v0 v1 _ (Nat.le_refl _) q r hs
    have hq : h.2.1 215 (m - 1).toNat = (q : Int) := by rw [← hl]; exact h2.1
    have hpq : p = (q : Int) := by rw [← ep, hq]
    have hk := h2.2.1
    rw [hl] at hk
    have hpn : p.toNat = q := by omega
    rw [hpn] at hc f213 v213 f214 v214
    have hq2 : h.2.1 201 q = 2 := by rcases hk with w | w <;> omega
    obtain ⟨cc0, vc⟩ := v2 q hch.1 hq2
    have hsx : stk_a stk x.toNat (q :: r) x.toNat = q :: r := by rw [stk_l (Nat.le_refl _)]; exact hs
    refine ⟨by omega, stk_a stk x.toNat (q :: r), ?_⟩
    unfold VH
    rw [hn, e63, stk_r, fe 202 (by decide), fe 203 (by decide), fe 210 (by decide), fe 215 (by decide), fe 216 (by decide)]
    have hV1 : ∀ k, k < x.toNat → h'.2.1 201 k = h.2.1 201 k := fun k hk => f201 k (by omega)
    -- the : of q
    have hq' : 0 ≤ h'.2.1 214 q ∧ v_col (h'.2.1 201) (h'.2.1 211) (h'.2.1 212) (h'.2.1 213) (h'.2.1 214) (stk_a stk x.toNat (q :: r)) (x.toNat + 1) q := by
      refine ⟨by omega, ?_⟩
      rcases hc with ⟨c0, g211, w211, g212⟩ | ⟨c0, g211, g212, w212⟩
      · have hz : col (h'.2.1 211) (h'.2.1 212) q 0 = x.toNat := by show (h'.2.1 211 q).toNat = _; rw [w211]
        refine ⟨fun j hj => ?_, fun _ => ?_⟩
        · have hj0 : j = 0 := by omega
          subst hj0
          rw [hz]
          exact ⟨by omega, v201, ⟨r, hsx⟩, by omega, fun i hi => by omega⟩
        · rw [v213, v214, c0]
          show x = (col _ _ q 0 : Int)
          rw [hz]; omega
      · have hge : 1 ≤ h.2.1 214 q := by omega
        have hlc : h.2.1 213 q = (col (h.2.1 211) (h.2.1 212) q (h.2.1 214 q - 1).toNat : Int) := vc.2 hge
        generalize hL : (h.2.1 214 q - 1).toNat = e at hlc
        have hcol : ∀ j : Nat, (j : Int) < h.2.1 214 q → col (h'.2.1 211) (h'.2.1 212) q j = col (h.2.1 211) (h.2.1 212) q j := fun j hj => col_e (g211 q) j (fun i hi => by
          have h9 := col_lt vc e (by omega) i (by omega)
          exact g212 _ (by omega))
        have hlast : col (h'.2.1 211) (h'.2.1 212) q (e + 1) = x.toNat := by
          show (h'.2.1 212 (col _ _ q e)).toNat = _
          rw [hcol e (by omega), show col (h.2.1 211) (h.2.1 212) q e = (h.2.1 213 q).toNat by omega, w212]
        refine ⟨fun j hj => ?_, fun _ => ?_⟩
        · by_cases hje : j = e + 1
          · subst hje
            rw [hlast]
            refine ⟨by omega, v201, ⟨r, hsx⟩, ?_, fun i hi => ?_⟩
            · rw [g211 q]; exact (vc.1 0 (by omega)).2.2.2.1
            · have : i = e := by omega
              subst this
              have h9 := (vc.1 i (by omega)).1
              rw [hcol i (by omega)]
              exact ⟨by rw [show col (h.2.1 211) (h.2.1 212) q i = (h.2.1 213 q).toNat by omega, w212]; omega, h9⟩
          · obtain ⟨a1, a2, ⟨r', a3⟩, a4, a5⟩ := vc.1 j (by omega)
            rw [hcol j (by omega)]
            refine ⟨by omega, by rw [hV1 _ a1]; exact a2, ⟨r', by rw [stk_l (by omega)]; exact a3⟩, by rw [g211 q]; exact a4, fun i hi => ?_⟩
            obtain ⟨b1, b2⟩ := a5 i hi
            have h9 := col_lt vc e (by omega) i (by omega)
            rw [hcol i (by omega), g212 _ (by omega)]
            exact ⟨b1, b2⟩
        · rw [v213, v214, show (h.2.1 214 q + 1 - 1).toNat = e + 1 by omega, hlast]; omega
    refine ⟨vs_add h1 hV1 (fun k hk => rfl) (fun k hk => rfl) (fun _ _ _ _ _ _ => rfl) (fun _ _ _ => rfl) ?_ (fun p' hp' h9 => ?_) (fun _ p' r' w => ?_) (fun p' _ => ?_) (fun w => by omega) (fun w => by omega) (by have h20 := v6 _ (Nat.le_refl x.toNat); rw [hs] at h20; exact h20), ?_, by omega⟩
    · exact Or.inr (Or.inr (Or.inl ⟨v201, by rw [stk_r, hsx], q, r, hsx, by rw [f201 q (by omega)]; exact hq2⟩))
    · by_cases hpq' : p' = q
      · subst hpq'; exact hq'
      · have hpx : p' ≠ x.toNat := by intro e; subst e; omega
        rw [f201 p' hpx] at h9
        have h10 := v2 p' (by omega) h9
        refine ⟨by rw [f214 p' hpq']; exact h10.1, vcol_k h10.2 hV1 ?_ (f213 p' hpq') (f214 p' hpq') (fun i hi => ?_)⟩
        · rcases hc with ⟨-, g, -⟩ | ⟨-, g, -⟩
          · exact g p' hpq'
          · exact g p'
        · rcases hc with ⟨-, -, -, g⟩ | ⟨c0, -, g, -⟩
          · exact g _
          · refine g _ (fun e => ?_)
            have hge : 1 ≤ h.2.1 214 q := by omega
            have hlc := vc.2 hge
            obtain ⟨-, -, ⟨r1, s1⟩, -⟩ := vc.1 (h.2.1 214 q - 1).toNat (by omega)
            obtain ⟨-, -, ⟨r2, s2⟩, -⟩ := h10.2.1 i (by omega)
            rw [show col (h.2.1 211) (h.2.1 212) p' i = col (h.2.1 211) (h.2.1 212) q (h.2.1 214 q - 1).toNat by omega, s1] at s2
            cases s2
            exact hpq' rfl
    · rw [hs] at w; cases w; omega
    · by_cases hpq' : p' = q
      · subst hpq'; omega
      · rw [f214 p' hpq']; exact Int.le_refl _
    · have hVO : VO (h.2.1 201) (h.2.1 215) (h.2.1 216) (q :: r) := h2
      exact VO_e (q :: r) (fun p' hp' => f201 p' (by have := (vs_mem v0 v1 _ (Nat.le_refl _) p' (by rw [hs]; exact hp')).1; omega)) (fun i _ => ⟨rfl, rfl⟩) hVO
/-- within a sound at x -/
def SI (h hq : ah_T) (x : Int) : Prop := hq.2.1 170 43 = x + 1 ∧ (∀ k, k ≠ x.toNat → hq.2.1 201 k = h.2.1 201 k) ∧ hq.2.1 201 x.toNat = 0 ∧ ∀ k, k ≠ x.toNat → hq.2.1 202 k = h.2.1 202 k
