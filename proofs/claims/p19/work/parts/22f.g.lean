/-! ===== the class's methods, 22f ===== -/
def m_Reader_blame : mr_T := (⟨"PlainMusic$Reader", "blame", "(II)Z"⟩, prog_7_method_4_code, 3, some .boolean)
theorem d_Reader_blame_0 : decode prog_7_method_4_code 0 = .ok (.aload_n 0, 1) := by decide +kernel
theorem d_Reader_blame_1 : decode prog_7_method_4_code 1 = .ok (.iload_n 1, 1) := by decide +kernel
theorem d_Reader_blame_2 : decode prog_7_method_4_code 2 = .ok (.putfield 43, 3) := by decide +kernel
theorem f_Reader_43 : fl_OK "PlainMusic$Reader" 43 5 6 .int false := ⟨_, rfl, by decide, gwi_418, rfl, rfl⟩
theorem sf_2 : sh_L[2]? = some (5 + 4, 8) := by decide +kernel
theorem rgf_2_6 : rg 2 6 = ((-2147483648), 2147483647) := by decide +kernel
theorem d_Reader_blame_5 : decode prog_7_method_4_code 5 = .ok (.aload_n 0, 1) := by decide +kernel
theorem d_Reader_blame_6 : decode prog_7_method_4_code 6 = .ok (.iload_n 2, 1) := by decide +kernel
theorem d_Reader_blame_7 : decode prog_7_method_4_code 7 = .ok (.putfield 72, 3) := by decide +kernel
theorem f_Reader_72 : fl_OK "PlainMusic$Reader" 72 5 7 .int false := ⟨_, rfl, by decide, gwi_419, rfl, rfl⟩
theorem rgf_2_7 : rg 2 7 = ((-2147483648), 2147483647) := by decide +kernel
theorem d_Reader_blame_10 : decode prog_7_method_4_code 10 = .ok (.iconst 0, 1) := by decide +kernel
theorem d_Reader_blame_11 : decode prog_7_method_4_code 11 = .ok (.ireturn, 1) := by decide +kernel
def m_Reader_refuse : mr_T := (⟨"PlainMusic$Reader", "refuse", "()Z"⟩, prog_7_method_5_code, 1, some .boolean)
theorem d_Reader_refuse_0 : decode prog_7_method_5_code 0 = .ok (.aload_n 0, 1) := by decide +kernel
theorem d_Reader_refuse_1 : decode prog_7_method_5_code 1 = .ok (.aload_n 0, 1) := by decide +kernel
theorem d_Reader_refuse_2 : decode prog_7_method_5_code 2 = .ok (.getfield 12, 3) := by decide +kernel
theorem rff_2_0 : (2, 0, 3) ∈ rf_L := by decide +kernel
theorem d_Reader_refuse_5 : decode prog_7_method_5_code 5 = .ok (.getfield 50, 3) := by decide +kernel
theorem f_Reader_50 : fl_OK "PlainMusic$Reader" 50 8 9 .int false := ⟨_, rfl, by decide, gwi_184, rfl, rfl⟩
theorem d_Reader_refuse_8 : decode prog_7_method_5_code 8 = .ok (.sipush 257, 3) := by decide +kernel
theorem d_Reader_refuse_11 : decode prog_7_method_5_code 11 = .ok (.if_icmp .ne 7, 3) := by decide +kernel
theorem d_Reader_refuse_18 : decode prog_7_method_5_code 18 = .ok (.iconst 2, 1) := by decide +kernel
theorem d_Reader_refuse_19 : decode prog_7_method_5_code 19 = .ok (.putfield 43, 3) := by decide +kernel
theorem d_Reader_refuse_22 : decode prog_7_method_5_code 22 = .ok (.aload_n 0, 1) := by decide +kernel
theorem d_Reader_refuse_23 : decode prog_7_method_5_code 23 = .ok (.aload_n 0, 1) := by decide +kernel
theorem d_Reader_refuse_24 : decode prog_7_method_5_code 24 = .ok (.getfield 12, 3) := by decide +kernel
theorem d_Reader_refuse_27 : decode prog_7_method_5_code 27 = .ok (.getfield 75, 3) := by decide +kernel
theorem f_Reader_75 : fl_OK "PlainMusic$Reader" 75 8 10 .int false := ⟨_, rfl, by decide, gwi_187, rfl, rfl⟩
theorem d_Reader_refuse_30 : decode prog_7_method_5_code 30 = .ok (.putfield 72, 3) := by decide +kernel
theorem d_Reader_refuse_33 : decode prog_7_method_5_code 33 = .ok (.iconst 0, 1) := by decide +kernel
theorem d_Reader_refuse_34 : decode prog_7_method_5_code 34 = .ok (.ireturn, 1) := by decide +kernel
theorem d_Reader_refuse_14 : decode prog_7_method_5_code 14 = .ok (.iconst 1, 1) := by decide +kernel
theorem d_Reader_refuse_15 : decode prog_7_method_5_code 15 = .ok (.goto 4, 3) := by decide +kernel
def m_Reader_take : mr_T := (⟨"PlainMusic$Reader", "take", "(I)Z"⟩, prog_7_method_6_code, 2, some .boolean)
theorem d_Reader_take_0 : decode prog_7_method_6_code 0 = .ok (.aload_n 0, 1) := by decide +kernel
theorem d_Reader_take_1 : decode prog_7_method_6_code 1 = .ok (.getfield 12, 3) := by decide +kernel
theorem d_Reader_take_4 : decode prog_7_method_6_code 4 = .ok (.getfield 50, 3) := by decide +kernel
theorem d_Reader_take_7 : decode prog_7_method_6_code 7 = .ok (.iload_n 1, 1) := by decide +kernel
theorem d_Reader_take_8 : decode prog_7_method_6_code 8 = .ok (.if_icmp .eq 8, 3) := by decide +kernel
theorem d_Reader_take_16 : decode prog_7_method_6_code 16 = .ok (.aload_n 0, 1) := by decide +kernel
theorem d_Reader_take_17 : decode prog_7_method_6_code 17 = .ok (.getfield 12, 3) := by decide +kernel
theorem d_Reader_take_20 : decode prog_7_method_6_code 20 = .ok (.invokevirtual 78, 3) := by decide +kernel
theorem l_Reader_78 : ml_OK "PlainMusic$Reader" 78 ⟨"PlainMusic$Tokens", "next", "()V"⟩ := Or.inl gwi_824
theorem d_Reader_take_23 : decode prog_7_method_6_code 23 = .ok (.iconst 1, 1) := by decide +kernel
theorem d_Reader_take_24 : decode prog_7_method_6_code 24 = .ok (.ireturn, 1) := by decide +kernel
theorem d_Reader_take_11 : decode prog_7_method_6_code 11 = .ok (.aload_n 0, 1) := by decide +kernel
theorem d_Reader_take_12 : decode prog_7_method_6_code 12 = .ok (.invokevirtual 69, 3) := by decide +kernel
theorem k_Reader_refuse : mt_OK m_Reader_refuse 0 1 := ⟨gwi_832, gwi_135, ⟨by decide +kernel, by decide +kernel, by decide +kernel⟩, fun h => absurd h (by decide), fun _ => ⟨gwi_831, gwi_10⟩, fun h => absurd h (by decide)⟩
theorem l_Reader_69 : ml_OK "PlainMusic$Reader" 69 ⟨"PlainMusic$Reader", "refuse", "()Z"⟩ := Or.inl gwi_829
theorem d_Reader_take_15 : decode prog_7_method_6_code 15 = .ok (.ireturn, 1) := by decide +kernel
def m_Reader_readNumber : mr_T := (⟨"PlainMusic$Reader", "readNumber", "(IZ)I"⟩, prog_7_method_7_code, 4, some .int)
theorem d_Reader_readNumber_0 : decode prog_7_method_7_code 0 = .ok (.aload_n 0, 1) := by decide +kernel
theorem d_Reader_readNumber_1 : decode prog_7_method_7_code 1 = .ok (.getfield 12, 3) := by decide +kernel
theorem d_Reader_readNumber_4 : decode prog_7_method_7_code 4 = .ok (.getfield 50, 3) := by decide +kernel
theorem d_Reader_readNumber_7 : decode prog_7_method_7_code 7 = .ok (.sipush 259, 3) := by decide +kernel
theorem d_Reader_readNumber_10 : decode prog_7_method_7_code 10 = .ok (.if_icmp .eq 10, 3) := by decide +kernel
theorem d_Reader_readNumber_20 : decode prog_7_method_7_code 20 = .ok (.aload_n 0, 1) := by decide +kernel
theorem d_Reader_readNumber_21 : decode prog_7_method_7_code 21 = .ok (.getfield 12, 3) := by decide +kernel
theorem d_Reader_readNumber_24 : decode prog_7_method_7_code 24 = .ok (.getfield 81, 3) := by decide +kernel
theorem f_Reader_81 : fl_OK "PlainMusic$Reader" 81 8 11 .long false := ⟨_, rfl, by decide, gwi_189, rfl, rfl⟩
theorem d_Reader_readNumber_27 : decode prog_7_method_7_code 27 = .ok (.l2i, 1) := by decide +kernel
theorem d_Reader_readNumber_28 : decode prog_7_method_7_code 28 = .ok (.istore_n 3, 1) := by decide +kernel
theorem d_Reader_readNumber_29 : decode prog_7_method_7_code 29 = .ok (.iload_n 3, 1) := by decide +kernel
theorem d_Reader_readNumber_30 : decode prog_7_method_7_code 30 = .ok (.iconst 1, 1) := by decide +kernel
theorem d_Reader_readNumber_31 : decode prog_7_method_7_code 31 = .ok (.if_icmp .lt 20, 3) := by decide +kernel
theorem d_Reader_readNumber_51 : decode prog_7_method_7_code 51 = .ok (.aload_n 0, 1) := by decide +kernel
theorem d_Reader_readNumber_52 : decode prog_7_method_7_code 52 = .ok (.iconst 5, 1) := by decide +kernel
theorem d_Reader_readNumber_53 : decode prog_7_method_7_code 53 = .ok (.aload_n 0, 1) := by decide +kernel
theorem d_Reader_readNumber_54 : decode prog_7_method_7_code 54 = .ok (.getfield 12, 3) := by decide +kernel
theorem d_Reader_readNumber_57 : decode prog_7_method_7_code 57 = .ok (.getfield 75, 3) := by decide +kernel
theorem d_Reader_readNumber_60 : decode prog_7_method_7_code 60 = .ok (.invokevirtual 91, 3) := by decide +kernel
theorem k_Reader_blame : mt_OK m_Reader_blame 2 1 := ⟨gwi_823, gwi_135, ⟨by decide +kernel, by decide +kernel, by decide +kernel⟩, fun h => absurd h (by decide), fun _ => ⟨gwi_822, gwi_8⟩, fun h => absurd h (by decide)⟩
theorem l_Reader_91 : ml_OK "PlainMusic$Reader" 91 ⟨"PlainMusic$Reader", "blame", "(II)Z"⟩ := Or.inl gwi_820
theorem d_Reader_readNumber_63 : decode prog_7_method_7_code 63 = .ok (.pop, 1) := by decide +kernel
theorem d_Reader_readNumber_64 : decode prog_7_method_7_code 64 = .ok (.iconst 0, 1) := by decide +kernel
theorem d_Reader_readNumber_65 : decode prog_7_method_7_code 65 = .ok (.ireturn, 1) := by decide +kernel
theorem d_Reader_readNumber_34 : decode prog_7_method_7_code 34 = .ok (.iload_n 3, 1) := by decide +kernel
theorem d_Reader_readNumber_35 : decode prog_7_method_7_code 35 = .ok (.iload_n 1, 1) := by decide +kernel
theorem d_Reader_readNumber_36 : decode prog_7_method_7_code 36 = .ok (.if_icmp .gt 15, 3) := by decide +kernel
theorem d_Reader_readNumber_39 : decode prog_7_method_7_code 39 = .ok (.iload_n 2, 1) := by decide +kernel
theorem d_Reader_readNumber_40 : decode prog_7_method_7_code 40 = .ok (.ifCond .eq 26, 3) := by decide +kernel
theorem d_Reader_readNumber_66 : decode prog_7_method_7_code 66 = .ok (.aload_n 0, 1) := by decide +kernel
theorem d_Reader_readNumber_67 : decode prog_7_method_7_code 67 = .ok (.getfield 12, 3) := by decide +kernel
theorem d_Reader_readNumber_70 : decode prog_7_method_7_code 70 = .ok (.invokevirtual 78, 3) := by decide +kernel
theorem d_Reader_readNumber_73 : decode prog_7_method_7_code 73 = .ok (.iload_n 3, 1) := by decide +kernel
theorem d_Reader_readNumber_74 : decode prog_7_method_7_code 74 = .ok (.ireturn, 1) := by decide +kernel
theorem d_Reader_readNumber_43 : decode prog_7_method_7_code 43 = .ok (.iload_n 3, 1) := by decide +kernel
theorem d_Reader_readNumber_44 : decode prog_7_method_7_code 44 = .ok (.invokestatic 85, 3) := by decide +kernel
theorem k_JInteger_bitCount : mt_OK m_JInteger_bitCount 1 0 := ⟨gwi_835, gwi_153, ⟨by decide +kernel, by decide +kernel, by decide +kernel⟩, fun _ => gwi_834, fun h => absurd h (by decide), fun h => absurd h (by decide)⟩
theorem l_Reader_85 : ml_OK "PlainMusic$Reader" 85 ⟨"java/lang/Integer", "bitCount", "(I)I"⟩ := Or.inl gwi_833
theorem d_Reader_readNumber_47 : decode prog_7_method_7_code 47 = .ok (.iconst 1, 1) := by decide +kernel
theorem d_Reader_readNumber_48 : decode prog_7_method_7_code 48 = .ok (.if_icmp .eq 18, 3) := by decide +kernel
theorem d_Reader_readNumber_13 : decode prog_7_method_7_code 13 = .ok (.aload_n 0, 1) := by decide +kernel
theorem d_Reader_readNumber_14 : decode prog_7_method_7_code 14 = .ok (.invokevirtual 69, 3) := by decide +kernel
theorem d_Reader_readNumber_17 : decode prog_7_method_7_code 17 = .ok (.pop, 1) := by decide +kernel
theorem d_Reader_readNumber_18 : decode prog_7_method_7_code 18 = .ok (.iconst 0, 1) := by decide +kernel
theorem d_Reader_readNumber_19 : decode prog_7_method_7_code 19 = .ok (.ireturn, 1) := by decide +kernel
def m_Reader_readTime : mr_T := (⟨"PlainMusic$Reader", "readTime", "()Z"⟩, prog_7_method_8_code, 3, some .boolean)
theorem d_Reader_readTime_0 : decode prog_7_method_8_code 0 = .ok (.aload_n 0, 1) := by decide +kernel
theorem d_Reader_readTime_1 : decode prog_7_method_8_code 1 = .ok (.getfield 32, 3) := by decide +kernel
theorem d_Reader_readTime_4 : decode prog_7_method_8_code 4 = .ok (.getfield 95, 3) := by decide +kernel
theorem f_Reader_95 : fl_OK "PlainMusic$Reader" 95 6 4 .boolean false := ⟨_, rfl, by decide, gwi_362, rfl, rfl⟩
theorem d_Reader_readTime_7 : decode prog_7_method_8_code 7 = .ok (.ifCond .eq 16, 3) := by decide +kernel
theorem d_Reader_readTime_23 : decode prog_7_method_8_code 23 = .ok (.aload_n 0, 1) := by decide +kernel
theorem d_Reader_readTime_24 : decode prog_7_method_8_code 24 = .ok (.getfield 12, 3) := by decide +kernel
theorem d_Reader_readTime_27 : decode prog_7_method_8_code 27 = .ok (.invokevirtual 78, 3) := by decide +kernel
theorem d_Reader_readTime_30 : decode prog_7_method_8_code 30 = .ok (.aload_n 0, 1) := by decide +kernel
theorem d_Reader_readTime_31 : decode prog_7_method_8_code 31 = .ok (.bipush 32, 2) := by decide +kernel
theorem d_Reader_readTime_33 : decode prog_7_method_8_code 33 = .ok (.iconst 0, 1) := by decide +kernel
theorem d_Reader_readTime_34 : decode prog_7_method_8_code 34 = .ok (.invokevirtual 99, 3) := by decide +kernel
theorem k_Reader_readNumber : mt_OK m_Reader_readNumber 2 1 := ⟨gwi_828, gwi_135, ⟨by decide +kernel, by decide +kernel, by decide +kernel⟩, fun h => absurd h (by decide), fun _ => ⟨gwi_827, gwi_9⟩, fun h => absurd h (by decide)⟩
theorem l_Reader_99 : ml_OK "PlainMusic$Reader" 99 ⟨"PlainMusic$Reader", "readNumber", "(IZ)I"⟩ := Or.inl gwi_825
theorem d_Reader_readTime_37 : decode prog_7_method_8_code 37 = .ok (.istore_n 1, 1) := by decide +kernel
theorem d_Reader_readTime_38 : decode prog_7_method_8_code 38 = .ok (.iload_n 1, 1) := by decide +kernel
theorem d_Reader_readTime_39 : decode prog_7_method_8_code 39 = .ok (.ifCond .eq 12, 3) := by decide +kernel
theorem d_Reader_readTime_51 : decode prog_7_method_8_code 51 = .ok (.iconst 0, 1) := by decide +kernel
theorem d_Reader_readTime_52 : decode prog_7_method_8_code 52 = .ok (.ireturn, 1) := by decide +kernel
theorem d_Reader_readTime_42 : decode prog_7_method_8_code 42 = .ok (.aload_n 0, 1) := by decide +kernel
theorem d_Reader_readTime_43 : decode prog_7_method_8_code 43 = .ok (.bipush 47, 2) := by decide +kernel
theorem d_Reader_readTime_45 : decode prog_7_method_8_code 45 = .ok (.invokevirtual 103, 3) := by decide +kernel
theorem k_Reader_take : mt_OK m_Reader_take 1 1 := ⟨gwi_842, gwi_135, ⟨by decide +kernel, by decide +kernel, by decide +kernel⟩, fun h => absurd h (by decide), fun _ => ⟨gwi_841, gwi_11⟩, fun h => absurd h (by decide)⟩
theorem l_Reader_103 : ml_OK "PlainMusic$Reader" 103 ⟨"PlainMusic$Reader", "take", "(I)Z"⟩ := Or.inl gwi_839
theorem d_Reader_readTime_48 : decode prog_7_method_8_code 48 = .ok (.ifCond .ne 5, 3) := by decide +kernel
theorem d_Reader_readTime_53 : decode prog_7_method_8_code 53 = .ok (.aload_n 0, 1) := by decide +kernel
theorem d_Reader_readTime_54 : decode prog_7_method_8_code 54 = .ok (.bipush 32, 2) := by decide +kernel
theorem d_Reader_readTime_56 : decode prog_7_method_8_code 56 = .ok (.iconst 1, 1) := by decide +kernel
theorem d_Reader_readTime_57 : decode prog_7_method_8_code 57 = .ok (.invokevirtual 99, 3) := by decide +kernel
theorem d_Reader_readTime_60 : decode prog_7_method_8_code 60 = .ok (.istore_n 2, 1) := by decide +kernel
theorem d_Reader_readTime_61 : decode prog_7_method_8_code 61 = .ok (.iload_n 2, 1) := by decide +kernel
theorem d_Reader_readTime_62 : decode prog_7_method_8_code 62 = .ok (.ifCond .ne 5, 3) := by decide +kernel
theorem d_Reader_readTime_67 : decode prog_7_method_8_code 67 = .ok (.aload_n 0, 1) := by decide +kernel
theorem d_Reader_readTime_68 : decode prog_7_method_8_code 68 = .ok (.getfield 32, 3) := by decide +kernel
theorem d_Reader_readTime_71 : decode prog_7_method_8_code 71 = .ok (.iload_n 1, 1) := by decide +kernel
theorem d_Reader_readTime_72 : decode prog_7_method_8_code 72 = .ok (.iload_n 2, 1) := by decide +kernel
theorem d_Reader_readTime_73 : decode prog_7_method_8_code 73 = .ok (.invokevirtual 107, 3) := by decide +kernel
theorem k_Score_setTime : mt_OK m_Score_setTime 2 1 := ⟨gwi_846, gwi_138, ⟨by decide +kernel, by decide +kernel, by decide +kernel⟩, fun h => absurd h (by decide), fun _ => ⟨gwi_844, gwi_845⟩, fun h => absurd h (by decide)⟩
theorem l_Reader_107 : ml_OK "PlainMusic$Reader" 107 ⟨"PlainMusic$Score", "setTime", "(II)V"⟩ := Or.inl gwi_843
theorem d_Reader_readTime_76 : decode prog_7_method_8_code 76 = .ok (.aload_n 0, 1) := by decide +kernel
theorem d_Reader_readTime_77 : decode prog_7_method_8_code 77 = .ok (.bipush 59, 2) := by decide +kernel
theorem d_Reader_readTime_79 : decode prog_7_method_8_code 79 = .ok (.invokevirtual 103, 3) := by decide +kernel
theorem d_Reader_readTime_82 : decode prog_7_method_8_code 82 = .ok (.ireturn, 1) := by decide +kernel
theorem d_Reader_readTime_65 : decode prog_7_method_8_code 65 = .ok (.iconst 0, 1) := by decide +kernel
theorem d_Reader_readTime_66 : decode prog_7_method_8_code 66 = .ok (.ireturn, 1) := by decide +kernel
theorem d_Reader_readTime_10 : decode prog_7_method_8_code 10 = .ok (.aload_n 0, 1) := by decide +kernel
theorem d_Reader_readTime_11 : decode prog_7_method_8_code 11 = .ok (.iconst 4, 1) := by decide +kernel
theorem d_Reader_readTime_12 : decode prog_7_method_8_code 12 = .ok (.aload_n 0, 1) := by decide +kernel
theorem d_Reader_readTime_13 : decode prog_7_method_8_code 13 = .ok (.getfield 12, 3) := by decide +kernel
theorem d_Reader_readTime_16 : decode prog_7_method_8_code 16 = .ok (.getfield 75, 3) := by decide +kernel
theorem d_Reader_readTime_19 : decode prog_7_method_8_code 19 = .ok (.invokevirtual 91, 3) := by decide +kernel
theorem d_Reader_readTime_22 : decode prog_7_method_8_code 22 = .ok (.ireturn, 1) := by decide +kernel
def m_Reader_readLine : mr_T := (⟨"PlainMusic$Reader", "readLine", "()Z"⟩, prog_7_method_9_code, 2, some .boolean)
theorem d_Reader_readLine_0 : decode prog_7_method_9_code 0 = .ok (.aload_n 0, 1) := by decide +kernel
theorem d_Reader_readLine_1 : decode prog_7_method_9_code 1 = .ok (.getfield 32, 3) := by decide +kernel
theorem d_Reader_readLine_4 : decode prog_7_method_9_code 4 = .ok (.getfield 111, 3) := by decide +kernel
theorem f_Reader_111 : fl_OK "PlainMusic$Reader" 111 6 6 .int false := ⟨_, rfl, by decide, gwi_368, rfl, rfl⟩
theorem d_Reader_readLine_7 : decode prog_7_method_9_code 7 = .ok (.ifCond .le 16, 3) := by decide +kernel
theorem d_Reader_readLine_23 : decode prog_7_method_9_code 23 = .ok (.aload_n 0, 1) := by decide +kernel
theorem d_Reader_readLine_24 : decode prog_7_method_9_code 24 = .ok (.getfield 12, 3) := by decide +kernel
theorem d_Reader_readLine_27 : decode prog_7_method_9_code 27 = .ok (.invokevirtual 78, 3) := by decide +kernel
theorem d_Reader_readLine_30 : decode prog_7_method_9_code 30 = .ok (.aload_n 0, 1) := by decide +kernel
theorem d_Reader_readLine_31 : decode prog_7_method_9_code 31 = .ok (.getfield 12, 3) := by decide +kernel
theorem d_Reader_readLine_34 : decode prog_7_method_9_code 34 = .ok (.getfield 50, 3) := by decide +kernel
theorem d_Reader_readLine_37 : decode prog_7_method_9_code 37 = .ok (.sipush 258, 3) := by decide +kernel
theorem d_Reader_readLine_40 : decode prog_7_method_9_code 40 = .ok (.if_icmp .eq 8, 3) := by decide +kernel
theorem d_Reader_readLine_48 : decode prog_7_method_9_code 48 = .ok (.iconst 0, 1) := by decide +kernel
theorem d_Reader_readLine_49 : decode prog_7_method_9_code 49 = .ok (.istore_n 1, 1) := by decide +kernel
theorem d_Reader_readLine_50 : decode prog_7_method_9_code 50 = .ok (.iload_n 1, 1) := by decide +kernel
theorem d_Reader_readLine_51 : decode prog_7_method_9_code 51 = .ok (.bipush 8, 2) := by decide +kernel
theorem d_Reader_readLine_53 : decode prog_7_method_9_code 53 = .ok (.if_icmp .gt 60, 3) := by decide +kernel
theorem d_Reader_readLine_56 : decode prog_7_method_9_code 56 = .ok (.aload_n 0, 1) := by decide +kernel
theorem d_Reader_readLine_57 : decode prog_7_method_9_code 57 = .ok (.getfield 12, 3) := by decide +kernel
theorem d_Reader_readLine_60 : decode prog_7_method_9_code 60 = .ok (.getfield 50, 3) := by decide +kernel
theorem d_Reader_readLine_63 : decode prog_7_method_9_code 63 = .ok (.sipush 258, 3) := by decide +kernel
theorem d_Reader_readLine_66 : decode prog_7_method_9_code 66 = .ok (.if_icmp .ne 47, 3) := by decide +kernel
theorem d_Reader_readLine_113 : decode prog_7_method_9_code 113 = .ok (.aload_n 0, 1) := by decide +kernel
theorem d_Reader_readLine_114 : decode prog_7_method_9_code 114 = .ok (.bipush 59, 2) := by decide +kernel
theorem d_Reader_readLine_116 : decode prog_7_method_9_code 116 = .ok (.invokevirtual 103, 3) := by decide +kernel
theorem d_Reader_readLine_119 : decode prog_7_method_9_code 119 = .ok (.ireturn, 1) := by decide +kernel
theorem d_Reader_readLine_69 : decode prog_7_method_9_code 69 = .ok (.aload_n 0, 1) := by decide +kernel
theorem d_Reader_readLine_70 : decode prog_7_method_9_code 70 = .ok (.getfield 32, 3) := by decide +kernel
theorem d_Reader_readLine_73 : decode prog_7_method_9_code 73 = .ok (.aload_n 0, 1) := by decide +kernel
theorem d_Reader_readLine_74 : decode prog_7_method_9_code 74 = .ok (.getfield 12, 3) := by decide +kernel
theorem d_Reader_readLine_77 : decode prog_7_method_9_code 77 = .ok (.getfield 81, 3) := by decide +kernel
theorem d_Reader_readLine_80 : decode prog_7_method_9_code 80 = .ok (.l2i, 1) := by decide +kernel
theorem d_Reader_readLine_81 : decode prog_7_method_9_code 81 = .ok (.invokevirtual 114, 3) := by decide +kernel
theorem k_Score_addToLine : mt_OK m_Score_addToLine 1 1 := ⟨gwi_958, gwi_138, ⟨by decide +kernel, by decide +kernel, by decide +kernel⟩, fun h => absurd h (by decide), fun _ => ⟨gwi_956, gwi_957⟩, fun h => absurd h (by decide)⟩
theorem l_Reader_114 : ml_OK "PlainMusic$Reader" 114 ⟨"PlainMusic$Score", "addToLine", "(I)Z"⟩ := Or.inl gwi_955
theorem d_Reader_readLine_84 : decode prog_7_method_9_code 84 = .ok (.ifCond .ne 16, 3) := by decide +kernel
theorem d_Reader_readLine_100 : decode prog_7_method_9_code 100 = .ok (.aload_n 0, 1) := by decide +kernel
theorem d_Reader_readLine_101 : decode prog_7_method_9_code 101 = .ok (.getfield 12, 3) := by decide +kernel
theorem d_Reader_readLine_104 : decode prog_7_method_9_code 104 = .ok (.invokevirtual 78, 3) := by decide +kernel
theorem d_Reader_readLine_107 : decode prog_7_method_9_code 107 = .ok (.iinc 1 1, 3) := by decide +kernel
theorem d_Reader_readLine_110 : decode prog_7_method_9_code 110 = .ok (.goto (-60), 3) := by decide +kernel
theorem d_Reader_readLine_87 : decode prog_7_method_9_code 87 = .ok (.aload_n 0, 1) := by decide +kernel
theorem d_Reader_readLine_88 : decode prog_7_method_9_code 88 = .ok (.iconst 3, 1) := by decide +kernel
theorem d_Reader_readLine_89 : decode prog_7_method_9_code 89 = .ok (.aload_n 0, 1) := by decide +kernel
theorem d_Reader_readLine_90 : decode prog_7_method_9_code 90 = .ok (.getfield 12, 3) := by decide +kernel
theorem d_Reader_readLine_93 : decode prog_7_method_9_code 93 = .ok (.getfield 75, 3) := by decide +kernel
theorem d_Reader_readLine_96 : decode prog_7_method_9_code 96 = .ok (.invokevirtual 91, 3) := by decide +kernel
theorem d_Reader_readLine_99 : decode prog_7_method_9_code 99 = .ok (.ireturn, 1) := by decide +kernel
theorem d_Reader_readLine_43 : decode prog_7_method_9_code 43 = .ok (.aload_n 0, 1) := by decide +kernel
theorem d_Reader_readLine_44 : decode prog_7_method_9_code 44 = .ok (.invokevirtual 69, 3) := by decide +kernel
theorem d_Reader_readLine_47 : decode prog_7_method_9_code 47 = .ok (.ireturn, 1) := by decide +kernel
theorem d_Reader_readLine_10 : decode prog_7_method_9_code 10 = .ok (.aload_n 0, 1) := by decide +kernel
theorem d_Reader_readLine_11 : decode prog_7_method_9_code 11 = .ok (.iconst 4, 1) := by decide +kernel
theorem d_Reader_readLine_12 : decode prog_7_method_9_code 12 = .ok (.aload_n 0, 1) := by decide +kernel
theorem d_Reader_readLine_13 : decode prog_7_method_9_code 13 = .ok (.getfield 12, 3) := by decide +kernel
theorem d_Reader_readLine_16 : decode prog_7_method_9_code 16 = .ok (.getfield 75, 3) := by decide +kernel
theorem d_Reader_readLine_19 : decode prog_7_method_9_code 19 = .ok (.invokevirtual 91, 3) := by decide +kernel
theorem d_Reader_readLine_22 : decode prog_7_method_9_code 22 = .ok (.ireturn, 1) := by decide +kernel
def m_Reader_readName : mr_T := (⟨"PlainMusic$Reader", "readName", "()I"⟩, prog_7_method_12_code, 2, some .int)
theorem d_Reader_readName_0 : decode prog_7_method_12_code 0 = .ok (.aload_n 0, 1) := by decide +kernel
theorem d_Reader_readName_1 : decode prog_7_method_12_code 1 = .ok (.getfield 12, 3) := by decide +kernel
theorem d_Reader_readName_4 : decode prog_7_method_12_code 4 = .ok (.getfield 50, 3) := by decide +kernel
theorem d_Reader_readName_7 : decode prog_7_method_12_code 7 = .ok (.sipush 260, 3) := by decide +kernel
theorem d_Reader_readName_10 : decode prog_7_method_12_code 10 = .ok (.if_icmp .eq 10, 3) := by decide +kernel
theorem d_Reader_readName_20 : decode prog_7_method_12_code 20 = .ok (.iconst 0, 1) := by decide +kernel
theorem d_Reader_readName_21 : decode prog_7_method_12_code 21 = .ok (.istore_n 1, 1) := by decide +kernel
theorem d_Reader_readName_22 : decode prog_7_method_12_code 22 = .ok (.iload_n 1, 1) := by decide +kernel
theorem d_Reader_readName_23 : decode prog_7_method_12_code 23 = .ok (.aload_n 0, 1) := by decide +kernel
theorem d_Reader_readName_24 : decode prog_7_method_12_code 24 = .ok (.getfield 39, 3) := by decide +kernel
theorem f_Reader_39 : fl_OK "PlainMusic$Reader" 39 5 3 .int false := ⟨_, rfl, by decide, gwi_415, rfl, rfl⟩
theorem rgf_2_3 : rg 2 3 = (0, 16) := by decide +kernel
theorem d_Reader_readName_27 : decode prog_7_method_12_code 27 = .ok (.if_icmp .ge 35, 3) := by decide +kernel
theorem d_Reader_readName_62 : decode prog_7_method_12_code 62 = .ok (.iload_n 1, 1) := by decide +kernel
theorem d_Reader_readName_63 : decode prog_7_method_12_code 63 = .ok (.aload_n 0, 1) := by decide +kernel
theorem d_Reader_readName_64 : decode prog_7_method_12_code 64 = .ok (.getfield 25, 3) := by decide +kernel
theorem rff_2_2 : (2, 2, 16) ∈ rf_L := by decide +kernel
theorem d_Reader_readName_67 : decode prog_7_method_12_code 67 = .ok (.arraylength, 1) := by decide +kernel
theorem sf_16 : sh_L[16]? = some (1, 16) := by decide +kernel
theorem d_Reader_readName_68 : decode prog_7_method_12_code 68 = .ok (.if_icmp .lt 18, 3) := by decide +kernel
theorem d_Reader_readName_86 : decode prog_7_method_12_code 86 = .ok (.iload_n 1, 1) := by decide +kernel
theorem d_Reader_readName_87 : decode prog_7_method_12_code 87 = .ok (.aload_n 0, 1) := by decide +kernel
theorem d_Reader_readName_88 : decode prog_7_method_12_code 88 = .ok (.getfield 39, 3) := by decide +kernel
theorem d_Reader_readName_91 : decode prog_7_method_12_code 91 = .ok (.if_icmp .ne 26, 3) := by decide +kernel
theorem d_Reader_readName_94 : decode prog_7_method_12_code 94 = .ok (.aload_n 0, 1) := by decide +kernel
theorem d_Reader_readName_95 : decode prog_7_method_12_code 95 = .ok (.getfield 25, 3) := by decide +kernel
theorem d_Reader_readName_98 : decode prog_7_method_12_code 98 = .ok (.iload_n 1, 1) := by decide +kernel
theorem d_Reader_readName_99 : decode prog_7_method_12_code 99 = .ok (.aload_n 0, 1) := by decide +kernel
theorem d_Reader_readName_100 : decode prog_7_method_12_code 100 = .ok (.getfield 12, 3) := by decide +kernel
theorem d_Reader_readName_103 : decode prog_7_method_12_code 103 = .ok (.getfield 81, 3) := by decide +kernel
theorem d_Reader_readName_106 : decode prog_7_method_12_code 106 = .ok (.lastore, 1) := by decide +kernel
theorem d_Reader_readName_107 : decode prog_7_method_12_code 107 = .ok (.aload_n 0, 1) := by decide +kernel
theorem d_Reader_readName_108 : decode prog_7_method_12_code 108 = .ok (.dup, 1) := by decide +kernel
theorem d_Reader_readName_109 : decode prog_7_method_12_code 109 = .ok (.getfield 39, 3) := by decide +kernel
theorem d_Reader_readName_112 : decode prog_7_method_12_code 112 = .ok (.iconst 1, 1) := by decide +kernel
theorem d_Reader_readName_113 : decode prog_7_method_12_code 113 = .ok (.iadd, 1) := by decide +kernel
theorem d_Reader_readName_114 : decode prog_7_method_12_code 114 = .ok (.putfield 39, 3) := by decide +kernel
theorem d_Reader_readName_117 : decode prog_7_method_12_code 117 = .ok (.aload_n 0, 1) := by decide +kernel
theorem d_Reader_readName_118 : decode prog_7_method_12_code 118 = .ok (.getfield 12, 3) := by decide +kernel
theorem d_Reader_readName_121 : decode prog_7_method_12_code 121 = .ok (.invokevirtual 78, 3) := by decide +kernel
theorem d_Reader_readName_124 : decode prog_7_method_12_code 124 = .ok (.iload_n 1, 1) := by decide +kernel
theorem d_Reader_readName_125 : decode prog_7_method_12_code 125 = .ok (.ireturn, 1) := by decide +kernel
theorem d_Reader_readName_30 : decode prog_7_method_12_code 30 = .ok (.iload_n 1, 1) := by decide +kernel
theorem d_Reader_readName_31 : decode prog_7_method_12_code 31 = .ok (.aload_n 0, 1) := by decide +kernel
theorem d_Reader_readName_32 : decode prog_7_method_12_code 32 = .ok (.getfield 25, 3) := by decide +kernel
theorem d_Reader_readName_35 : decode prog_7_method_12_code 35 = .ok (.arraylength, 1) := by decide +kernel
theorem d_Reader_readName_36 : decode prog_7_method_12_code 36 = .ok (.if_icmp .ge 26, 3) := by decide +kernel
theorem d_Reader_readName_39 : decode prog_7_method_12_code 39 = .ok (.aload_n 0, 1) := by decide +kernel
theorem d_Reader_readName_40 : decode prog_7_method_12_code 40 = .ok (.getfield 25, 3) := by decide +kernel
theorem d_Reader_readName_43 : decode prog_7_method_12_code 43 = .ok (.iload_n 1, 1) := by decide +kernel
theorem d_Reader_readName_44 : decode prog_7_method_12_code 44 = .ok (.laload, 1) := by decide +kernel
theorem d_Reader_readName_45 : decode prog_7_method_12_code 45 = .ok (.aload_n 0, 1) := by decide +kernel
theorem d_Reader_readName_46 : decode prog_7_method_12_code 46 = .ok (.getfield 12, 3) := by decide +kernel
theorem d_Reader_readName_49 : decode prog_7_method_12_code 49 = .ok (.getfield 81, 3) := by decide +kernel
theorem d_Reader_readName_52 : decode prog_7_method_12_code 52 = .ok (.lcmp, 1) := by decide +kernel
theorem d_Reader_readName_53 : decode prog_7_method_12_code 53 = .ok (.ifCond .eq 9, 3) := by decide +kernel
theorem d_Reader_readName_56 : decode prog_7_method_12_code 56 = .ok (.iinc 1 1, 3) := by decide +kernel
theorem d_Reader_readName_59 : decode prog_7_method_12_code 59 = .ok (.goto (-37), 3) := by decide +kernel
theorem d_Reader_readName_71 : decode prog_7_method_12_code 71 = .ok (.aload_n 0, 1) := by decide +kernel
theorem d_Reader_readName_72 : decode prog_7_method_12_code 72 = .ok (.iconst 3, 1) := by decide +kernel
theorem d_Reader_readName_73 : decode prog_7_method_12_code 73 = .ok (.aload_n 0, 1) := by decide +kernel
theorem d_Reader_readName_74 : decode prog_7_method_12_code 74 = .ok (.getfield 12, 3) := by decide +kernel
theorem d_Reader_readName_77 : decode prog_7_method_12_code 77 = .ok (.getfield 75, 3) := by decide +kernel
theorem d_Reader_readName_80 : decode prog_7_method_12_code 80 = .ok (.invokevirtual 91, 3) := by decide +kernel
theorem d_Reader_readName_83 : decode prog_7_method_12_code 83 = .ok (.pop, 1) := by decide +kernel
theorem d_Reader_readName_84 : decode prog_7_method_12_code 84 = .ok (.iconst (-1), 1) := by decide +kernel
theorem d_Reader_readName_85 : decode prog_7_method_12_code 85 = .ok (.ireturn, 1) := by decide +kernel
theorem d_Reader_readName_13 : decode prog_7_method_12_code 13 = .ok (.aload_n 0, 1) := by decide +kernel
theorem d_Reader_readName_14 : decode prog_7_method_12_code 14 = .ok (.invokevirtual 69, 3) := by decide +kernel
theorem d_Reader_readName_17 : decode prog_7_method_12_code 17 = .ok (.pop, 1) := by decide +kernel
theorem d_Reader_readName_18 : decode prog_7_method_12_code 18 = .ok (.iconst (-1), 1) := by decide +kernel
theorem d_Reader_readName_19 : decode prog_7_method_12_code 19 = .ok (.ireturn, 1) := by decide +kernel
def m_Reader_readRule : mr_T := (⟨"PlainMusic$Reader", "readRule", "()Z"⟩, prog_7_method_10_code, 4, some .boolean)
theorem d_Reader_readRule_0 : decode prog_7_method_10_code 0 = .ok (.aload_n 0, 1) := by decide +kernel
theorem d_Reader_readRule_1 : decode prog_7_method_10_code 1 = .ok (.getfield 32, 3) := by decide +kernel
theorem d_Reader_readRule_4 : decode prog_7_method_10_code 4 = .ok (.getfield 117, 3) := by decide +kernel
theorem f_Reader_117 : fl_OK "PlainMusic$Reader" 117 6 10 .int false := ⟨_, rfl, by decide, gwi_378, rfl, rfl⟩
theorem d_Reader_readRule_7 : decode prog_7_method_10_code 7 = .ok (.bipush 24, 2) := by decide +kernel
theorem d_Reader_readRule_9 : decode prog_7_method_10_code 9 = .ok (.if_icmp .lt 16, 3) := by decide +kernel
theorem d_Reader_readRule_25 : decode prog_7_method_10_code 25 = .ok (.aload_n 0, 1) := by decide +kernel
theorem d_Reader_readRule_26 : decode prog_7_method_10_code 26 = .ok (.getfield 12, 3) := by decide +kernel
theorem d_Reader_readRule_29 : decode prog_7_method_10_code 29 = .ok (.invokevirtual 78, 3) := by decide +kernel
theorem d_Reader_readRule_32 : decode prog_7_method_10_code 32 = .ok (.aload_n 0, 1) := by decide +kernel
theorem d_Reader_readRule_33 : decode prog_7_method_10_code 33 = .ok (.invokevirtual 120, 3) := by decide +kernel
theorem k_Reader_readName : mt_OK m_Reader_readName 0 1 := ⟨gwi_966, gwi_135, ⟨by decide +kernel, by decide +kernel, by decide +kernel⟩, fun h => absurd h (by decide), fun _ => ⟨gwi_965, gwi_25⟩, fun h => absurd h (by decide)⟩
theorem l_Reader_120 : ml_OK "PlainMusic$Reader" 120 ⟨"PlainMusic$Reader", "readName", "()I"⟩ := Or.inl gwi_963
theorem d_Reader_readRule_36 : decode prog_7_method_10_code 36 = .ok (.istore_n 1, 1) := by decide +kernel
theorem d_Reader_readRule_37 : decode prog_7_method_10_code 37 = .ok (.iload_n 1, 1) := by decide +kernel
theorem d_Reader_readRule_38 : decode prog_7_method_10_code 38 = .ok (.ifCond .lt 12, 3) := by decide +kernel
theorem d_Reader_readRule_50 : decode prog_7_method_10_code 50 = .ok (.iconst 0, 1) := by decide +kernel
theorem d_Reader_readRule_51 : decode prog_7_method_10_code 51 = .ok (.ireturn, 1) := by decide +kernel
theorem d_Reader_readRule_41 : decode prog_7_method_10_code 41 = .ok (.aload_n 0, 1) := by decide +kernel
theorem d_Reader_readRule_42 : decode prog_7_method_10_code 42 = .ok (.bipush 61, 2) := by decide +kernel
theorem d_Reader_readRule_44 : decode prog_7_method_10_code 44 = .ok (.invokevirtual 103, 3) := by decide +kernel
theorem d_Reader_readRule_47 : decode prog_7_method_10_code 47 = .ok (.ifCond .ne 5, 3) := by decide +kernel
theorem d_Reader_readRule_52 : decode prog_7_method_10_code 52 = .ok (.aload_n 0, 1) := by decide +kernel
theorem d_Reader_readRule_53 : decode prog_7_method_10_code 53 = .ok (.invokevirtual 120, 3) := by decide +kernel
theorem d_Reader_readRule_56 : decode prog_7_method_10_code 56 = .ok (.istore_n 2, 1) := by decide +kernel
theorem d_Reader_readRule_57 : decode prog_7_method_10_code 57 = .ok (.iload_n 2, 1) := by decide +kernel
theorem d_Reader_readRule_58 : decode prog_7_method_10_code 58 = .ok (.ifCond .ge 5, 3) := by decide +kernel
theorem d_Reader_readRule_63 : decode prog_7_method_10_code 63 = .ok (.iconst (-1), 1) := by decide +kernel
theorem d_Reader_readRule_64 : decode prog_7_method_10_code 64 = .ok (.istore_n 3, 1) := by decide +kernel
theorem d_Reader_readRule_65 : decode prog_7_method_10_code 65 = .ok (.aload_n 0, 1) := by decide +kernel
theorem d_Reader_readRule_66 : decode prog_7_method_10_code 66 = .ok (.getfield 12, 3) := by decide +kernel
theorem d_Reader_readRule_69 : decode prog_7_method_10_code 69 = .ok (.getfield 50, 3) := by decide +kernel
theorem d_Reader_readRule_72 : decode prog_7_method_10_code 72 = .ok (.sipush 260, 3) := by decide +kernel
theorem d_Reader_readRule_75 : decode prog_7_method_10_code 75 = .ok (.if_icmp .ne 14, 3) := by decide +kernel
theorem d_Reader_readRule_89 : decode prog_7_method_10_code 89 = .ok (.aload_n 0, 1) := by decide +kernel
theorem d_Reader_readRule_90 : decode prog_7_method_10_code 90 = .ok (.getfield 32, 3) := by decide +kernel
theorem d_Reader_readRule_93 : decode prog_7_method_10_code 93 = .ok (.iload_n 1, 1) := by decide +kernel
theorem d_Reader_readRule_94 : decode prog_7_method_10_code 94 = .ok (.iload_n 2, 1) := by decide +kernel
theorem d_Reader_readRule_95 : decode prog_7_method_10_code 95 = .ok (.iload_n 3, 1) := by decide +kernel
theorem d_Reader_readRule_96 : decode prog_7_method_10_code 96 = .ok (.invokevirtual 124, 3) := by decide +kernel
theorem k_Score_addRule : mt_OK m_Score_addRule 3 1 := ⟨gwi_970, gwi_138, ⟨by decide +kernel, by decide +kernel, by decide +kernel⟩, fun h => absurd h (by decide), fun _ => ⟨gwi_968, gwi_969⟩, fun h => absurd h (by decide)⟩
theorem l_Reader_124 : ml_OK "PlainMusic$Reader" 124 ⟨"PlainMusic$Score", "addRule", "(III)V"⟩ := Or.inl gwi_967
theorem d_Reader_readRule_99 : decode prog_7_method_10_code 99 = .ok (.aload_n 0, 1) := by decide +kernel
theorem d_Reader_readRule_100 : decode prog_7_method_10_code 100 = .ok (.bipush 59, 2) := by decide +kernel
theorem d_Reader_readRule_102 : decode prog_7_method_10_code 102 = .ok (.invokevirtual 103, 3) := by decide +kernel
theorem d_Reader_readRule_105 : decode prog_7_method_10_code 105 = .ok (.ireturn, 1) := by decide +kernel
theorem d_Reader_readRule_78 : decode prog_7_method_10_code 78 = .ok (.aload_n 0, 1) := by decide +kernel
theorem d_Reader_readRule_79 : decode prog_7_method_10_code 79 = .ok (.invokevirtual 120, 3) := by decide +kernel
theorem d_Reader_readRule_82 : decode prog_7_method_10_code 82 = .ok (.istore_n 3, 1) := by decide +kernel
theorem d_Reader_readRule_83 : decode prog_7_method_10_code 83 = .ok (.iload_n 3, 1) := by decide +kernel
theorem d_Reader_readRule_84 : decode prog_7_method_10_code 84 = .ok (.ifCond .ge 5, 3) := by decide +kernel
theorem d_Reader_readRule_87 : decode prog_7_method_10_code 87 = .ok (.iconst 0, 1) := by decide +kernel
theorem d_Reader_readRule_88 : decode prog_7_method_10_code 88 = .ok (.ireturn, 1) := by decide +kernel
theorem d_Reader_readRule_61 : decode prog_7_method_10_code 61 = .ok (.iconst 0, 1) := by decide +kernel
theorem d_Reader_readRule_62 : decode prog_7_method_10_code 62 = .ok (.ireturn, 1) := by decide +kernel
theorem d_Reader_readRule_12 : decode prog_7_method_10_code 12 = .ok (.aload_n 0, 1) := by decide +kernel
theorem d_Reader_readRule_13 : decode prog_7_method_10_code 13 = .ok (.iconst 3, 1) := by decide +kernel
theorem d_Reader_readRule_14 : decode prog_7_method_10_code 14 = .ok (.aload_n 0, 1) := by decide +kernel
theorem d_Reader_readRule_15 : decode prog_7_method_10_code 15 = .ok (.getfield 12, 3) := by decide +kernel
theorem d_Reader_readRule_18 : decode prog_7_method_10_code 18 = .ok (.getfield 75, 3) := by decide +kernel
theorem d_Reader_readRule_21 : decode prog_7_method_10_code 21 = .ok (.invokevirtual 91, 3) := by decide +kernel
theorem d_Reader_readRule_24 : decode prog_7_method_10_code 24 = .ok (.ireturn, 1) := by decide +kernel
def m_Reader_readRow : mr_T := (⟨"PlainMusic$Reader", "readRow", "()Z"⟩, prog_7_method_11_code, 3, some .boolean)
theorem d_Reader_readRow_0 : decode prog_7_method_11_code 0 = .ok (.aload_n 0, 1) := by decide +kernel
theorem d_Reader_readRow_1 : decode prog_7_method_11_code 1 = .ok (.getfield 32, 3) := by decide +kernel
theorem d_Reader_readRow_4 : decode prog_7_method_11_code 4 = .ok (.getfield 128, 3) := by decide +kernel
theorem f_Reader_128 : fl_OK "PlainMusic$Reader" 128 6 12 .int false := ⟨_, rfl, by decide, gwi_384, rfl, rfl⟩
theorem d_Reader_readRow_7 : decode prog_7_method_11_code 7 = .ok (.ifCond .le 16, 3) := by decide +kernel
theorem d_Reader_readRow_23 : decode prog_7_method_11_code 23 = .ok (.aload_n 0, 1) := by decide +kernel
theorem d_Reader_readRow_24 : decode prog_7_method_11_code 24 = .ok (.getfield 12, 3) := by decide +kernel
theorem d_Reader_readRow_27 : decode prog_7_method_11_code 27 = .ok (.invokevirtual 78, 3) := by decide +kernel
theorem d_Reader_readRow_30 : decode prog_7_method_11_code 30 = .ok (.aload_n 0, 1) := by decide +kernel
theorem d_Reader_readRow_31 : decode prog_7_method_11_code 31 = .ok (.getfield 12, 3) := by decide +kernel
theorem d_Reader_readRow_34 : decode prog_7_method_11_code 34 = .ok (.getfield 50, 3) := by decide +kernel
theorem d_Reader_readRow_37 : decode prog_7_method_11_code 37 = .ok (.sipush 260, 3) := by decide +kernel
theorem d_Reader_readRow_40 : decode prog_7_method_11_code 40 = .ok (.if_icmp .eq 8, 3) := by decide +kernel
theorem d_Reader_readRow_48 : decode prog_7_method_11_code 48 = .ok (.iconst 0, 1) := by decide +kernel
theorem d_Reader_readRow_49 : decode prog_7_method_11_code 49 = .ok (.istore_n 1, 1) := by decide +kernel
theorem d_Reader_readRow_50 : decode prog_7_method_11_code 50 = .ok (.iload_n 1, 1) := by decide +kernel
theorem d_Reader_readRow_51 : decode prog_7_method_11_code 51 = .ok (.bipush 12, 2) := by decide +kernel
theorem d_Reader_readRow_53 : decode prog_7_method_11_code 53 = .ok (.if_icmp .gt 66, 3) := by decide +kernel
theorem d_Reader_readRow_56 : decode prog_7_method_11_code 56 = .ok (.aload_n 0, 1) := by decide +kernel
theorem d_Reader_readRow_57 : decode prog_7_method_11_code 57 = .ok (.getfield 12, 3) := by decide +kernel
theorem d_Reader_readRow_60 : decode prog_7_method_11_code 60 = .ok (.getfield 50, 3) := by decide +kernel
theorem d_Reader_readRow_63 : decode prog_7_method_11_code 63 = .ok (.sipush 260, 3) := by decide +kernel
theorem d_Reader_readRow_66 : decode prog_7_method_11_code 66 = .ok (.if_icmp .ne 53, 3) := by decide +kernel
theorem d_Reader_readRow_119 : decode prog_7_method_11_code 119 = .ok (.aload_n 0, 1) := by decide +kernel
theorem d_Reader_readRow_120 : decode prog_7_method_11_code 120 = .ok (.bipush 59, 2) := by decide +kernel
theorem d_Reader_readRow_122 : decode prog_7_method_11_code 122 = .ok (.invokevirtual 103, 3) := by decide +kernel
theorem d_Reader_readRow_125 : decode prog_7_method_11_code 125 = .ok (.ireturn, 1) := by decide +kernel
theorem d_Reader_readRow_69 : decode prog_7_method_11_code 69 = .ok (.aload_n 0, 1) := by decide +kernel
theorem d_Reader_readRow_70 : decode prog_7_method_11_code 70 = .ok (.getfield 32, 3) := by decide +kernel
theorem d_Reader_readRow_73 : decode prog_7_method_11_code 73 = .ok (.getfield 128, 3) := by decide +kernel
theorem d_Reader_readRow_76 : decode prog_7_method_11_code 76 = .ok (.bipush 12, 2) := by decide +kernel
theorem d_Reader_readRow_78 : decode prog_7_method_11_code 78 = .ok (.if_icmp .lt 16, 3) := by decide +kernel
theorem d_Reader_readRow_94 : decode prog_7_method_11_code 94 = .ok (.aload_n 0, 1) := by decide +kernel
theorem d_Reader_readRow_95 : decode prog_7_method_11_code 95 = .ok (.invokevirtual 120, 3) := by decide +kernel
theorem d_Reader_readRow_98 : decode prog_7_method_11_code 98 = .ok (.istore_n 2, 1) := by decide +kernel
theorem d_Reader_readRow_99 : decode prog_7_method_11_code 99 = .ok (.iload_n 2, 1) := by decide +kernel
theorem d_Reader_readRow_100 : decode prog_7_method_11_code 100 = .ok (.ifCond .ge 5, 3) := by decide +kernel
theorem d_Reader_readRow_105 : decode prog_7_method_11_code 105 = .ok (.aload_n 0, 1) := by decide +kernel
theorem d_Reader_readRow_106 : decode prog_7_method_11_code 106 = .ok (.getfield 32, 3) := by decide +kernel
theorem d_Reader_readRow_109 : decode prog_7_method_11_code 109 = .ok (.iload_n 2, 1) := by decide +kernel
theorem d_Reader_readRow_110 : decode prog_7_method_11_code 110 = .ok (.invokevirtual 131, 3) := by decide +kernel
theorem k_Score_addToRow : mt_OK m_Score_addToRow 1 1 := ⟨gwi_978, gwi_138, ⟨by decide +kernel, by decide +kernel, by decide +kernel⟩, fun h => absurd h (by decide), fun _ => ⟨gwi_976, gwi_977⟩, fun h => absurd h (by decide)⟩
theorem l_Reader_131 : ml_OK "PlainMusic$Reader" 131 ⟨"PlainMusic$Score", "addToRow", "(I)V"⟩ := Or.inl gwi_975
theorem d_Reader_readRow_113 : decode prog_7_method_11_code 113 = .ok (.iinc 1 1, 3) := by decide +kernel
theorem d_Reader_readRow_116 : decode prog_7_method_11_code 116 = .ok (.goto (-66), 3) := by decide +kernel
theorem d_Reader_readRow_103 : decode prog_7_method_11_code 103 = .ok (.iconst 0, 1) := by decide +kernel
theorem d_Reader_readRow_104 : decode prog_7_method_11_code 104 = .ok (.ireturn, 1) := by decide +kernel
theorem d_Reader_readRow_81 : decode prog_7_method_11_code 81 = .ok (.aload_n 0, 1) := by decide +kernel
theorem d_Reader_readRow_82 : decode prog_7_method_11_code 82 = .ok (.iconst 3, 1) := by decide +kernel
theorem d_Reader_readRow_83 : decode prog_7_method_11_code 83 = .ok (.aload_n 0, 1) := by decide +kernel
theorem d_Reader_readRow_84 : decode prog_7_method_11_code 84 = .ok (.getfield 12, 3) := by decide +kernel
theorem d_Reader_readRow_87 : decode prog_7_method_11_code 87 = .ok (.getfield 75, 3) := by decide +kernel
theorem d_Reader_readRow_90 : decode prog_7_method_11_code 90 = .ok (.invokevirtual 91, 3) := by decide +kernel
theorem d_Reader_readRow_93 : decode prog_7_method_11_code 93 = .ok (.ireturn, 1) := by decide +kernel
theorem d_Reader_readRow_43 : decode prog_7_method_11_code 43 = .ok (.aload_n 0, 1) := by decide +kernel
theorem d_Reader_readRow_44 : decode prog_7_method_11_code 44 = .ok (.invokevirtual 69, 3) := by decide +kernel
theorem d_Reader_readRow_47 : decode prog_7_method_11_code 47 = .ok (.ireturn, 1) := by decide +kernel
theorem d_Reader_readRow_10 : decode prog_7_method_11_code 10 = .ok (.aload_n 0, 1) := by decide +kernel
theorem d_Reader_readRow_11 : decode prog_7_method_11_code 11 = .ok (.iconst 4, 1) := by decide +kernel
theorem d_Reader_readRow_12 : decode prog_7_method_11_code 12 = .ok (.aload_n 0, 1) := by decide +kernel
theorem d_Reader_readRow_13 : decode prog_7_method_11_code 13 = .ok (.getfield 12, 3) := by decide +kernel
theorem d_Reader_readRow_16 : decode prog_7_method_11_code 16 = .ok (.getfield 75, 3) := by decide +kernel
theorem d_Reader_readRow_19 : decode prog_7_method_11_code 19 = .ok (.invokevirtual 91, 3) := by decide +kernel
theorem d_Reader_readRow_22 : decode prog_7_method_11_code 22 = .ok (.ireturn, 1) := by decide +kernel
def m_Reader_beginsEvent : mr_T := (⟨"PlainMusic$Reader", "beginsEvent", "()Z"⟩, prog_7_method_14_code, 1, some .boolean)
theorem d_Reader_beginsEvent_0 : decode prog_7_method_14_code 0 = .ok (.aload_n 0, 1) := by decide +kernel
theorem d_Reader_beginsEvent_1 : decode prog_7_method_14_code 1 = .ok (.getfield 12, 3) := by decide +kernel
theorem d_Reader_beginsEvent_4 : decode prog_7_method_14_code 4 = .ok (.getfield 50, 3) := by decide +kernel
theorem d_Reader_beginsEvent_7 : decode prog_7_method_14_code 7 = .ok (.sipush 258, 3) := by decide +kernel
theorem d_Reader_beginsEvent_10 : decode prog_7_method_14_code 10 = .ok (.if_icmp .eq 28, 3) := by decide +kernel
theorem d_Reader_beginsEvent_38 : decode prog_7_method_14_code 38 = .ok (.iconst 1, 1) := by decide +kernel
theorem d_Reader_beginsEvent_39 : decode prog_7_method_14_code 39 = .ok (.goto 4, 3) := by decide +kernel
theorem d_Reader_beginsEvent_43 : decode prog_7_method_14_code 43 = .ok (.ireturn, 1) := by decide +kernel
theorem d_Reader_beginsEvent_13 : decode prog_7_method_14_code 13 = .ok (.aload_n 0, 1) := by decide +kernel
theorem d_Reader_beginsEvent_14 : decode prog_7_method_14_code 14 = .ok (.getfield 12, 3) := by decide +kernel
theorem d_Reader_beginsEvent_17 : decode prog_7_method_14_code 17 = .ok (.getfield 50, 3) := by decide +kernel
theorem d_Reader_beginsEvent_20 : decode prog_7_method_14_code 20 = .ok (.sipush 266, 3) := by decide +kernel
theorem d_Reader_beginsEvent_23 : decode prog_7_method_14_code 23 = .ok (.if_icmp .eq 15, 3) := by decide +kernel
theorem d_Reader_beginsEvent_26 : decode prog_7_method_14_code 26 = .ok (.aload_n 0, 1) := by decide +kernel
theorem d_Reader_beginsEvent_27 : decode prog_7_method_14_code 27 = .ok (.getfield 12, 3) := by decide +kernel
theorem d_Reader_beginsEvent_30 : decode prog_7_method_14_code 30 = .ok (.getfield 50, 3) := by decide +kernel
theorem d_Reader_beginsEvent_33 : decode prog_7_method_14_code 33 = .ok (.bipush 60, 2) := by decide +kernel
theorem d_Reader_beginsEvent_35 : decode prog_7_method_14_code 35 = .ok (.if_icmp .ne 7, 3) := by decide +kernel
theorem d_Reader_beginsEvent_42 : decode prog_7_method_14_code 42 = .ok (.iconst 0, 1) := by decide +kernel
def m_Reader_isShallow : mr_T := (⟨"PlainMusic$Reader", "isShallow", "()Z"⟩, prog_7_method_15_code, 1, some .boolean)
theorem d_Reader_isShallow_0 : decode prog_7_method_15_code 0 = .ok (.aload_n 0, 1) := by decide +kernel
theorem d_Reader_isShallow_1 : decode prog_7_method_15_code 1 = .ok (.getfield 21, 3) := by decide +kernel
theorem rff_2_1 : (2, 1, 9) ∈ rf_L := by decide +kernel
theorem d_Reader_isShallow_4 : decode prog_7_method_15_code 4 = .ok (.getfield 156, 3) := by decide +kernel
theorem f_Reader_156 : fl_OK "PlainMusic$Reader" 156 4 7 .int false := ⟨_, rfl, by decide, gwi_235, rfl, rfl⟩
theorem d_Reader_isShallow_7 : decode prog_7_method_15_code 7 = .ok (.bipush 6, 2) := by decide +kernel
theorem d_Reader_isShallow_9 : decode prog_7_method_15_code 9 = .ok (.if_icmp .le 18, 3) := by decide +kernel
theorem d_Reader_isShallow_27 : decode prog_7_method_15_code 27 = .ok (.iconst 1, 1) := by decide +kernel
theorem d_Reader_isShallow_28 : decode prog_7_method_15_code 28 = .ok (.goto 4, 3) := by decide +kernel
theorem d_Reader_isShallow_32 : decode prog_7_method_15_code 32 = .ok (.ireturn, 1) := by decide +kernel
theorem d_Reader_isShallow_12 : decode prog_7_method_15_code 12 = .ok (.aload_n 0, 1) := by decide +kernel
theorem d_Reader_isShallow_13 : decode prog_7_method_15_code 13 = .ok (.iconst 3, 1) := by decide +kernel
theorem d_Reader_isShallow_14 : decode prog_7_method_15_code 14 = .ok (.aload_n 0, 1) := by decide +kernel
theorem d_Reader_isShallow_15 : decode prog_7_method_15_code 15 = .ok (.getfield 12, 3) := by decide +kernel
theorem d_Reader_isShallow_18 : decode prog_7_method_15_code 18 = .ok (.getfield 75, 3) := by decide +kernel
theorem d_Reader_isShallow_21 : decode prog_7_method_15_code 21 = .ok (.invokevirtual 91, 3) := by decide +kernel
theorem d_Reader_isShallow_24 : decode prog_7_method_15_code 24 = .ok (.ifCond .eq 7, 3) := by decide +kernel
theorem d_Reader_isShallow_31 : decode prog_7_method_15_code 31 = .ok (.iconst 0, 1) := by decide +kernel
def m_Reader_readStretch : mr_T := (⟨"PlainMusic$Reader", "readStretch", "()Z"⟩, prog_7_method_17_code, 3, some .boolean)
theorem d_Reader_readStretch_0 : decode prog_7_method_17_code 0 = .ok (.aload_n 0, 1) := by decide +kernel
theorem d_Reader_readStretch_1 : decode prog_7_method_17_code 1 = .ok (.getfield 12, 3) := by decide +kernel
theorem d_Reader_readStretch_4 : decode prog_7_method_17_code 4 = .ok (.invokevirtual 78, 3) := by decide +kernel
theorem d_Reader_readStretch_7 : decode prog_7_method_17_code 7 = .ok (.aload_n 0, 1) := by decide +kernel
theorem d_Reader_readStretch_8 : decode prog_7_method_17_code 8 = .ok (.bipush 16, 2) := by decide +kernel
theorem d_Reader_readStretch_10 : decode prog_7_method_17_code 10 = .ok (.iconst 0, 1) := by decide +kernel
theorem d_Reader_readStretch_11 : decode prog_7_method_17_code 11 = .ok (.invokevirtual 99, 3) := by decide +kernel
theorem d_Reader_readStretch_14 : decode prog_7_method_17_code 14 = .ok (.istore_n 1, 1) := by decide +kernel
theorem d_Reader_readStretch_15 : decode prog_7_method_17_code 15 = .ok (.iload_n 1, 1) := by decide +kernel
theorem d_Reader_readStretch_16 : decode prog_7_method_17_code 16 = .ok (.ifCond .eq 12, 3) := by decide +kernel
theorem d_Reader_readStretch_28 : decode prog_7_method_17_code 28 = .ok (.iconst 0, 1) := by decide +kernel
theorem d_Reader_readStretch_29 : decode prog_7_method_17_code 29 = .ok (.ireturn, 1) := by decide +kernel
theorem d_Reader_readStretch_19 : decode prog_7_method_17_code 19 = .ok (.aload_n 0, 1) := by decide +kernel
theorem d_Reader_readStretch_20 : decode prog_7_method_17_code 20 = .ok (.bipush 47, 2) := by decide +kernel
theorem d_Reader_readStretch_22 : decode prog_7_method_17_code 22 = .ok (.invokevirtual 103, 3) := by decide +kernel
theorem d_Reader_readStretch_25 : decode prog_7_method_17_code 25 = .ok (.ifCond .ne 5, 3) := by decide +kernel
theorem d_Reader_readStretch_30 : decode prog_7_method_17_code 30 = .ok (.aload_n 0, 1) := by decide +kernel
theorem d_Reader_readStretch_31 : decode prog_7_method_17_code 31 = .ok (.bipush 16, 2) := by decide +kernel
theorem d_Reader_readStretch_33 : decode prog_7_method_17_code 33 = .ok (.iconst 0, 1) := by decide +kernel
theorem d_Reader_readStretch_34 : decode prog_7_method_17_code 34 = .ok (.invokevirtual 99, 3) := by decide +kernel
theorem d_Reader_readStretch_37 : decode prog_7_method_17_code 37 = .ok (.istore_n 2, 1) := by decide +kernel
theorem d_Reader_readStretch_38 : decode prog_7_method_17_code 38 = .ok (.iload_n 2, 1) := by decide +kernel
theorem d_Reader_readStretch_39 : decode prog_7_method_17_code 39 = .ok (.ifCond .eq 12, 3) := by decide +kernel
theorem d_Reader_readStretch_51 : decode prog_7_method_17_code 51 = .ok (.iconst 0, 1) := by decide +kernel
theorem d_Reader_readStretch_52 : decode prog_7_method_17_code 52 = .ok (.ireturn, 1) := by decide +kernel
theorem d_Reader_readStretch_42 : decode prog_7_method_17_code 42 = .ok (.aload_n 0, 1) := by decide +kernel
theorem d_Reader_readStretch_43 : decode prog_7_method_17_code 43 = .ok (.bipush 58, 2) := by decide +kernel
theorem d_Reader_readStretch_45 : decode prog_7_method_17_code 45 = .ok (.invokevirtual 103, 3) := by decide +kernel
theorem d_Reader_readStretch_48 : decode prog_7_method_17_code 48 = .ok (.ifCond .ne 5, 3) := by decide +kernel
theorem d_Reader_readStretch_53 : decode prog_7_method_17_code 53 = .ok (.aload_n 0, 1) := by decide +kernel
theorem d_Reader_readStretch_54 : decode prog_7_method_17_code 54 = .ok (.getfield 21, 3) := by decide +kernel
theorem d_Reader_readStretch_57 : decode prog_7_method_17_code 57 = .ok (.bipush 123, 2) := by decide +kernel
theorem d_Reader_readStretch_59 : decode prog_7_method_17_code 59 = .ok (.iload_n 1, 1) := by decide +kernel
theorem d_Reader_readStretch_60 : decode prog_7_method_17_code 60 = .ok (.iload_n 2, 1) := by decide +kernel
theorem d_Reader_readStretch_61 : decode prog_7_method_17_code 61 = .ok (.invokevirtual 169, 3) := by decide +kernel
theorem l_Reader_169 : ml_OK "PlainMusic$Reader" 169 ⟨"PlainMusic$Parts", "add", "(III)V"⟩ := Or.inl gwi_892
theorem d_Reader_readStretch_64 : decode prog_7_method_17_code 64 = .ok (.iconst 1, 1) := by decide +kernel
theorem d_Reader_readStretch_65 : decode prog_7_method_17_code 65 = .ok (.ireturn, 1) := by decide +kernel
def m_Reader_readPart : mr_T := (⟨"PlainMusic$Reader", "readPart", "()Z"⟩, prog_7_method_16_code, 2, some .boolean)
theorem d_Reader_readPart_0 : decode prog_7_method_16_code 0 = .ok (.aload_n 0, 1) := by decide +kernel
theorem d_Reader_readPart_1 : decode prog_7_method_16_code 1 = .ok (.getfield 12, 3) := by decide +kernel
theorem d_Reader_readPart_4 : decode prog_7_method_16_code 4 = .ok (.getfield 50, 3) := by decide +kernel
theorem d_Reader_readPart_7 : decode prog_7_method_16_code 7 = .ok (.istore_n 1, 1) := by decide +kernel
theorem d_Reader_readPart_8 : decode prog_7_method_16_code 8 = .ok (.iload_n 1, 1) := by decide +kernel
theorem d_Reader_readPart_9 : decode prog_7_method_16_code 9 = .ok (.bipush 58, 2) := by decide +kernel
theorem d_Reader_readPart_11 : decode prog_7_method_16_code 11 = .ok (.if_icmp .eq 15, 3) := by decide +kernel
theorem d_Reader_readPart_26 : decode prog_7_method_16_code 26 = .ok (.aload_n 0, 1) := by decide +kernel
theorem d_Reader_readPart_27 : decode prog_7_method_16_code 27 = .ok (.getfield 21, 3) := by decide +kernel
theorem d_Reader_readPart_30 : decode prog_7_method_16_code 30 = .ok (.iload_n 1, 1) := by decide +kernel
theorem d_Reader_readPart_31 : decode prog_7_method_16_code 31 = .ok (.invokevirtual 163, 3) := by decide +kernel
theorem k_Parts_addMark : mt_OK m_Parts_addMark 1 1 := ⟨gwi_903, gwi_137, ⟨by decide +kernel, by decide +kernel, by decide +kernel⟩, fun h => absurd h (by decide), fun _ => ⟨gwi_901, gwi_902⟩, fun h => absurd h (by decide)⟩
theorem l_Reader_163 : ml_OK "PlainMusic$Reader" 163 ⟨"PlainMusic$Parts", "addMark", "(I)Z"⟩ := Or.inl gwi_900
theorem d_Reader_readPart_34 : decode prog_7_method_16_code 34 = .ok (.ifCond .ne 8, 3) := by decide +kernel
theorem d_Reader_readPart_42 : decode prog_7_method_16_code 42 = .ok (.aload_n 0, 1) := by decide +kernel
theorem d_Reader_readPart_43 : decode prog_7_method_16_code 43 = .ok (.getfield 12, 3) := by decide +kernel
theorem d_Reader_readPart_46 : decode prog_7_method_16_code 46 = .ok (.invokevirtual 78, 3) := by decide +kernel
theorem d_Reader_readPart_49 : decode prog_7_method_16_code 49 = .ok (.iconst 1, 1) := by decide +kernel
theorem d_Reader_readPart_50 : decode prog_7_method_16_code 50 = .ok (.ireturn, 1) := by decide +kernel
theorem d_Reader_readPart_37 : decode prog_7_method_16_code 37 = .ok (.aload_n 0, 1) := by decide +kernel
theorem d_Reader_readPart_38 : decode prog_7_method_16_code 38 = .ok (.invokevirtual 69, 3) := by decide +kernel
theorem d_Reader_readPart_41 : decode prog_7_method_16_code 41 = .ok (.ireturn, 1) := by decide +kernel
theorem d_Reader_readPart_14 : decode prog_7_method_16_code 14 = .ok (.iload_n 1, 1) := by decide +kernel
theorem d_Reader_readPart_15 : decode prog_7_method_16_code 15 = .ok (.bipush 93, 2) := by decide +kernel
theorem d_Reader_readPart_17 : decode prog_7_method_16_code 17 = .ok (.if_icmp .eq 9, 3) := by decide +kernel
theorem d_Reader_readPart_20 : decode prog_7_method_16_code 20 = .ok (.iload_n 1, 1) := by decide +kernel
theorem d_Reader_readPart_21 : decode prog_7_method_16_code 21 = .ok (.bipush 125, 2) := by decide +kernel
theorem d_Reader_readPart_23 : decode prog_7_method_16_code 23 = .ok (.if_icmp .ne 28, 3) := by decide +kernel
theorem d_Reader_readPart_51 : decode prog_7_method_16_code 51 = .ok (.iload_n 1, 1) := by decide +kernel
theorem d_Reader_readPart_52 : decode prog_7_method_16_code 52 = .ok (.bipush 124, 2) := by decide +kernel
theorem d_Reader_readPart_54 : decode prog_7_method_16_code 54 = .ok (.if_icmp .eq 20, 3) := by decide +kernel
theorem d_Reader_readPart_74 : decode prog_7_method_16_code 74 = .ok (.aload_n 0, 1) := by decide +kernel
theorem d_Reader_readPart_75 : decode prog_7_method_16_code 75 = .ok (.invokevirtual 146, 3) := by decide +kernel
theorem k_Reader_isShallow : mt_OK m_Reader_isShallow 0 1 := ⟨gwi_870, gwi_135, ⟨by decide +kernel, by decide +kernel, by decide +kernel⟩, fun h => absurd h (by decide), fun _ => ⟨gwi_869, gwi_14⟩, fun h => absurd h (by decide)⟩
theorem l_Reader_146 : ml_OK "PlainMusic$Reader" 146 ⟨"PlainMusic$Reader", "isShallow", "()Z"⟩ := Or.inl gwi_867
theorem d_Reader_readPart_78 : decode prog_7_method_16_code 78 = .ok (.ifCond .ne 5, 3) := by decide +kernel
theorem d_Reader_readPart_83 : decode prog_7_method_16_code 83 = .ok (.iload_n 1, 1) := by decide +kernel
theorem d_Reader_readPart_84 : decode prog_7_method_16_code 84 = .ok (.bipush 123, 2) := by decide +kernel
theorem d_Reader_readPart_86 : decode prog_7_method_16_code 86 = .ok (.if_icmp .ne 8, 3) := by decide +kernel
theorem d_Reader_readPart_94 : decode prog_7_method_16_code 94 = .ok (.aload_n 0, 1) := by decide +kernel
theorem d_Reader_readPart_95 : decode prog_7_method_16_code 95 = .ok (.getfield 21, 3) := by decide +kernel
theorem d_Reader_readPart_98 : decode prog_7_method_16_code 98 = .ok (.iload_n 1, 1) := by decide +kernel
theorem d_Reader_readPart_99 : decode prog_7_method_16_code 99 = .ok (.iconst 0, 1) := by decide +kernel
theorem d_Reader_readPart_100 : decode prog_7_method_16_code 100 = .ok (.iconst 0, 1) := by decide +kernel
theorem d_Reader_readPart_101 : decode prog_7_method_16_code 101 = .ok (.invokevirtual 169, 3) := by decide +kernel
theorem d_Reader_readPart_104 : decode prog_7_method_16_code 104 = .ok (.aload_n 0, 1) := by decide +kernel
theorem d_Reader_readPart_105 : decode prog_7_method_16_code 105 = .ok (.getfield 12, 3) := by decide +kernel
theorem d_Reader_readPart_108 : decode prog_7_method_16_code 108 = .ok (.invokevirtual 78, 3) := by decide +kernel
theorem d_Reader_readPart_111 : decode prog_7_method_16_code 111 = .ok (.iconst 1, 1) := by decide +kernel
theorem d_Reader_readPart_112 : decode prog_7_method_16_code 112 = .ok (.ireturn, 1) := by decide +kernel
theorem d_Reader_readPart_81 : decode prog_7_method_16_code 81 = .ok (.iconst 0, 1) := by decide +kernel
theorem d_Reader_readPart_82 : decode prog_7_method_16_code 82 = .ok (.ireturn, 1) := by decide +kernel
theorem d_Reader_readPart_57 : decode prog_7_method_16_code 57 = .ok (.iload_n 1, 1) := by decide +kernel
theorem d_Reader_readPart_58 : decode prog_7_method_16_code 58 = .ok (.bipush 91, 2) := by decide +kernel
theorem d_Reader_readPart_60 : decode prog_7_method_16_code 60 = .ok (.if_icmp .eq 14, 3) := by decide +kernel
theorem d_Reader_readPart_63 : decode prog_7_method_16_code 63 = .ok (.iload_n 1, 1) := by decide +kernel
theorem d_Reader_readPart_64 : decode prog_7_method_16_code 64 = .ok (.bipush 123, 2) := by decide +kernel
theorem d_Reader_readPart_66 : decode prog_7_method_16_code 66 = .ok (.if_icmp .eq 8, 3) := by decide +kernel
theorem d_Reader_readPart_89 : decode prog_7_method_16_code 89 = .ok (.aload_n 0, 1) := by decide +kernel
theorem d_Reader_readPart_90 : decode prog_7_method_16_code 90 = .ok (.invokevirtual 166, 3) := by decide +kernel
theorem k_Reader_readStretch : mt_OK m_Reader_readStretch 0 1 := ⟨gwi_908, gwi_135, ⟨by decide +kernel, by decide +kernel, by decide +kernel⟩, fun h => absurd h (by decide), fun _ => ⟨gwi_907, gwi_19⟩, fun h => absurd h (by decide)⟩
theorem l_Reader_166 : ml_OK "PlainMusic$Reader" 166 ⟨"PlainMusic$Reader", "readStretch", "()Z"⟩ := Or.inl gwi_905
theorem d_Reader_readPart_93 : decode prog_7_method_16_code 93 = .ok (.ireturn, 1) := by decide +kernel
theorem d_Reader_readPart_69 : decode prog_7_method_16_code 69 = .ok (.aload_n 0, 1) := by decide +kernel
theorem d_Reader_readPart_70 : decode prog_7_method_16_code 70 = .ok (.invokevirtual 69, 3) := by decide +kernel
theorem d_Reader_readPart_73 : decode prog_7_method_16_code 73 = .ok (.ireturn, 1) := by decide +kernel
def m_Reader_admit : mr_T := (⟨"PlainMusic$Reader", ("adm" ++ "it"), "()Z"⟩, prog_7_method_20_code, 1, some .boolean)
theorem d_Reader_admit_0 : decode prog_7_method_20_code 0 = .ok (.aload_n 0, 1) := by decide +kernel
theorem d_Reader_admit_1 : decode prog_7_method_20_code 1 = .ok (.getfield 140, 3) := by decide +kernel
theorem f_Reader_140 : fl_OK "PlainMusic$Reader" 140 5 4 .int false := ⟨_, rfl, by decide, gwi_416, rfl, rfl⟩
theorem rgf_2_4 : rg 2 4 = (0, 300) := by decide +kernel
theorem d_Reader_admit_4 : decode prog_7_method_20_code 4 = .ok (.sipush 300, 3) := by decide +kernel
theorem d_Reader_admit_7 : decode prog_7_method_20_code 7 = .ok (.if_icmp .lt 16, 3) := by decide +kernel
theorem d_Reader_admit_23 : decode prog_7_method_20_code 23 = .ok (.aload_n 0, 1) := by decide +kernel
theorem d_Reader_admit_24 : decode prog_7_method_20_code 24 = .ok (.dup, 1) := by decide +kernel
theorem d_Reader_admit_25 : decode prog_7_method_20_code 25 = .ok (.getfield 140, 3) := by decide +kernel
theorem d_Reader_admit_28 : decode prog_7_method_20_code 28 = .ok (.iconst 1, 1) := by decide +kernel
theorem d_Reader_admit_29 : decode prog_7_method_20_code 29 = .ok (.iadd, 1) := by decide +kernel
theorem d_Reader_admit_30 : decode prog_7_method_20_code 30 = .ok (.putfield 140, 3) := by decide +kernel
theorem d_Reader_admit_33 : decode prog_7_method_20_code 33 = .ok (.aload_n 0, 1) := by decide +kernel
theorem d_Reader_admit_34 : decode prog_7_method_20_code 34 = .ok (.getfield 12, 3) := by decide +kernel
theorem d_Reader_admit_37 : decode prog_7_method_20_code 37 = .ok (.invokevirtual 78, 3) := by decide +kernel
theorem d_Reader_admit_40 : decode prog_7_method_20_code 40 = .ok (.iconst 1, 1) := by decide +kernel
theorem d_Reader_admit_41 : decode prog_7_method_20_code 41 = .ok (.ireturn, 1) := by decide +kernel
theorem d_Reader_admit_10 : decode prog_7_method_20_code 10 = .ok (.aload_n 0, 1) := by decide +kernel
theorem d_Reader_admit_11 : decode prog_7_method_20_code 11 = .ok (.iconst 3, 1) := by decide +kernel
theorem d_Reader_admit_12 : decode prog_7_method_20_code 12 = .ok (.aload_n 0, 1) := by decide +kernel
theorem d_Reader_admit_13 : decode prog_7_method_20_code 13 = .ok (.getfield 12, 3) := by decide +kernel
theorem d_Reader_admit_16 : decode prog_7_method_20_code 16 = .ok (.getfield 75, 3) := by decide +kernel
theorem d_Reader_admit_19 : decode prog_7_method_20_code 19 = .ok (.invokevirtual 91, 3) := by decide +kernel
theorem d_Reader_admit_22 : decode prog_7_method_20_code 22 = .ok (.ireturn, 1) := by decide +kernel
def m_Reader_readSound : mr_T := (⟨"PlainMusic$Reader", "readSound", "(LPlainMusic$Voice;)Z"⟩, prog_7_method_19_code, 6, some .boolean)
theorem d_Reader_readSound_0 : decode prog_7_method_19_code 0 = .ok (.aload_n 0, 1) := by decide +kernel
theorem d_Reader_readSound_1 : decode prog_7_method_19_code 1 = .ok (.getfield 12, 3) := by decide +kernel
theorem d_Reader_readSound_4 : decode prog_7_method_19_code 4 = .ok (.getfield 50, 3) := by decide +kernel
theorem d_Reader_readSound_7 : decode prog_7_method_19_code 7 = .ok (.sipush 266, 3) := by decide +kernel
theorem d_Reader_readSound_10 : decode prog_7_method_19_code 10 = .ok (.if_icmp .ne 8, 3) := by decide +kernel
theorem d_Reader_readSound_18 : decode prog_7_method_19_code 18 = .ok (.aload_n 0, 1) := by decide +kernel
theorem d_Reader_readSound_19 : decode prog_7_method_19_code 19 = .ok (.getfield 12, 3) := by decide +kernel
theorem d_Reader_readSound_22 : decode prog_7_method_19_code 22 = .ok (.getfield 50, 3) := by decide +kernel
theorem d_Reader_readSound_25 : decode prog_7_method_19_code 25 = .ok (.sipush 258, 3) := by decide +kernel
theorem d_Reader_readSound_28 : decode prog_7_method_19_code 28 = .ok (.if_icmp .ne 27, 3) := by decide +kernel
theorem d_Reader_readSound_55 : decode prog_7_method_19_code 55 = .ok (.aload_n 0, 1) := by decide +kernel
theorem d_Reader_readSound_56 : decode prog_7_method_19_code 56 = .ok (.getfield 12, 3) := by decide +kernel
theorem d_Reader_readSound_59 : decode prog_7_method_19_code 59 = .ok (.invokevirtual 78, 3) := by decide +kernel
theorem d_Reader_readSound_62 : decode prog_7_method_19_code 62 = .ok (.aload_n 0, 1) := by decide +kernel
theorem d_Reader_readSound_63 : decode prog_7_method_19_code 63 = .ok (.getfield 12, 3) := by decide +kernel
theorem d_Reader_readSound_66 : decode prog_7_method_19_code 66 = .ok (.getfield 50, 3) := by decide +kernel
theorem d_Reader_readSound_69 : decode prog_7_method_19_code 69 = .ok (.sipush 258, 3) := by decide +kernel
theorem d_Reader_readSound_72 : decode prog_7_method_19_code 72 = .ok (.if_icmp .eq 8, 3) := by decide +kernel
theorem d_Reader_readSound_80 : decode prog_7_method_19_code 80 = .ok (.ldc 190, 2) := by decide +kernel
theorem cst_Reader_190 : Cond.constant "PlainMusic$Reader" 190 (Int32.ofInt (-2147483648)) ∈ gw := gwi_887
theorem d_Reader_readSound_82 : decode prog_7_method_19_code 82 = .ok (.istore_n 2, 1) := by decide +kernel
theorem d_Reader_readSound_83 : decode prog_7_method_19_code 83 = .ok (.iconst 0, 1) := by decide +kernel
theorem d_Reader_readSound_84 : decode prog_7_method_19_code 84 = .ok (.istore_n 3, 1) := by decide +kernel
theorem d_Reader_readSound_85 : decode prog_7_method_19_code 85 = .ok (.iload_n 3, 1) := by decide +kernel
theorem d_Reader_readSound_86 : decode prog_7_method_19_code 86 = .ok (.iconst 4, 1) := by decide +kernel
theorem d_Reader_readSound_87 : decode prog_7_method_19_code 87 = .ok (.if_icmp .gt 93, 3) := by decide +kernel
theorem d_Reader_readSound_90 : decode prog_7_method_19_code 90 = .ok (.aload_n 0, 1) := by decide +kernel
theorem d_Reader_readSound_91 : decode prog_7_method_19_code 91 = .ok (.getfield 12, 3) := by decide +kernel
theorem d_Reader_readSound_94 : decode prog_7_method_19_code 94 = .ok (.getfield 50, 3) := by decide +kernel
theorem d_Reader_readSound_97 : decode prog_7_method_19_code 97 = .ok (.sipush 258, 3) := by decide +kernel
theorem d_Reader_readSound_100 : decode prog_7_method_19_code 100 = .ok (.if_icmp .ne 80, 3) := by decide +kernel
theorem d_Reader_readSound_180 : decode prog_7_method_19_code 180 = .ok (.aload_n 0, 1) := by decide +kernel
theorem d_Reader_readSound_181 : decode prog_7_method_19_code 181 = .ok (.bipush 62, 2) := by decide +kernel
theorem d_Reader_readSound_183 : decode prog_7_method_19_code 183 = .ok (.invokevirtual 103, 3) := by decide +kernel
theorem d_Reader_readSound_186 : decode prog_7_method_19_code 186 = .ok (.ireturn, 1) := by decide +kernel
theorem d_Reader_readSound_103 : decode prog_7_method_19_code 103 = .ok (.aload_n 0, 1) := by decide +kernel
theorem d_Reader_readSound_104 : decode prog_7_method_19_code 104 = .ok (.getfield 12, 3) := by decide +kernel
theorem d_Reader_readSound_107 : decode prog_7_method_19_code 107 = .ok (.getfield 75, 3) := by decide +kernel
theorem d_Reader_readSound_110 : decode prog_7_method_19_code 110 = .ok (.istore 4, 2) := by decide +kernel
theorem d_Reader_readSound_112 : decode prog_7_method_19_code 112 = .ok (.aload_n 0, 1) := by decide +kernel
theorem d_Reader_readSound_113 : decode prog_7_method_19_code 113 = .ok (.getfield 12, 3) := by decide +kernel
theorem d_Reader_readSound_116 : decode prog_7_method_19_code 116 = .ok (.getfield 81, 3) := by decide +kernel
theorem d_Reader_readSound_119 : decode prog_7_method_19_code 119 = .ok (.l2i, 1) := by decide +kernel
theorem d_Reader_readSound_120 : decode prog_7_method_19_code 120 = .ok (.istore 5, 2) := by decide +kernel
theorem d_Reader_readSound_122 : decode prog_7_method_19_code 122 = .ok (.iload_n 3, 1) := by decide +kernel
theorem d_Reader_readSound_123 : decode prog_7_method_19_code 123 = .ok (.iconst 4, 1) := by decide +kernel
theorem d_Reader_readSound_124 : decode prog_7_method_19_code 124 = .ok (.if_icmp .ne 11, 3) := by decide +kernel
theorem d_Reader_readSound_135 : decode prog_7_method_19_code 135 = .ok (.aload_n 1, 1) := by decide +kernel
theorem d_Reader_readSound_136 : decode prog_7_method_19_code 136 = .ok (.iload 5, 2) := by decide +kernel
theorem d_Reader_readSound_138 : decode prog_7_method_19_code 138 = .ok (.aload_n 0, 1) := by decide +kernel
theorem d_Reader_readSound_139 : decode prog_7_method_19_code 139 = .ok (.getfield 12, 3) := by decide +kernel
theorem d_Reader_readSound_142 : decode prog_7_method_19_code 142 = .ok (.getfield 184, 3) := by decide +kernel
theorem f_Reader_184 : fl_OK "PlainMusic$Reader" 184 8 12 .int false := ⟨_, rfl, by decide, gwi_191, rfl, rfl⟩
theorem d_Reader_readSound_145 : decode prog_7_method_19_code 145 = .ok (.invokevirtual 187, 3) := by decide +kernel
theorem k_Voice_addPitch : mt_OK m_Voice_addPitch 2 1 := ⟨gwi_886, gwi_139, ⟨by decide +kernel, by decide +kernel, by decide +kernel⟩, fun h => absurd h (by decide), fun _ => ⟨gwi_884, gwi_885⟩, fun h => absurd h (by decide)⟩
theorem l_Reader_187 : ml_OK "PlainMusic$Reader" 187 ⟨"PlainMusic$Voice", "addPitch", "(II)V"⟩ := Or.inl gwi_883
theorem d_Reader_readSound_148 : decode prog_7_method_19_code 148 = .ok (.aload_n 0, 1) := by decide +kernel
theorem d_Reader_readSound_149 : decode prog_7_method_19_code 149 = .ok (.invokevirtual 181, 3) := by decide +kernel
theorem k_Reader_admit : mt_OK m_Reader_admit 0 1 := ⟨(gw_in 882 (by decide +kernel) (by decide +kernel)), gwi_135, ⟨by decide +kernel, by decide +kernel, by decide +kernel⟩, fun h => absurd h (by decide), fun _ => ⟨(gw_in 881 (by decide +kernel) (by decide +kernel)), (gw_in 17 (by decide +kernel) (by decide +kernel))⟩, fun h => absurd h (by decide)⟩
theorem l_Reader_181 : ml_OK "PlainMusic$Reader" 181 ⟨"PlainMusic$Reader", ("adm" ++ "it"), "()Z"⟩ := Or.inl (gw_in 879 (by decide +kernel) (by decide +kernel))
theorem d_Reader_readSound_152 : decode prog_7_method_19_code 152 = .ok (.ifCond .ne 5, 3) := by decide +kernel
theorem d_Reader_readSound_157 : decode prog_7_method_19_code 157 = .ok (.iload 5, 2) := by decide +kernel
theorem d_Reader_readSound_159 : decode prog_7_method_19_code 159 = .ok (.iload_n 2, 1) := by decide +kernel
theorem d_Reader_readSound_160 : decode prog_7_method_19_code 160 = .ok (.if_icmp .gt 11, 3) := by decide +kernel
theorem d_Reader_readSound_171 : decode prog_7_method_19_code 171 = .ok (.iload 5, 2) := by decide +kernel
theorem d_Reader_readSound_173 : decode prog_7_method_19_code 173 = .ok (.istore_n 2, 1) := by decide +kernel
theorem d_Reader_readSound_174 : decode prog_7_method_19_code 174 = .ok (.iinc 3 1, 3) := by decide +kernel
theorem d_Reader_readSound_177 : decode prog_7_method_19_code 177 = .ok (.goto (-92), 3) := by decide +kernel
theorem d_Reader_readSound_163 : decode prog_7_method_19_code 163 = .ok (.aload_n 0, 1) := by decide +kernel
theorem d_Reader_readSound_164 : decode prog_7_method_19_code 164 = .ok (.iconst 4, 1) := by decide +kernel
theorem d_Reader_readSound_165 : decode prog_7_method_19_code 165 = .ok (.iload 4, 2) := by decide +kernel
theorem d_Reader_readSound_167 : decode prog_7_method_19_code 167 = .ok (.invokevirtual 91, 3) := by decide +kernel
theorem d_Reader_readSound_170 : decode prog_7_method_19_code 170 = .ok (.ireturn, 1) := by decide +kernel
theorem d_Reader_readSound_155 : decode prog_7_method_19_code 155 = .ok (.iconst 0, 1) := by decide +kernel
theorem d_Reader_readSound_156 : decode prog_7_method_19_code 156 = .ok (.ireturn, 1) := by decide +kernel
theorem d_Reader_readSound_127 : decode prog_7_method_19_code 127 = .ok (.aload_n 0, 1) := by decide +kernel
theorem d_Reader_readSound_128 : decode prog_7_method_19_code 128 = .ok (.iconst 3, 1) := by decide +kernel
theorem d_Reader_readSound_129 : decode prog_7_method_19_code 129 = .ok (.iload 4, 2) := by decide +kernel
theorem d_Reader_readSound_131 : decode prog_7_method_19_code 131 = .ok (.invokevirtual 91, 3) := by decide +kernel
theorem d_Reader_readSound_134 : decode prog_7_method_19_code 134 = .ok (.ireturn, 1) := by decide +kernel
theorem d_Reader_readSound_75 : decode prog_7_method_19_code 75 = .ok (.aload_n 0, 1) := by decide +kernel
theorem d_Reader_readSound_76 : decode prog_7_method_19_code 76 = .ok (.invokevirtual 69, 3) := by decide +kernel
theorem d_Reader_readSound_79 : decode prog_7_method_19_code 79 = .ok (.ireturn, 1) := by decide +kernel
theorem d_Reader_readSound_31 : decode prog_7_method_19_code 31 = .ok (.aload_n 1, 1) := by decide +kernel
theorem d_Reader_readSound_32 : decode prog_7_method_19_code 32 = .ok (.aload_n 0, 1) := by decide +kernel
theorem d_Reader_readSound_33 : decode prog_7_method_19_code 33 = .ok (.getfield 12, 3) := by decide +kernel
theorem d_Reader_readSound_36 : decode prog_7_method_19_code 36 = .ok (.getfield 81, 3) := by decide +kernel
theorem d_Reader_readSound_39 : decode prog_7_method_19_code 39 = .ok (.l2i, 1) := by decide +kernel
theorem d_Reader_readSound_40 : decode prog_7_method_19_code 40 = .ok (.aload_n 0, 1) := by decide +kernel
theorem d_Reader_readSound_41 : decode prog_7_method_19_code 41 = .ok (.getfield 12, 3) := by decide +kernel
theorem d_Reader_readSound_44 : decode prog_7_method_19_code 44 = .ok (.getfield 184, 3) := by decide +kernel
theorem d_Reader_readSound_47 : decode prog_7_method_19_code 47 = .ok (.invokevirtual 187, 3) := by decide +kernel
theorem d_Reader_readSound_50 : decode prog_7_method_19_code 50 = .ok (.aload_n 0, 1) := by decide +kernel
theorem d_Reader_readSound_51 : decode prog_7_method_19_code 51 = .ok (.invokevirtual 181, 3) := by decide +kernel
theorem d_Reader_readSound_54 : decode prog_7_method_19_code 54 = .ok (.ireturn, 1) := by decide +kernel
theorem d_Reader_readSound_13 : decode prog_7_method_19_code 13 = .ok (.aload_n 0, 1) := by decide +kernel
theorem d_Reader_readSound_14 : decode prog_7_method_19_code 14 = .ok (.invokevirtual 181, 3) := by decide +kernel
theorem d_Reader_readSound_17 : decode prog_7_method_19_code 17 = .ok (.ireturn, 1) := by decide +kernel
def m_Reader_readEvent : mr_T := (⟨"PlainMusic$Reader", "readEvent", "(LPlainMusic$Voice;)Z"⟩, prog_7_method_18_code, 6, some .boolean)
theorem d_Reader_readEvent_0 : decode prog_7_method_18_code 0 = .ok (.aload_n 0, 1) := by decide +kernel
theorem d_Reader_readEvent_1 : decode prog_7_method_18_code 1 = .ok (.getfield 12, 3) := by decide +kernel
theorem d_Reader_readEvent_4 : decode prog_7_method_18_code 4 = .ok (.getfield 50, 3) := by decide +kernel
theorem d_Reader_readEvent_7 : decode prog_7_method_18_code 7 = .ok (.sipush 266, 3) := by decide +kernel
theorem d_Reader_readEvent_10 : decode prog_7_method_18_code 10 = .ok (.if_icmp .ne 7, 3) := by decide +kernel
theorem d_Reader_readEvent_17 : decode prog_7_method_18_code 17 = .ok (.iconst 0, 1) := by decide +kernel
theorem d_Reader_readEvent_18 : decode prog_7_method_18_code 18 = .ok (.istore_n 2, 1) := by decide +kernel
theorem d_Reader_readEvent_19 : decode prog_7_method_18_code 19 = .ok (.aload_n 0, 1) := by decide +kernel
theorem d_Reader_readEvent_20 : decode prog_7_method_18_code 20 = .ok (.aload_n 1, 1) := by decide +kernel
theorem d_Reader_readEvent_21 : decode prog_7_method_18_code 21 = .ok (.invokevirtual 172, 3) := by decide +kernel
theorem k_Reader_readSound : mt_OK m_Reader_readSound 1 1 := ⟨gwi_878, gwi_135, ⟨by decide +kernel, by decide +kernel, by decide +kernel⟩, fun h => absurd h (by decide), fun _ => ⟨gwi_877, gwi_16⟩, fun h => absurd h (by decide)⟩
theorem l_Reader_172 : ml_OK "PlainMusic$Reader" 172 ⟨"PlainMusic$Reader", "readSound", "(LPlainMusic$Voice;)Z"⟩ := Or.inl gwi_875
theorem d_Reader_readEvent_24 : decode prog_7_method_18_code 24 = .ok (.ifCond .ne 5, 3) := by decide +kernel
theorem d_Reader_readEvent_29 : decode prog_7_method_18_code 29 = .ok (.aload_n 0, 1) := by decide +kernel
theorem d_Reader_readEvent_30 : decode prog_7_method_18_code 30 = .ok (.bipush 64, 2) := by decide +kernel
theorem d_Reader_readEvent_32 : decode prog_7_method_18_code 32 = .ok (.iconst 1, 1) := by decide +kernel
theorem d_Reader_readEvent_33 : decode prog_7_method_18_code 33 = .ok (.invokevirtual 99, 3) := by decide +kernel
theorem d_Reader_readEvent_36 : decode prog_7_method_18_code 36 = .ok (.istore_n 3, 1) := by decide +kernel
theorem d_Reader_readEvent_37 : decode prog_7_method_18_code 37 = .ok (.iload_n 3, 1) := by decide +kernel
theorem d_Reader_readEvent_38 : decode prog_7_method_18_code 38 = .ok (.ifCond .ne 5, 3) := by decide +kernel
theorem d_Reader_readEvent_43 : decode prog_7_method_18_code 43 = .ok (.iconst 0, 1) := by decide +kernel
theorem d_Reader_readEvent_44 : decode prog_7_method_18_code 44 = .ok (.istore 4, 2) := by decide +kernel
theorem d_Reader_readEvent_46 : decode prog_7_method_18_code 46 = .ok (.iconst 0, 1) := by decide +kernel
theorem d_Reader_readEvent_47 : decode prog_7_method_18_code 47 = .ok (.istore 5, 2) := by decide +kernel
theorem d_Reader_readEvent_49 : decode prog_7_method_18_code 49 = .ok (.iload 5, 2) := by decide +kernel
theorem d_Reader_readEvent_51 : decode prog_7_method_18_code 51 = .ok (.iconst 3, 1) := by decide +kernel
theorem d_Reader_readEvent_52 : decode prog_7_method_18_code 52 = .ok (.if_icmp .gt 50, 3) := by decide +kernel
theorem d_Reader_readEvent_55 : decode prog_7_method_18_code 55 = .ok (.aload_n 0, 1) := by decide +kernel
theorem d_Reader_readEvent_56 : decode prog_7_method_18_code 56 = .ok (.getfield 12, 3) := by decide +kernel
theorem d_Reader_readEvent_59 : decode prog_7_method_18_code 59 = .ok (.getfield 50, 3) := by decide +kernel
theorem d_Reader_readEvent_62 : decode prog_7_method_18_code 62 = .ok (.bipush 46, 2) := by decide +kernel
theorem d_Reader_readEvent_64 : decode prog_7_method_18_code 64 = .ok (.if_icmp .ne 38, 3) := by decide +kernel
theorem d_Reader_readEvent_102 : decode prog_7_method_18_code 102 = .ok (.aload_n 0, 1) := by decide +kernel
theorem d_Reader_readEvent_103 : decode prog_7_method_18_code 103 = .ok (.getfield 12, 3) := by decide +kernel
theorem d_Reader_readEvent_106 : decode prog_7_method_18_code 106 = .ok (.getfield 50, 3) := by decide +kernel
theorem d_Reader_readEvent_109 : decode prog_7_method_18_code 109 = .ok (.bipush 126, 2) := by decide +kernel
theorem d_Reader_readEvent_111 : decode prog_7_method_18_code 111 = .ok (.if_icmp .ne 7, 3) := by decide +kernel
theorem d_Reader_readEvent_118 : decode prog_7_method_18_code 118 = .ok (.iconst 0, 1) := by decide +kernel
theorem d_Reader_readEvent_119 : decode prog_7_method_18_code 119 = .ok (.istore 5, 2) := by decide +kernel
theorem d_Reader_readEvent_121 : decode prog_7_method_18_code 121 = .ok (.iload 5, 2) := by decide +kernel
theorem d_Reader_readEvent_123 : decode prog_7_method_18_code 123 = .ok (.ifCond .eq 21, 3) := by decide +kernel
theorem d_Reader_readEvent_144 : decode prog_7_method_18_code 144 = .ok (.iload 5, 2) := by decide +kernel
theorem d_Reader_readEvent_146 : decode prog_7_method_18_code 146 = .ok (.ifCond .eq 10, 3) := by decide +kernel
theorem d_Reader_readEvent_156 : decode prog_7_method_18_code 156 = .ok (.aload_n 0, 1) := by decide +kernel
theorem d_Reader_readEvent_157 : decode prog_7_method_18_code 157 = .ok (.getfield 21, 3) := by decide +kernel
theorem d_Reader_readEvent_160 : decode prog_7_method_18_code 160 = .ok (.sipush 256, 3) := by decide +kernel
theorem d_Reader_readEvent_163 : decode prog_7_method_18_code 163 = .ok (.aload_n 1, 1) := by decide +kernel
theorem d_Reader_readEvent_164 : decode prog_7_method_18_code 164 = .ok (.iload_n 3, 1) := by decide +kernel
theorem d_Reader_readEvent_165 : decode prog_7_method_18_code 165 = .ok (.iload 4, 2) := by decide +kernel
theorem d_Reader_readEvent_167 : decode prog_7_method_18_code 167 = .ok (.iload 5, 2) := by decide +kernel
theorem d_Reader_readEvent_169 : decode prog_7_method_18_code 169 = .ok (.invokevirtual 175, 3) := by decide +kernel
theorem k_Voice_endSound : mt_OK m_Voice_endSound 3 1 := ⟨gwi_891, gwi_139, ⟨by decide +kernel, by decide +kernel, by decide +kernel⟩, fun h => absurd h (by decide), fun _ => ⟨gwi_889, gwi_890⟩, fun h => absurd h (by decide)⟩
theorem l_Reader_175 : ml_OK "PlainMusic$Reader" 175 ⟨"PlainMusic$Voice", "endSound", "(IIZ)I"⟩ := Or.inl gwi_888
theorem d_Reader_readEvent_172 : decode prog_7_method_18_code 172 = .ok (.iconst 0, 1) := by decide +kernel
theorem d_Reader_readEvent_173 : decode prog_7_method_18_code 173 = .ok (.invokevirtual 169, 3) := by decide +kernel
theorem d_Reader_readEvent_176 : decode prog_7_method_18_code 176 = .ok (.iconst 1, 1) := by decide +kernel
theorem d_Reader_readEvent_177 : decode prog_7_method_18_code 177 = .ok (.ireturn, 1) := by decide +kernel
theorem d_Reader_readEvent_114 : decode prog_7_method_18_code 114 = .ok (.iconst 1, 1) := by decide +kernel
theorem d_Reader_readEvent_115 : decode prog_7_method_18_code 115 = .ok (.goto 4, 3) := by decide +kernel
theorem d_Reader_readEvent_126 : decode prog_7_method_18_code 126 = .ok (.iload_n 2, 1) := by decide +kernel
theorem d_Reader_readEvent_127 : decode prog_7_method_18_code 127 = .ok (.ifCond .eq 17, 3) := by decide +kernel
theorem d_Reader_readEvent_149 : decode prog_7_method_18_code 149 = .ok (.aload_n 0, 1) := by decide +kernel
theorem d_Reader_readEvent_150 : decode prog_7_method_18_code 150 = .ok (.getfield 12, 3) := by decide +kernel
theorem d_Reader_readEvent_153 : decode prog_7_method_18_code 153 = .ok (.invokevirtual 78, 3) := by decide +kernel
theorem d_Reader_readEvent_67 : decode prog_7_method_18_code 67 = .ok (.iload 4, 2) := by decide +kernel
theorem d_Reader_readEvent_69 : decode prog_7_method_18_code 69 = .ok (.iconst 3, 1) := by decide +kernel
theorem d_Reader_readEvent_70 : decode prog_7_method_18_code 70 = .ok (.if_icmp .ne 16, 3) := by decide +kernel
theorem d_Reader_readEvent_86 : decode prog_7_method_18_code 86 = .ok (.iinc 4 1, 3) := by decide +kernel
theorem d_Reader_readEvent_89 : decode prog_7_method_18_code 89 = .ok (.aload_n 0, 1) := by decide +kernel
theorem d_Reader_readEvent_90 : decode prog_7_method_18_code 90 = .ok (.getfield 12, 3) := by decide +kernel
theorem d_Reader_readEvent_93 : decode prog_7_method_18_code 93 = .ok (.invokevirtual 78, 3) := by decide +kernel
theorem d_Reader_readEvent_96 : decode prog_7_method_18_code 96 = .ok (.iinc 5 1, 3) := by decide +kernel
theorem d_Reader_readEvent_99 : decode prog_7_method_18_code 99 = .ok (.goto (-50), 3) := by decide +kernel
theorem d_Reader_readEvent_73 : decode prog_7_method_18_code 73 = .ok (.aload_n 0, 1) := by decide +kernel
theorem d_Reader_readEvent_74 : decode prog_7_method_18_code 74 = .ok (.iconst 3, 1) := by decide +kernel
theorem d_Reader_readEvent_75 : decode prog_7_method_18_code 75 = .ok (.aload_n 0, 1) := by decide +kernel
theorem d_Reader_readEvent_76 : decode prog_7_method_18_code 76 = .ok (.getfield 12, 3) := by decide +kernel
theorem d_Reader_readEvent_79 : decode prog_7_method_18_code 79 = .ok (.getfield 75, 3) := by decide +kernel
theorem d_Reader_readEvent_82 : decode prog_7_method_18_code 82 = .ok (.invokevirtual 91, 3) := by decide +kernel
theorem d_Reader_readEvent_85 : decode prog_7_method_18_code 85 = .ok (.ireturn, 1) := by decide +kernel
theorem d_Reader_readEvent_41 : decode prog_7_method_18_code 41 = .ok (.iconst 0, 1) := by decide +kernel
theorem d_Reader_readEvent_42 : decode prog_7_method_18_code 42 = .ok (.ireturn, 1) := by decide +kernel
theorem d_Reader_readEvent_27 : decode prog_7_method_18_code 27 = .ok (.iconst 0, 1) := by decide +kernel
theorem d_Reader_readEvent_28 : decode prog_7_method_18_code 28 = .ok (.ireturn, 1) := by decide +kernel
theorem d_Reader_readEvent_13 : decode prog_7_method_18_code 13 = .ok (.iconst 1, 1) := by decide +kernel
theorem d_Reader_readEvent_14 : decode prog_7_method_18_code 14 = .ok (.goto 4, 3) := by decide +kernel
theorem d_Reader_readEvent_130 : decode prog_7_method_18_code 130 = .ok (.aload_n 0, 1) := by decide +kernel
theorem d_Reader_readEvent_131 : decode prog_7_method_18_code 131 = .ok (.bipush 7, 2) := by decide +kernel
theorem d_Reader_readEvent_133 : decode prog_7_method_18_code 133 = .ok (.aload_n 0, 1) := by decide +kernel
theorem d_Reader_readEvent_134 : decode prog_7_method_18_code 134 = .ok (.getfield 12, 3) := by decide +kernel
theorem d_Reader_readEvent_137 : decode prog_7_method_18_code 137 = .ok (.getfield 75, 3) := by decide +kernel
theorem d_Reader_readEvent_140 : decode prog_7_method_18_code 140 = .ok (.invokevirtual 91, 3) := by decide +kernel
theorem d_Reader_readEvent_143 : decode prog_7_method_18_code 143 = .ok (.ireturn, 1) := by decide +kernel
def m_Reader_readVoice : mr_T := (⟨"PlainMusic$Reader", "readVoice", "()Z"⟩, prog_7_method_13_code, 5, some .boolean)
theorem d_Reader_readVoice_0 : decode prog_7_method_13_code 0 = .ok (.aload_n 0, 1) := by decide +kernel
theorem d_Reader_readVoice_1 : decode prog_7_method_13_code 1 = .ok (.getfield 12, 3) := by decide +kernel
theorem d_Reader_readVoice_4 : decode prog_7_method_13_code 4 = .ok (.getfield 75, 3) := by decide +kernel
theorem d_Reader_readVoice_7 : decode prog_7_method_13_code 7 = .ok (.istore_n 1, 1) := by decide +kernel
theorem d_Reader_readVoice_8 : decode prog_7_method_13_code 8 = .ok (.aload_n 0, 1) := by decide +kernel
theorem d_Reader_readVoice_9 : decode prog_7_method_13_code 9 = .ok (.getfield 32, 3) := by decide +kernel
theorem d_Reader_readVoice_12 : decode prog_7_method_13_code 12 = .ok (.invokevirtual 135, 3) := by decide +kernel
theorem k_Score_newVoice : mt_OK m_Score_newVoice 0 1 := ⟨gwi_854, gwi_138, ⟨by decide +kernel, by decide +kernel, by decide +kernel⟩, fun h => absurd h (by decide), fun _ => ⟨gwi_852, gwi_853⟩, fun h => absurd h (by decide)⟩
theorem l_Reader_135 : ml_OK "PlainMusic$Reader" 135 ⟨"PlainMusic$Score", "newVoice", "()LPlainMusic$Voice;"⟩ := Or.inl gwi_851
theorem d_Reader_readVoice_15 : decode prog_7_method_13_code 15 = .ok (.astore_n 2, 1) := by decide +kernel
theorem d_Reader_readVoice_16 : decode prog_7_method_13_code 16 = .ok (.aload_n 2, 1) := by decide +kernel
theorem d_Reader_readVoice_17 : decode prog_7_method_13_code 17 = .ok (.ifnonnull 10, 3) := by decide +kernel
theorem d_Reader_readVoice_20 : decode prog_7_method_13_code 20 = .ok (.aload_n 0, 1) := by decide +kernel
theorem d_Reader_readVoice_21 : decode prog_7_method_13_code 21 = .ok (.iconst 3, 1) := by decide +kernel
theorem d_Reader_readVoice_22 : decode prog_7_method_13_code 22 = .ok (.iload_n 1, 1) := by decide +kernel
theorem d_Reader_readVoice_23 : decode prog_7_method_13_code 23 = .ok (.invokevirtual 91, 3) := by decide +kernel
theorem d_Reader_readVoice_26 : decode prog_7_method_13_code 26 = .ok (.ireturn, 1) := by decide +kernel
theorem d_Reader_readVoice_27 : decode prog_7_method_13_code 27 = .ok (.aload_n 0, 1) := by decide +kernel
theorem d_Reader_readVoice_28 : decode prog_7_method_13_code 28 = .ok (.getfield 12, 3) := by decide +kernel
theorem d_Reader_readVoice_31 : decode prog_7_method_13_code 31 = .ok (.invokevirtual 78, 3) := by decide +kernel
theorem d_Reader_readVoice_34 : decode prog_7_method_13_code 34 = .ok (.aload_n 0, 1) := by decide +kernel
theorem d_Reader_readVoice_35 : decode prog_7_method_13_code 35 = .ok (.getfield 21, 3) := by decide +kernel
theorem d_Reader_readVoice_38 : decode prog_7_method_13_code 38 = .ok (.invokevirtual 139, 3) := by decide +kernel
theorem k_Parts_clear : mt_OK m_Parts_clear 0 1 := ⟨gwi_862, gwi_137, ⟨by decide +kernel, by decide +kernel, by decide +kernel⟩, fun h => absurd h (by decide), fun _ => ⟨gwi_860, gwi_861⟩, fun h => absurd h (by decide)⟩
theorem l_Reader_139 : ml_OK "PlainMusic$Reader" 139 ⟨"PlainMusic$Parts", "clear", "()V"⟩ := Or.inl gwi_859
theorem d_Reader_readVoice_41 : decode prog_7_method_13_code 41 = .ok (.aload_n 0, 1) := by decide +kernel
theorem d_Reader_readVoice_42 : decode prog_7_method_13_code 42 = .ok (.iconst 0, 1) := by decide +kernel
theorem d_Reader_readVoice_43 : decode prog_7_method_13_code 43 = .ok (.putfield 140, 3) := by decide +kernel
theorem d_Reader_readVoice_46 : decode prog_7_method_13_code 46 = .ok (.iconst 1, 1) := by decide +kernel
theorem d_Reader_readVoice_47 : decode prog_7_method_13_code 47 = .ok (.istore_n 3, 1) := by decide +kernel
theorem d_Reader_readVoice_48 : decode prog_7_method_13_code 48 = .ok (.iconst 0, 1) := by decide +kernel
theorem d_Reader_readVoice_49 : decode prog_7_method_13_code 49 = .ok (.istore 4, 2) := by decide +kernel
theorem d_Reader_readVoice_51 : decode prog_7_method_13_code 51 = .ok (.iload 4, 2) := by decide +kernel
theorem d_Reader_readVoice_53 : decode prog_7_method_13_code 53 = .ok (.sipush 2000, 3) := by decide +kernel
theorem d_Reader_readVoice_56 : decode prog_7_method_13_code 56 = .ok (.if_icmp .gt 69, 3) := by decide +kernel
theorem d_Reader_readVoice_59 : decode prog_7_method_13_code 59 = .ok (.iload_n 3, 1) := by decide +kernel
theorem d_Reader_readVoice_60 : decode prog_7_method_13_code 60 = .ok (.ifCond .eq 65, 3) := by decide +kernel
theorem d_Reader_readVoice_63 : decode prog_7_method_13_code 63 = .ok (.aload_n 0, 1) := by decide +kernel
theorem d_Reader_readVoice_64 : decode prog_7_method_13_code 64 = .ok (.invokevirtual 143, 3) := by decide +kernel
theorem k_Reader_beginsEvent : mt_OK m_Reader_beginsEvent 0 1 := ⟨gwi_866, gwi_135, ⟨by decide +kernel, by decide +kernel, by decide +kernel⟩, fun h => absurd h (by decide), fun _ => ⟨gwi_865, gwi_13⟩, fun h => absurd h (by decide)⟩
theorem l_Reader_143 : ml_OK "PlainMusic$Reader" 143 ⟨"PlainMusic$Reader", "beginsEvent", "()Z"⟩ := Or.inl gwi_863
theorem d_Reader_readVoice_67 : decode prog_7_method_13_code 67 = .ok (.ifCond .eq 27, 3) := by decide +kernel
theorem d_Reader_readVoice_94 : decode prog_7_method_13_code 94 = .ok (.aload_n 0, 1) := by decide +kernel
theorem d_Reader_readVoice_95 : decode prog_7_method_13_code 95 = .ok (.getfield 12, 3) := by decide +kernel
theorem d_Reader_readVoice_98 : decode prog_7_method_13_code 98 = .ok (.getfield 50, 3) := by decide +kernel
theorem d_Reader_readVoice_101 : decode prog_7_method_13_code 101 = .ok (.bipush 59, 2) := by decide +kernel
theorem d_Reader_readVoice_103 : decode prog_7_method_13_code 103 = .ok (.if_icmp .eq 14, 3) := by decide +kernel
theorem d_Reader_readVoice_117 : decode prog_7_method_13_code 117 = .ok (.iconst 0, 1) := by decide +kernel
theorem d_Reader_readVoice_118 : decode prog_7_method_13_code 118 = .ok (.istore_n 3, 1) := by decide +kernel
theorem d_Reader_readVoice_119 : decode prog_7_method_13_code 119 = .ok (.iinc 4 1, 3) := by decide +kernel
theorem d_Reader_readVoice_122 : decode prog_7_method_13_code 122 = .ok (.goto (-71), 3) := by decide +kernel
theorem d_Reader_readVoice_106 : decode prog_7_method_13_code 106 = .ok (.aload_n 0, 1) := by decide +kernel
theorem d_Reader_readVoice_107 : decode prog_7_method_13_code 107 = .ok (.invokevirtual 153, 3) := by decide +kernel
theorem k_Reader_readPart : mt_OK m_Reader_readPart 0 1 := ⟨gwi_899, gwi_135, ⟨by decide +kernel, by decide +kernel, by decide +kernel⟩, fun h => absurd h (by decide), fun _ => ⟨gwi_898, gwi_18⟩, fun h => absurd h (by decide)⟩
theorem l_Reader_153 : ml_OK "PlainMusic$Reader" 153 ⟨"PlainMusic$Reader", "readPart", "()Z"⟩ := Or.inl gwi_896
theorem d_Reader_readVoice_110 : decode prog_7_method_13_code 110 = .ok (.ifCond .eq 7, 3) := by decide +kernel
theorem d_Reader_readVoice_113 : decode prog_7_method_13_code 113 = .ok (.iconst 1, 1) := by decide +kernel
theorem d_Reader_readVoice_114 : decode prog_7_method_13_code 114 = .ok (.goto 4, 3) := by decide +kernel
theorem d_Reader_readVoice_70 : decode prog_7_method_13_code 70 = .ok (.aload_n 0, 1) := by decide +kernel
theorem d_Reader_readVoice_71 : decode prog_7_method_13_code 71 = .ok (.invokevirtual 146, 3) := by decide +kernel
theorem d_Reader_readVoice_74 : decode prog_7_method_13_code 74 = .ok (.ifCond .eq 15, 3) := by decide +kernel
theorem d_Reader_readVoice_89 : decode prog_7_method_13_code 89 = .ok (.iconst 0, 1) := by decide +kernel
theorem d_Reader_readVoice_90 : decode prog_7_method_13_code 90 = .ok (.istore_n 3, 1) := by decide +kernel
theorem d_Reader_readVoice_91 : decode prog_7_method_13_code 91 = .ok (.goto 28, 3) := by decide +kernel
theorem d_Reader_readVoice_77 : decode prog_7_method_13_code 77 = .ok (.aload_n 0, 1) := by decide +kernel
theorem d_Reader_readVoice_78 : decode prog_7_method_13_code 78 = .ok (.aload_n 2, 1) := by decide +kernel
theorem d_Reader_readVoice_79 : decode prog_7_method_13_code 79 = .ok (.invokevirtual 149, 3) := by decide +kernel
theorem k_Reader_readEvent : mt_OK m_Reader_readEvent 1 1 := ⟨gwi_874, gwi_135, ⟨by decide +kernel, by decide +kernel, by decide +kernel⟩, fun h => absurd h (by decide), fun _ => ⟨gwi_873, gwi_15⟩, fun h => absurd h (by decide)⟩
theorem l_Reader_149 : ml_OK "PlainMusic$Reader" 149 ⟨"PlainMusic$Reader", "readEvent", "(LPlainMusic$Voice;)Z"⟩ := Or.inl gwi_871
theorem d_Reader_readVoice_82 : decode prog_7_method_13_code 82 = .ok (.ifCond .eq 7, 3) := by decide +kernel
theorem d_Reader_readVoice_85 : decode prog_7_method_13_code 85 = .ok (.iconst 1, 1) := by decide +kernel
theorem d_Reader_readVoice_86 : decode prog_7_method_13_code 86 = .ok (.goto 4, 3) := by decide +kernel
theorem d_Reader_readVoice_125 : decode prog_7_method_13_code 125 = .ok (.aload_n 0, 1) := by decide +kernel
theorem d_Reader_readVoice_126 : decode prog_7_method_13_code 126 = .ok (.getfield 43, 3) := by decide +kernel
theorem d_Reader_readVoice_129 : decode prog_7_method_13_code 129 = .ok (.ifCond .eq 5, 3) := by decide +kernel
theorem d_Reader_readVoice_134 : decode prog_7_method_13_code 134 = .ok (.aload_n 0, 1) := by decide +kernel
theorem d_Reader_readVoice_135 : decode prog_7_method_13_code 135 = .ok (.getfield 12, 3) := by decide +kernel
theorem d_Reader_readVoice_138 : decode prog_7_method_13_code 138 = .ok (.getfield 50, 3) := by decide +kernel
theorem d_Reader_readVoice_141 : decode prog_7_method_13_code 141 = .ok (.bipush 59, 2) := by decide +kernel
theorem d_Reader_readVoice_143 : decode prog_7_method_13_code 143 = .ok (.if_icmp .ne 13, 3) := by decide +kernel
theorem d_Reader_readVoice_156 : decode prog_7_method_13_code 156 = .ok (.aload_n 0, 1) := by decide +kernel
theorem d_Reader_readVoice_157 : decode prog_7_method_13_code 157 = .ok (.invokevirtual 69, 3) := by decide +kernel
theorem d_Reader_readVoice_160 : decode prog_7_method_13_code 160 = .ok (.ireturn, 1) := by decide +kernel
theorem d_Reader_readVoice_146 : decode prog_7_method_13_code 146 = .ok (.aload_n 0, 1) := by decide +kernel
theorem d_Reader_readVoice_147 : decode prog_7_method_13_code 147 = .ok (.getfield 21, 3) := by decide +kernel
theorem d_Reader_readVoice_150 : decode prog_7_method_13_code 150 = .ok (.getfield 156, 3) := by decide +kernel
theorem d_Reader_readVoice_153 : decode prog_7_method_13_code 153 = .ok (.ifCond .le 8, 3) := by decide +kernel
theorem d_Reader_readVoice_161 : decode prog_7_method_13_code 161 = .ok (.aload_n 0, 1) := by decide +kernel
theorem d_Reader_readVoice_162 : decode prog_7_method_13_code 162 = .ok (.getfield 21, 3) := by decide +kernel
theorem d_Reader_readVoice_165 : decode prog_7_method_13_code 165 = .ok (.aload_n 2, 1) := by decide +kernel
theorem d_Reader_readVoice_166 : decode prog_7_method_13_code 166 = .ok (.invokevirtual 159, 3) := by decide +kernel
theorem k_Parts_walkInto : mt_OK m_Parts_walkInto 1 1 := ⟨gwi_912, gwi_137, ⟨by decide +kernel, by decide +kernel, by decide +kernel⟩, fun h => absurd h (by decide), fun _ => ⟨gwi_910, gwi_911⟩, fun h => absurd h (by decide)⟩
theorem l_Reader_159 : ml_OK "PlainMusic$Reader" 159 ⟨"PlainMusic$Parts", "walkInto", "(LPlainMusic$Voice;)I"⟩ := Or.inl gwi_909
theorem d_Reader_readVoice_169 : decode prog_7_method_13_code 169 = .ok (.istore 4, 2) := by decide +kernel
theorem d_Reader_readVoice_171 : decode prog_7_method_13_code 171 = .ok (.iload 4, 2) := by decide +kernel
theorem d_Reader_readVoice_173 : decode prog_7_method_13_code 173 = .ok (.ifCond .eq 11, 3) := by decide +kernel
theorem d_Reader_readVoice_184 : decode prog_7_method_13_code 184 = .ok (.aload_n 0, 1) := by decide +kernel
theorem d_Reader_readVoice_185 : decode prog_7_method_13_code 185 = .ok (.getfield 12, 3) := by decide +kernel
theorem d_Reader_readVoice_188 : decode prog_7_method_13_code 188 = .ok (.invokevirtual 78, 3) := by decide +kernel
theorem d_Reader_readVoice_191 : decode prog_7_method_13_code 191 = .ok (.iconst 1, 1) := by decide +kernel
theorem d_Reader_readVoice_192 : decode prog_7_method_13_code 192 = .ok (.ireturn, 1) := by decide +kernel
theorem d_Reader_readVoice_176 : decode prog_7_method_13_code 176 = .ok (.aload_n 0, 1) := by decide +kernel
theorem d_Reader_readVoice_177 : decode prog_7_method_13_code 177 = .ok (.iload 4, 2) := by decide +kernel
theorem d_Reader_readVoice_179 : decode prog_7_method_13_code 179 = .ok (.iload_n 1, 1) := by decide +kernel
theorem d_Reader_readVoice_180 : decode prog_7_method_13_code 180 = .ok (.invokevirtual 91, 3) := by decide +kernel
theorem d_Reader_readVoice_183 : decode prog_7_method_13_code 183 = .ok (.ireturn, 1) := by decide +kernel
theorem d_Reader_readVoice_132 : decode prog_7_method_13_code 132 = .ok (.iconst 0, 1) := by decide +kernel
theorem d_Reader_readVoice_133 : decode prog_7_method_13_code 133 = .ok (.ireturn, 1) := by decide +kernel
def m_Reader_read : mr_T := (⟨"PlainMusic$Reader", "read", "([II)I"⟩, prog_7_method_2_code, 5, some .int)
theorem d_Reader_read_0 : decode prog_7_method_2_code 0 = .ok (.aload_n 0, 1) := by decide +kernel
theorem d_Reader_read_1 : decode prog_7_method_2_code 1 = .ok (.getfield 32, 3) := by decide +kernel
theorem d_Reader_read_4 : decode prog_7_method_2_code 4 = .ok (.invokevirtual 36, 3) := by decide +kernel
theorem k_Score_clear : mt_OK m_Score_clear 0 1 := ⟨gwi_651, gwi_138, ⟨by decide +kernel, by decide +kernel, by decide +kernel⟩, fun h => absurd h (by decide), fun _ => ⟨gwi_649, gwi_650⟩, fun h => absurd h (by decide)⟩
theorem l_Reader_36 : ml_OK "PlainMusic$Reader" 36 ⟨"PlainMusic$Score", "clear", "()V"⟩ := Or.inl gwi_648
theorem d_Reader_read_7 : decode prog_7_method_2_code 7 = .ok (.aload_n 0, 1) := by decide +kernel
theorem d_Reader_read_8 : decode prog_7_method_2_code 8 = .ok (.iconst 0, 1) := by decide +kernel
theorem d_Reader_read_9 : decode prog_7_method_2_code 9 = .ok (.putfield 39, 3) := by decide +kernel
theorem d_Reader_read_12 : decode prog_7_method_2_code 12 = .ok (.aload_n 0, 1) := by decide +kernel
theorem d_Reader_read_13 : decode prog_7_method_2_code 13 = .ok (.iconst 0, 1) := by decide +kernel
theorem d_Reader_read_14 : decode prog_7_method_2_code 14 = .ok (.putfield 43, 3) := by decide +kernel
theorem d_Reader_read_17 : decode prog_7_method_2_code 17 = .ok (.aload_n 0, 1) := by decide +kernel
theorem d_Reader_read_18 : decode prog_7_method_2_code 18 = .ok (.getfield 12, 3) := by decide +kernel
theorem d_Reader_read_21 : decode prog_7_method_2_code 21 = .ok (.aload_n 1, 1) := by decide +kernel
theorem d_Reader_read_22 : decode prog_7_method_2_code 22 = .ok (.iload_n 2, 1) := by decide +kernel
theorem d_Reader_read_23 : decode prog_7_method_2_code 23 = .ok (.invokevirtual 46, 3) := by decide +kernel
theorem k_Tokens_cutAll : mt_OK m_Tokens_cutAll 2 1 := ⟨gwi_655, gwi_136, ⟨by decide +kernel, by decide +kernel, by decide +kernel⟩, fun h => absurd h (by decide), fun _ => ⟨gwi_653, gwi_654⟩, fun h => absurd h (by decide)⟩
theorem l_Reader_46 : ml_OK "PlainMusic$Reader" 46 ⟨"PlainMusic$Tokens", "cutAll", "([II)V"⟩ := Or.inl gwi_652
theorem d_Reader_read_26 : decode prog_7_method_2_code 26 = .ok (.iconst 1, 1) := by decide +kernel
theorem d_Reader_read_27 : decode prog_7_method_2_code 27 = .ok (.istore_n 3, 1) := by decide +kernel
theorem d_Reader_read_28 : decode prog_7_method_2_code 28 = .ok (.iconst 0, 1) := by decide +kernel
theorem d_Reader_read_29 : decode prog_7_method_2_code 29 = .ok (.istore 4, 2) := by decide +kernel
theorem d_Reader_read_31 : decode prog_7_method_2_code 31 = .ok (.iload 4, 2) := by decide +kernel
theorem d_Reader_read_33 : decode prog_7_method_2_code 33 = .ok (.sipush 2000, 3) := by decide +kernel
theorem d_Reader_read_36 : decode prog_7_method_2_code 36 = .ok (.if_icmp .ge 120, 3) := by decide +kernel
theorem d_Reader_read_39 : decode prog_7_method_2_code 39 = .ok (.iload_n 3, 1) := by decide +kernel
theorem d_Reader_read_40 : decode prog_7_method_2_code 40 = .ok (.ifCond .eq 116, 3) := by decide +kernel
theorem d_Reader_read_43 : decode prog_7_method_2_code 43 = .ok (.aload_n 0, 1) := by decide +kernel
theorem d_Reader_read_44 : decode prog_7_method_2_code 44 = .ok (.getfield 12, 3) := by decide +kernel
theorem d_Reader_read_47 : decode prog_7_method_2_code 47 = .ok (.getfield 50, 3) := by decide +kernel
theorem d_Reader_read_50 : decode prog_7_method_2_code 50 = .ok (.tableswitch 74 261 265 #[34, 42, 50, 58, 66], 34) := by decide +kernel
theorem d_Reader_read_124 : decode prog_7_method_2_code 124 = .ok (.aload_n 0, 1) := by decide +kernel
theorem d_Reader_read_125 : decode prog_7_method_2_code 125 = .ok (.getfield 12, 3) := by decide +kernel
theorem d_Reader_read_128 : decode prog_7_method_2_code 128 = .ok (.getfield 50, 3) := by decide +kernel
theorem d_Reader_read_131 : decode prog_7_method_2_code 131 = .ok (.sipush 256, 3) := by decide +kernel
theorem d_Reader_read_134 : decode prog_7_method_2_code 134 = .ok (.if_icmp .eq 14, 3) := by decide +kernel
theorem d_Reader_read_148 : decode prog_7_method_2_code 148 = .ok (.iconst 0, 1) := by decide +kernel
theorem d_Reader_read_149 : decode prog_7_method_2_code 149 = .ok (.istore_n 3, 1) := by decide +kernel
theorem d_Reader_read_150 : decode prog_7_method_2_code 150 = .ok (.iinc 4 1, 3) := by decide +kernel
theorem d_Reader_read_153 : decode prog_7_method_2_code 153 = .ok (.goto (-122), 3) := by decide +kernel
theorem d_Reader_read_137 : decode prog_7_method_2_code 137 = .ok (.aload_n 0, 1) := by decide +kernel
theorem d_Reader_read_138 : decode prog_7_method_2_code 138 = .ok (.invokevirtual 69, 3) := by decide +kernel
theorem d_Reader_read_141 : decode prog_7_method_2_code 141 = .ok (.ifCond .eq 7, 3) := by decide +kernel
theorem d_Reader_read_84 : decode prog_7_method_2_code 84 = .ok (.aload_n 0, 1) := by decide +kernel
theorem d_Reader_read_85 : decode prog_7_method_2_code 85 = .ok (.invokevirtual 53, 3) := by decide +kernel
theorem k_Reader_readTime : mt_OK m_Reader_readTime 0 1 := ⟨gwi_819, gwi_135, ⟨by decide +kernel, by decide +kernel, by decide +kernel⟩, fun h => absurd h (by decide), fun _ => ⟨gwi_818, gwi_7⟩, fun h => absurd h (by decide)⟩
theorem l_Reader_53 : ml_OK "PlainMusic$Reader" 53 ⟨"PlainMusic$Reader", "readTime", "()Z"⟩ := Or.inl gwi_816
theorem d_Reader_read_88 : decode prog_7_method_2_code 88 = .ok (.istore_n 3, 1) := by decide +kernel
theorem d_Reader_read_89 : decode prog_7_method_2_code 89 = .ok (.goto 61, 3) := by decide +kernel
theorem d_Reader_read_92 : decode prog_7_method_2_code 92 = .ok (.aload_n 0, 1) := by decide +kernel
theorem d_Reader_read_93 : decode prog_7_method_2_code 93 = .ok (.invokevirtual 57, 3) := by decide +kernel
theorem k_Reader_readVoice : mt_OK m_Reader_readVoice 0 1 := ⟨gwi_850, gwi_135, ⟨by decide +kernel, by decide +kernel, by decide +kernel⟩, fun h => absurd h (by decide), fun _ => ⟨gwi_849, gwi_12⟩, fun h => absurd h (by decide)⟩
theorem l_Reader_57 : ml_OK "PlainMusic$Reader" 57 ⟨"PlainMusic$Reader", "readVoice", "()Z"⟩ := Or.inl gwi_847
theorem d_Reader_read_96 : decode prog_7_method_2_code 96 = .ok (.istore_n 3, 1) := by decide +kernel
theorem d_Reader_read_97 : decode prog_7_method_2_code 97 = .ok (.goto 53, 3) := by decide +kernel
theorem d_Reader_read_100 : decode prog_7_method_2_code 100 = .ok (.aload_n 0, 1) := by decide +kernel
theorem d_Reader_read_101 : decode prog_7_method_2_code 101 = .ok (.invokevirtual 60, 3) := by decide +kernel
theorem k_Reader_readLine : mt_OK m_Reader_readLine 0 1 := ⟨gwi_954, gwi_135, ⟨by decide +kernel, by decide +kernel, by decide +kernel⟩, fun h => absurd h (by decide), fun _ => ⟨gwi_953, gwi_23⟩, fun h => absurd h (by decide)⟩
theorem l_Reader_60 : ml_OK "PlainMusic$Reader" 60 ⟨"PlainMusic$Reader", "readLine", "()Z"⟩ := Or.inl gwi_951
theorem d_Reader_read_104 : decode prog_7_method_2_code 104 = .ok (.istore_n 3, 1) := by decide +kernel
theorem d_Reader_read_105 : decode prog_7_method_2_code 105 = .ok (.goto 45, 3) := by decide +kernel
theorem d_Reader_read_108 : decode prog_7_method_2_code 108 = .ok (.aload_n 0, 1) := by decide +kernel
theorem d_Reader_read_109 : decode prog_7_method_2_code 109 = .ok (.invokevirtual 63, 3) := by decide +kernel
theorem k_Reader_readRule : mt_OK m_Reader_readRule 0 1 := ⟨gwi_962, gwi_135, ⟨by decide +kernel, by decide +kernel, by decide +kernel⟩, fun h => absurd h (by decide), fun _ => ⟨gwi_961, gwi_24⟩, fun h => absurd h (by decide)⟩
theorem l_Reader_63 : ml_OK "PlainMusic$Reader" 63 ⟨"PlainMusic$Reader", "readRule", "()Z"⟩ := Or.inl gwi_959
theorem d_Reader_read_112 : decode prog_7_method_2_code 112 = .ok (.istore_n 3, 1) := by decide +kernel
theorem d_Reader_read_113 : decode prog_7_method_2_code 113 = .ok (.goto 37, 3) := by decide +kernel
theorem d_Reader_read_116 : decode prog_7_method_2_code 116 = .ok (.aload_n 0, 1) := by decide +kernel
theorem d_Reader_read_117 : decode prog_7_method_2_code 117 = .ok (.invokevirtual 66, 3) := by decide +kernel
theorem k_Reader_readRow : mt_OK m_Reader_readRow 0 1 := ⟨gwi_974, gwi_135, ⟨by decide +kernel, by decide +kernel, by decide +kernel⟩, fun h => absurd h (by decide), fun _ => ⟨gwi_973, gwi_26⟩, fun h => absurd h (by decide)⟩
theorem l_Reader_66 : ml_OK "PlainMusic$Reader" 66 ⟨"PlainMusic$Reader", "readRow", "()Z"⟩ := Or.inl gwi_971
theorem d_Reader_read_120 : decode prog_7_method_2_code 120 = .ok (.istore_n 3, 1) := by decide +kernel
theorem d_Reader_read_121 : decode prog_7_method_2_code 121 = .ok (.goto 29, 3) := by decide +kernel
theorem d_Reader_read_156 : decode prog_7_method_2_code 156 = .ok (.aload_n 0, 1) := by decide +kernel
theorem d_Reader_read_157 : decode prog_7_method_2_code 157 = .ok (.getfield 43, 3) := by decide +kernel
theorem d_Reader_read_160 : decode prog_7_method_2_code 160 = .ok (.ireturn, 1) := by decide +kernel
theorem s_Reader_blame {G : cx_T} {s : Nat} {h : ah_T} (hx : xi s h) {a1 : Int} {a2 : Int}  : con G 0 0 0 m_Reader_blame [av_R (some 2), av_I a1, av_I a2] h (fun r h' => ∃ z, r = some (av_I z) ∧ (0 ≤ z ∧ z ≤ 0) ∧ kF (FB s) s h h') := by
  refine con_of (L := [some (av_R (some 2)), some (av_I a1), some (av_I a2)]) (by decide +kernel) (Nat.le_of_ble_eq_true rfl) rfl ?_
  have hS : isS s := hx.2.1
  have hs0 : s = 17 ∨ s = 80 := hS
  have hs0b : 17 ≤ s ∧ s ≤ 80 := by omega
  have k0 : kF (FB s) s h h := kF_0 hx
  refine A_locI 1 rfl (fun ra => ?_)
  obtain ⟨_, _⟩ := ra
  refine A_locI 2 rfl (fun ra => ?_)
  obtain ⟨_, _⟩ := ra
  refine A_aload_n 0 d_Reader_blame_0 rfl rfl ?_
  refine A_iload_n 1 d_Reader_blame_1 rfl rfl ?_
  refine A_putIk (KR := kF (FB s) s h) T_ok d_Reader_blame_2 f_Reader_43 (xi_s k0.1 sf_2) fin_f (kF_j k0 (by omega) (ns_b rfl) rgf_2_6 (by omega) (by omega)) (fun h1 k2 eh1 => ?_)
  refine A_aload_n 0 d_Reader_blame_5 rfl rfl ?_
  refine A_iload_n 2 d_Reader_blame_6 rfl rfl ?_
  refine A_pc (pc' := 7) rfl ?_
  refine A_putIk (KR := kF (FB s) s h) T_ok d_Reader_blame_7 f_Reader_72 (xi_s k2.1 sf_2) fin_f (kF_j k2 (by omega) (ns_b rfl) rgf_2_7 (by omega) (by omega)) (fun h3 k4 eh3 => ?_)
  refine A_iconst d_Reader_blame_10 rfl ?_
  exact A_zret d_Reader_blame_11 (by decide) rfl (by omega) ⟨_, rfl, ⟨by omega, by omega⟩, k4⟩
theorem s_Reader_refuse {G : cx_T} {s : Nat} {h : ah_T} (hx : xi s h)   : con G 0 0 0 m_Reader_refuse [av_R (some 2)] h (fun r h' => ∃ z, r = some (av_I z) ∧ (0 ≤ z ∧ z ≤ 0) ∧ kF (FB s) s h h') := by
  refine con_of (L := [some (av_R (some 2))]) (by decide +kernel) (Nat.le_of_ble_eq_true rfl) rfl ?_
  have hS : isS s := hx.2.1
  have hs0 : s = 17 ∨ s = 80 := hS
  have hs0b : 17 ≤ s ∧ s ≤ 80 := by omega
  have k0 : kF (FB s) s h h := kF_0 hx
  refine A_aload_n 0 d_Reader_refuse_0 rfl rfl ?_
  refine A_aload_n 0 d_Reader_refuse_1 rfl rfl ?_
  refine A_getOv (z := some 3) T_ok d_Reader_refuse_2 f_Reader_12 (xi_s k0.1 sf_2) (xi_r k0.1 rff_2_0) ?_
  refine A_getIf T_ok d_Reader_refuse_5 f_Reader_50 (xi_s k0.1 sf_3) (fun x2 ex2 _ _ => ?_)
  refine A_sipush d_Reader_refuse_8 rfl ?_
  refine A_pc (pc' := 11) rfl ?_
  refine A_icmp_ne (tgt := 18) d_Reader_refuse_11 (by decide) (fun c3 => ?_) (fun c3 => ?_)
  · refine A_iconst d_Reader_refuse_18 rfl ?_
    refine A_putIk (KR := kF (FB s) s h) T_ok d_Reader_refuse_19 f_Reader_43 (xi_s k0.1 sf_2) fin_f (kF_j k0 (by omega) (ns_b rfl) rgf_2_6 (by omega) (by omega)) (fun h4 k5 eh4 => ?_)
    refine A_aload_n 0 d_Reader_refuse_22 rfl rfl ?_
    refine A_aload_n 0 d_Reader_refuse_23 rfl rfl ?_
    refine A_getOv (z := some 3) T_ok d_Reader_refuse_24 f_Reader_12 (xi_s k5.1 sf_2) (xi_r k5.1 rff_2_0) ?_
    refine A_pc (pc' := 27) rfl ?_
    refine A_getIf T_ok d_Reader_refuse_27 f_Reader_75 (xi_s k5.1 sf_3) (fun x7 ex7 _ _ => ?_)
    refine A_putIk (KR := kF (FB s) s h) T_ok d_Reader_refuse_30 f_Reader_72 (xi_s k5.1 sf_2) fin_f (kF_j k5 (by omega) (ns_b rfl) rgf_2_7 (by omega) (by omega)) (fun h8 k9 eh8 => ?_)
    refine A_iconst d_Reader_refuse_33 rfl ?_
    exact A_zret d_Reader_refuse_34 (by decide) rfl (by omega) ⟨_, rfl, ⟨by omega, by omega⟩, k9⟩
  · refine A_iconst d_Reader_refuse_14 rfl ?_
    refine A_goto (tgt := 19) d_Reader_refuse_15 (by decide) ?_
    refine A_putIk (KR := kF (FB s) s h) T_ok d_Reader_refuse_19 f_Reader_43 (xi_s k0.1 sf_2) fin_f (kF_j k0 (by omega) (ns_b rfl) rgf_2_6 (by omega) (by omega)) (fun h10 k11 eh10 => ?_)
    refine A_aload_n 0 d_Reader_refuse_22 rfl rfl ?_
    refine A_aload_n 0 d_Reader_refuse_23 rfl rfl ?_
    refine A_getOv (z := some 3) T_ok d_Reader_refuse_24 f_Reader_12 (xi_s k11.1 sf_2) (xi_r k11.1 rff_2_0) ?_
    refine A_getIf T_ok d_Reader_refuse_27 f_Reader_75 (xi_s k11.1 sf_3) (fun x13 ex13 _ _ => ?_)
    refine A_pc (pc' := 30) rfl ?_
    refine A_putIk (KR := kF (FB s) s h) T_ok d_Reader_refuse_30 f_Reader_72 (xi_s k11.1 sf_2) fin_f (kF_j k11 (by omega) (ns_b rfl) rgf_2_7 (by omega) (by omega)) (fun h14 k15 eh14 => ?_)
    refine A_iconst d_Reader_refuse_33 rfl ?_
    exact A_zret d_Reader_refuse_34 (by decide) rfl (by omega) ⟨_, rfl, ⟨by omega, by omega⟩, k15⟩
theorem s_Reader_take {G : cx_T} {s : Nat} {h : ah_T} (hx : xi s h) {a1 : Int}  : con G 1 0 0 m_Reader_take [av_R (some 2), av_I a1] h (fun r h' => ∃ z, r = some (av_I z) ∧ (z = 0 ∨ z = 1) ∧ kF (FB s) s h h') := by
  refine con_of (L := [some (av_R (some 2)), some (av_I a1)]) (by decide +kernel) (Nat.le_of_ble_eq_true rfl) rfl ?_
  have hS : isS s := hx.2.1
  have hs0 : s = 17 ∨ s = 80 := hS
  have hs0b : 17 ≤ s ∧ s ≤ 80 := by omega
  have k0 : kF (FB s) s h h := kF_0 hx
  refine A_locI 1 rfl (fun ra => ?_)
  obtain ⟨_, _⟩ := ra
  refine A_aload_n 0 d_Reader_take_0 rfl rfl ?_
  refine A_getOv (z := some 3) T_ok d_Reader_take_1 f_Reader_12 (xi_s k0.1 sf_2) (xi_r k0.1 rff_2_0) ?_
  refine A_getIf T_ok d_Reader_take_4 f_Reader_50 (xi_s k0.1 sf_3) (fun x2 ex2 _ _ => ?_)
  refine A_iload_n 1 d_Reader_take_7 rfl rfl ?_
  refine A_icmp_eq (tgt := 16) d_Reader_take_8 (by decide) (fun c3 => ?_) (fun c3 => ?_)
  · refine A_aload_n 0 d_Reader_take_16 rfl rfl ?_
    refine A_getOv (z := some 3) T_ok d_Reader_take_17 f_Reader_12 (xi_s k0.1 sf_2) (xi_r k0.1 rff_2_0) ?_
    refine A_callV0 m_Tokens_next T_ok d_Reader_take_20 l_Reader_78 k_Tokens_next (xi_s k0.1 sf_3) rfl (by decide +kernel) (by decide) (Nat.le_of_ble_eq_true rfl) (s_Tokens_next k0.1 ) (fun r h5 hq => ?_)
    obtain ⟨rfl, k6⟩ := hq
    have k7 := kF_t k0 k6 (FB_A hS)
    refine A_iconst d_Reader_take_23 rfl ?_
    exact A_zret d_Reader_take_24 (by decide) rfl (by omega) ⟨_, rfl, by omega, k7⟩
  · refine A_aload_n 0 d_Reader_take_11 rfl rfl ?_
    refine A_callV0 m_Reader_refuse T_ok d_Reader_take_12 l_Reader_69 k_Reader_refuse (xi_s k0.1 sf_2) rfl (by decide +kernel) (by decide) (Nat.le_of_ble_eq_true rfl) (s_Reader_refuse k0.1 ) (fun r h8 hq => ?_)
    obtain ⟨x10, rfl, ⟨_, _⟩, k9⟩ := hq
    have k11 := kF_t k0 k9 (fun _ q => q)
    obtain rfl : x10 = 0 := by omega
    exact A_zret d_Reader_take_15 (by decide) rfl (by omega) ⟨_, rfl, by omega, k11⟩
theorem s_Reader_readNumber {G : cx_T} {s : Nat} {h : ah_T} (hx : xi s h) {a1 : Int} {a2 : Int} (la1 : 0 ≤ a1) (ua1 : a1 ≤ 64) (ba2 : a2 = 0 ∨ a2 = 1) : con G 1 0 0 m_Reader_readNumber [av_R (some 2), av_I a1, av_I a2] h (fun r h' => ∃ z, r = some (av_I z) ∧ (0 ≤ z ∧ z ≤ 64) ∧ (z ≤ a1) ∧ kF (FB s) s h h') := by
  refine con_of (L := [some (av_R (some 2)), some (av_I a1), some (av_I a2), none]) (by decide +kernel) (Nat.le_of_ble_eq_true rfl) rfl ?_
  have hS : isS s := hx.2.1
  have hs0 : s = 17 ∨ s = 80 := hS
  have hs0b : 17 ≤ s ∧ s ≤ 80 := by omega
  have k0 : kF (FB s) s h h := kF_0 hx
  refine A_aload_n 0 d_Reader_readNumber_0 rfl rfl ?_
  refine A_getOv (z := some 3) T_ok d_Reader_readNumber_1 f_Reader_12 (xi_s k0.1 sf_2) (xi_r k0.1 rff_2_0) ?_
  refine A_getIf T_ok d_Reader_readNumber_4 f_Reader_50 (xi_s k0.1 sf_3) (fun x2 ex2 _ _ => ?_)
  refine A_sipush d_Reader_readNumber_7 rfl ?_
  refine A_icmp_eq (tgt := 20) d_Reader_readNumber_10 (by decide) (fun c3 => ?_) (fun c3 => ?_)
  · refine A_aload_n 0 d_Reader_readNumber_20 rfl rfl ?_
    refine A_getOv (z := some 3) T_ok d_Reader_readNumber_21 f_Reader_12 (xi_s k0.1 sf_2) (xi_r k0.1 rff_2_0) ?_
    refine A_getLf T_ok d_Reader_readNumber_24 f_Reader_81 (xi_s k0.1 sf_3) (fun x5 ex5 _ _ => ?_)
    refine A_l2iw d_Reader_readNumber_27 (fun x6 _ _ _ => ?_)
    refine A_istore_n 3 (L' := [some (av_R (some 2)), some (av_I a1), some (av_I a2), some (av_I x6)]) d_Reader_readNumber_28 rfl (Nat.le_of_ble_eq_true rfl) rfl ?_
    refine A_pc (pc' := 29) rfl ?_
    refine A_iload_n 3 d_Reader_readNumber_29 rfl rfl ?_
    refine A_iconst d_Reader_readNumber_30 rfl ?_
    refine A_icmp_lt (tgt := 51) d_Reader_readNumber_31 (by decide) (fun c7 => ?_) (fun c7 => ?_)
    · refine A_aload_n 0 d_Reader_readNumber_51 rfl rfl ?_
      refine A_iconst d_Reader_readNumber_52 rfl ?_
      refine A_aload_n 0 d_Reader_readNumber_53 rfl rfl ?_
      refine A_getOv (z := some 3) T_ok d_Reader_readNumber_54 f_Reader_12 (xi_s k0.1 sf_2) (xi_r k0.1 rff_2_0) ?_
      refine A_getIf T_ok d_Reader_readNumber_57 f_Reader_75 (xi_s k0.1 sf_3) (fun x9 ex9 _ _ => ?_)
      refine A_pc (pc' := 60) rfl ?_
      refine A_callV2 m_Reader_blame T_ok d_Reader_readNumber_60 l_Reader_91 k_Reader_blame (xi_s k0.1 sf_2) rfl (by decide +kernel) (by decide) (Nat.le_of_ble_eq_true rfl) (s_Reader_blame k0.1 ) (fun r h10 hq => ?_)
      obtain ⟨x12, rfl, ⟨_, _⟩, k11⟩ := hq
      have k13 := kF_t k0 k11 (fun _ q => q)
      obtain rfl : x12 = 0 := by omega
      refine A_popI d_Reader_readNumber_63 ?_
      refine A_iconst d_Reader_readNumber_64 rfl ?_
      exact A_iret d_Reader_readNumber_65 (by decide) rfl ⟨_, rfl, ⟨by omega, by omega⟩, by omega, k13⟩
    · refine A_iload_n 3 d_Reader_readNumber_34 rfl rfl ?_
      refine A_iload_n 1 d_Reader_readNumber_35 rfl rfl ?_
      refine A_icmp_gt (tgt := 51) d_Reader_readNumber_36 (by decide) (fun c14 => ?_) (fun c14 => ?_)
      · refine A_aload_n 0 d_Reader_readNumber_51 rfl rfl ?_
        refine A_iconst d_Reader_readNumber_52 rfl ?_
        refine A_aload_n 0 d_Reader_readNumber_53 rfl rfl ?_
        refine A_getOv (z := some 3) T_ok d_Reader_readNumber_54 f_Reader_12 (xi_s k0.1 sf_2) (xi_r k0.1 rff_2_0) ?_
        refine A_getIf T_ok d_Reader_readNumber_57 f_Reader_75 (xi_s k0.1 sf_3) (fun x16 ex16 _ _ => ?_)
        refine A_pc (pc' := 60) rfl ?_
        refine A_callV2 m_Reader_blame T_ok d_Reader_readNumber_60 l_Reader_91 k_Reader_blame (xi_s k0.1 sf_2) rfl (by decide +kernel) (by decide) (Nat.le_of_ble_eq_true rfl) (s_Reader_blame k0.1 ) (fun r h17 hq => ?_)
        obtain ⟨x19, rfl, ⟨_, _⟩, k18⟩ := hq
        have k20 := kF_t k0 k18 (fun _ q => q)
        obtain rfl : x19 = 0 := by omega
        refine A_popI d_Reader_readNumber_63 ?_
        refine A_iconst d_Reader_readNumber_64 rfl ?_
        exact A_iret d_Reader_readNumber_65 (by decide) rfl ⟨_, rfl, ⟨by omega, by omega⟩, by omega, k20⟩
      · refine A_iload_n 2 d_Reader_readNumber_39 rfl rfl ?_
        refine A_if_eq (tgt := 66) d_Reader_readNumber_40 (by decide) (fun c21 => ?_) (fun c21 => ?_)
        · refine A_aload_n 0 d_Reader_readNumber_66 rfl rfl ?_
          refine A_getOv (z := some 3) T_ok d_Reader_readNumber_67 f_Reader_12 (xi_s k0.1 sf_2) (xi_r k0.1 rff_2_0) ?_
          refine A_callV0 m_Tokens_next T_ok d_Reader_readNumber_70 l_Reader_78 k_Tokens_next (xi_s k0.1 sf_3) rfl (by decide +kernel) (by decide) (Nat.le_of_ble_eq_true rfl) (s_Tokens_next k0.1 ) (fun r h23 hq => ?_)
          obtain ⟨rfl, k24⟩ := hq
          have k25 := kF_t k0 k24 (FB_A hS)
          refine A_iload_n 3 d_Reader_readNumber_73 rfl rfl ?_
          exact A_iret d_Reader_readNumber_74 (by decide) rfl ⟨_, rfl, ⟨by omega, by omega⟩, by omega, k25⟩
        · refine A_iload_n 3 d_Reader_readNumber_43 rfl rfl ?_
          refine A_callS1 m_JInteger_bitCount d_Reader_readNumber_44 l_Reader_85 k_JInteger_bitCount (by decide +kernel) (by decide) (Nat.le_of_ble_eq_true rfl) (s_JInteger_bitCount  ) (fun r h26 hq => ?_)
          obtain ⟨x28, rfl, ⟨_, _⟩, rfl⟩ := hq
          refine A_iconst d_Reader_readNumber_47 rfl ?_
          refine A_icmp_eq (tgt := 66) d_Reader_readNumber_48 (by decide) (fun c29 => ?_) (fun c29 => ?_)
          · refine A_aload_n 0 d_Reader_readNumber_66 rfl rfl ?_
            refine A_getOv (z := some 3) T_ok d_Reader_readNumber_67 f_Reader_12 (xi_s k0.1 sf_2) (xi_r k0.1 rff_2_0) ?_
            refine A_callV0 m_Tokens_next T_ok d_Reader_readNumber_70 l_Reader_78 k_Tokens_next (xi_s k0.1 sf_3) rfl (by decide +kernel) (by decide) (Nat.le_of_ble_eq_true rfl) (s_Tokens_next k0.1 ) (fun r h31 hq => ?_)
            obtain ⟨rfl, k32⟩ := hq
            have k33 := kF_t k0 k32 (FB_A hS)
            refine A_iload_n 3 d_Reader_readNumber_73 rfl rfl ?_
            exact A_iret d_Reader_readNumber_74 (by decide) rfl ⟨_, rfl, ⟨by omega, by omega⟩, by omega, k33⟩
          · refine A_aload_n 0 d_Reader_readNumber_51 rfl rfl ?_
            refine A_iconst d_Reader_readNumber_52 rfl ?_
            refine A_aload_n 0 d_Reader_readNumber_53 rfl rfl ?_
            refine A_getOv (z := some 3) T_ok d_Reader_readNumber_54 f_Reader_12 (xi_s k0.1 sf_2) (xi_r k0.1 rff_2_0) ?_
            refine A_getIf T_ok d_Reader_readNumber_57 f_Reader_75 (xi_s k0.1 sf_3) (fun x35 ex35 _ _ => ?_)
            refine A_pc (pc' := 60) rfl ?_
            refine A_callV2 m_Reader_blame T_ok d_Reader_readNumber_60 l_Reader_91 k_Reader_blame (xi_s k0.1 sf_2) rfl (by decide +kernel) (by decide) (Nat.le_of_ble_eq_true rfl) (s_Reader_blame k0.1 ) (fun r h36 hq => ?_)
            obtain ⟨x38, rfl, ⟨_, _⟩, k37⟩ := hq
            have k39 := kF_t k0 k37 (fun _ q => q)
            obtain rfl : x38 = 0 := by omega
            refine A_popI d_Reader_readNumber_63 ?_
            refine A_iconst d_Reader_readNumber_64 rfl ?_
            exact A_iret d_Reader_readNumber_65 (by decide) rfl ⟨_, rfl, ⟨by omega, by omega⟩, by omega, k39⟩
  · refine A_aload_n 0 d_Reader_readNumber_13 rfl rfl ?_
    refine A_callV0 m_Reader_refuse T_ok d_Reader_readNumber_14 l_Reader_69 k_Reader_refuse (xi_s k0.1 sf_2) rfl (by decide +kernel) (by decide) (Nat.le_of_ble_eq_true rfl) (s_Reader_refuse k0.1 ) (fun r h40 hq => ?_)
    obtain ⟨x42, rfl, ⟨_, _⟩, k41⟩ := hq
    have k43 := kF_t k0 k41 (fun _ q => q)
    obtain rfl : x42 = 0 := by omega
    refine A_popI d_Reader_readNumber_17 ?_
    refine A_iconst d_Reader_readNumber_18 rfl ?_
    exact A_iret d_Reader_readNumber_19 (by decide) rfl ⟨_, rfl, ⟨by omega, by omega⟩, by omega, k43⟩
theorem s_Reader_readTime {G : cx_T} {s : Nat} {h : ah_T} (hx : xi s h)   : con G 2 0 0 m_Reader_readTime [av_R (some 2)] h (fun r h' => ∃ z, r = some (av_I z) ∧ (z = 0 ∨ z = 1) ∧ kF (FB s) s h h') := by
  refine con_of (L := [some (av_R (some 2)), none, none]) (by decide +kernel) (Nat.le_of_ble_eq_true rfl) rfl ?_
  have hS : isS s := hx.2.1
  have hs0 : s = 17 ∨ s = 80 := hS
  have hs0b : 17 ≤ s ∧ s ≤ 80 := by omega
  have k0 : kF (FB s) s h h := kF_0 hx
  refine A_aload_n 0 d_Reader_readTime_0 rfl rfl ?_
  refine A_getOv (z := some s) T_ok d_Reader_readTime_1 f_Reader_32 (xi_s k0.1 sf_2) k0.1.2.2.2.1 ?_
  refine A_getZn T_ok d_Reader_readTime_4 f_Reader_95 (xs_S k0.1 hS) (fun x2 ex2 bx2 => ?_)
  refine A_if_eq (tgt := 23) d_Reader_readTime_7 (by decide) (fun c3 => ?_) (fun c3 => ?_)
  · refine A_aload_n 0 d_Reader_readTime_23 rfl rfl ?_
    refine A_getOv (z := some 3) T_ok d_Reader_readTime_24 f_Reader_12 (xi_s k0.1 sf_2) (xi_r k0.1 rff_2_0) ?_
    refine A_callV0 m_Tokens_next T_ok d_Reader_readTime_27 l_Reader_78 k_Tokens_next (xi_s k0.1 sf_3) rfl (by decide +kernel) (by decide) (Nat.le_of_ble_eq_true rfl) (s_Tokens_next k0.1 ) (fun r h5 hq => ?_)
    obtain ⟨rfl, k6⟩ := hq
    have k7 := kF_t k0 k6 (FB_A hS)
    refine A_aload_n 0 d_Reader_readTime_30 rfl rfl ?_
    refine A_bipush d_Reader_readTime_31 rfl ?_
    refine A_iconst d_Reader_readTime_33 rfl ?_
    refine A_callV2 m_Reader_readNumber T_ok d_Reader_readTime_34 l_Reader_99 k_Reader_readNumber (xi_s k7.1 sf_2) rfl (by decide +kernel) (by decide) (Nat.le_of_ble_eq_true rfl) (s_Reader_readNumber k7.1 (by omega) (by omega) (by omega)) (fun r h8 hq => ?_)
    obtain ⟨x10, rfl, ⟨_, _⟩, xx10, k9⟩ := hq
    have k11 := kF_t k7 k9 (fun _ q => q)
    refine A_istore_n 1 (L' := [some (av_R (some 2)), some (av_I x10), none]) d_Reader_readTime_37 rfl (Nat.le_of_ble_eq_true rfl) rfl ?_
    refine A_iload_n 1 d_Reader_readTime_38 rfl rfl ?_
    refine A_if_eq (tgt := 51) d_Reader_readTime_39 (by decide) (fun c12 => ?_) (fun c12 => ?_)
    · refine A_iconst d_Reader_readTime_51 rfl ?_
      exact A_zret d_Reader_readTime_52 (by decide) rfl (by omega) ⟨_, rfl, by omega, k11⟩
    · refine A_aload_n 0 d_Reader_readTime_42 rfl rfl ?_
      refine A_bipush d_Reader_readTime_43 rfl ?_
      refine A_callV1 m_Reader_take T_ok d_Reader_readTime_45 l_Reader_103 k_Reader_take (xi_s k11.1 sf_2) rfl (by decide +kernel) (by decide) (Nat.le_of_ble_eq_true rfl) (s_Reader_take k11.1 ) (fun r h13 hq => ?_)
      obtain ⟨x15, rfl, bx15, k14⟩ := hq
      have k16 := kF_t k11 k14 (fun _ q => q)
      refine A_if_ne (tgt := 53) d_Reader_readTime_48 (by decide) (fun c17 => ?_) (fun c17 => ?_)
      · refine A_aload_n 0 d_Reader_readTime_53 rfl rfl ?_
        refine A_bipush d_Reader_readTime_54 rfl ?_
        refine A_iconst d_Reader_readTime_56 rfl ?_
        refine A_callV2 m_Reader_readNumber T_ok d_Reader_readTime_57 l_Reader_99 k_Reader_readNumber (xi_s k16.1 sf_2) rfl (by decide +kernel) (by decide) (Nat.le_of_ble_eq_true rfl) (s_Reader_readNumber k16.1 (by omega) (by omega) (by omega)) (fun r h18 hq => ?_)
        obtain ⟨x20, rfl, ⟨_, _⟩, xx20, k19⟩ := hq
        have k21 := kF_t k16 k19 (fun _ q => q)
        refine A_istore_n 2 (L' := [some (av_R (some 2)), some (av_I x10), some (av_I x20)]) d_Reader_readTime_60 rfl (Nat.le_of_ble_eq_true rfl) rfl ?_
        refine A_iload_n 2 d_Reader_readTime_61 rfl rfl ?_
        refine A_if_ne (tgt := 67) d_Reader_readTime_62 (by decide) (fun c22 => ?_) (fun c22 => ?_)
        · refine A_aload_n 0 d_Reader_readTime_67 rfl rfl ?_
          refine A_getOv (z := some s) T_ok d_Reader_readTime_68 f_Reader_32 (xi_s k21.1 sf_2) k21.1.2.2.2.1 ?_
          refine A_iload_n 1 d_Reader_readTime_71 rfl rfl ?_
          refine A_iload_n 2 d_Reader_readTime_72 rfl rfl ?_
          refine A_callV2 m_Score_setTime T_ok d_Reader_readTime_73 l_Reader_107 k_Score_setTime (xs_S k21.1 hS) rfl (by decide +kernel) (by decide) (Nat.le_of_ble_eq_true rfl) (s_Score_setTime k21.1 ) (fun r h24 hq => ?_)
          obtain ⟨rfl, k25⟩ := hq
          have k26 := kF_t k21 k25 (fun _ q => q)
          refine A_aload_n 0 d_Reader_readTime_76 rfl rfl ?_
          refine A_bipush d_Reader_readTime_77 rfl ?_
          refine A_callV1 m_Reader_take T_ok d_Reader_readTime_79 l_Reader_103 k_Reader_take (xi_s k26.1 sf_2) rfl (by decide +kernel) (by decide) (Nat.le_of_ble_eq_true rfl) (s_Reader_take k26.1 ) (fun r h27 hq => ?_)
          obtain ⟨x29, rfl, bx29, k28⟩ := hq
          have k30 := kF_t k26 k28 (fun _ q => q)
          exact A_zret d_Reader_readTime_82 (by decide) rfl (by omega) ⟨_, rfl, by omega, k30⟩
        · refine A_iconst d_Reader_readTime_65 rfl ?_
          exact A_zret d_Reader_readTime_66 (by decide) rfl (by omega) ⟨_, rfl, by omega, k21⟩
      · refine A_iconst d_Reader_readTime_51 rfl ?_
        exact A_zret d_Reader_readTime_52 (by decide) rfl (by omega) ⟨_, rfl, by omega, k16⟩
  · refine A_aload_n 0 d_Reader_readTime_10 rfl rfl ?_
    refine A_iconst d_Reader_readTime_11 rfl ?_
    refine A_aload_n 0 d_Reader_readTime_12 rfl rfl ?_
    refine A_getOv (z := some 3) T_ok d_Reader_readTime_13 f_Reader_12 (xi_s k0.1 sf_2) (xi_r k0.1 rff_2_0) ?_
    refine A_getIf T_ok d_Reader_readTime_16 f_Reader_75 (xi_s k0.1 sf_3) (fun x32 ex32 _ _ => ?_)
    refine A_pc (pc' := 19) rfl ?_
    refine A_callV2 m_Reader_blame T_ok d_Reader_readTime_19 l_Reader_91 k_Reader_blame (xi_s k0.1 sf_2) rfl (by decide +kernel) (by decide) (Nat.le_of_ble_eq_true rfl) (s_Reader_blame k0.1 ) (fun r h33 hq => ?_)
    obtain ⟨x35, rfl, ⟨_, _⟩, k34⟩ := hq
    have k36 := kF_t k0 k34 (fun _ q => q)
    obtain rfl : x35 = 0 := by omega
    exact A_zret d_Reader_readTime_22 (by decide) rfl (by omega) ⟨_, rfl, by omega, k36⟩
theorem s_Reader_readLine {G : cx_T} {s : Nat} {h : ah_T} (hx : xi s h)   : con G 2 0 0 m_Reader_readLine [av_R (some 2)] h (fun r h' => ∃ z, r = some (av_I z) ∧ (z = 0 ∨ z = 1) ∧ kF (FB s) s h h') := by
  refine con_of (L := [some (av_R (some 2)), none]) (by decide +kernel) (Nat.le_of_ble_eq_true rfl) rfl ?_
  have hS : isS s := hx.2.1
  have hs0 : s = 17 ∨ s = 80 := hS
  have hs0b : 17 ≤ s ∧ s ≤ 80 := by omega
  have k0 : kF (FB s) s h h := kF_0 hx
  refine A_aload_n 0 d_Reader_readLine_0 rfl rfl ?_
  refine A_getOv (z := some s) T_ok d_Reader_readLine_1 f_Reader_32 (xi_s k0.1 sf_2) k0.1.2.2.2.1 ?_
  refine A_getIn (lo := 0) (hi := 8) T_ok d_Reader_readLine_4 f_Reader_111 (xs_S k0.1 hS) (xi_g k0.1 (lt1_S hS) (rg_S_6 hS)) (fun x2 ex2 _ _ => ?_)
  refine A_if_le (tgt := 23) d_Reader_readLine_7 (by decide) (fun c3 => ?_) (fun c3 => ?_)
  · refine A_aload_n 0 d_Reader_readLine_23 rfl rfl ?_
    refine A_getOv (z := some 3) T_ok d_Reader_readLine_24 f_Reader_12 (xi_s k0.1 sf_2) (xi_r k0.1 rff_2_0) ?_
    refine A_callV0 m_Tokens_next T_ok d_Reader_readLine_27 l_Reader_78 k_Tokens_next (xi_s k0.1 sf_3) rfl (by decide +kernel) (by decide) (Nat.le_of_ble_eq_true rfl) (s_Tokens_next k0.1 ) (fun r h5 hq => ?_)
    obtain ⟨rfl, k6⟩ := hq
    have k7 := kF_t k0 k6 (FB_A hS)
    refine A_aload_n 0 d_Reader_readLine_30 rfl rfl ?_
    refine A_getOv (z := some 3) T_ok d_Reader_readLine_31 f_Reader_12 (xi_s k7.1 sf_2) (xi_r k7.1 rff_2_0) ?_
    refine A_getIf T_ok d_Reader_readLine_34 f_Reader_50 (xi_s k7.1 sf_3) (fun x9 ex9 _ _ => ?_)
    refine A_sipush d_Reader_readLine_37 rfl ?_
    refine A_icmp_eq (tgt := 48) d_Reader_readLine_40 (by decide) (fun c10 => ?_) (fun c10 => ?_)
    · refine A_iconst d_Reader_readLine_48 rfl ?_
      refine A_istore_n 1 (L' := [some (av_R (some 2)), some (av_I 0)]) d_Reader_readLine_49 rfl (Nat.le_of_ble_eq_true rfl) rfl ?_
      have lp50 : ∀ (n : Nat) (i11 : Int) (h12 : ah_T) , 0 ≤ i11 → i11 ≤ 9 → kF (FB s) s h h12 → (10 - i11).toNat < n → aw G (rm_R 2 0 0) m_Reader_readLine 0 0 50 [some (av_R (some 2)), some (av_I i11)] [] h12 (fun r h' => ∃ z, r = some (av_I z) ∧ (z = 0 ∨ z = 1) ∧ kF (FB s) s h h') := by
        intro n
        induction n with
        | zero => intro i11 h12 _ _ _ hm; omega
        | succ n ih50 =>
          intro i11 h12 hl0 hl1 k13 hm
          refine A_iload_n 1 d_Reader_readLine_50 rfl rfl ?_
          refine A_bipush d_Reader_readLine_51 rfl ?_
          refine A_icmp_gt (tgt := 113) d_Reader_readLine_53 (by decide) (fun c14 => ?_) (fun c14 => ?_)
          · refine A_aload_n 0 d_Reader_readLine_113 rfl rfl ?_
            refine A_bipush d_Reader_readLine_114 rfl ?_
            refine A_callV1 m_Reader_take T_ok d_Reader_readLine_116 l_Reader_103 k_Reader_take (xi_s k13.1 sf_2) rfl (by decide +kernel) (by decide) (Nat.le_of_ble_eq_true rfl) (s_Reader_take k13.1 ) (fun r h15 hq => ?_)
            obtain ⟨x17, rfl, bx17, k16⟩ := hq
            have k18 := kF_t k13 k16 (fun _ q => q)
            exact A_zret d_Reader_readLine_119 (by decide) rfl (by omega) ⟨_, rfl, by omega, k18⟩
          · refine A_aload_n 0 d_Reader_readLine_56 rfl rfl ?_
            refine A_getOv (z := some 3) T_ok d_Reader_readLine_57 f_Reader_12 (xi_s k13.1 sf_2) (xi_r k13.1 rff_2_0) ?_
            refine A_getIf T_ok d_Reader_readLine_60 f_Reader_50 (xi_s k13.1 sf_3) (fun x20 ex20 _ _ => ?_)
            refine A_sipush d_Reader_readLine_63 rfl ?_
            refine A_icmp_ne (tgt := 113) d_Reader_readLine_66 (by decide) (fun c21 => ?_) (fun c21 => ?_)
            · refine A_aload_n 0 d_Reader_readLine_113 rfl rfl ?_
              refine A_bipush d_Reader_readLine_114 rfl ?_
              refine A_callV1 m_Reader_take T_ok d_Reader_readLine_116 l_Reader_103 k_Reader_take (xi_s k13.1 sf_2) rfl (by decide +kernel) (by decide) (Nat.le_of_ble_eq_true rfl) (s_Reader_take k13.1 ) (fun r h22 hq => ?_)
              obtain ⟨x24, rfl, bx24, k23⟩ := hq
              have k25 := kF_t k13 k23 (fun _ q => q)
              exact A_zret d_Reader_readLine_119 (by decide) rfl (by omega) ⟨_, rfl, by omega, k25⟩
            · refine A_aload_n 0 d_Reader_readLine_69 rfl rfl ?_
              refine A_getOv (z := some s) T_ok d_Reader_readLine_70 f_Reader_32 (xi_s k13.1 sf_2) k13.1.2.2.2.1 ?_
              refine A_aload_n 0 d_Reader_readLine_73 rfl rfl ?_
              refine A_getOv (z := some 3) T_ok d_Reader_readLine_74 f_Reader_12 (xi_s k13.1 sf_2) (xi_r k13.1 rff_2_0) ?_
              refine A_getLf T_ok d_Reader_readLine_77 f_Reader_81 (xi_s k13.1 sf_3) (fun x28 ex28 _ _ => ?_)
              refine A_pc (pc' := 80) rfl ?_
              refine A_l2iw d_Reader_readLine_80 (fun x29 _ _ _ => ?_)
              refine A_callV1 m_Score_addToLine T_ok d_Reader_readLine_81 l_Reader_114 k_Score_addToLine (xs_S k13.1 hS) rfl (by decide +kernel) (by decide) (Nat.le_of_ble_eq_true rfl) (s_Score_addToLine k13.1 ) (fun r h30 hq => ?_)
              obtain ⟨x32, rfl, bx32, k31⟩ := hq
              have k33 := kF_t k13 k31 (fun _ q => q)
              refine A_if_ne (tgt := 100) d_Reader_readLine_84 (by decide) (fun c34 => ?_) (fun c34 => ?_)
              · refine A_aload_n 0 d_Reader_readLine_100 rfl rfl ?_
                refine A_getOv (z := some 3) T_ok d_Reader_readLine_101 f_Reader_12 (xi_s k33.1 sf_2) (xi_r k33.1 rff_2_0) ?_
                refine A_callV0 m_Tokens_next T_ok d_Reader_readLine_104 l_Reader_78 k_Tokens_next (xi_s k33.1 sf_3) rfl (by decide +kernel) (by decide) (Nat.le_of_ble_eq_true rfl) (s_Tokens_next k33.1 ) (fun r h36 hq => ?_)
                obtain ⟨rfl, k37⟩ := hq
                have k38 := kF_t k33 k37 (FB_A hS)
                refine A_iincv (z := (i11 + 1)) (L' := [some (av_R (some 2)), some (av_I (i11 + 1))]) d_Reader_readLine_107 rfl (w32_to (by omega) (by unfold i32; omega)) rfl ?_
                refine A_goto (tgt := 50) d_Reader_readLine_110 (by decide) ?_
                exact ih50 (i11 + 1) h36 (by omega) (by omega) k38 (by omega)
              · refine A_aload_n 0 d_Reader_readLine_87 rfl rfl ?_
                refine A_iconst d_Reader_readLine_88 rfl ?_
                refine A_aload_n 0 d_Reader_readLine_89 rfl rfl ?_
                refine A_getOv (z := some 3) T_ok d_Reader_readLine_90 f_Reader_12 (xi_s k33.1 sf_2) (xi_r k33.1 rff_2_0) ?_
                refine A_getIf T_ok d_Reader_readLine_93 f_Reader_75 (xi_s k33.1 sf_3) (fun x40 ex40 _ _ => ?_)
                refine A_pc (pc' := 96) rfl ?_
                refine A_callV2 m_Reader_blame T_ok d_Reader_readLine_96 l_Reader_91 k_Reader_blame (xi_s k33.1 sf_2) rfl (by decide +kernel) (by decide) (Nat.le_of_ble_eq_true rfl) (s_Reader_blame k33.1 ) (fun r h41 hq => ?_)
                obtain ⟨x43, rfl, ⟨_, _⟩, k42⟩ := hq
                have k44 := kF_t k33 k42 (fun _ q => q)
                obtain rfl : x43 = 0 := by omega
                exact A_zret d_Reader_readLine_99 (by decide) rfl (by omega) ⟨_, rfl, by omega, k44⟩
      exact lp50 _ 0 h5 (by omega) (by omega) k7 (Nat.lt_succ_self _)
    · refine A_aload_n 0 d_Reader_readLine_43 rfl rfl ?_
      refine A_callV0 m_Reader_refuse T_ok d_Reader_readLine_44 l_Reader_69 k_Reader_refuse (xi_s k7.1 sf_2) rfl (by decide +kernel) (by decide) (Nat.le_of_ble_eq_true rfl) (s_Reader_refuse k7.1 ) (fun r h45 hq => ?_)
      obtain ⟨x47, rfl, ⟨_, _⟩, k46⟩ := hq
      have k48 := kF_t k7 k46 (fun _ q => q)
      obtain rfl : x47 = 0 := by omega
      exact A_zret d_Reader_readLine_47 (by decide) rfl (by omega) ⟨_, rfl, by omega, k48⟩
  · refine A_aload_n 0 d_Reader_readLine_10 rfl rfl ?_
    refine A_iconst d_Reader_readLine_11 rfl ?_
    refine A_aload_n 0 d_Reader_readLine_12 rfl rfl ?_
    refine A_getOv (z := some 3) T_ok d_Reader_readLine_13 f_Reader_12 (xi_s k0.1 sf_2) (xi_r k0.1 rff_2_0) ?_
    refine A_getIf T_ok d_Reader_readLine_16 f_Reader_75 (xi_s k0.1 sf_3) (fun x50 ex50 _ _ => ?_)
    refine A_pc (pc' := 19) rfl ?_
    refine A_callV2 m_Reader_blame T_ok d_Reader_readLine_19 l_Reader_91 k_Reader_blame (xi_s k0.1 sf_2) rfl (by decide +kernel) (by decide) (Nat.le_of_ble_eq_true rfl) (s_Reader_blame k0.1 ) (fun r h51 hq => ?_)
    obtain ⟨x53, rfl, ⟨_, _⟩, k52⟩ := hq
    have k54 := kF_t k0 k52 (fun _ q => q)
    obtain rfl : x53 = 0 := by omega
    exact A_zret d_Reader_readLine_22 (by decide) rfl (by omega) ⟨_, rfl, by omega, k54⟩
theorem s_Reader_readName {G : cx_T} {s : Nat} {h : ah_T} (hx : xi s h)   : con G 1 0 0 m_Reader_readName [av_R (some 2)] h (fun r h' => ∃ z, r = some (av_I z) ∧ ((-1) ≤ z ∧ z ≤ 15) ∧ kF (FB s) s h h') := by
  refine con_of (L := [some (av_R (some 2)), none]) (by decide +kernel) (Nat.le_of_ble_eq_true rfl) rfl ?_
  have hS : isS s := hx.2.1
  have hs0 : s = 17 ∨ s = 80 := hS
  have hs0b : 17 ≤ s ∧ s ≤ 80 := by omega
  have k0 : kF (FB s) s h h := kF_0 hx
  refine A_aload_n 0 d_Reader_readName_0 rfl rfl ?_
  refine A_getOv (z := some 3) T_ok d_Reader_readName_1 f_Reader_12 (xi_s k0.1 sf_2) (xi_r k0.1 rff_2_0) ?_
  refine A_getIf T_ok d_Reader_readName_4 f_Reader_50 (xi_s k0.1 sf_3) (fun x2 ex2 _ _ => ?_)
  refine A_sipush d_Reader_readName_7 rfl ?_
  refine A_icmp_eq (tgt := 20) d_Reader_readName_10 (by decide) (fun c3 => ?_) (fun c3 => ?_)
  · refine A_iconst d_Reader_readName_20 rfl ?_
    refine A_istore_n 1 (L' := [some (av_R (some 2)), some (av_I 0)]) d_Reader_readName_21 rfl (Nat.le_of_ble_eq_true rfl) rfl ?_
    have lp22 : ∀ (n : Nat) (i4 : Int) , 0 ≤ i4 → i4 ≤ 16 → (17 - i4).toNat < n → aw G (rm_R 1 0 0) m_Reader_readName 0 0 22 [some (av_R (some 2)), some (av_I i4)] [] h (fun r h' => ∃ z, r = some (av_I z) ∧ ((-1) ≤ z ∧ z ≤ 15) ∧ kF (FB s) s h h') := by
      intro n
      induction n with
      | zero => intro i4 _ _ hm; omega
      | succ n ih22 =>
        intro i4 hl0 hl1 hm
        refine A_iload_n 1 d_Reader_readName_22 rfl rfl ?_
        refine A_aload_n 0 d_Reader_readName_23 rfl rfl ?_
        refine A_getIn (lo := 0) (hi := 16) T_ok d_Reader_readName_24 f_Reader_39 (xi_s k0.1 sf_2) (xi_g k0.1 (by decide) rgf_2_3) (fun x5 ex5 _ _ => ?_)
        refine A_icmp_ge (tgt := 62) d_Reader_readName_27 (by decide) (fun c6 => ?_) (fun c6 => ?_)
        · refine A_iload_n 1 d_Reader_readName_62 rfl rfl ?_
          refine A_aload_n 0 d_Reader_readName_63 rfl rfl ?_
          refine A_getAv (z := some 16) T_ok d_Reader_readName_64 f_Reader_25 (xi_s k0.1 sf_2) (xi_r k0.1 rff_2_2) ?_
          refine A_alenN d_Reader_readName_67 (xi_s k0.1 sf_16) (by decide) (by decide) ?_
          refine A_icmp_lt (tgt := 86) d_Reader_readName_68 (by decide) (fun c8 => ?_) (fun c8 => ?_)
          · refine A_iload_n 1 d_Reader_readName_86 rfl rfl ?_
            refine A_aload_n 0 d_Reader_readName_87 rfl rfl ?_
            refine A_getIv (z := x5) T_ok d_Reader_readName_88 f_Reader_39 (xi_s k0.1 sf_2) ex5.symm ?_
            refine A_icmp_ne (tgt := 117) d_Reader_readName_91 (by decide) (fun c10 => ?_) (fun c10 => ?_)
            · refine A_aload_n 0 d_Reader_readName_117 rfl rfl ?_
              refine A_getOv (z := some 3) T_ok d_Reader_readName_118 f_Reader_12 (xi_s k0.1 sf_2) (xi_r k0.1 rff_2_0) ?_
              refine A_callV0 m_Tokens_next T_ok d_Reader_readName_121 l_Reader_78 k_Tokens_next (xi_s k0.1 sf_3) rfl (by decide +kernel) (by decide) (Nat.le_of_ble_eq_true rfl) (s_Tokens_next k0.1 ) (fun r h12 hq => ?_)
              obtain ⟨rfl, k13⟩ := hq
              have k14 := kF_t k0 k13 (FB_A hS)
              refine A_iload_n 1 d_Reader_readName_124 rfl rfl ?_
              exact A_iret d_Reader_readName_125 (by decide) rfl ⟨_, rfl, ⟨by omega, by omega⟩, k14⟩
            · refine A_aload_n 0 d_Reader_readName_94 rfl rfl ?_
              refine A_getAv (z := some 16) T_ok d_Reader_readName_95 f_Reader_25 (xi_s k0.1 sf_2) (xi_r k0.1 rff_2_2) ?_
              refine A_iload_n 1 d_Reader_readName_98 rfl rfl ?_
              refine A_aload_n 0 d_Reader_readName_99 rfl rfl ?_
              refine A_getOv (z := some 3) T_ok d_Reader_readName_100 f_Reader_12 (xi_s k0.1 sf_2) (xi_r k0.1 rff_2_0) ?_
              refine A_pc (pc' := 103) rfl ?_
              refine A_getLf T_ok d_Reader_readName_103 f_Reader_81 (xi_s k0.1 sf_3) (fun x17 ex17 _ _ => ?_)
              refine A_lastorek (KR := kF (FB s) s h) d_Reader_readName_106 (xi_s k0.1 sf_16) (by omega) (by omega) (kF_l k0 (by omega) (nl_b rfl)) (fun h18 k19 eh18 => ?_)
              refine A_aload_n 0 d_Reader_readName_107 rfl rfl ?_
              refine A_dupR d_Reader_readName_108 ?_
              refine A_getIv (z := x5) T_ok d_Reader_readName_109 f_Reader_39 (xi_s k19.1 sf_2) ((congrFun (congrFun eh18.1 _) _).trans ex5.symm) ?_
              refine A_iconst d_Reader_readName_112 rfl ?_
              refine A_pc (pc' := 113) rfl ?_
              refine A_iaddv (z := (x5 + 1)) d_Reader_readName_113 (w32_to (by omega) (by unfold i32; omega)) ?_
              refine A_putIk (KR := kF (FB s) s h) T_ok d_Reader_readName_114 f_Reader_39 (xi_s k19.1 sf_2) fin_f (kF_j k19 (by omega) (ns_b rfl) rgf_2_3 (by omega) (by omega)) (fun h21 k22 eh21 => ?_)
              refine A_aload_n 0 d_Reader_readName_117 rfl rfl ?_
              refine A_getOv (z := some 3) T_ok d_Reader_readName_118 f_Reader_12 (xi_s k22.1 sf_2) (xi_r k22.1 rff_2_0) ?_
              refine A_callV0 m_Tokens_next T_ok d_Reader_readName_121 l_Reader_78 k_Tokens_next (xi_s k22.1 sf_3) rfl (by decide +kernel) (by decide) (Nat.le_of_ble_eq_true rfl) (s_Tokens_next k22.1 ) (fun r h24 hq => ?_)
              obtain ⟨rfl, k25⟩ := hq
              have k26 := kF_t k22 k25 (FB_A hS)
              refine A_iload_n 1 d_Reader_readName_124 rfl rfl ?_
              exact A_iret d_Reader_readName_125 (by decide) rfl ⟨_, rfl, ⟨by omega, by omega⟩, k26⟩
          · refine A_aload_n 0 d_Reader_readName_71 rfl rfl ?_
            refine A_iconst d_Reader_readName_72 rfl ?_
            refine A_aload_n 0 d_Reader_readName_73 rfl rfl ?_
            refine A_getOv (z := some 3) T_ok d_Reader_readName_74 f_Reader_12 (xi_s k0.1 sf_2) (xi_r k0.1 rff_2_0) ?_
            refine A_getIf T_ok d_Reader_readName_77 f_Reader_75 (xi_s k0.1 sf_3) (fun x28 ex28 _ _ => ?_)
            refine A_pc (pc' := 80) rfl ?_
            refine A_callV2 m_Reader_blame T_ok d_Reader_readName_80 l_Reader_91 k_Reader_blame (xi_s k0.1 sf_2) rfl (by decide +kernel) (by decide) (Nat.le_of_ble_eq_true rfl) (s_Reader_blame k0.1 ) (fun r h29 hq => ?_)
            obtain ⟨x31, rfl, ⟨_, _⟩, k30⟩ := hq
            have k32 := kF_t k0 k30 (fun _ q => q)
            obtain rfl : x31 = 0 := by omega
            refine A_popI d_Reader_readName_83 ?_
            refine A_iconst d_Reader_readName_84 rfl ?_
            exact A_iret d_Reader_readName_85 (by decide) rfl ⟨_, rfl, ⟨by omega, by omega⟩, k32⟩
        · refine A_iload_n 1 d_Reader_readName_30 rfl rfl ?_
          refine A_aload_n 0 d_Reader_readName_31 rfl rfl ?_
          refine A_getAv (z := some 16) T_ok d_Reader_readName_32 f_Reader_25 (xi_s k0.1 sf_2) (xi_r k0.1 rff_2_2) ?_
          refine A_alenN d_Reader_readName_35 (xi_s k0.1 sf_16) (by decide) (by decide) ?_
          refine A_icmp_ge (tgt := 62) d_Reader_readName_36 (by decide) (fun c => False.elim (by omega)) (fun c34 => ?_)
          refine A_aload_n 0 d_Reader_readName_39 rfl rfl ?_
          refine A_getAv (z := some 16) T_ok d_Reader_readName_40 f_Reader_25 (xi_s k0.1 sf_2) (xi_r k0.1 rff_2_2) ?_
          refine A_iload_n 1 d_Reader_readName_43 rfl rfl ?_
          refine A_laloadf d_Reader_readName_44 (xi_s k0.1 sf_16) (by omega) (by omega) (fun x36 ex36 _ _ => ?_)
          refine A_aload_n 0 d_Reader_readName_45 rfl rfl ?_
          refine A_pc (pc' := 46) rfl ?_
          refine A_getOv (z := some 3) T_ok d_Reader_readName_46 f_Reader_12 (xi_s k0.1 sf_2) (xi_r k0.1 rff_2_0) ?_
          refine A_getLf T_ok d_Reader_readName_49 f_Reader_81 (xi_s k0.1 sf_3) (fun x38 ex38 _ _ => ?_)
          refine A_lcmpn d_Reader_readName_52 (fun x39 lx39 ex39 gx39 _ _ => ?_)
          refine A_if_eq (tgt := 62) d_Reader_readName_53 (by decide) (fun c40 => ?_) (fun c40 => ?_)
          · have mc40 : (x36 - x38) = 0 := by omega
            refine A_iload_n 1 d_Reader_readName_62 rfl rfl ?_
            refine A_aload_n 0 d_Reader_readName_63 rfl rfl ?_
            refine A_getAv (z := some 16) T_ok d_Reader_readName_64 f_Reader_25 (xi_s k0.1 sf_2) (xi_r k0.1 rff_2_2) ?_
            refine A_alenN d_Reader_readName_67 (xi_s k0.1 sf_16) (by decide) (by decide) ?_
            refine A_icmp_lt (tgt := 86) d_Reader_readName_68 (by decide) (fun c42 => ?_) (fun c => False.elim (by omega))
            refine A_iload_n 1 d_Reader_readName_86 rfl rfl ?_
            refine A_aload_n 0 d_Reader_readName_87 rfl rfl ?_
            refine A_getIv (z := x5) T_ok d_Reader_readName_88 f_Reader_39 (xi_s k0.1 sf_2) ex5.symm ?_
            refine A_icmp_ne (tgt := 117) d_Reader_readName_91 (by decide) (fun c44 => ?_) (fun c => False.elim (by omega))
            refine A_aload_n 0 d_Reader_readName_117 rfl rfl ?_
            refine A_getOv (z := some 3) T_ok d_Reader_readName_118 f_Reader_12 (xi_s k0.1 sf_2) (xi_r k0.1 rff_2_0) ?_
            refine A_callV0 m_Tokens_next T_ok d_Reader_readName_121 l_Reader_78 k_Tokens_next (xi_s k0.1 sf_3) rfl (by decide +kernel) (by decide) (Nat.le_of_ble_eq_true rfl) (s_Tokens_next k0.1 ) (fun r h46 hq => ?_)
            obtain ⟨rfl, k47⟩ := hq
            have k48 := kF_t k0 k47 (FB_A hS)
            refine A_iload_n 1 d_Reader_readName_124 rfl rfl ?_
            exact A_iret d_Reader_readName_125 (by decide) rfl ⟨_, rfl, ⟨by omega, by omega⟩, k48⟩
          · have mc40 : (x36 - x38) ≠ 0 := by omega
            refine A_iincv (z := (i4 + 1)) (L' := [some (av_R (some 2)), some (av_I (i4 + 1))]) d_Reader_readName_56 rfl (w32_to (by omega) (by unfold i32; omega)) rfl ?_
            refine A_goto (tgt := 22) d_Reader_readName_59 (by decide) ?_
            exact ih22 (i4 + 1) (by omega) (by omega) (by omega)
    exact lp22 _ 0 (by omega) (by omega) (Nat.lt_succ_self _)
  · refine A_aload_n 0 d_Reader_readName_13 rfl rfl ?_
    refine A_callV0 m_Reader_refuse T_ok d_Reader_readName_14 l_Reader_69 k_Reader_refuse (xi_s k0.1 sf_2) rfl (by decide +kernel) (by decide) (Nat.le_of_ble_eq_true rfl) (s_Reader_refuse k0.1 ) (fun r h49 hq => ?_)
    obtain ⟨x51, rfl, ⟨_, _⟩, k50⟩ := hq
    have k52 := kF_t k0 k50 (fun _ q => q)
    obtain rfl : x51 = 0 := by omega
    refine A_popI d_Reader_readName_17 ?_
    refine A_iconst d_Reader_readName_18 rfl ?_
    exact A_iret d_Reader_readName_19 (by decide) rfl ⟨_, rfl, ⟨by omega, by omega⟩, k52⟩
theorem s_Reader_readRule {G : cx_T} {s : Nat} {h : ah_T} (hx : xi s h)   : con G 2 0 0 m_Reader_readRule [av_R (some 2)] h (fun r h' => ∃ z, r = some (av_I z) ∧ (z = 0 ∨ z = 1) ∧ kF (FB s) s h h') := by
  refine con_of (L := [some (av_R (some 2)), none, none, none]) (by decide +kernel) (Nat.le_of_ble_eq_true rfl) rfl ?_
  have hS : isS s := hx.2.1
  have hs0 : s = 17 ∨ s = 80 := hS
  have hs0b : 17 ≤ s ∧ s ≤ 80 := by omega
  have k0 : kF (FB s) s h h := kF_0 hx
  refine A_aload_n 0 d_Reader_readRule_0 rfl rfl ?_
  refine A_getOv (z := some s) T_ok d_Reader_readRule_1 f_Reader_32 (xi_s k0.1 sf_2) k0.1.2.2.2.1 ?_
  refine A_getIn (lo := 0) (hi := 24) T_ok d_Reader_readRule_4 f_Reader_117 (xs_S k0.1 hS) (xi_g k0.1 (lt1_S hS) (rg_S_10 hS)) (fun x2 ex2 _ _ => ?_)
  refine A_bipush d_Reader_readRule_7 rfl ?_
  refine A_icmp_lt (tgt := 25) d_Reader_readRule_9 (by decide) (fun c3 => ?_) (fun c3 => ?_)
  · refine A_aload_n 0 d_Reader_readRule_25 rfl rfl ?_
    refine A_getOv (z := some 3) T_ok d_Reader_readRule_26 f_Reader_12 (xi_s k0.1 sf_2) (xi_r k0.1 rff_2_0) ?_
    refine A_callV0 m_Tokens_next T_ok d_Reader_readRule_29 l_Reader_78 k_Tokens_next (xi_s k0.1 sf_3) rfl (by decide +kernel) (by decide) (Nat.le_of_ble_eq_true rfl) (s_Tokens_next k0.1 ) (fun r h5 hq => ?_)
    obtain ⟨rfl, k6⟩ := hq
    have k7 := kF_t k0 k6 (FB_A hS)
    refine A_aload_n 0 d_Reader_readRule_32 rfl rfl ?_
    refine A_callV0 m_Reader_readName T_ok d_Reader_readRule_33 l_Reader_120 k_Reader_readName (xi_s k7.1 sf_2) rfl (by decide +kernel) (by decide) (Nat.le_of_ble_eq_true rfl) (s_Reader_readName k7.1 ) (fun r h8 hq => ?_)
    obtain ⟨x10, rfl, ⟨_, _⟩, k9⟩ := hq
    have k11 := kF_t k7 k9 (fun _ q => q)
    refine A_istore_n 1 (L' := [some (av_R (some 2)), some (av_I x10), none, none]) d_Reader_readRule_36 rfl (Nat.le_of_ble_eq_true rfl) rfl ?_
    refine A_iload_n 1 d_Reader_readRule_37 rfl rfl ?_
    refine A_if_lt (tgt := 50) d_Reader_readRule_38 (by decide) (fun c12 => ?_) (fun c12 => ?_)
    · refine A_iconst d_Reader_readRule_50 rfl ?_
      exact A_zret d_Reader_readRule_51 (by decide) rfl (by omega) ⟨_, rfl, by omega, k11⟩
    · refine A_aload_n 0 d_Reader_readRule_41 rfl rfl ?_
      refine A_bipush d_Reader_readRule_42 rfl ?_
      refine A_callV1 m_Reader_take T_ok d_Reader_readRule_44 l_Reader_103 k_Reader_take (xi_s k11.1 sf_2) rfl (by decide +kernel) (by decide) (Nat.le_of_ble_eq_true rfl) (s_Reader_take k11.1 ) (fun r h13 hq => ?_)
      obtain ⟨x15, rfl, bx15, k14⟩ := hq
      have k16 := kF_t k11 k14 (fun _ q => q)
      refine A_if_ne (tgt := 52) d_Reader_readRule_47 (by decide) (fun c17 => ?_) (fun c17 => ?_)
      · refine A_aload_n 0 d_Reader_readRule_52 rfl rfl ?_
        refine A_callV0 m_Reader_readName T_ok d_Reader_readRule_53 l_Reader_120 k_Reader_readName (xi_s k16.1 sf_2) rfl (by decide +kernel) (by decide) (Nat.le_of_ble_eq_true rfl) (s_Reader_readName k16.1 ) (fun r h18 hq => ?_)
        obtain ⟨x20, rfl, ⟨_, _⟩, k19⟩ := hq
        have k21 := kF_t k16 k19 (fun _ q => q)
        refine A_istore_n 2 (L' := [some (av_R (some 2)), some (av_I x10), some (av_I x20), none]) d_Reader_readRule_56 rfl (Nat.le_of_ble_eq_true rfl) rfl ?_
        refine A_iload_n 2 d_Reader_readRule_57 rfl rfl ?_
        refine A_if_ge (tgt := 63) d_Reader_readRule_58 (by decide) (fun c22 => ?_) (fun c22 => ?_)
        · refine A_iconst d_Reader_readRule_63 rfl ?_
          refine A_istore_n 3 (L' := [some (av_R (some 2)), some (av_I x10), some (av_I x20), some (av_I (-1))]) d_Reader_readRule_64 rfl (Nat.le_of_ble_eq_true rfl) rfl ?_
          refine A_aload_n 0 d_Reader_readRule_65 rfl rfl ?_
          refine A_getOv (z := some 3) T_ok d_Reader_readRule_66 f_Reader_12 (xi_s k21.1 sf_2) (xi_r k21.1 rff_2_0) ?_
          refine A_getIf T_ok d_Reader_readRule_69 f_Reader_50 (xi_s k21.1 sf_3) (fun x24 ex24 _ _ => ?_)
          refine A_pc (pc' := 72) rfl ?_
          refine A_sipush d_Reader_readRule_72 rfl ?_
          refine A_icmp_ne (tgt := 89) d_Reader_readRule_75 (by decide) (fun c25 => ?_) (fun c25 => ?_)
          · refine A_aload_n 0 d_Reader_readRule_89 rfl rfl ?_
            refine A_getOv (z := some s) T_ok d_Reader_readRule_90 f_Reader_32 (xi_s k21.1 sf_2) k21.1.2.2.2.1 ?_
            refine A_iload_n 1 d_Reader_readRule_93 rfl rfl ?_
            refine A_iload_n 2 d_Reader_readRule_94 rfl rfl ?_
            refine A_iload_n 3 d_Reader_readRule_95 rfl rfl ?_
            refine A_pc (pc' := 96) rfl ?_
            refine A_callV3 m_Score_addRule T_ok d_Reader_readRule_96 l_Reader_124 k_Score_addRule (xs_S k21.1 hS) rfl (by decide +kernel) (by decide) (Nat.le_of_ble_eq_true rfl) (s_Score_addRule k21.1 ) (fun r h27 hq => ?_)
            obtain ⟨rfl, k28⟩ := hq
            have k29 := kF_t k21 k28 (fun _ q => q)
            refine A_aload_n 0 d_Reader_readRule_99 rfl rfl ?_
            refine A_bipush d_Reader_readRule_100 rfl ?_
            refine A_callV1 m_Reader_take T_ok d_Reader_readRule_102 l_Reader_103 k_Reader_take (xi_s k29.1 sf_2) rfl (by decide +kernel) (by decide) (Nat.le_of_ble_eq_true rfl) (s_Reader_take k29.1 ) (fun r h30 hq => ?_)
            obtain ⟨x32, rfl, bx32, k31⟩ := hq
            have k33 := kF_t k29 k31 (fun _ q => q)
            exact A_zret d_Reader_readRule_105 (by decide) rfl (by omega) ⟨_, rfl, by omega, k33⟩
          · refine A_aload_n 0 d_Reader_readRule_78 rfl rfl ?_
            refine A_callV0 m_Reader_readName T_ok d_Reader_readRule_79 l_Reader_120 k_Reader_readName (xi_s k21.1 sf_2) rfl (by decide +kernel) (by decide) (Nat.le_of_ble_eq_true rfl) (s_Reader_readName k21.1 ) (fun r h34 hq => ?_)
            obtain ⟨x36, rfl, ⟨_, _⟩, k35⟩ := hq
            have k37 := kF_t k21 k35 (fun _ q => q)
            refine A_istore_n 3 (L' := [some (av_R (some 2)), some (av_I x10), some (av_I x20), some (av_I x36)]) d_Reader_readRule_82 rfl (Nat.le_of_ble_eq_true rfl) rfl ?_
            refine A_iload_n 3 d_Reader_readRule_83 rfl rfl ?_
            refine A_if_ge (tgt := 89) d_Reader_readRule_84 (by decide) (fun c38 => ?_) (fun c38 => ?_)
            · refine A_aload_n 0 d_Reader_readRule_89 rfl rfl ?_
              refine A_getOv (z := some s) T_ok d_Reader_readRule_90 f_Reader_32 (xi_s k37.1 sf_2) k37.1.2.2.2.1 ?_
              refine A_iload_n 1 d_Reader_readRule_93 rfl rfl ?_
              refine A_iload_n 2 d_Reader_readRule_94 rfl rfl ?_
              refine A_iload_n 3 d_Reader_readRule_95 rfl rfl ?_
              refine A_pc (pc' := 96) rfl ?_
              refine A_callV3 m_Score_addRule T_ok d_Reader_readRule_96 l_Reader_124 k_Score_addRule (xs_S k37.1 hS) rfl (by decide +kernel) (by decide) (Nat.le_of_ble_eq_true rfl) (s_Score_addRule k37.1 ) (fun r h40 hq => ?_)
              obtain ⟨rfl, k41⟩ := hq
              have k42 := kF_t k37 k41 (fun _ q => q)
              refine A_aload_n 0 d_Reader_readRule_99 rfl rfl ?_
              refine A_bipush d_Reader_readRule_100 rfl ?_
              refine A_callV1 m_Reader_take T_ok d_Reader_readRule_102 l_Reader_103 k_Reader_take (xi_s k42.1 sf_2) rfl (by decide +kernel) (by decide) (Nat.le_of_ble_eq_true rfl) (s_Reader_take k42.1 ) (fun r h43 hq => ?_)
              obtain ⟨x45, rfl, bx45, k44⟩ := hq
              have k46 := kF_t k42 k44 (fun _ q => q)
              exact A_zret d_Reader_readRule_105 (by decide) rfl (by omega) ⟨_, rfl, by omega, k46⟩
            · refine A_iconst d_Reader_readRule_87 rfl ?_
              exact A_zret d_Reader_readRule_88 (by decide) rfl (by omega) ⟨_, rfl, by omega, k37⟩
        · refine A_iconst d_Reader_readRule_61 rfl ?_
          exact A_zret d_Reader_readRule_62 (by decide) rfl (by omega) ⟨_, rfl, by omega, k21⟩
      · refine A_iconst d_Reader_readRule_50 rfl ?_
        exact A_zret d_Reader_readRule_51 (by decide) rfl (by omega) ⟨_, rfl, by omega, k16⟩
  · refine A_aload_n 0 d_Reader_readRule_12 rfl rfl ?_
    refine A_iconst d_Reader_readRule_13 rfl ?_
    refine A_aload_n 0 d_Reader_readRule_14 rfl rfl ?_
    refine A_getOv (z := some 3) T_ok d_Reader_readRule_15 f_Reader_12 (xi_s k0.1 sf_2) (xi_r k0.1 rff_2_0) ?_
    refine A_getIf T_ok d_Reader_readRule_18 f_Reader_75 (xi_s k0.1 sf_3) (fun x48 ex48 _ _ => ?_)
    refine A_pc (pc' := 21) rfl ?_
    refine A_callV2 m_Reader_blame T_ok d_Reader_readRule_21 l_Reader_91 k_Reader_blame (xi_s k0.1 sf_2) rfl (by decide +kernel) (by decide) (Nat.le_of_ble_eq_true rfl) (s_Reader_blame k0.1 ) (fun r h49 hq => ?_)
    obtain ⟨x51, rfl, ⟨_, _⟩, k50⟩ := hq
    have k52 := kF_t k0 k50 (fun _ q => q)
    obtain rfl : x51 = 0 := by omega
    exact A_zret d_Reader_readRule_24 (by decide) rfl (by omega) ⟨_, rfl, by omega, k52⟩
theorem s_Reader_readRow {G : cx_T} {s : Nat} {h : ah_T} (hx : xi s h)   : con G 2 0 0 m_Reader_readRow [av_R (some 2)] h (fun r h' => ∃ z, r = some (av_I z) ∧ (z = 0 ∨ z = 1) ∧ kF (FB s) s h h') := by
  refine con_of (L := [some (av_R (some 2)), none, none]) (by decide +kernel) (Nat.le_of_ble_eq_true rfl) rfl ?_
  have hS : isS s := hx.2.1
  have hs0 : s = 17 ∨ s = 80 := hS
  have hs0b : 17 ≤ s ∧ s ≤ 80 := by omega
  have k0 : kF (FB s) s h h := kF_0 hx
  refine A_aload_n 0 d_Reader_readRow_0 rfl rfl ?_
  refine A_getOv (z := some s) T_ok d_Reader_readRow_1 f_Reader_32 (xi_s k0.1 sf_2) k0.1.2.2.2.1 ?_
  refine A_getIn (lo := 0) (hi := 12) T_ok d_Reader_readRow_4 f_Reader_128 (xs_S k0.1 hS) (xi_g k0.1 (lt1_S hS) (rg_S_12 hS)) (fun x2 ex2 _ _ => ?_)
  refine A_if_le (tgt := 23) d_Reader_readRow_7 (by decide) (fun c3 => ?_) (fun c3 => ?_)
  · refine A_aload_n 0 d_Reader_readRow_23 rfl rfl ?_
    refine A_getOv (z := some 3) T_ok d_Reader_readRow_24 f_Reader_12 (xi_s k0.1 sf_2) (xi_r k0.1 rff_2_0) ?_
    refine A_callV0 m_Tokens_next T_ok d_Reader_readRow_27 l_Reader_78 k_Tokens_next (xi_s k0.1 sf_3) rfl (by decide +kernel) (by decide) (Nat.le_of_ble_eq_true rfl) (s_Tokens_next k0.1 ) (fun r h5 hq => ?_)
    obtain ⟨rfl, k6⟩ := hq
    have k7 := kF_t k0 k6 (FB_A hS)
    refine A_aload_n 0 d_Reader_readRow_30 rfl rfl ?_
    refine A_getOv (z := some 3) T_ok d_Reader_readRow_31 f_Reader_12 (xi_s k7.1 sf_2) (xi_r k7.1 rff_2_0) ?_
    refine A_getIf T_ok d_Reader_readRow_34 f_Reader_50 (xi_s k7.1 sf_3) (fun x9 ex9 _ _ => ?_)
    refine A_sipush d_Reader_readRow_37 rfl ?_
    refine A_icmp_eq (tgt := 48) d_Reader_readRow_40 (by decide) (fun c10 => ?_) (fun c10 => ?_)
    · refine A_iconst d_Reader_readRow_48 rfl ?_
      refine A_istore_n 1 (L' := [some (av_R (some 2)), some (av_I 0), none]) d_Reader_readRow_49 rfl (Nat.le_of_ble_eq_true rfl) rfl ?_
      have lp50 : ∀ (n : Nat) (i11 : Int) (h12 : ah_T) , 0 ≤ i11 → i11 ≤ 13 → kF (FB s) s h h12 → (14 - i11).toNat < n → aw G (rm_R 2 0 0) m_Reader_readRow 0 0 50 [some (av_R (some 2)), some (av_I i11), none] [] h12 (fun r h' => ∃ z, r = some (av_I z) ∧ (z = 0 ∨ z = 1) ∧ kF (FB s) s h h') := by
        intro n
        induction n with
        | zero => intro i11 h12 _ _ _ hm; omega
        | succ n ih50 =>
          intro i11 h12 hl0 hl1 k13 hm
          refine A_iload_n 1 d_Reader_readRow_50 rfl rfl ?_
          refine A_bipush d_Reader_readRow_51 rfl ?_
          refine A_icmp_gt (tgt := 119) d_Reader_readRow_53 (by decide) (fun c14 => ?_) (fun c14 => ?_)
          · refine A_aload_n 0 d_Reader_readRow_119 rfl rfl ?_
            refine A_bipush d_Reader_readRow_120 rfl ?_
            refine A_callV1 m_Reader_take T_ok d_Reader_readRow_122 l_Reader_103 k_Reader_take (xi_s k13.1 sf_2) rfl (by decide +kernel) (by decide) (Nat.le_of_ble_eq_true rfl) (s_Reader_take k13.1 ) (fun r h15 hq => ?_)
            obtain ⟨x17, rfl, bx17, k16⟩ := hq
            have k18 := kF_t k13 k16 (fun _ q => q)
            exact A_zret d_Reader_readRow_125 (by decide) rfl (by omega) ⟨_, rfl, by omega, k18⟩
          · refine A_aload_n 0 d_Reader_readRow_56 rfl rfl ?_
            refine A_getOv (z := some 3) T_ok d_Reader_readRow_57 f_Reader_12 (xi_s k13.1 sf_2) (xi_r k13.1 rff_2_0) ?_
            refine A_getIf T_ok d_Reader_readRow_60 f_Reader_50 (xi_s k13.1 sf_3) (fun x20 ex20 _ _ => ?_)
            refine A_sipush d_Reader_readRow_63 rfl ?_
            refine A_icmp_ne (tgt := 119) d_Reader_readRow_66 (by decide) (fun c21 => ?_) (fun c21 => ?_)
            · refine A_aload_n 0 d_Reader_readRow_119 rfl rfl ?_
              refine A_bipush d_Reader_readRow_120 rfl ?_
              refine A_callV1 m_Reader_take T_ok d_Reader_readRow_122 l_Reader_103 k_Reader_take (xi_s k13.1 sf_2) rfl (by decide +kernel) (by decide) (Nat.le_of_ble_eq_true rfl) (s_Reader_take k13.1 ) (fun r h22 hq => ?_)
              obtain ⟨x24, rfl, bx24, k23⟩ := hq
              have k25 := kF_t k13 k23 (fun _ q => q)
              exact A_zret d_Reader_readRow_125 (by decide) rfl (by omega) ⟨_, rfl, by omega, k25⟩
            · refine A_aload_n 0 d_Reader_readRow_69 rfl rfl ?_
              refine A_getOv (z := some s) T_ok d_Reader_readRow_70 f_Reader_32 (xi_s k13.1 sf_2) k13.1.2.2.2.1 ?_
              refine A_getIn (lo := 0) (hi := 12) T_ok d_Reader_readRow_73 f_Reader_128 (xs_S k13.1 hS) (xi_g k13.1 (lt1_S hS) (rg_S_12 hS)) (fun x27 ex27 _ _ => ?_)
              refine A_bipush d_Reader_readRow_76 rfl ?_
              refine A_icmp_lt (tgt := 94) d_Reader_readRow_78 (by decide) (fun c28 => ?_) (fun c28 => ?_)
              · refine A_aload_n 0 d_Reader_readRow_94 rfl rfl ?_
                refine A_callV0 m_Reader_readName T_ok d_Reader_readRow_95 l_Reader_120 k_Reader_readName (xi_s k13.1 sf_2) rfl (by decide +kernel) (by decide) (Nat.le_of_ble_eq_true rfl) (s_Reader_readName k13.1 ) (fun r h29 hq => ?_)
                obtain ⟨x31, rfl, ⟨_, _⟩, k30⟩ := hq
                have k32 := kF_t k13 k30 (fun _ q => q)
                refine A_istore_n 2 (L' := [some (av_R (some 2)), some (av_I i11), some (av_I x31)]) d_Reader_readRow_98 rfl (Nat.le_of_ble_eq_true rfl) rfl ?_
                refine A_iload_n 2 d_Reader_readRow_99 rfl rfl ?_
                refine A_if_ge (tgt := 105) d_Reader_readRow_100 (by decide) (fun c33 => ?_) (fun c33 => ?_)
                · refine A_aload_n 0 d_Reader_readRow_105 rfl rfl ?_
                  refine A_getOv (z := some s) T_ok d_Reader_readRow_106 f_Reader_32 (xi_s k32.1 sf_2) k32.1.2.2.2.1 ?_
                  refine A_iload_n 2 d_Reader_readRow_109 rfl rfl ?_
                  refine A_callV1 m_Score_addToRow T_ok d_Reader_readRow_110 l_Reader_131 k_Score_addToRow (xs_S k32.1 hS) rfl (by decide +kernel) (by decide) (Nat.le_of_ble_eq_true rfl) (s_Score_addToRow k32.1 ) (fun r h35 hq => ?_)
                  obtain ⟨rfl, k36⟩ := hq
                  have k37 := kF_t k32 k36 (fun _ q => q)
                  refine A_iincv (z := (i11 + 1)) (L' := [some (av_R (some 2)), some (av_I (i11 + 1)), some (av_I x31)]) d_Reader_readRow_113 rfl (w32_to (by omega) (by unfold i32; omega)) rfl ?_
                  refine A_goto (tgt := 50) d_Reader_readRow_116 (by decide) ?_
                  refine A_free (L' := [some (av_R (some 2)), some (av_I (i11 + 1)), none]) (And.intro rfl (And.intro rfl trivial)) ?_
                  exact ih50 (i11 + 1) h35 (by omega) (by omega) k37 (by omega)
                · refine A_iconst d_Reader_readRow_103 rfl ?_
                  exact A_zret d_Reader_readRow_104 (by decide) rfl (by omega) ⟨_, rfl, by omega, k32⟩
              · refine A_aload_n 0 d_Reader_readRow_81 rfl rfl ?_
                refine A_iconst d_Reader_readRow_82 rfl ?_
                refine A_aload_n 0 d_Reader_readRow_83 rfl rfl ?_
                refine A_getOv (z := some 3) T_ok d_Reader_readRow_84 f_Reader_12 (xi_s k13.1 sf_2) (xi_r k13.1 rff_2_0) ?_
                refine A_getIf T_ok d_Reader_readRow_87 f_Reader_75 (xi_s k13.1 sf_3) (fun x39 ex39 _ _ => ?_)
                refine A_pc (pc' := 90) rfl ?_
                refine A_callV2 m_Reader_blame T_ok d_Reader_readRow_90 l_Reader_91 k_Reader_blame (xi_s k13.1 sf_2) rfl (by decide +kernel) (by decide) (Nat.le_of_ble_eq_true rfl) (s_Reader_blame k13.1 ) (fun r h40 hq => ?_)
                obtain ⟨x42, rfl, ⟨_, _⟩, k41⟩ := hq
                have k43 := kF_t k13 k41 (fun _ q => q)
                obtain rfl : x42 = 0 := by omega
                exact A_zret d_Reader_readRow_93 (by decide) rfl (by omega) ⟨_, rfl, by omega, k43⟩
      exact lp50 _ 0 h5 (by omega) (by omega) k7 (Nat.lt_succ_self _)
    · refine A_aload_n 0 d_Reader_readRow_43 rfl rfl ?_
      refine A_callV0 m_Reader_refuse T_ok d_Reader_readRow_44 l_Reader_69 k_Reader_refuse (xi_s k7.1 sf_2) rfl (by decide +kernel) (by decide) (Nat.le_of_ble_eq_true rfl) (s_Reader_refuse k7.1 ) (fun r h44 hq => ?_)
      obtain ⟨x46, rfl, ⟨_, _⟩, k45⟩ := hq
      have k47 := kF_t k7 k45 (fun _ q => q)
      obtain rfl : x46 = 0 := by omega
      exact A_zret d_Reader_readRow_47 (by decide) rfl (by omega) ⟨_, rfl, by omega, k47⟩
  · refine A_aload_n 0 d_Reader_readRow_10 rfl rfl ?_
    refine A_iconst d_Reader_readRow_11 rfl ?_
    refine A_aload_n 0 d_Reader_readRow_12 rfl rfl ?_
    refine A_getOv (z := some 3) T_ok d_Reader_readRow_13 f_Reader_12 (xi_s k0.1 sf_2) (xi_r k0.1 rff_2_0) ?_
    refine A_getIf T_ok d_Reader_readRow_16 f_Reader_75 (xi_s k0.1 sf_3) (fun x49 ex49 _ _ => ?_)
    refine A_pc (pc' := 19) rfl ?_
    refine A_callV2 m_Reader_blame T_ok d_Reader_readRow_19 l_Reader_91 k_Reader_blame (xi_s k0.1 sf_2) rfl (by decide +kernel) (by decide) (Nat.le_of_ble_eq_true rfl) (s_Reader_blame k0.1 ) (fun r h50 hq => ?_)
    obtain ⟨x52, rfl, ⟨_, _⟩, k51⟩ := hq
    have k53 := kF_t k0 k51 (fun _ q => q)
    obtain rfl : x52 = 0 := by omega
    exact A_zret d_Reader_readRow_22 (by decide) rfl (by omega) ⟨_, rfl, by omega, k53⟩
theorem s_Reader_beginsEvent {G : cx_T} {s : Nat} {h : ah_T} (hx : xi s h)   : con G 0 0 0 m_Reader_beginsEvent [av_R (some 2)] h (fun r h' => ∃ z, r = some (av_I z) ∧ (z = 0 ∨ z = 1) ∧ h = h') := by
  refine con_of (L := [some (av_R (some 2))]) (by decide +kernel) (Nat.le_of_ble_eq_true rfl) rfl ?_
  have hS : isS s := hx.2.1
  have hs0 : s = 17 ∨ s = 80 := hS
  have hs0b : 17 ≤ s ∧ s ≤ 80 := by omega
  refine A_aload_n 0 d_Reader_beginsEvent_0 rfl rfl ?_
  refine A_getOv (z := some 3) T_ok d_Reader_beginsEvent_1 f_Reader_12 (xi_s hx sf_2) (xi_r hx rff_2_0) ?_
  refine A_getIf T_ok d_Reader_beginsEvent_4 f_Reader_50 (xi_s hx sf_3) (fun x2 ex2 _ _ => ?_)
  refine A_sipush d_Reader_beginsEvent_7 rfl ?_
  refine A_icmp_eq (tgt := 38) d_Reader_beginsEvent_10 (by decide) (fun c3 => ?_) (fun c3 => ?_)
  · refine A_iconst d_Reader_beginsEvent_38 rfl ?_
    refine A_goto (tgt := 43) d_Reader_beginsEvent_39 (by decide) ?_
    exact A_zret d_Reader_beginsEvent_43 (by decide) rfl (by omega) ⟨_, rfl, by omega, rfl⟩
  · refine A_aload_n 0 d_Reader_beginsEvent_13 rfl rfl ?_
    refine A_getOv (z := some 3) T_ok d_Reader_beginsEvent_14 f_Reader_12 (xi_s hx sf_2) (xi_r hx rff_2_0) ?_
    refine A_getIv (z := x2) T_ok d_Reader_beginsEvent_17 f_Reader_50 (xi_s hx sf_3) ex2.symm ?_
    refine A_sipush d_Reader_beginsEvent_20 rfl ?_
    refine A_icmp_eq (tgt := 38) d_Reader_beginsEvent_23 (by decide) (fun c6 => ?_) (fun c6 => ?_)
    · refine A_iconst d_Reader_beginsEvent_38 rfl ?_
      refine A_goto (tgt := 43) d_Reader_beginsEvent_39 (by decide) ?_
      exact A_zret d_Reader_beginsEvent_43 (by decide) rfl (by omega) ⟨_, rfl, by omega, rfl⟩
    · refine A_aload_n 0 d_Reader_beginsEvent_26 rfl rfl ?_
      refine A_getOv (z := some 3) T_ok d_Reader_beginsEvent_27 f_Reader_12 (xi_s hx sf_2) (xi_r hx rff_2_0) ?_
      refine A_getIv (z := x2) T_ok d_Reader_beginsEvent_30 f_Reader_50 (xi_s hx sf_3) ex2.symm ?_
      refine A_bipush d_Reader_beginsEvent_33 rfl ?_
      refine A_icmp_ne (tgt := 42) d_Reader_beginsEvent_35 (by decide) (fun c9 => ?_) (fun c9 => ?_)
      · refine A_iconst d_Reader_beginsEvent_42 rfl ?_
        exact A_zret d_Reader_beginsEvent_43 (by decide) rfl (by omega) ⟨_, rfl, by omega, rfl⟩
      · refine A_iconst d_Reader_beginsEvent_38 rfl ?_
        refine A_goto (tgt := 43) d_Reader_beginsEvent_39 (by decide) ?_
        exact A_zret d_Reader_beginsEvent_43 (by decide) rfl (by omega) ⟨_, rfl, by omega, rfl⟩
theorem s_Reader_isShallow {G : cx_T} {s : Nat} {h : ah_T} (hx : xi s h)   : con G 1 0 0 m_Reader_isShallow [av_R (some 2)] h (fun r h' => ∃ z, r = some (av_I z) ∧ (z = 0 ∨ z = 1) ∧ kF (FB s) s h h') := by
  refine con_of (L := [some (av_R (some 2))]) (by decide +kernel) (Nat.le_of_ble_eq_true rfl) rfl ?_
  have hS : isS s := hx.2.1
  have hs0 : s = 17 ∨ s = 80 := hS
  have hs0b : 17 ≤ s ∧ s ≤ 80 := by omega
  have k0 : kF (FB s) s h h := kF_0 hx
  refine A_aload_n 0 d_Reader_isShallow_0 rfl rfl ?_
  refine A_getOv (z := some 9) T_ok d_Reader_isShallow_1 f_Reader_21 (xi_s k0.1 sf_2) (xi_r k0.1 rff_2_1) ?_
  refine A_getIn (lo := 0) (hi := 7) T_ok d_Reader_isShallow_4 f_Reader_156 (xi_s k0.1 sf_9) (xi_g k0.1 (by decide) rgf_9_7) (fun x2 ex2 _ _ => ?_)
  refine A_bipush d_Reader_isShallow_7 rfl ?_
  refine A_icmp_le (tgt := 27) d_Reader_isShallow_9 (by decide) (fun c3 => ?_) (fun c3 => ?_)
  · refine A_iconst d_Reader_isShallow_27 rfl ?_
    refine A_goto (tgt := 32) d_Reader_isShallow_28 (by decide) ?_
    exact A_zret d_Reader_isShallow_32 (by decide) rfl (by omega) ⟨_, rfl, by omega, k0⟩
  · refine A_aload_n 0 d_Reader_isShallow_12 rfl rfl ?_
    refine A_iconst d_Reader_isShallow_13 rfl ?_
    refine A_aload_n 0 d_Reader_isShallow_14 rfl rfl ?_
    refine A_getOv (z := some 3) T_ok d_Reader_isShallow_15 f_Reader_12 (xi_s k0.1 sf_2) (xi_r k0.1 rff_2_0) ?_
    refine A_getIf T_ok d_Reader_isShallow_18 f_Reader_75 (xi_s k0.1 sf_3) (fun x5 ex5 _ _ => ?_)
    refine A_pc (pc' := 21) rfl ?_
    refine A_callV2 m_Reader_blame T_ok d_Reader_isShallow_21 l_Reader_91 k_Reader_blame (xi_s k0.1 sf_2) rfl (by decide +kernel) (by decide) (Nat.le_of_ble_eq_true rfl) (s_Reader_blame k0.1 ) (fun r h6 hq => ?_)
    obtain ⟨x8, rfl, ⟨_, _⟩, k7⟩ := hq
    have k9 := kF_t k0 k7 (fun _ q => q)
    obtain rfl : x8 = 0 := by omega
    refine A_if_eq (tgt := 31) d_Reader_isShallow_24 (by decide) (fun _ => ?_) (fun c => absurd c (by decide))
    refine A_iconst d_Reader_isShallow_31 rfl ?_
    exact A_zret d_Reader_isShallow_32 (by decide) rfl (by omega) ⟨_, rfl, by omega, k9⟩
theorem s_Reader_readStretch {G : cx_T} {s : Nat} {h : ah_T} (hx : xi s h)   : con G 2 0 0 m_Reader_readStretch [av_R (some 2)] h (fun r h' => ∃ z, r = some (av_I z) ∧ (z = 0 ∨ z = 1) ∧ kF (FB s) s h h') := by
  refine con_of (L := [some (av_R (some 2)), none, none]) (by decide +kernel) (Nat.le_of_ble_eq_true rfl) rfl ?_
  have hS : isS s := hx.2.1
  have hs0 : s = 17 ∨ s = 80 := hS
  have hs0b : 17 ≤ s ∧ s ≤ 80 := by omega
  have k0 : kF (FB s) s h h := kF_0 hx
  refine A_aload_n 0 d_Reader_readStretch_0 rfl rfl ?_
  refine A_getOv (z := some 3) T_ok d_Reader_readStretch_1 f_Reader_12 (xi_s k0.1 sf_2) (xi_r k0.1 rff_2_0) ?_
  refine A_callV0 m_Tokens_next T_ok d_Reader_readStretch_4 l_Reader_78 k_Tokens_next (xi_s k0.1 sf_3) rfl (by decide +kernel) (by decide) (Nat.le_of_ble_eq_true rfl) (s_Tokens_next k0.1 ) (fun r h2 hq => ?_)
  obtain ⟨rfl, k3⟩ := hq
  have k4 := kF_t k0 k3 (FB_A hS)
  refine A_aload_n 0 d_Reader_readStretch_7 rfl rfl ?_
  refine A_bipush d_Reader_readStretch_8 rfl ?_
  refine A_iconst d_Reader_readStretch_10 rfl ?_
  refine A_callV2 m_Reader_readNumber T_ok d_Reader_readStretch_11 l_Reader_99 k_Reader_readNumber (xi_s k4.1 sf_2) rfl (by decide +kernel) (by decide) (Nat.le_of_ble_eq_true rfl) (s_Reader_readNumber k4.1 (by omega) (by omega) (by omega)) (fun r h5 hq => ?_)
  obtain ⟨x7, rfl, ⟨_, _⟩, xx7, k6⟩ := hq
  have k8 := kF_t k4 k6 (fun _ q => q)
  refine A_istore_n 1 (L' := [some (av_R (some 2)), some (av_I x7), none]) d_Reader_readStretch_14 rfl (Nat.le_of_ble_eq_true rfl) rfl ?_
  refine A_iload_n 1 d_Reader_readStretch_15 rfl rfl ?_
  refine A_if_eq (tgt := 28) d_Reader_readStretch_16 (by decide) (fun c9 => ?_) (fun c9 => ?_)
  · refine A_iconst d_Reader_readStretch_28 rfl ?_
    exact A_zret d_Reader_readStretch_29 (by decide) rfl (by omega) ⟨_, rfl, by omega, k8⟩
  · refine A_aload_n 0 d_Reader_readStretch_19 rfl rfl ?_
    refine A_bipush d_Reader_readStretch_20 rfl ?_
    refine A_callV1 m_Reader_take T_ok d_Reader_readStretch_22 l_Reader_103 k_Reader_take (xi_s k8.1 sf_2) rfl (by decide +kernel) (by decide) (Nat.le_of_ble_eq_true rfl) (s_Reader_take k8.1 ) (fun r h10 hq => ?_)
    obtain ⟨x12, rfl, bx12, k11⟩ := hq
    have k13 := kF_t k8 k11 (fun _ q => q)
    refine A_if_ne (tgt := 30) d_Reader_readStretch_25 (by decide) (fun c14 => ?_) (fun c14 => ?_)
    · refine A_aload_n 0 d_Reader_readStretch_30 rfl rfl ?_
      refine A_bipush d_Reader_readStretch_31 rfl ?_
      refine A_iconst d_Reader_readStretch_33 rfl ?_
      refine A_callV2 m_Reader_readNumber T_ok d_Reader_readStretch_34 l_Reader_99 k_Reader_readNumber (xi_s k13.1 sf_2) rfl (by decide +kernel) (by decide) (Nat.le_of_ble_eq_true rfl) (s_Reader_readNumber k13.1 (by omega) (by omega) (by omega)) (fun r h15 hq => ?_)
      obtain ⟨x17, rfl, ⟨_, _⟩, xx17, k16⟩ := hq
      have k18 := kF_t k13 k16 (fun _ q => q)
      refine A_istore_n 2 (L' := [some (av_R (some 2)), some (av_I x7), some (av_I x17)]) d_Reader_readStretch_37 rfl (Nat.le_of_ble_eq_true rfl) rfl ?_
      refine A_iload_n 2 d_Reader_readStretch_38 rfl rfl ?_
      refine A_if_eq (tgt := 51) d_Reader_readStretch_39 (by decide) (fun c19 => ?_) (fun c19 => ?_)
      · refine A_iconst d_Reader_readStretch_51 rfl ?_
        exact A_zret d_Reader_readStretch_52 (by decide) rfl (by omega) ⟨_, rfl, by omega, k18⟩
      · refine A_aload_n 0 d_Reader_readStretch_42 rfl rfl ?_
        refine A_bipush d_Reader_readStretch_43 rfl ?_
        refine A_callV1 m_Reader_take T_ok d_Reader_readStretch_45 l_Reader_103 k_Reader_take (xi_s k18.1 sf_2) rfl (by decide +kernel) (by decide) (Nat.le_of_ble_eq_true rfl) (s_Reader_take k18.1 ) (fun r h20 hq => ?_)
        obtain ⟨x22, rfl, bx22, k21⟩ := hq
        have k23 := kF_t k18 k21 (fun _ q => q)
        refine A_if_ne (tgt := 53) d_Reader_readStretch_48 (by decide) (fun c24 => ?_) (fun c24 => ?_)
        · refine A_aload_n 0 d_Reader_readStretch_53 rfl rfl ?_
          refine A_getOv (z := some 9) T_ok d_Reader_readStretch_54 f_Reader_21 (xi_s k23.1 sf_2) (xi_r k23.1 rff_2_1) ?_
          refine A_bipush d_Reader_readStretch_57 rfl ?_
          refine A_iload_n 1 d_Reader_readStretch_59 rfl rfl ?_
          refine A_iload_n 2 d_Reader_readStretch_60 rfl rfl ?_
          refine A_pc (pc' := 61) rfl ?_
          refine A_callV3 m_Parts_add T_ok d_Reader_readStretch_61 l_Reader_169 k_Parts_add (xi_s k23.1 sf_9) rfl (by decide +kernel) (by decide) (Nat.le_of_ble_eq_true rfl) (s_Parts_add k23.1 (by omega) (by omega) (by omega) (by omega) (fun q => by omega)) (fun r h26 hq => ?_)
          obtain ⟨rfl, xk27, k27⟩ := hq
          have k28 := kF_t k23 k27 (fun _ q => q)
          refine A_iconst d_Reader_readStretch_64 rfl ?_
          exact A_zret d_Reader_readStretch_65 (by decide) rfl (by omega) ⟨_, rfl, by omega, k28⟩
        · refine A_iconst d_Reader_readStretch_51 rfl ?_
          exact A_zret d_Reader_readStretch_52 (by decide) rfl (by omega) ⟨_, rfl, by omega, k23⟩
    · refine A_iconst d_Reader_readStretch_28 rfl ?_
      exact A_zret d_Reader_readStretch_29 (by decide) rfl (by omega) ⟨_, rfl, by omega, k13⟩
theorem s_Reader_readPart {G : cx_T} {s : Nat} {h : ah_T} (hx : xi s h)   : con G 3 0 0 m_Reader_readPart [av_R (some 2)] h (fun r h' => ∃ z, r = some (av_I z) ∧ (z = 0 ∨ z = 1) ∧ kF (FB s) s h h') := by
  refine con_of (L := [some (av_R (some 2)), none]) (by decide +kernel) (Nat.le_of_ble_eq_true rfl) rfl ?_
  have hS : isS s := hx.2.1
  have hs0 : s = 17 ∨ s = 80 := hS
  have hs0b : 17 ≤ s ∧ s ≤ 80 := by omega
  have k0 : kF (FB s) s h h := kF_0 hx
  refine A_aload_n 0 d_Reader_readPart_0 rfl rfl ?_
  refine A_getOv (z := some 3) T_ok d_Reader_readPart_1 f_Reader_12 (xi_s k0.1 sf_2) (xi_r k0.1 rff_2_0) ?_
  refine A_getIf T_ok d_Reader_readPart_4 f_Reader_50 (xi_s k0.1 sf_3) (fun x2 ex2 _ _ => ?_)
  refine A_istore_n 1 (L' := [some (av_R (some 2)), some (av_I x2)]) d_Reader_readPart_7 rfl (Nat.le_of_ble_eq_true rfl) rfl ?_
  refine A_iload_n 1 d_Reader_readPart_8 rfl rfl ?_
  refine A_pc (pc' := 9) rfl ?_
  refine A_bipush d_Reader_readPart_9 rfl ?_
  refine A_icmp_eq (tgt := 26) d_Reader_readPart_11 (by decide) (fun c3 => ?_) (fun c3 => ?_)
  · refine A_aload_n 0 d_Reader_readPart_26 rfl rfl ?_
    refine A_getOv (z := some 9) T_ok d_Reader_readPart_27 f_Reader_21 (xi_s k0.1 sf_2) (xi_r k0.1 rff_2_1) ?_
    refine A_iload_n 1 d_Reader_readPart_30 rfl rfl ?_
    refine A_callV1 m_Parts_addMark T_ok d_Reader_readPart_31 l_Reader_163 k_Parts_addMark (xi_s k0.1 sf_9) rfl (by decide +kernel) (by decide) (Nat.le_of_ble_eq_true rfl) (s_Parts_addMark k0.1 ⟨by omega, by omega⟩) (fun r h5 hq => ?_)
    obtain ⟨x7, rfl, bx7, k6⟩ := hq
    have k8 := kF_t k0 k6 (fun _ q => q)
    refine A_if_ne (tgt := 42) d_Reader_readPart_34 (by decide) (fun c9 => ?_) (fun c9 => ?_)
    · refine A_aload_n 0 d_Reader_readPart_42 rfl rfl ?_
      refine A_getOv (z := some 3) T_ok d_Reader_readPart_43 f_Reader_12 (xi_s k8.1 sf_2) (xi_r k8.1 rff_2_0) ?_
      refine A_callV0 m_Tokens_next T_ok d_Reader_readPart_46 l_Reader_78 k_Tokens_next (xi_s k8.1 sf_3) rfl (by decide +kernel) (by decide) (Nat.le_of_ble_eq_true rfl) (s_Tokens_next k8.1 ) (fun r h11 hq => ?_)
      obtain ⟨rfl, k12⟩ := hq
      have k13 := kF_t k8 k12 (FB_A hS)
      refine A_iconst d_Reader_readPart_49 rfl ?_
      exact A_zret d_Reader_readPart_50 (by decide) rfl (by omega) ⟨_, rfl, by omega, k13⟩
    · refine A_aload_n 0 d_Reader_readPart_37 rfl rfl ?_
      refine A_callV0 m_Reader_refuse T_ok d_Reader_readPart_38 l_Reader_69 k_Reader_refuse (xi_s k8.1 sf_2) rfl (by decide +kernel) (by decide) (Nat.le_of_ble_eq_true rfl) (s_Reader_refuse k8.1 ) (fun r h14 hq => ?_)
      obtain ⟨x16, rfl, ⟨_, _⟩, k15⟩ := hq
      have k17 := kF_t k8 k15 (fun _ q => q)
      obtain rfl : x16 = 0 := by omega
      exact A_zret d_Reader_readPart_41 (by decide) rfl (by omega) ⟨_, rfl, by omega, k17⟩
  · refine A_iload_n 1 d_Reader_readPart_14 rfl rfl ?_
    refine A_bipush d_Reader_readPart_15 rfl ?_
    refine A_icmp_eq (tgt := 26) d_Reader_readPart_17 (by decide) (fun c18 => ?_) (fun c18 => ?_)
    · refine A_aload_n 0 d_Reader_readPart_26 rfl rfl ?_
      refine A_getOv (z := some 9) T_ok d_Reader_readPart_27 f_Reader_21 (xi_s k0.1 sf_2) (xi_r k0.1 rff_2_1) ?_
      refine A_iload_n 1 d_Reader_readPart_30 rfl rfl ?_
      refine A_callV1 m_Parts_addMark T_ok d_Reader_readPart_31 l_Reader_163 k_Parts_addMark (xi_s k0.1 sf_9) rfl (by decide +kernel) (by decide) (Nat.le_of_ble_eq_true rfl) (s_Parts_addMark k0.1 ⟨by omega, by omega⟩) (fun r h20 hq => ?_)
      obtain ⟨x22, rfl, bx22, k21⟩ := hq
      have k23 := kF_t k0 k21 (fun _ q => q)
      refine A_if_ne (tgt := 42) d_Reader_readPart_34 (by decide) (fun c24 => ?_) (fun c24 => ?_)
      · refine A_aload_n 0 d_Reader_readPart_42 rfl rfl ?_
        refine A_getOv (z := some 3) T_ok d_Reader_readPart_43 f_Reader_12 (xi_s k23.1 sf_2) (xi_r k23.1 rff_2_0) ?_
        refine A_callV0 m_Tokens_next T_ok d_Reader_readPart_46 l_Reader_78 k_Tokens_next (xi_s k23.1 sf_3) rfl (by decide +kernel) (by decide) (Nat.le_of_ble_eq_true rfl) (s_Tokens_next k23.1 ) (fun r h26 hq => ?_)
        obtain ⟨rfl, k27⟩ := hq
        have k28 := kF_t k23 k27 (FB_A hS)
        refine A_iconst d_Reader_readPart_49 rfl ?_
        exact A_zret d_Reader_readPart_50 (by decide) rfl (by omega) ⟨_, rfl, by omega, k28⟩
      · refine A_aload_n 0 d_Reader_readPart_37 rfl rfl ?_
        refine A_callV0 m_Reader_refuse T_ok d_Reader_readPart_38 l_Reader_69 k_Reader_refuse (xi_s k23.1 sf_2) rfl (by decide +kernel) (by decide) (Nat.le_of_ble_eq_true rfl) (s_Reader_refuse k23.1 ) (fun r h29 hq => ?_)
        obtain ⟨x31, rfl, ⟨_, _⟩, k30⟩ := hq
        have k32 := kF_t k23 k30 (fun _ q => q)
        obtain rfl : x31 = 0 := by omega
        exact A_zret d_Reader_readPart_41 (by decide) rfl (by omega) ⟨_, rfl, by omega, k32⟩
    · refine A_iload_n 1 d_Reader_readPart_20 rfl rfl ?_
      refine A_bipush d_Reader_readPart_21 rfl ?_
      refine A_icmp_ne (tgt := 51) d_Reader_readPart_23 (by decide) (fun c33 => ?_) (fun c33 => ?_)
      · refine A_iload_n 1 d_Reader_readPart_51 rfl rfl ?_
        refine A_bipush d_Reader_readPart_52 rfl ?_
        refine A_icmp_eq (tgt := 74) d_Reader_readPart_54 (by decide) (fun c34 => ?_) (fun c34 => ?_)
        · refine A_aload_n 0 d_Reader_readPart_74 rfl rfl ?_
          refine A_callV0 m_Reader_isShallow T_ok d_Reader_readPart_75 l_Reader_146 k_Reader_isShallow (xi_s k0.1 sf_2) rfl (by decide +kernel) (by decide) (Nat.le_of_ble_eq_true rfl) (s_Reader_isShallow k0.1 ) (fun r h35 hq => ?_)
          obtain ⟨x37, rfl, bx37, k36⟩ := hq
          have k38 := kF_t k0 k36 (fun _ q => q)
          refine A_if_ne (tgt := 83) d_Reader_readPart_78 (by decide) (fun c39 => ?_) (fun c39 => ?_)
          · refine A_iload_n 1 d_Reader_readPart_83 rfl rfl ?_
            refine A_bipush d_Reader_readPart_84 rfl ?_
            refine A_icmp_ne (tgt := 94) d_Reader_readPart_86 (by decide) (fun c40 => ?_) (fun c => False.elim (by omega))
            refine A_aload_n 0 d_Reader_readPart_94 rfl rfl ?_
            refine A_getOv (z := some 9) T_ok d_Reader_readPart_95 f_Reader_21 (xi_s k38.1 sf_2) (xi_r k38.1 rff_2_1) ?_
            refine A_iload_n 1 d_Reader_readPart_98 rfl rfl ?_
            refine A_iconst d_Reader_readPart_99 rfl ?_
            refine A_iconst d_Reader_readPart_100 rfl ?_
            refine A_pc (pc' := 101) rfl ?_
            refine A_callV3 m_Parts_add T_ok d_Reader_readPart_101 l_Reader_169 k_Parts_add (xi_s k38.1 sf_9) rfl (by decide +kernel) (by decide) (Nat.le_of_ble_eq_true rfl) (s_Parts_add k38.1 (by omega) (by omega) (by omega) (by omega) (fun q => by omega)) (fun r h42 hq => ?_)
            obtain ⟨rfl, xk43, k43⟩ := hq
            have k44 := kF_t k38 k43 (fun _ q => q)
            refine A_aload_n 0 d_Reader_readPart_104 rfl rfl ?_
            refine A_getOv (z := some 3) T_ok d_Reader_readPart_105 f_Reader_12 (xi_s k44.1 sf_2) (xi_r k44.1 rff_2_0) ?_
            refine A_callV0 m_Tokens_next T_ok d_Reader_readPart_108 l_Reader_78 k_Tokens_next (xi_s k44.1 sf_3) rfl (by decide +kernel) (by decide) (Nat.le_of_ble_eq_true rfl) (s_Tokens_next k44.1 ) (fun r h46 hq => ?_)
            obtain ⟨rfl, k47⟩ := hq
            have k48 := kF_t k44 k47 (FB_A hS)
            refine A_iconst d_Reader_readPart_111 rfl ?_
            exact A_zret d_Reader_readPart_112 (by decide) rfl (by omega) ⟨_, rfl, by omega, k48⟩
          · refine A_iconst d_Reader_readPart_81 rfl ?_
            exact A_zret d_Reader_readPart_82 (by decide) rfl (by omega) ⟨_, rfl, by omega, k38⟩
        · refine A_iload_n 1 d_Reader_readPart_57 rfl rfl ?_
          refine A_bipush d_Reader_readPart_58 rfl ?_
          refine A_icmp_eq (tgt := 74) d_Reader_readPart_60 (by decide) (fun c49 => ?_) (fun c49 => ?_)
          · refine A_aload_n 0 d_Reader_readPart_74 rfl rfl ?_
            refine A_callV0 m_Reader_isShallow T_ok d_Reader_readPart_75 l_Reader_146 k_Reader_isShallow (xi_s k0.1 sf_2) rfl (by decide +kernel) (by decide) (Nat.le_of_ble_eq_true rfl) (s_Reader_isShallow k0.1 ) (fun r h50 hq => ?_)
            obtain ⟨x52, rfl, bx52, k51⟩ := hq
            have k53 := kF_t k0 k51 (fun _ q => q)
            refine A_if_ne (tgt := 83) d_Reader_readPart_78 (by decide) (fun c54 => ?_) (fun c54 => ?_)
            · refine A_iload_n 1 d_Reader_readPart_83 rfl rfl ?_
              refine A_bipush d_Reader_readPart_84 rfl ?_
              refine A_icmp_ne (tgt := 94) d_Reader_readPart_86 (by decide) (fun c55 => ?_) (fun c => False.elim (by omega))
              refine A_aload_n 0 d_Reader_readPart_94 rfl rfl ?_
              refine A_getOv (z := some 9) T_ok d_Reader_readPart_95 f_Reader_21 (xi_s k53.1 sf_2) (xi_r k53.1 rff_2_1) ?_
              refine A_iload_n 1 d_Reader_readPart_98 rfl rfl ?_
              refine A_iconst d_Reader_readPart_99 rfl ?_
              refine A_iconst d_Reader_readPart_100 rfl ?_
              refine A_pc (pc' := 101) rfl ?_
              refine A_callV3 m_Parts_add T_ok d_Reader_readPart_101 l_Reader_169 k_Parts_add (xi_s k53.1 sf_9) rfl (by decide +kernel) (by decide) (Nat.le_of_ble_eq_true rfl) (s_Parts_add k53.1 (by omega) (by omega) (by omega) (by omega) (fun q => by omega)) (fun r h57 hq => ?_)
              obtain ⟨rfl, xk58, k58⟩ := hq
              have k59 := kF_t k53 k58 (fun _ q => q)
              refine A_aload_n 0 d_Reader_readPart_104 rfl rfl ?_
              refine A_getOv (z := some 3) T_ok d_Reader_readPart_105 f_Reader_12 (xi_s k59.1 sf_2) (xi_r k59.1 rff_2_0) ?_
              refine A_callV0 m_Tokens_next T_ok d_Reader_readPart_108 l_Reader_78 k_Tokens_next (xi_s k59.1 sf_3) rfl (by decide +kernel) (by decide) (Nat.le_of_ble_eq_true rfl) (s_Tokens_next k59.1 ) (fun r h61 hq => ?_)
              obtain ⟨rfl, k62⟩ := hq
              have k63 := kF_t k59 k62 (FB_A hS)
              refine A_iconst d_Reader_readPart_111 rfl ?_
              exact A_zret d_Reader_readPart_112 (by decide) rfl (by omega) ⟨_, rfl, by omega, k63⟩
            · refine A_iconst d_Reader_readPart_81 rfl ?_
              exact A_zret d_Reader_readPart_82 (by decide) rfl (by omega) ⟨_, rfl, by omega, k53⟩
          · refine A_iload_n 1 d_Reader_readPart_63 rfl rfl ?_
            refine A_bipush d_Reader_readPart_64 rfl ?_
            refine A_icmp_eq (tgt := 74) d_Reader_readPart_66 (by decide) (fun c64 => ?_) (fun c64 => ?_)
            · refine A_aload_n 0 d_Reader_readPart_74 rfl rfl ?_
              refine A_callV0 m_Reader_isShallow T_ok d_Reader_readPart_75 l_Reader_146 k_Reader_isShallow (xi_s k0.1 sf_2) rfl (by decide +kernel) (by decide) (Nat.le_of_ble_eq_true rfl) (s_Reader_isShallow k0.1 ) (fun r h65 hq => ?_)
              obtain ⟨x67, rfl, bx67, k66⟩ := hq
              have k68 := kF_t k0 k66 (fun _ q => q)
              refine A_if_ne (tgt := 83) d_Reader_readPart_78 (by decide) (fun c69 => ?_) (fun c69 => ?_)
              · refine A_iload_n 1 d_Reader_readPart_83 rfl rfl ?_
                refine A_bipush d_Reader_readPart_84 rfl ?_
                refine A_icmp_ne (tgt := 94) d_Reader_readPart_86 (by decide) (fun c => False.elim (by omega)) (fun c70 => ?_)
                refine A_aload_n 0 d_Reader_readPart_89 rfl rfl ?_
                refine A_callV0 m_Reader_readStretch T_ok d_Reader_readPart_90 l_Reader_166 k_Reader_readStretch (xi_s k68.1 sf_2) rfl (by decide +kernel) (by decide) (Nat.le_of_ble_eq_true rfl) (s_Reader_readStretch k68.1 ) (fun r h71 hq => ?_)
                obtain ⟨x73, rfl, bx73, k72⟩ := hq
                have k74 := kF_t k68 k72 (fun _ q => q)
                exact A_zret d_Reader_readPart_93 (by decide) rfl (by omega) ⟨_, rfl, by omega, k74⟩
              · refine A_iconst d_Reader_readPart_81 rfl ?_
                exact A_zret d_Reader_readPart_82 (by decide) rfl (by omega) ⟨_, rfl, by omega, k68⟩
            · refine A_aload_n 0 d_Reader_readPart_69 rfl rfl ?_
              refine A_callV0 m_Reader_refuse T_ok d_Reader_readPart_70 l_Reader_69 k_Reader_refuse (xi_s k0.1 sf_2) rfl (by decide +kernel) (by decide) (Nat.le_of_ble_eq_true rfl) (s_Reader_refuse k0.1 ) (fun r h75 hq => ?_)
              obtain ⟨x77, rfl, ⟨_, _⟩, k76⟩ := hq
              have k78 := kF_t k0 k76 (fun _ q => q)
              obtain rfl : x77 = 0 := by omega
              exact A_zret d_Reader_readPart_73 (by decide) rfl (by omega) ⟨_, rfl, by omega, k78⟩
      · refine A_aload_n 0 d_Reader_readPart_26 rfl rfl ?_
        refine A_getOv (z := some 9) T_ok d_Reader_readPart_27 f_Reader_21 (xi_s k0.1 sf_2) (xi_r k0.1 rff_2_1) ?_
        refine A_iload_n 1 d_Reader_readPart_30 rfl rfl ?_
        refine A_callV1 m_Parts_addMark T_ok d_Reader_readPart_31 l_Reader_163 k_Parts_addMark (xi_s k0.1 sf_9) rfl (by decide +kernel) (by decide) (Nat.le_of_ble_eq_true rfl) (s_Parts_addMark k0.1 ⟨by omega, by omega⟩) (fun r h80 hq => ?_)
        obtain ⟨x82, rfl, bx82, k81⟩ := hq
        have k83 := kF_t k0 k81 (fun _ q => q)
        refine A_if_ne (tgt := 42) d_Reader_readPart_34 (by decide) (fun c84 => ?_) (fun c84 => ?_)
        · refine A_aload_n 0 d_Reader_readPart_42 rfl rfl ?_
          refine A_getOv (z := some 3) T_ok d_Reader_readPart_43 f_Reader_12 (xi_s k83.1 sf_2) (xi_r k83.1 rff_2_0) ?_
          refine A_callV0 m_Tokens_next T_ok d_Reader_readPart_46 l_Reader_78 k_Tokens_next (xi_s k83.1 sf_3) rfl (by decide +kernel) (by decide) (Nat.le_of_ble_eq_true rfl) (s_Tokens_next k83.1 ) (fun r h86 hq => ?_)
          obtain ⟨rfl, k87⟩ := hq
          have k88 := kF_t k83 k87 (FB_A hS)
          refine A_iconst d_Reader_readPart_49 rfl ?_
          exact A_zret d_Reader_readPart_50 (by decide) rfl (by omega) ⟨_, rfl, by omega, k88⟩
        · refine A_aload_n 0 d_Reader_readPart_37 rfl rfl ?_
          refine A_callV0 m_Reader_refuse T_ok d_Reader_readPart_38 l_Reader_69 k_Reader_refuse (xi_s k83.1 sf_2) rfl (by decide +kernel) (by decide) (Nat.le_of_ble_eq_true rfl) (s_Reader_refuse k83.1 ) (fun r h89 hq => ?_)
          obtain ⟨x91, rfl, ⟨_, _⟩, k90⟩ := hq
          have k92 := kF_t k83 k90 (fun _ q => q)
          obtain rfl : x91 = 0 := by omega
          exact A_zret d_Reader_readPart_41 (by decide) rfl (by omega) ⟨_, rfl, by omega, k92⟩
theorem s_Reader_admit {G : cx_T} {s : Nat} {h : ah_T} (hx : xi s h)   : con G 1 0 0 m_Reader_admit [av_R (some 2)] h (fun r h' => ∃ z, r = some (av_I z) ∧ (z = 0 ∨ z = 1) ∧ kF (FB s) s h h') := by
  refine con_of (L := [some (av_R (some 2))]) (by decide +kernel) (Nat.le_of_ble_eq_true rfl) rfl ?_
  have hS : isS s := hx.2.1
  have hs0 : s = 17 ∨ s = 80 := hS
  have hs0b : 17 ≤ s ∧ s ≤ 80 := by omega
  have k0 : kF (FB s) s h h := kF_0 hx
  refine A_aload_n 0 d_Reader_admit_0 rfl rfl ?_
  refine A_getIn (lo := 0) (hi := 300) T_ok d_Reader_admit_1 f_Reader_140 (xi_s k0.1 sf_2) (xi_g k0.1 (by decide) rgf_2_4) (fun x1 ex1 _ _ => ?_)
  refine A_sipush d_Reader_admit_4 rfl ?_
  refine A_icmp_lt (tgt := 23) d_Reader_admit_7 (by decide) (fun c2 => ?_) (fun c2 => ?_)
  · refine A_aload_n 0 d_Reader_admit_23 rfl rfl ?_
    refine A_dupR d_Reader_admit_24 ?_
    refine A_getIv (z := x1) T_ok d_Reader_admit_25 f_Reader_140 (xi_s k0.1 sf_2) ex1.symm ?_
    refine A_iconst d_Reader_admit_28 rfl ?_
    refine A_iaddv (z := (x1 + 1)) d_Reader_admit_29 (w32_to (by omega) (by unfold i32; omega)) ?_
    refine A_pc (pc' := 30) rfl ?_
    refine A_putIk (KR := kF (FB s) s h) T_ok d_Reader_admit_30 f_Reader_140 (xi_s k0.1 sf_2) fin_f (kF_j k0 (by omega) (ns_b rfl) rgf_2_4 (by omega) (by omega)) (fun h4 k5 eh4 => ?_)
    refine A_aload_n 0 d_Reader_admit_33 rfl rfl ?_
    refine A_getOv (z := some 3) T_ok d_Reader_admit_34 f_Reader_12 (xi_s k5.1 sf_2) (xi_r k5.1 rff_2_0) ?_
    refine A_callV0 m_Tokens_next T_ok d_Reader_admit_37 l_Reader_78 k_Tokens_next (xi_s k5.1 sf_3) rfl (by decide +kernel) (by decide) (Nat.le_of_ble_eq_true rfl) (s_Tokens_next k5.1 ) (fun r h7 hq => ?_)
    obtain ⟨rfl, k8⟩ := hq
    have k9 := kF_t k5 k8 (FB_A hS)
    refine A_iconst d_Reader_admit_40 rfl ?_
    exact A_zret d_Reader_admit_41 (by decide) rfl (by omega) ⟨_, rfl, by omega, k9⟩
  · refine A_aload_n 0 d_Reader_admit_10 rfl rfl ?_
    refine A_iconst d_Reader_admit_11 rfl ?_
    refine A_aload_n 0 d_Reader_admit_12 rfl rfl ?_
    refine A_getOv (z := some 3) T_ok d_Reader_admit_13 f_Reader_12 (xi_s k0.1 sf_2) (xi_r k0.1 rff_2_0) ?_
    refine A_getIf T_ok d_Reader_admit_16 f_Reader_75 (xi_s k0.1 sf_3) (fun x11 ex11 _ _ => ?_)
    refine A_pc (pc' := 19) rfl ?_
    refine A_callV2 m_Reader_blame T_ok d_Reader_admit_19 l_Reader_91 k_Reader_blame (xi_s k0.1 sf_2) rfl (by decide +kernel) (by decide) (Nat.le_of_ble_eq_true rfl) (s_Reader_blame k0.1 ) (fun r h12 hq => ?_)
    obtain ⟨x14, rfl, ⟨_, _⟩, k13⟩ := hq
    have k15 := kF_t k0 k13 (fun _ q => q)
    obtain rfl : x14 = 0 := by omega
    exact A_zret d_Reader_admit_22 (by decide) rfl (by omega) ⟨_, rfl, by omega, k15⟩
theorem s_Reader_readSound {G : cx_T} {s : Nat} {h : ah_T} (hx : xi s h) {a1 : Nat} (ta1 : tV s a1) : con G 2 0 0 m_Reader_readSound [av_R (some 2), av_R (some a1)] h (fun r h' => ∃ z, r = some (av_I z) ∧ (z = 0 ∨ z = 1) ∧ kF (FB s) s h h') := by
  refine con_of (L := [some (av_R (some 2)), some (av_R (some a1)), none, none, none, none]) (by decide +kernel) (Nat.le_of_ble_eq_true rfl) rfl ?_
  have hS : isS s := hx.2.1
  have hs0 : s = 17 ∨ s = 80 := hS
  have hs0b : 17 ≤ s ∧ s ≤ 80 := by omega
  have k0 : kF (FB s) s h h := kF_0 hx
  have ga1 : a1 = s + 7 ∨ a1 = s + 21 ∨ a1 = s + 35 ∨ a1 = s + 49 := ta1
  have ga1b : s + 7 ≤ a1 ∧ a1 ≤ s + 49 := by omega
  refine A_aload_n 0 d_Reader_readSound_0 rfl rfl ?_
  refine A_getOv (z := some 3) T_ok d_Reader_readSound_1 f_Reader_12 (xi_s k0.1 sf_2) (xi_r k0.1 rff_2_0) ?_
  refine A_getIf T_ok d_Reader_readSound_4 f_Reader_50 (xi_s k0.1 sf_3) (fun x2 ex2 _ _ => ?_)
  refine A_sipush d_Reader_readSound_7 rfl ?_
  refine A_icmp_ne (tgt := 18) d_Reader_readSound_10 (by decide) (fun c3 => ?_) (fun c3 => ?_)
  · refine A_aload_n 0 d_Reader_readSound_18 rfl rfl ?_
    refine A_getOv (z := some 3) T_ok d_Reader_readSound_19 f_Reader_12 (xi_s k0.1 sf_2) (xi_r k0.1 rff_2_0) ?_
    refine A_getIv (z := x2) T_ok d_Reader_readSound_22 f_Reader_50 (xi_s k0.1 sf_3) ex2.symm ?_
    refine A_sipush d_Reader_readSound_25 rfl ?_
    refine A_icmp_ne (tgt := 55) d_Reader_readSound_28 (by decide) (fun c6 => ?_) (fun c6 => ?_)
    · refine A_aload_n 0 d_Reader_readSound_55 rfl rfl ?_
      refine A_getOv (z := some 3) T_ok d_Reader_readSound_56 f_Reader_12 (xi_s k0.1 sf_2) (xi_r k0.1 rff_2_0) ?_
      refine A_callV0 m_Tokens_next T_ok d_Reader_readSound_59 l_Reader_78 k_Tokens_next (xi_s k0.1 sf_3) rfl (by decide +kernel) (by decide) (Nat.le_of_ble_eq_true rfl) (s_Tokens_next k0.1 ) (fun r h8 hq => ?_)
      obtain ⟨rfl, k9⟩ := hq
      have k10 := kF_t k0 k9 (FB_A hS)
      refine A_aload_n 0 d_Reader_readSound_62 rfl rfl ?_
      refine A_getOv (z := some 3) T_ok d_Reader_readSound_63 f_Reader_12 (xi_s k10.1 sf_2) (xi_r k10.1 rff_2_0) ?_
      refine A_getIf T_ok d_Reader_readSound_66 f_Reader_50 (xi_s k10.1 sf_3) (fun x12 ex12 _ _ => ?_)
      refine A_sipush d_Reader_readSound_69 rfl ?_
      refine A_icmp_eq (tgt := 80) d_Reader_readSound_72 (by decide) (fun c13 => ?_) (fun c13 => ?_)
      · refine A_ldc (z := (-2147483648)) d_Reader_readSound_80 cst_Reader_190 rfl ?_
        refine A_istore_n 2 (L' := [some (av_R (some 2)), some (av_R (some a1)), some (av_I (-2147483648)), none, none, none]) d_Reader_readSound_82 rfl (Nat.le_of_ble_eq_true rfl) rfl ?_
        refine A_iconst d_Reader_readSound_83 rfl ?_
        refine A_istore_n 3 (L' := [some (av_R (some 2)), some (av_R (some a1)), some (av_I (-2147483648)), some (av_I 0), none, none]) d_Reader_readSound_84 rfl (Nat.le_of_ble_eq_true rfl) rfl ?_
        have lp85 : ∀ (n : Nat) (i14 i15 : Int) (h16 : ah_T) , (-2147483648) ≤ i14 → i14 ≤ 2147483647 → 0 ≤ i15 → i15 ≤ 4 → kF (FB s) s h h16 → (5 - i15).toNat < n → aw G (rm_R 2 0 0) m_Reader_readSound 0 0 85 [some (av_R (some 2)), some (av_R (some a1)), some (av_I i14), some (av_I i15), none, none] [] h16 (fun r h' => ∃ z, r = some (av_I z) ∧ (z = 0 ∨ z = 1) ∧ kF (FB s) s h h') := by
          intro n
          induction n with
          | zero => intro i14 i15 h16 _ _ _ _ _ hm; omega
          | succ n ih85 =>
            intro i14 i15 h16 hl0 hl1 hl2 hl3 k17 hm
            refine A_iload_n 3 d_Reader_readSound_85 rfl rfl ?_
            refine A_iconst d_Reader_readSound_86 rfl ?_
            refine A_icmp_gt (tgt := 180) d_Reader_readSound_87 (by decide) (fun c => False.elim (by omega)) (fun c18 => ?_)
            refine A_aload_n 0 d_Reader_readSound_90 rfl rfl ?_
            refine A_getOv (z := some 3) T_ok d_Reader_readSound_91 f_Reader_12 (xi_s k17.1 sf_2) (xi_r k17.1 rff_2_0) ?_
            refine A_getIf T_ok d_Reader_readSound_94 f_Reader_50 (xi_s k17.1 sf_3) (fun x20 ex20 _ _ => ?_)
            refine A_sipush d_Reader_readSound_97 rfl ?_
            refine A_icmp_ne (tgt := 180) d_Reader_readSound_100 (by decide) (fun c21 => ?_) (fun c21 => ?_)
            · refine A_aload_n 0 d_Reader_readSound_180 rfl rfl ?_
              refine A_bipush d_Reader_readSound_181 rfl ?_
              refine A_callV1 m_Reader_take T_ok d_Reader_readSound_183 l_Reader_103 k_Reader_take (xi_s k17.1 sf_2) rfl (by decide +kernel) (by decide) (Nat.le_of_ble_eq_true rfl) (s_Reader_take k17.1 ) (fun r h22 hq => ?_)
              obtain ⟨x24, rfl, bx24, k23⟩ := hq
              have k25 := kF_t k17 k23 (fun _ q => q)
              exact A_zret d_Reader_readSound_186 (by decide) rfl (by omega) ⟨_, rfl, by omega, k25⟩
            · refine A_aload_n 0 d_Reader_readSound_103 rfl rfl ?_
              refine A_getOv (z := some 3) T_ok d_Reader_readSound_104 f_Reader_12 (xi_s k17.1 sf_2) (xi_r k17.1 rff_2_0) ?_
              refine A_getIf T_ok d_Reader_readSound_107 f_Reader_75 (xi_s k17.1 sf_3) (fun x27 ex27 _ _ => ?_)
              refine A_istore (L' := [some (av_R (some 2)), some (av_R (some a1)), some (av_I i14), some (av_I i15), some (av_I x27), none]) d_Reader_readSound_110 (Nat.le_of_ble_eq_true rfl) rfl ?_
              refine A_aload_n 0 d_Reader_readSound_112 rfl rfl ?_
              refine A_pc (pc' := 113) rfl ?_
              refine A_getOv (z := some 3) T_ok d_Reader_readSound_113 f_Reader_12 (xi_s k17.1 sf_2) (xi_r k17.1 rff_2_0) ?_
              refine A_getLf T_ok d_Reader_readSound_116 f_Reader_81 (xi_s k17.1 sf_3) (fun x29 ex29 _ _ => ?_)
              refine A_l2iw d_Reader_readSound_119 (fun x30 _ _ _ => ?_)
              refine A_istore (L' := [some (av_R (some 2)), some (av_R (some a1)), some (av_I i14), some (av_I i15), some (av_I x27), some (av_I x30)]) d_Reader_readSound_120 (Nat.le_of_ble_eq_true rfl) rfl ?_
              refine A_iload_n 3 d_Reader_readSound_122 rfl rfl ?_
              refine A_iconst d_Reader_readSound_123 rfl ?_
              refine A_pc (pc' := 124) rfl ?_
              refine A_icmp_ne (tgt := 135) d_Reader_readSound_124 (by decide) (fun c31 => ?_) (fun c31 => ?_)
              · refine A_aload_n 1 d_Reader_readSound_135 rfl rfl ?_
                refine A_iload d_Reader_readSound_136 rfl ?_
                refine A_aload_n 0 d_Reader_readSound_138 rfl rfl ?_
                refine A_getOv (z := some 3) T_ok d_Reader_readSound_139 f_Reader_12 (xi_s k17.1 sf_2) (xi_r k17.1 rff_2_0) ?_
                refine A_getIf T_ok d_Reader_readSound_142 f_Reader_184 (xi_s k17.1 sf_3) (fun x33 ex33 _ _ => ?_)
                refine A_pc (pc' := 145) rfl ?_
                refine A_callV2 m_Voice_addPitch T_ok d_Reader_readSound_145 l_Reader_187 k_Voice_addPitch (xs_V k17.1 (tV_V hS ta1)) rfl (by decide +kernel) (by decide) (Nat.le_of_ble_eq_true rfl) (s_Voice_addPitch k17.1 ta1) (fun r h34 hq => ?_)
                obtain ⟨rfl, k35⟩ := hq
                have k36 := kF_t k17 k35 (fun _ q => q)
                refine A_aload_n 0 d_Reader_readSound_148 rfl rfl ?_
                refine A_callV0 m_Reader_admit T_ok d_Reader_readSound_149 l_Reader_181 k_Reader_admit (xi_s k36.1 sf_2) rfl (by decide +kernel) (by decide) (Nat.le_of_ble_eq_true rfl) (s_Reader_admit k36.1 ) (fun r h37 hq => ?_)
                obtain ⟨x39, rfl, bx39, k38⟩ := hq
                have k40 := kF_t k36 k38 (fun _ q => q)
                refine A_if_ne (tgt := 157) d_Reader_readSound_152 (by decide) (fun c41 => ?_) (fun c41 => ?_)
                · refine A_iload d_Reader_readSound_157 rfl ?_
                  refine A_iload_n 2 d_Reader_readSound_159 rfl rfl ?_
                  refine A_icmp_gt (tgt := 171) d_Reader_readSound_160 (by decide) (fun c42 => ?_) (fun c42 => ?_)
                  · refine A_iload d_Reader_readSound_171 rfl ?_
                    refine A_istore_n 2 (L' := [some (av_R (some 2)), some (av_R (some a1)), some (av_I x30), some (av_I i15), some (av_I x27), some (av_I x30)]) d_Reader_readSound_173 rfl (Nat.le_of_ble_eq_true rfl) rfl ?_
                    refine A_iincv (z := (i15 + 1)) (L' := [some (av_R (some 2)), some (av_R (some a1)), some (av_I x30), some (av_I (i15 + 1)), some (av_I x27), some (av_I x30)]) d_Reader_readSound_174 rfl (w32_to (by omega) (by unfold i32; omega)) rfl ?_
                    refine A_goto (tgt := 85) d_Reader_readSound_177 (by decide) ?_
                    refine A_free (L' := [some (av_R (some 2)), some (av_R (some a1)), some (av_I x30), some (av_I (i15 + 1)), none, none]) (And.intro rfl (And.intro rfl (And.intro rfl (And.intro rfl trivial)))) ?_
                    exact ih85 x30 (i15 + 1) h37 (by omega) (by omega) (by omega) (by omega) k40 (by omega)
                  · refine A_aload_n 0 d_Reader_readSound_163 rfl rfl ?_
                    refine A_iconst d_Reader_readSound_164 rfl ?_
                    refine A_iload d_Reader_readSound_165 rfl ?_
                    refine A_callV2 m_Reader_blame T_ok d_Reader_readSound_167 l_Reader_91 k_Reader_blame (xi_s k40.1 sf_2) rfl (by decide +kernel) (by decide) (Nat.le_of_ble_eq_true rfl) (s_Reader_blame k40.1 ) (fun r h43 hq => ?_)
                    obtain ⟨x45, rfl, ⟨_, _⟩, k44⟩ := hq
                    have k46 := kF_t k40 k44 (fun _ q => q)
                    obtain rfl : x45 = 0 := by omega
                    exact A_zret d_Reader_readSound_170 (by decide) rfl (by omega) ⟨_, rfl, by omega, k46⟩
                · refine A_iconst d_Reader_readSound_155 rfl ?_
                  exact A_zret d_Reader_readSound_156 (by decide) rfl (by omega) ⟨_, rfl, by omega, k40⟩
              · refine A_aload_n 0 d_Reader_readSound_127 rfl rfl ?_
                refine A_iconst d_Reader_readSound_128 rfl ?_
                refine A_iload d_Reader_readSound_129 rfl ?_
                refine A_callV2 m_Reader_blame T_ok d_Reader_readSound_131 l_Reader_91 k_Reader_blame (xi_s k17.1 sf_2) rfl (by decide +kernel) (by decide) (Nat.le_of_ble_eq_true rfl) (s_Reader_blame k17.1 ) (fun r h47 hq => ?_)
                obtain ⟨x49, rfl, ⟨_, _⟩, k48⟩ := hq
                have k50 := kF_t k17 k48 (fun _ q => q)
                obtain rfl : x49 = 0 := by omega
                exact A_zret d_Reader_readSound_134 (by decide) rfl (by omega) ⟨_, rfl, by omega, k50⟩
        exact lp85 _ (-2147483648) 0 h8 (by omega) (by omega) (by omega) (by omega) k10 (Nat.lt_succ_self _)
      · refine A_aload_n 0 d_Reader_readSound_75 rfl rfl ?_
        refine A_callV0 m_Reader_refuse T_ok d_Reader_readSound_76 l_Reader_69 k_Reader_refuse (xi_s k10.1 sf_2) rfl (by decide +kernel) (by decide) (Nat.le_of_ble_eq_true rfl) (s_Reader_refuse k10.1 ) (fun r h51 hq => ?_)
        obtain ⟨x53, rfl, ⟨_, _⟩, k52⟩ := hq
        have k54 := kF_t k10 k52 (fun _ q => q)
        obtain rfl : x53 = 0 := by omega
        exact A_zret d_Reader_readSound_79 (by decide) rfl (by omega) ⟨_, rfl, by omega, k54⟩
    · refine A_aload_n 1 d_Reader_readSound_31 rfl rfl ?_
      refine A_aload_n 0 d_Reader_readSound_32 rfl rfl ?_
      refine A_getOv (z := some 3) T_ok d_Reader_readSound_33 f_Reader_12 (xi_s k0.1 sf_2) (xi_r k0.1 rff_2_0) ?_
      refine A_getLf T_ok d_Reader_readSound_36 f_Reader_81 (xi_s k0.1 sf_3) (fun x56 ex56 _ _ => ?_)
      refine A_l2iw d_Reader_readSound_39 (fun x57 _ _ _ => ?_)
      refine A_pc (pc' := 40) rfl ?_
      refine A_aload_n 0 d_Reader_readSound_40 rfl rfl ?_
      refine A_getOv (z := some 3) T_ok d_Reader_readSound_41 f_Reader_12 (xi_s k0.1 sf_2) (xi_r k0.1 rff_2_0) ?_
      refine A_getIf T_ok d_Reader_readSound_44 f_Reader_184 (xi_s k0.1 sf_3) (fun x59 ex59 _ _ => ?_)
      refine A_callV2 m_Voice_addPitch T_ok d_Reader_readSound_47 l_Reader_187 k_Voice_addPitch (xs_V k0.1 (tV_V hS ta1)) rfl (by decide +kernel) (by decide) (Nat.le_of_ble_eq_true rfl) (s_Voice_addPitch k0.1 ta1) (fun r h60 hq => ?_)
      obtain ⟨rfl, k61⟩ := hq
      have k62 := kF_t k0 k61 (fun _ q => q)
      refine A_aload_n 0 d_Reader_readSound_50 rfl rfl ?_
      refine A_callV0 m_Reader_admit T_ok d_Reader_readSound_51 l_Reader_181 k_Reader_admit (xi_s k62.1 sf_2) rfl (by decide +kernel) (by decide) (Nat.le_of_ble_eq_true rfl) (s_Reader_admit k62.1 ) (fun r h63 hq => ?_)
      obtain ⟨x65, rfl, bx65, k64⟩ := hq
      have k66 := kF_t k62 k64 (fun _ q => q)
      exact A_zret d_Reader_readSound_54 (by decide) rfl (by omega) ⟨_, rfl, by omega, k66⟩
  · refine A_aload_n 0 d_Reader_readSound_13 rfl rfl ?_
    refine A_callV0 m_Reader_admit T_ok d_Reader_readSound_14 l_Reader_181 k_Reader_admit (xi_s k0.1 sf_2) rfl (by decide +kernel) (by decide) (Nat.le_of_ble_eq_true rfl) (s_Reader_admit k0.1 ) (fun r h67 hq => ?_)
    obtain ⟨x69, rfl, bx69, k68⟩ := hq
    have k70 := kF_t k0 k68 (fun _ q => q)
    exact A_zret d_Reader_readSound_17 (by decide) rfl (by omega) ⟨_, rfl, by omega, k70⟩
theorem s_Reader_readEvent {G : cx_T} {s : Nat} {h : ah_T} (hx : xi s h) {a1 : Nat} (ta1 : tV s a1) : con G 3 0 0 m_Reader_readEvent [av_R (some 2), av_R (some a1)] h (fun r h' => ∃ z, r = some (av_I z) ∧ (z = 0 ∨ z = 1) ∧ kF (FB s) s h h') := by
  refine con_of (L := [some (av_R (some 2)), some (av_R (some a1)), none, none, none, none]) (by decide +kernel) (Nat.le_of_ble_eq_true rfl) rfl ?_
  have hS : isS s := hx.2.1
  have hs0 : s = 17 ∨ s = 80 := hS
  have hs0b : 17 ≤ s ∧ s ≤ 80 := by omega
  have k0 : kF (FB s) s h h := kF_0 hx
  have ga1 : a1 = s + 7 ∨ a1 = s + 21 ∨ a1 = s + 35 ∨ a1 = s + 49 := ta1
  have ga1b : s + 7 ≤ a1 ∧ a1 ≤ s + 49 := by omega
  refine A_aload_n 0 d_Reader_readEvent_0 rfl rfl ?_
  refine A_getOv (z := some 3) T_ok d_Reader_readEvent_1 f_Reader_12 (xi_s k0.1 sf_2) (xi_r k0.1 rff_2_0) ?_
  refine A_getIf T_ok d_Reader_readEvent_4 f_Reader_50 (xi_s k0.1 sf_3) (fun x2 ex2 _ _ => ?_)
  refine A_sipush d_Reader_readEvent_7 rfl ?_
  refine A_icmp_ne (tgt := 17) d_Reader_readEvent_10 (by decide) (fun c3 => ?_) (fun c3 => ?_)
  · refine A_iconst d_Reader_readEvent_17 rfl ?_
    refine A_istore_n 2 (L' := [some (av_R (some 2)), some (av_R (some a1)), some (av_I 0), none, none, none]) d_Reader_readEvent_18 rfl (Nat.le_of_ble_eq_true rfl) rfl ?_
    refine A_aload_n 0 d_Reader_readEvent_19 rfl rfl ?_
    refine A_aload_n 1 d_Reader_readEvent_20 rfl rfl ?_
    refine A_callV1 m_Reader_readSound T_ok d_Reader_readEvent_21 l_Reader_172 k_Reader_readSound (xi_s k0.1 sf_2) rfl (by decide +kernel) (by decide) (Nat.le_of_ble_eq_true rfl) (s_Reader_readSound k0.1 ta1) (fun r h4 hq => ?_)
    obtain ⟨x6, rfl, bx6, k5⟩ := hq
    have k7 := kF_t k0 k5 (fun _ q => q)
    refine A_if_ne (tgt := 29) d_Reader_readEvent_24 (by decide) (fun c8 => ?_) (fun c8 => ?_)
    · refine A_aload_n 0 d_Reader_readEvent_29 rfl rfl ?_
      refine A_bipush d_Reader_readEvent_30 rfl ?_
      refine A_iconst d_Reader_readEvent_32 rfl ?_
      refine A_callV2 m_Reader_readNumber T_ok d_Reader_readEvent_33 l_Reader_99 k_Reader_readNumber (xi_s k7.1 sf_2) rfl (by decide +kernel) (by decide) (Nat.le_of_ble_eq_true rfl) (s_Reader_readNumber k7.1 (by omega) (by omega) (by omega)) (fun r h9 hq => ?_)
      obtain ⟨x11, rfl, ⟨_, _⟩, xx11, k10⟩ := hq
      have k12 := kF_t k7 k10 (fun _ q => q)
      refine A_istore_n 3 (L' := [some (av_R (some 2)), some (av_R (some a1)), some (av_I 0), some (av_I x11), none, none]) d_Reader_readEvent_36 rfl (Nat.le_of_ble_eq_true rfl) rfl ?_
      refine A_iload_n 3 d_Reader_readEvent_37 rfl rfl ?_
      refine A_if_ne (tgt := 43) d_Reader_readEvent_38 (by decide) (fun c13 => ?_) (fun c13 => ?_)
      · refine A_iconst d_Reader_readEvent_43 rfl ?_
        refine A_istore (L' := [some (av_R (some 2)), some (av_R (some a1)), some (av_I 0), some (av_I x11), some (av_I 0), none]) d_Reader_readEvent_44 (Nat.le_of_ble_eq_true rfl) rfl ?_
        refine A_iconst d_Reader_readEvent_46 rfl ?_
        refine A_istore (L' := [some (av_R (some 2)), some (av_R (some a1)), some (av_I 0), some (av_I x11), some (av_I 0), some (av_I 0)]) d_Reader_readEvent_47 (Nat.le_of_ble_eq_true rfl) rfl ?_
        have lp49 : ∀ (n : Nat) (i14 i15 : Int) (h16 : ah_T) , 0 ≤ i14 → i14 ≤ 3 → 0 ≤ i15 → i15 ≤ 4 → kF (FB s) s h h16 → (4 - i14).toNat < n → aw G (rm_R 3 0 0) m_Reader_readEvent 0 0 49 [some (av_R (some 2)), some (av_R (some a1)), some (av_I 0), some (av_I x11), some (av_I i14), some (av_I i15)] [] h16 (fun r h' => ∃ z, r = some (av_I z) ∧ (z = 0 ∨ z = 1) ∧ kF (FB s) s h h') := by
          intro n
          induction n with
          | zero => intro i14 i15 h16 _ _ _ _ _ hm; omega
          | succ n ih49 =>
            intro i14 i15 h16 hl0 hl1 hl2 hl3 k17 hm
            refine A_iload d_Reader_readEvent_49 rfl ?_
            refine A_iconst d_Reader_readEvent_51 rfl ?_
            refine A_icmp_gt (tgt := 102) d_Reader_readEvent_52 (by decide) (fun c18 => ?_) (fun c18 => ?_)
            · refine A_aload_n 0 d_Reader_readEvent_102 rfl rfl ?_
              refine A_getOv (z := some 3) T_ok d_Reader_readEvent_103 f_Reader_12 (xi_s k17.1 sf_2) (xi_r k17.1 rff_2_0) ?_
              refine A_getIf T_ok d_Reader_readEvent_106 f_Reader_50 (xi_s k17.1 sf_3) (fun x20 ex20 _ _ => ?_)
              refine A_bipush d_Reader_readEvent_109 rfl ?_
              refine A_icmp_ne (tgt := 118) d_Reader_readEvent_111 (by decide) (fun c21 => ?_) (fun c21 => ?_)
              · refine A_iconst d_Reader_readEvent_118 rfl ?_
                refine A_istore (L' := [some (av_R (some 2)), some (av_R (some a1)), some (av_I 0), some (av_I x11), some (av_I i14), some (av_I 0)]) d_Reader_readEvent_119 (Nat.le_of_ble_eq_true rfl) rfl ?_
                refine A_iload d_Reader_readEvent_121 rfl ?_
                refine A_if_eq (tgt := 144) d_Reader_readEvent_123 (by decide) (fun _ => ?_) (fun c => absurd c (by decide))
                refine A_iload d_Reader_readEvent_144 rfl ?_
                refine A_if_eq (tgt := 156) d_Reader_readEvent_146 (by decide) (fun _ => ?_) (fun c => absurd c (by decide))
                refine A_aload_n 0 d_Reader_readEvent_156 rfl rfl ?_
                refine A_getOv (z := some 9) T_ok d_Reader_readEvent_157 f_Reader_21 (xi_s k17.1 sf_2) (xi_r k17.1 rff_2_1) ?_
                refine A_sipush d_Reader_readEvent_160 rfl ?_
                refine A_aload_n 1 d_Reader_readEvent_163 rfl rfl ?_
                refine A_iload_n 3 d_Reader_readEvent_164 rfl rfl ?_
                refine A_pc (pc' := 165) rfl ?_
                refine A_iload d_Reader_readEvent_165 rfl ?_
                refine A_iload d_Reader_readEvent_167 rfl ?_
                refine A_callV3 m_Voice_endSound T_ok d_Reader_readEvent_169 l_Reader_175 k_Voice_endSound (xs_V k17.1 (tV_V hS ta1)) rfl (by decide +kernel) (by decide) (Nat.le_of_ble_eq_true rfl) (s_Voice_endSound k17.1 ta1 (by omega) (by omega) (by omega) (by omega) (by omega)) (fun r h25 hq => ?_)
                obtain ⟨x27, rfl, ⟨_, _⟩, k26⟩ := hq
                have k28 := kF_t k17 k26 (fun _ q => q)
                refine A_iconst d_Reader_readEvent_172 rfl ?_
                refine A_callV3 m_Parts_add T_ok d_Reader_readEvent_173 l_Reader_169 k_Parts_add (xi_s k28.1 sf_9) rfl (by decide +kernel) (by decide) (Nat.le_of_ble_eq_true rfl) (s_Parts_add k28.1 (by omega) (by omega) (by omega) (by omega) (fun q => by omega)) (fun r h29 hq => ?_)
                obtain ⟨rfl, xk30, k30⟩ := hq
                have k31 := kF_t k28 k30 (fun _ q => q)
                refine A_iconst d_Reader_readEvent_176 rfl ?_
                exact A_zret d_Reader_readEvent_177 (by decide) rfl (by omega) ⟨_, rfl, by omega, k31⟩
              · refine A_iconst d_Reader_readEvent_114 rfl ?_
                refine A_goto (tgt := 119) d_Reader_readEvent_115 (by decide) ?_
                refine A_istore (L' := [some (av_R (some 2)), some (av_R (some a1)), some (av_I 0), some (av_I x11), some (av_I i14), some (av_I 1)]) d_Reader_readEvent_119 (Nat.le_of_ble_eq_true rfl) rfl ?_
                refine A_iload d_Reader_readEvent_121 rfl ?_
                refine A_if_eq (tgt := 144) d_Reader_readEvent_123 (by decide) (fun c => absurd c (by decide)) (fun _ => ?_)
                refine A_iload_n 2 d_Reader_readEvent_126 rfl rfl ?_
                refine A_if_eq (tgt := 144) d_Reader_readEvent_127 (by decide) (fun _ => ?_) (fun c => absurd c (by decide))
                refine A_iload d_Reader_readEvent_144 rfl ?_
                refine A_if_eq (tgt := 156) d_Reader_readEvent_146 (by decide) (fun c => absurd c (by decide)) (fun _ => ?_)
                refine A_aload_n 0 d_Reader_readEvent_149 rfl rfl ?_
                refine A_getOv (z := some 3) T_ok d_Reader_readEvent_150 f_Reader_12 (xi_s k17.1 sf_2) (xi_r k17.1 rff_2_0) ?_
                refine A_callV0 m_Tokens_next T_ok d_Reader_readEvent_153 l_Reader_78 k_Tokens_next (xi_s k17.1 sf_3) rfl (by decide +kernel) (by decide) (Nat.le_of_ble_eq_true rfl) (s_Tokens_next k17.1 ) (fun r h36 hq => ?_)
                obtain ⟨rfl, k37⟩ := hq
                have k38 := kF_t k17 k37 (FB_A hS)
                refine A_aload_n 0 d_Reader_readEvent_156 rfl rfl ?_
                refine A_getOv (z := some 9) T_ok d_Reader_readEvent_157 f_Reader_21 (xi_s k38.1 sf_2) (xi_r k38.1 rff_2_1) ?_
                refine A_sipush d_Reader_readEvent_160 rfl ?_
                refine A_aload_n 1 d_Reader_readEvent_163 rfl rfl ?_
                refine A_iload_n 3 d_Reader_readEvent_164 rfl rfl ?_
                refine A_pc (pc' := 165) rfl ?_
                refine A_iload d_Reader_readEvent_165 rfl ?_
                refine A_iload d_Reader_readEvent_167 rfl ?_
                refine A_callV3 m_Voice_endSound T_ok d_Reader_readEvent_169 l_Reader_175 k_Voice_endSound (xs_V k38.1 (tV_V hS ta1)) rfl (by decide +kernel) (by decide) (Nat.le_of_ble_eq_true rfl) (s_Voice_endSound k38.1 ta1 (by omega) (by omega) (by omega) (by omega) (by omega)) (fun r h40 hq => ?_)
                obtain ⟨x42, rfl, ⟨_, _⟩, k41⟩ := hq
                have k43 := kF_t k38 k41 (fun _ q => q)
                refine A_iconst d_Reader_readEvent_172 rfl ?_
                refine A_callV3 m_Parts_add T_ok d_Reader_readEvent_173 l_Reader_169 k_Parts_add (xi_s k43.1 sf_9) rfl (by decide +kernel) (by decide) (Nat.le_of_ble_eq_true rfl) (s_Parts_add k43.1 (by omega) (by omega) (by omega) (by omega) (fun q => by omega)) (fun r h44 hq => ?_)
                obtain ⟨rfl, xk45, k45⟩ := hq
                have k46 := kF_t k43 k45 (fun _ q => q)
                refine A_iconst d_Reader_readEvent_176 rfl ?_
                exact A_zret d_Reader_readEvent_177 (by decide) rfl (by omega) ⟨_, rfl, by omega, k46⟩
            · refine A_aload_n 0 d_Reader_readEvent_55 rfl rfl ?_
              refine A_getOv (z := some 3) T_ok d_Reader_readEvent_56 f_Reader_12 (xi_s k17.1 sf_2) (xi_r k17.1 rff_2_0) ?_
              refine A_getIf T_ok d_Reader_readEvent_59 f_Reader_50 (xi_s k17.1 sf_3) (fun x48 ex48 _ _ => ?_)
              refine A_bipush d_Reader_readEvent_62 rfl ?_
              refine A_icmp_ne (tgt := 102) d_Reader_readEvent_64 (by decide) (fun c49 => ?_) (fun c49 => ?_)
              · refine A_aload_n 0 d_Reader_readEvent_102 rfl rfl ?_
                refine A_getOv (z := some 3) T_ok d_Reader_readEvent_103 f_Reader_12 (xi_s k17.1 sf_2) (xi_r k17.1 rff_2_0) ?_
                refine A_getIv (z := x48) T_ok d_Reader_readEvent_106 f_Reader_50 (xi_s k17.1 sf_3) ex48.symm ?_
                refine A_bipush d_Reader_readEvent_109 rfl ?_
                refine A_icmp_ne (tgt := 118) d_Reader_readEvent_111 (by decide) (fun c52 => ?_) (fun c52 => ?_)
                · refine A_iconst d_Reader_readEvent_118 rfl ?_
                  refine A_istore (L' := [some (av_R (some 2)), some (av_R (some a1)), some (av_I 0), some (av_I x11), some (av_I i14), some (av_I 0)]) d_Reader_readEvent_119 (Nat.le_of_ble_eq_true rfl) rfl ?_
                  refine A_iload d_Reader_readEvent_121 rfl ?_
                  refine A_if_eq (tgt := 144) d_Reader_readEvent_123 (by decide) (fun _ => ?_) (fun c => absurd c (by decide))
                  refine A_iload d_Reader_readEvent_144 rfl ?_
                  refine A_if_eq (tgt := 156) d_Reader_readEvent_146 (by decide) (fun _ => ?_) (fun c => absurd c (by decide))
                  refine A_aload_n 0 d_Reader_readEvent_156 rfl rfl ?_
                  refine A_getOv (z := some 9) T_ok d_Reader_readEvent_157 f_Reader_21 (xi_s k17.1 sf_2) (xi_r k17.1 rff_2_1) ?_
                  refine A_sipush d_Reader_readEvent_160 rfl ?_
                  refine A_aload_n 1 d_Reader_readEvent_163 rfl rfl ?_
                  refine A_iload_n 3 d_Reader_readEvent_164 rfl rfl ?_
                  refine A_pc (pc' := 165) rfl ?_
                  refine A_iload d_Reader_readEvent_165 rfl ?_
                  refine A_iload d_Reader_readEvent_167 rfl ?_
                  refine A_callV3 m_Voice_endSound T_ok d_Reader_readEvent_169 l_Reader_175 k_Voice_endSound (xs_V k17.1 (tV_V hS ta1)) rfl (by decide +kernel) (by decide) (Nat.le_of_ble_eq_true rfl) (s_Voice_endSound k17.1 ta1 (by omega) (by omega) (by omega) (by omega) (by omega)) (fun r h56 hq => ?_)
                  obtain ⟨x58, rfl, ⟨_, _⟩, k57⟩ := hq
                  have k59 := kF_t k17 k57 (fun _ q => q)
                  refine A_iconst d_Reader_readEvent_172 rfl ?_
                  refine A_callV3 m_Parts_add T_ok d_Reader_readEvent_173 l_Reader_169 k_Parts_add (xi_s k59.1 sf_9) rfl (by decide +kernel) (by decide) (Nat.le_of_ble_eq_true rfl) (s_Parts_add k59.1 (by omega) (by omega) (by omega) (by omega) (fun q => by omega)) (fun r h60 hq => ?_)
                  obtain ⟨rfl, xk61, k61⟩ := hq
                  have k62 := kF_t k59 k61 (fun _ q => q)
                  refine A_iconst d_Reader_readEvent_176 rfl ?_
                  exact A_zret d_Reader_readEvent_177 (by decide) rfl (by omega) ⟨_, rfl, by omega, k62⟩
                · refine A_iconst d_Reader_readEvent_114 rfl ?_
                  refine A_goto (tgt := 119) d_Reader_readEvent_115 (by decide) ?_
                  refine A_istore (L' := [some (av_R (some 2)), some (av_R (some a1)), some (av_I 0), some (av_I x11), some (av_I i14), some (av_I 1)]) d_Reader_readEvent_119 (Nat.le_of_ble_eq_true rfl) rfl ?_
                  refine A_iload d_Reader_readEvent_121 rfl ?_
                  refine A_if_eq (tgt := 144) d_Reader_readEvent_123 (by decide) (fun c => absurd c (by decide)) (fun _ => ?_)
                  refine A_iload_n 2 d_Reader_readEvent_126 rfl rfl ?_
                  refine A_if_eq (tgt := 144) d_Reader_readEvent_127 (by decide) (fun _ => ?_) (fun c => absurd c (by decide))
                  refine A_iload d_Reader_readEvent_144 rfl ?_
                  refine A_if_eq (tgt := 156) d_Reader_readEvent_146 (by decide) (fun c => absurd c (by decide)) (fun _ => ?_)
                  refine A_aload_n 0 d_Reader_readEvent_149 rfl rfl ?_
                  refine A_getOv (z := some 3) T_ok d_Reader_readEvent_150 f_Reader_12 (xi_s k17.1 sf_2) (xi_r k17.1 rff_2_0) ?_
                  refine A_callV0 m_Tokens_next T_ok d_Reader_readEvent_153 l_Reader_78 k_Tokens_next (xi_s k17.1 sf_3) rfl (by decide +kernel) (by decide) (Nat.le_of_ble_eq_true rfl) (s_Tokens_next k17.1 ) (fun r h67 hq => ?_)
                  obtain ⟨rfl, k68⟩ := hq
                  have k69 := kF_t k17 k68 (FB_A hS)
                  refine A_aload_n 0 d_Reader_readEvent_156 rfl rfl ?_
                  refine A_getOv (z := some 9) T_ok d_Reader_readEvent_157 f_Reader_21 (xi_s k69.1 sf_2) (xi_r k69.1 rff_2_1) ?_
                  refine A_sipush d_Reader_readEvent_160 rfl ?_
                  refine A_aload_n 1 d_Reader_readEvent_163 rfl rfl ?_
                  refine A_iload_n 3 d_Reader_readEvent_164 rfl rfl ?_
                  refine A_pc (pc' := 165) rfl ?_
                  refine A_iload d_Reader_readEvent_165 rfl ?_
                  refine A_iload d_Reader_readEvent_167 rfl ?_
                  refine A_callV3 m_Voice_endSound T_ok d_Reader_readEvent_169 l_Reader_175 k_Voice_endSound (xs_V k69.1 (tV_V hS ta1)) rfl (by decide +kernel) (by decide) (Nat.le_of_ble_eq_true rfl) (s_Voice_endSound k69.1 ta1 (by omega) (by omega) (by omega) (by omega) (by omega)) (fun r h71 hq => ?_)
                  obtain ⟨x73, rfl, ⟨_, _⟩, k72⟩ := hq
                  have k74 := kF_t k69 k72 (fun _ q => q)
                  refine A_iconst d_Reader_readEvent_172 rfl ?_
                  refine A_callV3 m_Parts_add T_ok d_Reader_readEvent_173 l_Reader_169 k_Parts_add (xi_s k74.1 sf_9) rfl (by decide +kernel) (by decide) (Nat.le_of_ble_eq_true rfl) (s_Parts_add k74.1 (by omega) (by omega) (by omega) (by omega) (fun q => by omega)) (fun r h75 hq => ?_)
                  obtain ⟨rfl, xk76, k76⟩ := hq
                  have k77 := kF_t k74 k76 (fun _ q => q)
                  refine A_iconst d_Reader_readEvent_176 rfl ?_
                  exact A_zret d_Reader_readEvent_177 (by decide) rfl (by omega) ⟨_, rfl, by omega, k77⟩
              · refine A_iload d_Reader_readEvent_67 rfl ?_
                refine A_iconst d_Reader_readEvent_69 rfl ?_
                refine A_icmp_ne (tgt := 86) d_Reader_readEvent_70 (by decide) (fun c78 => ?_) (fun c78 => ?_)
                · refine A_iincv (z := (i14 + 1)) (L' := [some (av_R (some 2)), some (av_R (some a1)), some (av_I 0), some (av_I x11), some (av_I (i14 + 1)), some (av_I i15)]) d_Reader_readEvent_86 rfl (w32_to (by omega) (by unfold i32; omega)) rfl ?_
                  refine A_aload_n 0 d_Reader_readEvent_89 rfl rfl ?_
                  refine A_getOv (z := some 3) T_ok d_Reader_readEvent_90 f_Reader_12 (xi_s k17.1 sf_2) (xi_r k17.1 rff_2_0) ?_
                  refine A_callV0 m_Tokens_next T_ok d_Reader_readEvent_93 l_Reader_78 k_Tokens_next (xi_s k17.1 sf_3) rfl (by decide +kernel) (by decide) (Nat.le_of_ble_eq_true rfl) (s_Tokens_next k17.1 ) (fun r h80 hq => ?_)
                  obtain ⟨rfl, k81⟩ := hq
                  have k82 := kF_t k17 k81 (FB_A hS)
                  refine A_iincv (z := (i15 + 1)) (L' := [some (av_R (some 2)), some (av_R (some a1)), some (av_I 0), some (av_I x11), some (av_I (i14 + 1)), some (av_I (i15 + 1))]) d_Reader_readEvent_96 rfl (w32_to (by omega) (by unfold i32; omega)) rfl ?_
                  refine A_goto (tgt := 49) d_Reader_readEvent_99 (by decide) ?_
                  exact ih49 (i14 + 1) (i15 + 1) h80 (by omega) (by omega) (by omega) (by omega) k82 (by omega)
                · refine A_aload_n 0 d_Reader_readEvent_73 rfl rfl ?_
                  refine A_iconst d_Reader_readEvent_74 rfl ?_
                  refine A_aload_n 0 d_Reader_readEvent_75 rfl rfl ?_
                  refine A_getOv (z := some 3) T_ok d_Reader_readEvent_76 f_Reader_12 (xi_s k17.1 sf_2) (xi_r k17.1 rff_2_0) ?_
                  refine A_getIf T_ok d_Reader_readEvent_79 f_Reader_75 (xi_s k17.1 sf_3) (fun x84 ex84 _ _ => ?_)
                  refine A_pc (pc' := 82) rfl ?_
                  refine A_callV2 m_Reader_blame T_ok d_Reader_readEvent_82 l_Reader_91 k_Reader_blame (xi_s k17.1 sf_2) rfl (by decide +kernel) (by decide) (Nat.le_of_ble_eq_true rfl) (s_Reader_blame k17.1 ) (fun r h85 hq => ?_)
                  obtain ⟨x87, rfl, ⟨_, _⟩, k86⟩ := hq
                  have k88 := kF_t k17 k86 (fun _ q => q)
                  obtain rfl : x87 = 0 := by omega
                  exact A_zret d_Reader_readEvent_85 (by decide) rfl (by omega) ⟨_, rfl, by omega, k88⟩
        exact lp49 _ 0 0 h9 (by omega) (by omega) (by omega) (by omega) k12 (Nat.lt_succ_self _)
      · refine A_iconst d_Reader_readEvent_41 rfl ?_
        exact A_zret d_Reader_readEvent_42 (by decide) rfl (by omega) ⟨_, rfl, by omega, k12⟩
    · refine A_iconst d_Reader_readEvent_27 rfl ?_
      exact A_zret d_Reader_readEvent_28 (by decide) rfl (by omega) ⟨_, rfl, by omega, k7⟩
  · refine A_iconst d_Reader_readEvent_13 rfl ?_
    refine A_goto (tgt := 18) d_Reader_readEvent_14 (by decide) ?_
    refine A_istore_n 2 (L' := [some (av_R (some 2)), some (av_R (some a1)), some (av_I 1), none, none, none]) d_Reader_readEvent_18 rfl (Nat.le_of_ble_eq_true rfl) rfl ?_
    refine A_aload_n 0 d_Reader_readEvent_19 rfl rfl ?_
    refine A_aload_n 1 d_Reader_readEvent_20 rfl rfl ?_
    refine A_callV1 m_Reader_readSound T_ok d_Reader_readEvent_21 l_Reader_172 k_Reader_readSound (xi_s k0.1 sf_2) rfl (by decide +kernel) (by decide) (Nat.le_of_ble_eq_true rfl) (s_Reader_readSound k0.1 ta1) (fun r h89 hq => ?_)
    obtain ⟨x91, rfl, bx91, k90⟩ := hq
    have k92 := kF_t k0 k90 (fun _ q => q)
    refine A_if_ne (tgt := 29) d_Reader_readEvent_24 (by decide) (fun c93 => ?_) (fun c93 => ?_)
    · refine A_aload_n 0 d_Reader_readEvent_29 rfl rfl ?_
      refine A_bipush d_Reader_readEvent_30 rfl ?_
      refine A_iconst d_Reader_readEvent_32 rfl ?_
      refine A_callV2 m_Reader_readNumber T_ok d_Reader_readEvent_33 l_Reader_99 k_Reader_readNumber (xi_s k92.1 sf_2) rfl (by decide +kernel) (by decide) (Nat.le_of_ble_eq_true rfl) (s_Reader_readNumber k92.1 (by omega) (by omega) (by omega)) (fun r h94 hq => ?_)
      obtain ⟨x96, rfl, ⟨_, _⟩, xx96, k95⟩ := hq
      have k97 := kF_t k92 k95 (fun _ q => q)
      refine A_istore_n 3 (L' := [some (av_R (some 2)), some (av_R (some a1)), some (av_I 1), some (av_I x96), none, none]) d_Reader_readEvent_36 rfl (Nat.le_of_ble_eq_true rfl) rfl ?_
      refine A_iload_n 3 d_Reader_readEvent_37 rfl rfl ?_
      refine A_if_ne (tgt := 43) d_Reader_readEvent_38 (by decide) (fun c98 => ?_) (fun c98 => ?_)
      · refine A_iconst d_Reader_readEvent_43 rfl ?_
        refine A_istore (L' := [some (av_R (some 2)), some (av_R (some a1)), some (av_I 1), some (av_I x96), some (av_I 0), none]) d_Reader_readEvent_44 (Nat.le_of_ble_eq_true rfl) rfl ?_
        refine A_iconst d_Reader_readEvent_46 rfl ?_
        refine A_istore (L' := [some (av_R (some 2)), some (av_R (some a1)), some (av_I 1), some (av_I x96), some (av_I 0), some (av_I 0)]) d_Reader_readEvent_47 (Nat.le_of_ble_eq_true rfl) rfl ?_
        have lp49 : ∀ (n : Nat) (i99 i100 : Int) (h101 : ah_T) , 0 ≤ i99 → i99 ≤ 3 → 0 ≤ i100 → i100 ≤ 4 → kF (FB s) s h h101 → (4 - i99).toNat < n → aw G (rm_R 3 0 0) m_Reader_readEvent 0 0 49 [some (av_R (some 2)), some (av_R (some a1)), some (av_I 1), some (av_I x96), some (av_I i99), some (av_I i100)] [] h101 (fun r h' => ∃ z, r = some (av_I z) ∧ (z = 0 ∨ z = 1) ∧ kF (FB s) s h h') := by
          intro n
          induction n with
          | zero => intro i99 i100 h101 _ _ _ _ _ hm; omega
          | succ n ih49 =>
            intro i99 i100 h101 hl0 hl1 hl2 hl3 k102 hm
            refine A_iload d_Reader_readEvent_49 rfl ?_
            refine A_iconst d_Reader_readEvent_51 rfl ?_
            refine A_icmp_gt (tgt := 102) d_Reader_readEvent_52 (by decide) (fun c103 => ?_) (fun c103 => ?_)
            · refine A_aload_n 0 d_Reader_readEvent_102 rfl rfl ?_
              refine A_getOv (z := some 3) T_ok d_Reader_readEvent_103 f_Reader_12 (xi_s k102.1 sf_2) (xi_r k102.1 rff_2_0) ?_
              refine A_getIf T_ok d_Reader_readEvent_106 f_Reader_50 (xi_s k102.1 sf_3) (fun x105 ex105 _ _ => ?_)
              refine A_bipush d_Reader_readEvent_109 rfl ?_
              refine A_icmp_ne (tgt := 118) d_Reader_readEvent_111 (by decide) (fun c106 => ?_) (fun c106 => ?_)
              · refine A_iconst d_Reader_readEvent_118 rfl ?_
                refine A_istore (L' := [some (av_R (some 2)), some (av_R (some a1)), some (av_I 1), some (av_I x96), some (av_I i99), some (av_I 0)]) d_Reader_readEvent_119 (Nat.le_of_ble_eq_true rfl) rfl ?_
                refine A_iload d_Reader_readEvent_121 rfl ?_
                refine A_if_eq (tgt := 144) d_Reader_readEvent_123 (by decide) (fun _ => ?_) (fun c => absurd c (by decide))
                refine A_iload d_Reader_readEvent_144 rfl ?_
                refine A_if_eq (tgt := 156) d_Reader_readEvent_146 (by decide) (fun _ => ?_) (fun c => absurd c (by decide))
                refine A_aload_n 0 d_Reader_readEvent_156 rfl rfl ?_
                refine A_getOv (z := some 9) T_ok d_Reader_readEvent_157 f_Reader_21 (xi_s k102.1 sf_2) (xi_r k102.1 rff_2_1) ?_
                refine A_sipush d_Reader_readEvent_160 rfl ?_
                refine A_aload_n 1 d_Reader_readEvent_163 rfl rfl ?_
                refine A_iload_n 3 d_Reader_readEvent_164 rfl rfl ?_
                refine A_pc (pc' := 165) rfl ?_
                refine A_iload d_Reader_readEvent_165 rfl ?_
                refine A_iload d_Reader_readEvent_167 rfl ?_
                refine A_callV3 m_Voice_endSound T_ok d_Reader_readEvent_169 l_Reader_175 k_Voice_endSound (xs_V k102.1 (tV_V hS ta1)) rfl (by decide +kernel) (by decide) (Nat.le_of_ble_eq_true rfl) (s_Voice_endSound k102.1 ta1 (by omega) (by omega) (by omega) (by omega) (by omega)) (fun r h110 hq => ?_)
                obtain ⟨x112, rfl, ⟨_, _⟩, k111⟩ := hq
                have k113 := kF_t k102 k111 (fun _ q => q)
                refine A_iconst d_Reader_readEvent_172 rfl ?_
                refine A_callV3 m_Parts_add T_ok d_Reader_readEvent_173 l_Reader_169 k_Parts_add (xi_s k113.1 sf_9) rfl (by decide +kernel) (by decide) (Nat.le_of_ble_eq_true rfl) (s_Parts_add k113.1 (by omega) (by omega) (by omega) (by omega) (fun q => by omega)) (fun r h114 hq => ?_)
                obtain ⟨rfl, xk115, k115⟩ := hq
                have k116 := kF_t k113 k115 (fun _ q => q)
                refine A_iconst d_Reader_readEvent_176 rfl ?_
                exact A_zret d_Reader_readEvent_177 (by decide) rfl (by omega) ⟨_, rfl, by omega, k116⟩
              · refine A_iconst d_Reader_readEvent_114 rfl ?_
                refine A_goto (tgt := 119) d_Reader_readEvent_115 (by decide) ?_
                refine A_istore (L' := [some (av_R (some 2)), some (av_R (some a1)), some (av_I 1), some (av_I x96), some (av_I i99), some (av_I 1)]) d_Reader_readEvent_119 (Nat.le_of_ble_eq_true rfl) rfl ?_
                refine A_iload d_Reader_readEvent_121 rfl ?_
                refine A_if_eq (tgt := 144) d_Reader_readEvent_123 (by decide) (fun c => absurd c (by decide)) (fun _ => ?_)
                refine A_iload_n 2 d_Reader_readEvent_126 rfl rfl ?_
                refine A_if_eq (tgt := 144) d_Reader_readEvent_127 (by decide) (fun c => absurd c (by decide)) (fun _ => ?_)
                refine A_aload_n 0 d_Reader_readEvent_130 rfl rfl ?_
                refine A_bipush d_Reader_readEvent_131 rfl ?_
                refine A_aload_n 0 d_Reader_readEvent_133 rfl rfl ?_
                refine A_getOv (z := some 3) T_ok d_Reader_readEvent_134 f_Reader_12 (xi_s k102.1 sf_2) (xi_r k102.1 rff_2_0) ?_
                refine A_getIf T_ok d_Reader_readEvent_137 f_Reader_75 (xi_s k102.1 sf_3) (fun x120 ex120 _ _ => ?_)
                refine A_pc (pc' := 140) rfl ?_
                refine A_callV2 m_Reader_blame T_ok d_Reader_readEvent_140 l_Reader_91 k_Reader_blame (xi_s k102.1 sf_2) rfl (by decide +kernel) (by decide) (Nat.le_of_ble_eq_true rfl) (s_Reader_blame k102.1 ) (fun r h121 hq => ?_)
                obtain ⟨x123, rfl, ⟨_, _⟩, k122⟩ := hq
                have k124 := kF_t k102 k122 (fun _ q => q)
                obtain rfl : x123 = 0 := by omega
                exact A_zret d_Reader_readEvent_143 (by decide) rfl (by omega) ⟨_, rfl, by omega, k124⟩
            · refine A_aload_n 0 d_Reader_readEvent_55 rfl rfl ?_
              refine A_getOv (z := some 3) T_ok d_Reader_readEvent_56 f_Reader_12 (xi_s k102.1 sf_2) (xi_r k102.1 rff_2_0) ?_
              refine A_getIf T_ok d_Reader_readEvent_59 f_Reader_50 (xi_s k102.1 sf_3) (fun x126 ex126 _ _ => ?_)
              refine A_bipush d_Reader_readEvent_62 rfl ?_
              refine A_icmp_ne (tgt := 102) d_Reader_readEvent_64 (by decide) (fun c127 => ?_) (fun c127 => ?_)
              · refine A_aload_n 0 d_Reader_readEvent_102 rfl rfl ?_
                refine A_getOv (z := some 3) T_ok d_Reader_readEvent_103 f_Reader_12 (xi_s k102.1 sf_2) (xi_r k102.1 rff_2_0) ?_
                refine A_getIv (z := x126) T_ok d_Reader_readEvent_106 f_Reader_50 (xi_s k102.1 sf_3) ex126.symm ?_
                refine A_bipush d_Reader_readEvent_109 rfl ?_
                refine A_icmp_ne (tgt := 118) d_Reader_readEvent_111 (by decide) (fun c130 => ?_) (fun c130 => ?_)
                · refine A_iconst d_Reader_readEvent_118 rfl ?_
                  refine A_istore (L' := [some (av_R (some 2)), some (av_R (some a1)), some (av_I 1), some (av_I x96), some (av_I i99), some (av_I 0)]) d_Reader_readEvent_119 (Nat.le_of_ble_eq_true rfl) rfl ?_
                  refine A_iload d_Reader_readEvent_121 rfl ?_
                  refine A_if_eq (tgt := 144) d_Reader_readEvent_123 (by decide) (fun _ => ?_) (fun c => absurd c (by decide))
                  refine A_iload d_Reader_readEvent_144 rfl ?_
                  refine A_if_eq (tgt := 156) d_Reader_readEvent_146 (by decide) (fun _ => ?_) (fun c => absurd c (by decide))
                  refine A_aload_n 0 d_Reader_readEvent_156 rfl rfl ?_
                  refine A_getOv (z := some 9) T_ok d_Reader_readEvent_157 f_Reader_21 (xi_s k102.1 sf_2) (xi_r k102.1 rff_2_1) ?_
                  refine A_sipush d_Reader_readEvent_160 rfl ?_
                  refine A_aload_n 1 d_Reader_readEvent_163 rfl rfl ?_
                  refine A_iload_n 3 d_Reader_readEvent_164 rfl rfl ?_
                  refine A_pc (pc' := 165) rfl ?_
                  refine A_iload d_Reader_readEvent_165 rfl ?_
                  refine A_iload d_Reader_readEvent_167 rfl ?_
                  refine A_callV3 m_Voice_endSound T_ok d_Reader_readEvent_169 l_Reader_175 k_Voice_endSound (xs_V k102.1 (tV_V hS ta1)) rfl (by decide +kernel) (by decide) (Nat.le_of_ble_eq_true rfl) (s_Voice_endSound k102.1 ta1 (by omega) (by omega) (by omega) (by omega) (by omega)) (fun r h134 hq => ?_)
                  obtain ⟨x136, rfl, ⟨_, _⟩, k135⟩ := hq
                  have k137 := kF_t k102 k135 (fun _ q => q)
                  refine A_iconst d_Reader_readEvent_172 rfl ?_
                  refine A_callV3 m_Parts_add T_ok d_Reader_readEvent_173 l_Reader_169 k_Parts_add (xi_s k137.1 sf_9) rfl (by decide +kernel) (by decide) (Nat.le_of_ble_eq_true rfl) (s_Parts_add k137.1 (by omega) (by omega) (by omega) (by omega) (fun q => by omega)) (fun r h138 hq => ?_)
                  obtain ⟨rfl, xk139, k139⟩ := hq
                  have k140 := kF_t k137 k139 (fun _ q => q)
                  refine A_iconst d_Reader_readEvent_176 rfl ?_
                  exact A_zret d_Reader_readEvent_177 (by decide) rfl (by omega) ⟨_, rfl, by omega, k140⟩
                · refine A_iconst d_Reader_readEvent_114 rfl ?_
                  refine A_goto (tgt := 119) d_Reader_readEvent_115 (by decide) ?_
                  refine A_istore (L' := [some (av_R (some 2)), some (av_R (some a1)), some (av_I 1), some (av_I x96), some (av_I i99), some (av_I 1)]) d_Reader_readEvent_119 (Nat.le_of_ble_eq_true rfl) rfl ?_
                  refine A_iload d_Reader_readEvent_121 rfl ?_
                  refine A_if_eq (tgt := 144) d_Reader_readEvent_123 (by decide) (fun c => absurd c (by decide)) (fun _ => ?_)
                  refine A_iload_n 2 d_Reader_readEvent_126 rfl rfl ?_
                  refine A_if_eq (tgt := 144) d_Reader_readEvent_127 (by decide) (fun c => absurd c (by decide)) (fun _ => ?_)
                  refine A_aload_n 0 d_Reader_readEvent_130 rfl rfl ?_
                  refine A_bipush d_Reader_readEvent_131 rfl ?_
                  refine A_aload_n 0 d_Reader_readEvent_133 rfl rfl ?_
                  refine A_getOv (z := some 3) T_ok d_Reader_readEvent_134 f_Reader_12 (xi_s k102.1 sf_2) (xi_r k102.1 rff_2_0) ?_
                  refine A_getIf T_ok d_Reader_readEvent_137 f_Reader_75 (xi_s k102.1 sf_3) (fun x144 ex144 _ _ => ?_)
                  refine A_pc (pc' := 140) rfl ?_
                  refine A_callV2 m_Reader_blame T_ok d_Reader_readEvent_140 l_Reader_91 k_Reader_blame (xi_s k102.1 sf_2) rfl (by decide +kernel) (by decide) (Nat.le_of_ble_eq_true rfl) (s_Reader_blame k102.1 ) (fun r h145 hq => ?_)
                  obtain ⟨x147, rfl, ⟨_, _⟩, k146⟩ := hq
                  have k148 := kF_t k102 k146 (fun _ q => q)
                  obtain rfl : x147 = 0 := by omega
                  exact A_zret d_Reader_readEvent_143 (by decide) rfl (by omega) ⟨_, rfl, by omega, k148⟩
              · refine A_iload d_Reader_readEvent_67 rfl ?_
                refine A_iconst d_Reader_readEvent_69 rfl ?_
                refine A_icmp_ne (tgt := 86) d_Reader_readEvent_70 (by decide) (fun c149 => ?_) (fun c149 => ?_)
                · refine A_iincv (z := (i99 + 1)) (L' := [some (av_R (some 2)), some (av_R (some a1)), some (av_I 1), some (av_I x96), some (av_I (i99 + 1)), some (av_I i100)]) d_Reader_readEvent_86 rfl (w32_to (by omega) (by unfold i32; omega)) rfl ?_
                  refine A_aload_n 0 d_Reader_readEvent_89 rfl rfl ?_
                  refine A_getOv (z := some 3) T_ok d_Reader_readEvent_90 f_Reader_12 (xi_s k102.1 sf_2) (xi_r k102.1 rff_2_0) ?_
                  refine A_callV0 m_Tokens_next T_ok d_Reader_readEvent_93 l_Reader_78 k_Tokens_next (xi_s k102.1 sf_3) rfl (by decide +kernel) (by decide) (Nat.le_of_ble_eq_true rfl) (s_Tokens_next k102.1 ) (fun r h151 hq => ?_)
                  obtain ⟨rfl, k152⟩ := hq
                  have k153 := kF_t k102 k152 (FB_A hS)
                  refine A_iincv (z := (i100 + 1)) (L' := [some (av_R (some 2)), some (av_R (some a1)), some (av_I 1), some (av_I x96), some (av_I (i99 + 1)), some (av_I (i100 + 1))]) d_Reader_readEvent_96 rfl (w32_to (by omega) (by unfold i32; omega)) rfl ?_
                  refine A_goto (tgt := 49) d_Reader_readEvent_99 (by decide) ?_
                  exact ih49 (i99 + 1) (i100 + 1) h151 (by omega) (by omega) (by omega) (by omega) k153 (by omega)
                · refine A_aload_n 0 d_Reader_readEvent_73 rfl rfl ?_
                  refine A_iconst d_Reader_readEvent_74 rfl ?_
                  refine A_aload_n 0 d_Reader_readEvent_75 rfl rfl ?_
                  refine A_getOv (z := some 3) T_ok d_Reader_readEvent_76 f_Reader_12 (xi_s k102.1 sf_2) (xi_r k102.1 rff_2_0) ?_
                  refine A_getIf T_ok d_Reader_readEvent_79 f_Reader_75 (xi_s k102.1 sf_3) (fun x155 ex155 _ _ => ?_)
                  refine A_pc (pc' := 82) rfl ?_
                  refine A_callV2 m_Reader_blame T_ok d_Reader_readEvent_82 l_Reader_91 k_Reader_blame (xi_s k102.1 sf_2) rfl (by decide +kernel) (by decide) (Nat.le_of_ble_eq_true rfl) (s_Reader_blame k102.1 ) (fun r h156 hq => ?_)
                  obtain ⟨x158, rfl, ⟨_, _⟩, k157⟩ := hq
                  have k159 := kF_t k102 k157 (fun _ q => q)
                  obtain rfl : x158 = 0 := by omega
                  exact A_zret d_Reader_readEvent_85 (by decide) rfl (by omega) ⟨_, rfl, by omega, k159⟩
        exact lp49 _ 0 0 h94 (by omega) (by omega) (by omega) (by omega) k97 (Nat.lt_succ_self _)
      · refine A_iconst d_Reader_readEvent_41 rfl ?_
        exact A_zret d_Reader_readEvent_42 (by decide) rfl (by omega) ⟨_, rfl, by omega, k97⟩
    · refine A_iconst d_Reader_readEvent_27 rfl ?_
      exact A_zret d_Reader_readEvent_28 (by decide) rfl (by omega) ⟨_, rfl, by omega, k92⟩
theorem s_Reader_readVoice {G : cx_T} {s : Nat} {h : ah_T} (hx : xi s h)   : con G 22 0 0 m_Reader_readVoice [av_R (some 2)] h (fun r h' => ∃ z, r = some (av_I z) ∧ (z = 0 ∨ z = 1) ∧ kF (FB s) s h h') := by
  refine con_of (L := [some (av_R (some 2)), none, none, none, none]) (by decide +kernel) (Nat.le_of_ble_eq_true rfl) rfl ?_
  have hS : isS s := hx.2.1
  have hs0 : s = 17 ∨ s = 80 := hS
  have hs0b : 17 ≤ s ∧ s ≤ 80 := by omega
  have k0 : kF (FB s) s h h := kF_0 hx
  refine A_aload_n 0 d_Reader_readVoice_0 rfl rfl ?_
  refine A_getOv (z := some 3) T_ok d_Reader_readVoice_1 f_Reader_12 (xi_s k0.1 sf_2) (xi_r k0.1 rff_2_0) ?_
  refine A_getIf T_ok d_Reader_readVoice_4 f_Reader_75 (xi_s k0.1 sf_3) (fun x2 ex2 _ _ => ?_)
  refine A_istore_n 1 (L' := [some (av_R (some 2)), some (av_I x2), none, none, none]) d_Reader_readVoice_7 rfl (Nat.le_of_ble_eq_true rfl) rfl ?_
  refine A_aload_n 0 d_Reader_readVoice_8 rfl rfl ?_
  refine A_pc (pc' := 9) rfl ?_
  refine A_getOv (z := some s) T_ok d_Reader_readVoice_9 f_Reader_32 (xi_s k0.1 sf_2) k0.1.2.2.2.1 ?_
  refine A_callV0 m_Score_newVoice T_ok d_Reader_readVoice_12 l_Reader_135 k_Score_newVoice (xs_S k0.1 hS) rfl (by decide +kernel) (by decide) (Nat.le_of_ble_eq_true rfl) (s_Score_newVoice k0.1 ) (fun r h4 hq => ?_)
  obtain ⟨ox6, rfl, qx6, k5⟩ := hq
  have k7 := kF_t k0 k5 (fun _ q => q)
  rcases qx6 with rfl | ⟨x6, rfl, tx6⟩
  · refine A_astore_n 2 (L' := [some (av_R (some 2)), some (av_I x2), some (av_R none), none, none]) d_Reader_readVoice_15 rfl (Nat.le_of_ble_eq_true rfl) rfl ?_
    refine A_aload_n 2 d_Reader_readVoice_16 rfl rfl ?_
    refine A_ifnonnull (tgt := 27) d_Reader_readVoice_17 (by decide) (fun a q => by cases q) (fun _ => ?_)
    refine A_aload_n 0 d_Reader_readVoice_20 rfl rfl ?_
    refine A_iconst d_Reader_readVoice_21 rfl ?_
    refine A_iload_n 1 d_Reader_readVoice_22 rfl rfl ?_
    refine A_callV2 m_Reader_blame T_ok d_Reader_readVoice_23 l_Reader_91 k_Reader_blame (xi_s k7.1 sf_2) rfl (by decide +kernel) (by decide) (Nat.le_of_ble_eq_true rfl) (s_Reader_blame k7.1 ) (fun r h8 hq => ?_)
    obtain ⟨x10, rfl, ⟨_, _⟩, k9⟩ := hq
    have k11 := kF_t k7 k9 (fun _ q => q)
    obtain rfl : x10 = 0 := by omega
    exact A_zret d_Reader_readVoice_26 (by decide) rfl (by omega) ⟨_, rfl, by omega, k11⟩
  · refine A_astore_n 2 (L' := [some (av_R (some 2)), some (av_I x2), some (av_R (some x6)), none, none]) d_Reader_readVoice_15 rfl (Nat.le_of_ble_eq_true rfl) rfl ?_
    refine A_aload_n 2 d_Reader_readVoice_16 rfl rfl ?_
    refine A_ifnonnull (tgt := 27) d_Reader_readVoice_17 (by decide) (fun _ _ => ?_) (fun q => by cases q)
    refine A_aload_n 0 d_Reader_readVoice_27 rfl rfl ?_
    refine A_getOv (z := some 3) T_ok d_Reader_readVoice_28 f_Reader_12 (xi_s k7.1 sf_2) (xi_r k7.1 rff_2_0) ?_
    refine A_callV0 m_Tokens_next T_ok d_Reader_readVoice_31 l_Reader_78 k_Tokens_next (xi_s k7.1 sf_3) rfl (by decide +kernel) (by decide) (Nat.le_of_ble_eq_true rfl) (s_Tokens_next k7.1 ) (fun r h13 hq => ?_)
    obtain ⟨rfl, k14⟩ := hq
    have k15 := kF_t k7 k14 (FB_A hS)
    refine A_aload_n 0 d_Reader_readVoice_34 rfl rfl ?_
    refine A_getOv (z := some 9) T_ok d_Reader_readVoice_35 f_Reader_21 (xi_s k15.1 sf_2) (xi_r k15.1 rff_2_1) ?_
    refine A_callV0 m_Parts_clear T_ok d_Reader_readVoice_38 l_Reader_139 k_Parts_clear (xi_s k15.1 sf_9) rfl (by decide +kernel) (by decide) (Nat.le_of_ble_eq_true rfl) (s_Parts_clear k15.1 ) (fun r h17 hq => ?_)
    obtain ⟨rfl, k18⟩ := hq
    have k19 := kF_t k15 k18 (fun _ q => q)
    refine A_aload_n 0 d_Reader_readVoice_41 rfl rfl ?_
    refine A_iconst d_Reader_readVoice_42 rfl ?_
    refine A_putIk (KR := kF (FB s) s h) T_ok d_Reader_readVoice_43 f_Reader_140 (xi_s k19.1 sf_2) fin_f (kF_j k19 (by omega) (ns_b rfl) rgf_2_4 (by omega) (by omega)) (fun h20 k21 eh20 => ?_)
    refine A_iconst d_Reader_readVoice_46 rfl ?_
    refine A_istore_n 3 (L' := [some (av_R (some 2)), some (av_I x2), some (av_R (some x6)), some (av_I 1), none]) d_Reader_readVoice_47 rfl (Nat.le_of_ble_eq_true rfl) rfl ?_
    refine A_pc (pc' := 48) rfl ?_
    refine A_iconst d_Reader_readVoice_48 rfl ?_
    refine A_istore (L' := [some (av_R (some 2)), some (av_I x2), some (av_R (some x6)), some (av_I 1), some (av_I 0)]) d_Reader_readVoice_49 (Nat.le_of_ble_eq_true rfl) rfl ?_
    have lp51 : ∀ (n : Nat) (i22 i23 : Int) (h24 : ah_T) , 0 ≤ i22 → i22 ≤ 1 → 0 ≤ i23 → i23 ≤ 2001 → kF (FB s) s h h24 → (2002 - i23).toNat < n → aw G (rm_R 22 0 0) m_Reader_readVoice 0 0 51 [some (av_R (some 2)), some (av_I x2), some (av_R (some x6)), some (av_I i22), some (av_I i23)] [] h24 (fun r h' => ∃ z, r = some (av_I z) ∧ (z = 0 ∨ z = 1) ∧ kF (FB s) s h h') := by
      intro n
      induction n with
      | zero => intro i22 i23 h24 _ _ _ _ _ hm; omega
      | succ n ih51 =>
        intro i22 i23 h24 hl0 hl1 hl2 hl3 k25 hm
        refine A_iload d_Reader_readVoice_51 rfl ?_
        refine A_sipush d_Reader_readVoice_53 rfl ?_
        refine A_icmp_gt (tgt := 125) d_Reader_readVoice_56 (by decide) (fun c26 => ?_) (fun c26 => ?_)
        · refine A_aload_n 0 d_Reader_readVoice_125 rfl rfl ?_
          refine A_getIf T_ok d_Reader_readVoice_126 f_Reader_43 (xi_s k25.1 sf_2) (fun x27 ex27 _ _ => ?_)
          refine A_if_eq (tgt := 134) d_Reader_readVoice_129 (by decide) (fun c28 => ?_) (fun c28 => ?_)
          · refine A_aload_n 0 d_Reader_readVoice_134 rfl rfl ?_
            refine A_getOv (z := some 3) T_ok d_Reader_readVoice_135 f_Reader_12 (xi_s k25.1 sf_2) (xi_r k25.1 rff_2_0) ?_
            refine A_getIf T_ok d_Reader_readVoice_138 f_Reader_50 (xi_s k25.1 sf_3) (fun x30 ex30 _ _ => ?_)
            refine A_bipush d_Reader_readVoice_141 rfl ?_
            refine A_icmp_ne (tgt := 156) d_Reader_readVoice_143 (by decide) (fun c31 => ?_) (fun c31 => ?_)
            · refine A_aload_n 0 d_Reader_readVoice_156 rfl rfl ?_
              refine A_callV0 m_Reader_refuse T_ok d_Reader_readVoice_157 l_Reader_69 k_Reader_refuse (xi_s k25.1 sf_2) rfl (by decide +kernel) (by decide) (Nat.le_of_ble_eq_true rfl) (s_Reader_refuse k25.1 ) (fun r h32 hq => ?_)
              obtain ⟨x34, rfl, ⟨_, _⟩, k33⟩ := hq
              have k35 := kF_t k25 k33 (fun _ q => q)
              obtain rfl : x34 = 0 := by omega
              exact A_zret d_Reader_readVoice_160 (by decide) rfl (by omega) ⟨_, rfl, by omega, k35⟩
            · refine A_aload_n 0 d_Reader_readVoice_146 rfl rfl ?_
              refine A_getOv (z := some 9) T_ok d_Reader_readVoice_147 f_Reader_21 (xi_s k25.1 sf_2) (xi_r k25.1 rff_2_1) ?_
              refine A_getIn (lo := 0) (hi := 7) T_ok d_Reader_readVoice_150 f_Reader_156 (xi_s k25.1 sf_9) (xi_g k25.1 (by decide) rgf_9_7) (fun x37 ex37 _ _ => ?_)
              refine A_if_le (tgt := 161) d_Reader_readVoice_153 (by decide) (fun c38 => ?_) (fun c38 => ?_)
              · refine A_aload_n 0 d_Reader_readVoice_161 rfl rfl ?_
                refine A_getOv (z := some 9) T_ok d_Reader_readVoice_162 f_Reader_21 (xi_s k25.1 sf_2) (xi_r k25.1 rff_2_1) ?_
                refine A_aload_n 2 d_Reader_readVoice_165 rfl rfl ?_
                refine A_callV1 m_Parts_walkInto T_ok d_Reader_readVoice_166 l_Reader_159 k_Parts_walkInto (xi_s k25.1 sf_9) rfl (by decide +kernel) (by decide) (Nat.le_of_ble_eq_true rfl) (s_Parts_walkInto k25.1 tx6) (fun r h40 hq => ?_)
                obtain ⟨x42, rfl, ⟨_, _⟩, k41⟩ := hq
                have k43 := kF_t k25 k41 (fun _ q => q)
                refine A_istore (L' := [some (av_R (some 2)), some (av_I x2), some (av_R (some x6)), some (av_I i22), some (av_I x42)]) d_Reader_readVoice_169 (Nat.le_of_ble_eq_true rfl) rfl ?_
                refine A_iload d_Reader_readVoice_171 rfl ?_
                refine A_if_eq (tgt := 184) d_Reader_readVoice_173 (by decide) (fun c44 => ?_) (fun c44 => ?_)
                · refine A_aload_n 0 d_Reader_readVoice_184 rfl rfl ?_
                  refine A_getOv (z := some 3) T_ok d_Reader_readVoice_185 f_Reader_12 (xi_s k43.1 sf_2) (xi_r k43.1 rff_2_0) ?_
                  refine A_callV0 m_Tokens_next T_ok d_Reader_readVoice_188 l_Reader_78 k_Tokens_next (xi_s k43.1 sf_3) rfl (by decide +kernel) (by decide) (Nat.le_of_ble_eq_true rfl) (s_Tokens_next k43.1 ) (fun r h46 hq => ?_)
                  obtain ⟨rfl, k47⟩ := hq
                  have k48 := kF_t k43 k47 (FB_A hS)
                  refine A_iconst d_Reader_readVoice_191 rfl ?_
                  exact A_zret d_Reader_readVoice_192 (by decide) rfl (by omega) ⟨_, rfl, by omega, k48⟩
                · refine A_aload_n 0 d_Reader_readVoice_176 rfl rfl ?_
                  refine A_iload d_Reader_readVoice_177 rfl ?_
                  refine A_iload_n 1 d_Reader_readVoice_179 rfl rfl ?_
                  refine A_callV2 m_Reader_blame T_ok d_Reader_readVoice_180 l_Reader_91 k_Reader_blame (xi_s k43.1 sf_2) rfl (by decide +kernel) (by decide) (Nat.le_of_ble_eq_true rfl) (s_Reader_blame k43.1 ) (fun r h49 hq => ?_)
                  obtain ⟨x51, rfl, ⟨_, _⟩, k50⟩ := hq
                  have k52 := kF_t k43 k50 (fun _ q => q)
                  obtain rfl : x51 = 0 := by omega
                  exact A_zret d_Reader_readVoice_183 (by decide) rfl (by omega) ⟨_, rfl, by omega, k52⟩
              · refine A_aload_n 0 d_Reader_readVoice_156 rfl rfl ?_
                refine A_callV0 m_Reader_refuse T_ok d_Reader_readVoice_157 l_Reader_69 k_Reader_refuse (xi_s k25.1 sf_2) rfl (by decide +kernel) (by decide) (Nat.le_of_ble_eq_true rfl) (s_Reader_refuse k25.1 ) (fun r h53 hq => ?_)
                obtain ⟨x55, rfl, ⟨_, _⟩, k54⟩ := hq
                have k56 := kF_t k25 k54 (fun _ q => q)
                obtain rfl : x55 = 0 := by omega
                exact A_zret d_Reader_readVoice_160 (by decide) rfl (by omega) ⟨_, rfl, by omega, k56⟩
          · refine A_iconst d_Reader_readVoice_132 rfl ?_
            exact A_zret d_Reader_readVoice_133 (by decide) rfl (by omega) ⟨_, rfl, by omega, k25⟩
        · refine A_iload_n 3 d_Reader_readVoice_59 rfl rfl ?_
          refine A_if_eq (tgt := 125) d_Reader_readVoice_60 (by decide) (fun c57 => ?_) (fun c57 => ?_)
          · refine A_aload_n 0 d_Reader_readVoice_125 rfl rfl ?_
            refine A_getIf T_ok d_Reader_readVoice_126 f_Reader_43 (xi_s k25.1 sf_2) (fun x58 ex58 _ _ => ?_)
            refine A_if_eq (tgt := 134) d_Reader_readVoice_129 (by decide) (fun c59 => ?_) (fun c59 => ?_)
            · refine A_aload_n 0 d_Reader_readVoice_134 rfl rfl ?_
              refine A_getOv (z := some 3) T_ok d_Reader_readVoice_135 f_Reader_12 (xi_s k25.1 sf_2) (xi_r k25.1 rff_2_0) ?_
              refine A_getIf T_ok d_Reader_readVoice_138 f_Reader_50 (xi_s k25.1 sf_3) (fun x61 ex61 _ _ => ?_)
              refine A_bipush d_Reader_readVoice_141 rfl ?_
              refine A_icmp_ne (tgt := 156) d_Reader_readVoice_143 (by decide) (fun c62 => ?_) (fun c62 => ?_)
              · refine A_aload_n 0 d_Reader_readVoice_156 rfl rfl ?_
                refine A_callV0 m_Reader_refuse T_ok d_Reader_readVoice_157 l_Reader_69 k_Reader_refuse (xi_s k25.1 sf_2) rfl (by decide +kernel) (by decide) (Nat.le_of_ble_eq_true rfl) (s_Reader_refuse k25.1 ) (fun r h63 hq => ?_)
                obtain ⟨x65, rfl, ⟨_, _⟩, k64⟩ := hq
                have k66 := kF_t k25 k64 (fun _ q => q)
                obtain rfl : x65 = 0 := by omega
                exact A_zret d_Reader_readVoice_160 (by decide) rfl (by omega) ⟨_, rfl, by omega, k66⟩
              · refine A_aload_n 0 d_Reader_readVoice_146 rfl rfl ?_
                refine A_getOv (z := some 9) T_ok d_Reader_readVoice_147 f_Reader_21 (xi_s k25.1 sf_2) (xi_r k25.1 rff_2_1) ?_
                refine A_getIn (lo := 0) (hi := 7) T_ok d_Reader_readVoice_150 f_Reader_156 (xi_s k25.1 sf_9) (xi_g k25.1 (by decide) rgf_9_7) (fun x68 ex68 _ _ => ?_)
                refine A_if_le (tgt := 161) d_Reader_readVoice_153 (by decide) (fun c69 => ?_) (fun c69 => ?_)
                · refine A_aload_n 0 d_Reader_readVoice_161 rfl rfl ?_
                  refine A_getOv (z := some 9) T_ok d_Reader_readVoice_162 f_Reader_21 (xi_s k25.1 sf_2) (xi_r k25.1 rff_2_1) ?_
                  refine A_aload_n 2 d_Reader_readVoice_165 rfl rfl ?_
                  refine A_callV1 m_Parts_walkInto T_ok d_Reader_readVoice_166 l_Reader_159 k_Parts_walkInto (xi_s k25.1 sf_9) rfl (by decide +kernel) (by decide) (Nat.le_of_ble_eq_true rfl) (s_Parts_walkInto k25.1 tx6) (fun r h71 hq => ?_)
                  obtain ⟨x73, rfl, ⟨_, _⟩, k72⟩ := hq
                  have k74 := kF_t k25 k72 (fun _ q => q)
                  refine A_istore (L' := [some (av_R (some 2)), some (av_I x2), some (av_R (some x6)), some (av_I i22), some (av_I x73)]) d_Reader_readVoice_169 (Nat.le_of_ble_eq_true rfl) rfl ?_
                  refine A_iload d_Reader_readVoice_171 rfl ?_
                  refine A_if_eq (tgt := 184) d_Reader_readVoice_173 (by decide) (fun c75 => ?_) (fun c75 => ?_)
                  · refine A_aload_n 0 d_Reader_readVoice_184 rfl rfl ?_
                    refine A_getOv (z := some 3) T_ok d_Reader_readVoice_185 f_Reader_12 (xi_s k74.1 sf_2) (xi_r k74.1 rff_2_0) ?_
                    refine A_callV0 m_Tokens_next T_ok d_Reader_readVoice_188 l_Reader_78 k_Tokens_next (xi_s k74.1 sf_3) rfl (by decide +kernel) (by decide) (Nat.le_of_ble_eq_true rfl) (s_Tokens_next k74.1 ) (fun r h77 hq => ?_)
                    obtain ⟨rfl, k78⟩ := hq
                    have k79 := kF_t k74 k78 (FB_A hS)
                    refine A_iconst d_Reader_readVoice_191 rfl ?_
                    exact A_zret d_Reader_readVoice_192 (by decide) rfl (by omega) ⟨_, rfl, by omega, k79⟩
                  · refine A_aload_n 0 d_Reader_readVoice_176 rfl rfl ?_
                    refine A_iload d_Reader_readVoice_177 rfl ?_
                    refine A_iload_n 1 d_Reader_readVoice_179 rfl rfl ?_
                    refine A_callV2 m_Reader_blame T_ok d_Reader_readVoice_180 l_Reader_91 k_Reader_blame (xi_s k74.1 sf_2) rfl (by decide +kernel) (by decide) (Nat.le_of_ble_eq_true rfl) (s_Reader_blame k74.1 ) (fun r h80 hq => ?_)
                    obtain ⟨x82, rfl, ⟨_, _⟩, k81⟩ := hq
                    have k83 := kF_t k74 k81 (fun _ q => q)
                    obtain rfl : x82 = 0 := by omega
                    exact A_zret d_Reader_readVoice_183 (by decide) rfl (by omega) ⟨_, rfl, by omega, k83⟩
                · refine A_aload_n 0 d_Reader_readVoice_156 rfl rfl ?_
                  refine A_callV0 m_Reader_refuse T_ok d_Reader_readVoice_157 l_Reader_69 k_Reader_refuse (xi_s k25.1 sf_2) rfl (by decide +kernel) (by decide) (Nat.le_of_ble_eq_true rfl) (s_Reader_refuse k25.1 ) (fun r h84 hq => ?_)
                  obtain ⟨x86, rfl, ⟨_, _⟩, k85⟩ := hq
                  have k87 := kF_t k25 k85 (fun _ q => q)
                  obtain rfl : x86 = 0 := by omega
                  exact A_zret d_Reader_readVoice_160 (by decide) rfl (by omega) ⟨_, rfl, by omega, k87⟩
            · refine A_iconst d_Reader_readVoice_132 rfl ?_
              exact A_zret d_Reader_readVoice_133 (by decide) rfl (by omega) ⟨_, rfl, by omega, k25⟩
          · refine A_aload_n 0 d_Reader_readVoice_63 rfl rfl ?_
            refine A_callV0 m_Reader_beginsEvent T_ok d_Reader_readVoice_64 l_Reader_143 k_Reader_beginsEvent (xi_s k25.1 sf_2) rfl (by decide +kernel) (by decide) (Nat.le_of_ble_eq_true rfl) (s_Reader_beginsEvent k25.1 ) (fun r h88 hq => ?_)
            obtain ⟨x90, rfl, bx90, rfl⟩ := hq
            refine A_if_eq (tgt := 94) d_Reader_readVoice_67 (by decide) (fun c91 => ?_) (fun c91 => ?_)
            · refine A_aload_n 0 d_Reader_readVoice_94 rfl rfl ?_
              refine A_getOv (z := some 3) T_ok d_Reader_readVoice_95 f_Reader_12 (xi_s k25.1 sf_2) (xi_r k25.1 rff_2_0) ?_
              refine A_getIf T_ok d_Reader_readVoice_98 f_Reader_50 (xi_s k25.1 sf_3) (fun x93 ex93 _ _ => ?_)
              refine A_bipush d_Reader_readVoice_101 rfl ?_
              refine A_icmp_eq (tgt := 117) d_Reader_readVoice_103 (by decide) (fun c94 => ?_) (fun c94 => ?_)
              · refine A_iconst d_Reader_readVoice_117 rfl ?_
                refine A_istore_n 3 (L' := [some (av_R (some 2)), some (av_I x2), some (av_R (some x6)), some (av_I 0), some (av_I i23)]) d_Reader_readVoice_118 rfl (Nat.le_of_ble_eq_true rfl) rfl ?_
                refine A_iincv (z := (i23 + 1)) (L' := [some (av_R (some 2)), some (av_I x2), some (av_R (some x6)), some (av_I 0), some (av_I (i23 + 1))]) d_Reader_readVoice_119 rfl (w32_to (by omega) (by unfold i32; omega)) rfl ?_
                refine A_goto (tgt := 51) d_Reader_readVoice_122 (by decide) ?_
                exact ih51 0 (i23 + 1) h24 (by omega) (by omega) (by omega) (by omega) k25 (by omega)
              · refine A_aload_n 0 d_Reader_readVoice_106 rfl rfl ?_
                refine A_callV0 m_Reader_readPart T_ok d_Reader_readVoice_107 l_Reader_153 k_Reader_readPart (xi_s k25.1 sf_2) rfl (by decide +kernel) (by decide) (Nat.le_of_ble_eq_true rfl) (s_Reader_readPart k25.1 ) (fun r h95 hq => ?_)
                obtain ⟨x97, rfl, bx97, k96⟩ := hq
                have k98 := kF_t k25 k96 (fun _ q => q)
                refine A_if_eq (tgt := 117) d_Reader_readVoice_110 (by decide) (fun c99 => ?_) (fun c99 => ?_)
                · refine A_iconst d_Reader_readVoice_117 rfl ?_
                  refine A_istore_n 3 (L' := [some (av_R (some 2)), some (av_I x2), some (av_R (some x6)), some (av_I 0), some (av_I i23)]) d_Reader_readVoice_118 rfl (Nat.le_of_ble_eq_true rfl) rfl ?_
                  refine A_iincv (z := (i23 + 1)) (L' := [some (av_R (some 2)), some (av_I x2), some (av_R (some x6)), some (av_I 0), some (av_I (i23 + 1))]) d_Reader_readVoice_119 rfl (w32_to (by omega) (by unfold i32; omega)) rfl ?_
                  refine A_goto (tgt := 51) d_Reader_readVoice_122 (by decide) ?_
                  exact ih51 0 (i23 + 1) h95 (by omega) (by omega) (by omega) (by omega) k98 (by omega)
                · refine A_iconst d_Reader_readVoice_113 rfl ?_
                  refine A_goto (tgt := 118) d_Reader_readVoice_114 (by decide) ?_
                  refine A_istore_n 3 (L' := [some (av_R (some 2)), some (av_I x2), some (av_R (some x6)), some (av_I 1), some (av_I i23)]) d_Reader_readVoice_118 rfl (Nat.le_of_ble_eq_true rfl) rfl ?_
                  refine A_iincv (z := (i23 + 1)) (L' := [some (av_R (some 2)), some (av_I x2), some (av_R (some x6)), some (av_I 1), some (av_I (i23 + 1))]) d_Reader_readVoice_119 rfl (w32_to (by omega) (by unfold i32; omega)) rfl ?_
                  refine A_goto (tgt := 51) d_Reader_readVoice_122 (by decide) ?_
                  exact ih51 1 (i23 + 1) h95 (by omega) (by omega) (by omega) (by omega) k98 (by omega)
            · refine A_aload_n 0 d_Reader_readVoice_70 rfl rfl ?_
              refine A_callV0 m_Reader_isShallow T_ok d_Reader_readVoice_71 l_Reader_146 k_Reader_isShallow (xi_s k25.1 sf_2) rfl (by decide +kernel) (by decide) (Nat.le_of_ble_eq_true rfl) (s_Reader_isShallow k25.1 ) (fun r h100 hq => ?_)
              obtain ⟨x102, rfl, bx102, k101⟩ := hq
              have k103 := kF_t k25 k101 (fun _ q => q)
              refine A_if_eq (tgt := 89) d_Reader_readVoice_74 (by decide) (fun c104 => ?_) (fun c104 => ?_)
              · refine A_iconst d_Reader_readVoice_89 rfl ?_
                refine A_istore_n 3 (L' := [some (av_R (some 2)), some (av_I x2), some (av_R (some x6)), some (av_I 0), some (av_I i23)]) d_Reader_readVoice_90 rfl (Nat.le_of_ble_eq_true rfl) rfl ?_
                refine A_goto (tgt := 119) d_Reader_readVoice_91 (by decide) ?_
                refine A_iincv (z := (i23 + 1)) (L' := [some (av_R (some 2)), some (av_I x2), some (av_R (some x6)), some (av_I 0), some (av_I (i23 + 1))]) d_Reader_readVoice_119 rfl (w32_to (by omega) (by unfold i32; omega)) rfl ?_
                refine A_goto (tgt := 51) d_Reader_readVoice_122 (by decide) ?_
                exact ih51 0 (i23 + 1) h100 (by omega) (by omega) (by omega) (by omega) k103 (by omega)
              · refine A_aload_n 0 d_Reader_readVoice_77 rfl rfl ?_
                refine A_aload_n 2 d_Reader_readVoice_78 rfl rfl ?_
                refine A_callV1 m_Reader_readEvent T_ok d_Reader_readVoice_79 l_Reader_149 k_Reader_readEvent (xi_s k103.1 sf_2) rfl (by decide +kernel) (by decide) (Nat.le_of_ble_eq_true rfl) (s_Reader_readEvent k103.1 tx6) (fun r h105 hq => ?_)
                obtain ⟨x107, rfl, bx107, k106⟩ := hq
                have k108 := kF_t k103 k106 (fun _ q => q)
                refine A_if_eq (tgt := 89) d_Reader_readVoice_82 (by decide) (fun c109 => ?_) (fun c109 => ?_)
                · refine A_iconst d_Reader_readVoice_89 rfl ?_
                  refine A_istore_n 3 (L' := [some (av_R (some 2)), some (av_I x2), some (av_R (some x6)), some (av_I 0), some (av_I i23)]) d_Reader_readVoice_90 rfl (Nat.le_of_ble_eq_true rfl) rfl ?_
                  refine A_goto (tgt := 119) d_Reader_readVoice_91 (by decide) ?_
                  refine A_iincv (z := (i23 + 1)) (L' := [some (av_R (some 2)), some (av_I x2), some (av_R (some x6)), some (av_I 0), some (av_I (i23 + 1))]) d_Reader_readVoice_119 rfl (w32_to (by omega) (by unfold i32; omega)) rfl ?_
                  refine A_goto (tgt := 51) d_Reader_readVoice_122 (by decide) ?_
                  exact ih51 0 (i23 + 1) h105 (by omega) (by omega) (by omega) (by omega) k108 (by omega)
                · refine A_iconst d_Reader_readVoice_85 rfl ?_
                  refine A_goto (tgt := 90) d_Reader_readVoice_86 (by decide) ?_
                  refine A_istore_n 3 (L' := [some (av_R (some 2)), some (av_I x2), some (av_R (some x6)), some (av_I 1), some (av_I i23)]) d_Reader_readVoice_90 rfl (Nat.le_of_ble_eq_true rfl) rfl ?_
                  refine A_goto (tgt := 119) d_Reader_readVoice_91 (by decide) ?_
                  refine A_iincv (z := (i23 + 1)) (L' := [some (av_R (some 2)), some (av_I x2), some (av_R (some x6)), some (av_I 1), some (av_I (i23 + 1))]) d_Reader_readVoice_119 rfl (w32_to (by omega) (by unfold i32; omega)) rfl ?_
                  refine A_goto (tgt := 51) d_Reader_readVoice_122 (by decide) ?_
                  exact ih51 1 (i23 + 1) h105 (by omega) (by omega) (by omega) (by omega) k108 (by omega)
    exact lp51 _ 1 0 h20 (by omega) (by omega) (by omega) (by omega) k21 (Nat.lt_succ_self _)
theorem s_Reader_read {G : cx_T} {s : Nat} {h : ah_T} (hx : xi s h) {a2 : Int} (la2 : 0 ≤ a2) (ua2 : a2 ≤ 2000) : con G 23 0 0 m_Reader_read [av_R (some 2), av_R (some 1), av_I a2] h (fun r h' => ∃ z, r = some (av_I z) ∧ ((-2147483648) ≤ z ∧ z ≤ 2147483647) ∧ kF (FB s) s h h') := by
  refine con_of (L := [some (av_R (some 2)), some (av_R (some 1)), some (av_I a2), none, none]) (by decide +kernel) (Nat.le_of_ble_eq_true rfl) rfl ?_
  have hS : isS s := hx.2.1
  have hs0 : s = 17 ∨ s = 80 := hS
  have hs0b : 17 ≤ s ∧ s ≤ 80 := by omega
  have k0 : kF (FB s) s h h := kF_0 hx
  refine A_aload_n 0 d_Reader_read_0 rfl rfl ?_
  refine A_getOv (z := some s) T_ok d_Reader_read_1 f_Reader_32 (xi_s k0.1 sf_2) k0.1.2.2.2.1 ?_
  refine A_callV0 m_Score_clear T_ok d_Reader_read_4 l_Reader_36 k_Score_clear (xs_S k0.1 hS) rfl (by decide +kernel) (by decide) (Nat.le_of_ble_eq_true rfl) (s_Score_clear k0.1 ) (fun r h2 hq => ?_)
  obtain ⟨rfl, k3⟩ := hq
  have k4 := kF_t k0 k3 (fun _ q => q)
  refine A_aload_n 0 d_Reader_read_7 rfl rfl ?_
  refine A_iconst d_Reader_read_8 rfl ?_
  refine A_putIk (KR := kF (FB s) s h) T_ok d_Reader_read_9 f_Reader_39 (xi_s k4.1 sf_2) fin_f (kF_j k4 (by omega) (ns_b rfl) rgf_2_3 (by omega) (by omega)) (fun h5 k6 eh5 => ?_)
  refine A_aload_n 0 d_Reader_read_12 rfl rfl ?_
  refine A_iconst d_Reader_read_13 rfl ?_
  refine A_pc (pc' := 14) rfl ?_
  refine A_putIk (KR := kF (FB s) s h) T_ok d_Reader_read_14 f_Reader_43 (xi_s k6.1 sf_2) fin_f (kF_j k6 (by omega) (ns_b rfl) rgf_2_6 (by omega) (by omega)) (fun h7 k8 eh7 => ?_)
  refine A_aload_n 0 d_Reader_read_17 rfl rfl ?_
  refine A_getOv (z := some 3) T_ok d_Reader_read_18 f_Reader_12 (xi_s k8.1 sf_2) (xi_r k8.1 rff_2_0) ?_
  refine A_aload_n 1 d_Reader_read_21 rfl rfl ?_
  refine A_iload_n 2 d_Reader_read_22 rfl rfl ?_
  refine A_callV2 m_Tokens_cutAll T_ok d_Reader_read_23 l_Reader_46 k_Tokens_cutAll (xi_s k8.1 sf_3) rfl (by decide +kernel) (by decide) (Nat.le_of_ble_eq_true rfl) (s_Tokens_cutAll k8.1 (by omega) (by omega)) (fun r h10 hq => ?_)
  obtain ⟨rfl, k11⟩ := hq
  have k12 := kF_t k8 k11 (FB_A hS)
  refine A_iconst d_Reader_read_26 rfl ?_
  refine A_istore_n 3 (L' := [some (av_R (some 2)), some (av_R (some 1)), some (av_I a2), some (av_I 1), none]) d_Reader_read_27 rfl (Nat.le_of_ble_eq_true rfl) rfl ?_
  refine A_iconst d_Reader_read_28 rfl ?_
  refine A_istore (L' := [some (av_R (some 2)), some (av_R (some 1)), some (av_I a2), some (av_I 1), some (av_I 0)]) d_Reader_read_29 (Nat.le_of_ble_eq_true rfl) rfl ?_
  have lp31 : ∀ (n : Nat) (i13 i14 : Int) (h15 : ah_T) , 0 ≤ i13 → i13 ≤ 1 → 0 ≤ i14 → i14 ≤ 2000 → kF (FB s) s h h15 → (2001 - i14).toNat < n → aw G (rm_R 23 0 0) m_Reader_read 0 0 31 [some (av_R (some 2)), some (av_R (some 1)), some (av_I a2), some (av_I i13), some (av_I i14)] [] h15 (fun r h' => ∃ z, r = some (av_I z) ∧ ((-2147483648) ≤ z ∧ z ≤ 2147483647) ∧ kF (FB s) s h h') := by
    intro n
    induction n with
    | zero => intro i13 i14 h15 _ _ _ _ _ hm; omega
    | succ n ih31 =>
      intro i13 i14 h15 hl0 hl1 hl2 hl3 k16 hm
      refine A_iload d_Reader_read_31 rfl ?_
      refine A_sipush d_Reader_read_33 rfl ?_
      refine A_icmp_ge (tgt := 156) d_Reader_read_36 (by decide) (fun c17 => ?_) (fun c17 => ?_)
      · refine A_aload_n 0 d_Reader_read_156 rfl rfl ?_
        refine A_getIf T_ok d_Reader_read_157 f_Reader_43 (xi_s k16.1 sf_2) (fun x18 ex18 _ _ => ?_)
        exact A_iret d_Reader_read_160 (by decide) rfl ⟨_, rfl, ⟨by omega, by omega⟩, k16⟩
      · refine A_iload_n 3 d_Reader_read_39 rfl rfl ?_
        refine A_if_eq (tgt := 156) d_Reader_read_40 (by decide) (fun c19 => ?_) (fun c19 => ?_)
        · refine A_aload_n 0 d_Reader_read_156 rfl rfl ?_
          refine A_getIf T_ok d_Reader_read_157 f_Reader_43 (xi_s k16.1 sf_2) (fun x20 ex20 _ _ => ?_)
          exact A_iret d_Reader_read_160 (by decide) rfl ⟨_, rfl, ⟨by omega, by omega⟩, k16⟩
        · refine A_aload_n 0 d_Reader_read_43 rfl rfl ?_
          refine A_getOv (z := some 3) T_ok d_Reader_read_44 f_Reader_12 (xi_s k16.1 sf_2) (xi_r k16.1 rff_2_0) ?_
          refine A_getIf T_ok d_Reader_read_47 f_Reader_50 (xi_s k16.1 sf_3) (fun x22 ex22 _ _ => ?_)
          rcases (by omega : x22 < 261 ∨ x22 = 261 ∨ x22 = 262 ∨ x22 = 263 ∨ x22 = 264 ∨ x22 = 265 ∨ 265 < x22) with c23 | c23 | c23 | c23 | c23 | c23 | c23
          · refine A_tabOut (tgt := 124) d_Reader_read_50 (by omega) (by decide) ?_
            refine A_aload_n 0 d_Reader_read_124 rfl rfl ?_
            refine A_getOv (z := some 3) T_ok d_Reader_read_125 f_Reader_12 (xi_s k16.1 sf_2) (xi_r k16.1 rff_2_0) ?_
            refine A_getIv (z := x22) T_ok d_Reader_read_128 f_Reader_50 (xi_s k16.1 sf_3) ex22.symm ?_
            refine A_sipush d_Reader_read_131 rfl ?_
            refine A_icmp_eq (tgt := 148) d_Reader_read_134 (by decide) (fun c26 => ?_) (fun c26 => ?_)
            · refine A_iconst d_Reader_read_148 rfl ?_
              refine A_istore_n 3 (L' := [some (av_R (some 2)), some (av_R (some 1)), some (av_I a2), some (av_I 0), some (av_I i14)]) d_Reader_read_149 rfl (Nat.le_of_ble_eq_true rfl) rfl ?_
              refine A_iincv (z := (i14 + 1)) (L' := [some (av_R (some 2)), some (av_R (some 1)), some (av_I a2), some (av_I 0), some (av_I (i14 + 1))]) d_Reader_read_150 rfl (w32_to (by omega) (by unfold i32; omega)) rfl ?_
              refine A_goto (tgt := 31) d_Reader_read_153 (by decide) ?_
              exact ih31 0 (i14 + 1) h15 (by omega) (by omega) (by omega) (by omega) k16 (by omega)
            · refine A_aload_n 0 d_Reader_read_137 rfl rfl ?_
              refine A_callV0 m_Reader_refuse T_ok d_Reader_read_138 l_Reader_69 k_Reader_refuse (xi_s k16.1 sf_2) rfl (by decide +kernel) (by decide) (Nat.le_of_ble_eq_true rfl) (s_Reader_refuse k16.1 ) (fun r h27 hq => ?_)
              obtain ⟨x29, rfl, ⟨_, _⟩, k28⟩ := hq
              have k30 := kF_t k16 k28 (fun _ q => q)
              obtain rfl : x29 = 0 := by omega
              refine A_if_eq (tgt := 148) d_Reader_read_141 (by decide) (fun _ => ?_) (fun c => absurd c (by decide))
              refine A_iconst d_Reader_read_148 rfl ?_
              refine A_istore_n 3 (L' := [some (av_R (some 2)), some (av_R (some 1)), some (av_I a2), some (av_I 0), some (av_I i14)]) d_Reader_read_149 rfl (Nat.le_of_ble_eq_true rfl) rfl ?_
              refine A_iincv (z := (i14 + 1)) (L' := [some (av_R (some 2)), some (av_R (some 1)), some (av_I a2), some (av_I 0), some (av_I (i14 + 1))]) d_Reader_read_150 rfl (w32_to (by omega) (by unfold i32; omega)) rfl ?_
              refine A_goto (tgt := 31) d_Reader_read_153 (by decide) ?_
              exact ih31 0 (i14 + 1) h27 (by omega) (by omega) (by omega) (by omega) k30 (by omega)
          · refine A_tabIn (tgt := 84) d_Reader_read_50 (by omega) (by omega) (by rw [c23]; rfl) (by decide) ?_
            refine A_aload_n 0 d_Reader_read_84 rfl rfl ?_
            refine A_callV0 m_Reader_readTime T_ok d_Reader_read_85 l_Reader_53 k_Reader_readTime (xi_s k16.1 sf_2) rfl (by decide +kernel) (by decide) (Nat.le_of_ble_eq_true rfl) (s_Reader_readTime k16.1 ) (fun r h32 hq => ?_)
            obtain ⟨x34, rfl, bx34, k33⟩ := hq
            have k35 := kF_t k16 k33 (fun _ q => q)
            refine A_istore_n 3 (L' := [some (av_R (some 2)), some (av_R (some 1)), some (av_I a2), some (av_I x34), some (av_I i14)]) d_Reader_read_88 rfl (Nat.le_of_ble_eq_true rfl) rfl ?_
            refine A_goto (tgt := 150) d_Reader_read_89 (by decide) ?_
            refine A_iincv (z := (i14 + 1)) (L' := [some (av_R (some 2)), some (av_R (some 1)), some (av_I a2), some (av_I x34), some (av_I (i14 + 1))]) d_Reader_read_150 rfl (w32_to (by omega) (by unfold i32; omega)) rfl ?_
            refine A_goto (tgt := 31) d_Reader_read_153 (by decide) ?_
            exact ih31 x34 (i14 + 1) h32 (by omega) (by omega) (by omega) (by omega) k35 (by omega)
          · refine A_tabIn (tgt := 92) d_Reader_read_50 (by omega) (by omega) (by rw [c23]; rfl) (by decide) ?_
            refine A_aload_n 0 d_Reader_read_92 rfl rfl ?_
            refine A_callV0 m_Reader_readVoice T_ok d_Reader_read_93 l_Reader_57 k_Reader_readVoice (xi_s k16.1 sf_2) rfl (by decide +kernel) (by decide) (Nat.le_of_ble_eq_true rfl) (s_Reader_readVoice k16.1 ) (fun r h36 hq => ?_)
            obtain ⟨x38, rfl, bx38, k37⟩ := hq
            have k39 := kF_t k16 k37 (fun _ q => q)
            refine A_istore_n 3 (L' := [some (av_R (some 2)), some (av_R (some 1)), some (av_I a2), some (av_I x38), some (av_I i14)]) d_Reader_read_96 rfl (Nat.le_of_ble_eq_true rfl) rfl ?_
            refine A_goto (tgt := 150) d_Reader_read_97 (by decide) ?_
            refine A_iincv (z := (i14 + 1)) (L' := [some (av_R (some 2)), some (av_R (some 1)), some (av_I a2), some (av_I x38), some (av_I (i14 + 1))]) d_Reader_read_150 rfl (w32_to (by omega) (by unfold i32; omega)) rfl ?_
            refine A_goto (tgt := 31) d_Reader_read_153 (by decide) ?_
            exact ih31 x38 (i14 + 1) h36 (by omega) (by omega) (by omega) (by omega) k39 (by omega)
          · refine A_tabIn (tgt := 100) d_Reader_read_50 (by omega) (by omega) (by rw [c23]; rfl) (by decide) ?_
            refine A_aload_n 0 d_Reader_read_100 rfl rfl ?_
            refine A_callV0 m_Reader_readLine T_ok d_Reader_read_101 l_Reader_60 k_Reader_readLine (xi_s k16.1 sf_2) rfl (by decide +kernel) (by decide) (Nat.le_of_ble_eq_true rfl) (s_Reader_readLine k16.1 ) (fun r h40 hq => ?_)
            obtain ⟨x42, rfl, bx42, k41⟩ := hq
            have k43 := kF_t k16 k41 (fun _ q => q)
            refine A_istore_n 3 (L' := [some (av_R (some 2)), some (av_R (some 1)), some (av_I a2), some (av_I x42), some (av_I i14)]) d_Reader_read_104 rfl (Nat.le_of_ble_eq_true rfl) rfl ?_
            refine A_goto (tgt := 150) d_Reader_read_105 (by decide) ?_
            refine A_iincv (z := (i14 + 1)) (L' := [some (av_R (some 2)), some (av_R (some 1)), some (av_I a2), some (av_I x42), some (av_I (i14 + 1))]) d_Reader_read_150 rfl (w32_to (by omega) (by unfold i32; omega)) rfl ?_
            refine A_goto (tgt := 31) d_Reader_read_153 (by decide) ?_
            exact ih31 x42 (i14 + 1) h40 (by omega) (by omega) (by omega) (by omega) k43 (by omega)
          · refine A_tabIn (tgt := 108) d_Reader_read_50 (by omega) (by omega) (by rw [c23]; rfl) (by decide) ?_
            refine A_aload_n 0 d_Reader_read_108 rfl rfl ?_
            refine A_callV0 m_Reader_readRule T_ok d_Reader_read_109 l_Reader_63 k_Reader_readRule (xi_s k16.1 sf_2) rfl (by decide +kernel) (by decide) (Nat.le_of_ble_eq_true rfl) (s_Reader_readRule k16.1 ) (fun r h44 hq => ?_)
            obtain ⟨x46, rfl, bx46, k45⟩ := hq
            have k47 := kF_t k16 k45 (fun _ q => q)
            refine A_istore_n 3 (L' := [some (av_R (some 2)), some (av_R (some 1)), some (av_I a2), some (av_I x46), some (av_I i14)]) d_Reader_read_112 rfl (Nat.le_of_ble_eq_true rfl) rfl ?_
            refine A_goto (tgt := 150) d_Reader_read_113 (by decide) ?_
            refine A_iincv (z := (i14 + 1)) (L' := [some (av_R (some 2)), some (av_R (some 1)), some (av_I a2), some (av_I x46), some (av_I (i14 + 1))]) d_Reader_read_150 rfl (w32_to (by omega) (by unfold i32; omega)) rfl ?_
            refine A_goto (tgt := 31) d_Reader_read_153 (by decide) ?_
            exact ih31 x46 (i14 + 1) h44 (by omega) (by omega) (by omega) (by omega) k47 (by omega)
          · refine A_tabIn (tgt := 116) d_Reader_read_50 (by omega) (by omega) (by rw [c23]; rfl) (by decide) ?_
            refine A_aload_n 0 d_Reader_read_116 rfl rfl ?_
            refine A_callV0 m_Reader_readRow T_ok d_Reader_read_117 l_Reader_66 k_Reader_readRow (xi_s k16.1 sf_2) rfl (by decide +kernel) (by decide) (Nat.le_of_ble_eq_true rfl) (s_Reader_readRow k16.1 ) (fun r h48 hq => ?_)
            obtain ⟨x50, rfl, bx50, k49⟩ := hq
            have k51 := kF_t k16 k49 (fun _ q => q)
            refine A_istore_n 3 (L' := [some (av_R (some 2)), some (av_R (some 1)), some (av_I a2), some (av_I x50), some (av_I i14)]) d_Reader_read_120 rfl (Nat.le_of_ble_eq_true rfl) rfl ?_
            refine A_goto (tgt := 150) d_Reader_read_121 (by decide) ?_
            refine A_iincv (z := (i14 + 1)) (L' := [some (av_R (some 2)), some (av_R (some 1)), some (av_I a2), some (av_I x50), some (av_I (i14 + 1))]) d_Reader_read_150 rfl (w32_to (by omega) (by unfold i32; omega)) rfl ?_
            refine A_goto (tgt := 31) d_Reader_read_153 (by decide) ?_
            exact ih31 x50 (i14 + 1) h48 (by omega) (by omega) (by omega) (by omega) k51 (by omega)
          · refine A_tabOut (tgt := 124) d_Reader_read_50 (by omega) (by decide) ?_
            refine A_aload_n 0 d_Reader_read_124 rfl rfl ?_
            refine A_getOv (z := some 3) T_ok d_Reader_read_125 f_Reader_12 (xi_s k16.1 sf_2) (xi_r k16.1 rff_2_0) ?_
            refine A_getIv (z := x22) T_ok d_Reader_read_128 f_Reader_50 (xi_s k16.1 sf_3) ex22.symm ?_
            refine A_sipush d_Reader_read_131 rfl ?_
            refine A_icmp_eq (tgt := 148) d_Reader_read_134 (by decide) (fun c => False.elim (by omega)) (fun c54 => ?_)
            refine A_aload_n 0 d_Reader_read_137 rfl rfl ?_
            refine A_callV0 m_Reader_refuse T_ok d_Reader_read_138 l_Reader_69 k_Reader_refuse (xi_s k16.1 sf_2) rfl (by decide +kernel) (by decide) (Nat.le_of_ble_eq_true rfl) (s_Reader_refuse k16.1 ) (fun r h55 hq => ?_)
            obtain ⟨x57, rfl, ⟨_, _⟩, k56⟩ := hq
            have k58 := kF_t k16 k56 (fun _ q => q)
            obtain rfl : x57 = 0 := by omega
            refine A_if_eq (tgt := 148) d_Reader_read_141 (by decide) (fun _ => ?_) (fun c => absurd c (by decide))
            refine A_iconst d_Reader_read_148 rfl ?_
            refine A_istore_n 3 (L' := [some (av_R (some 2)), some (av_R (some 1)), some (av_I a2), some (av_I 0), some (av_I i14)]) d_Reader_read_149 rfl (Nat.le_of_ble_eq_true rfl) rfl ?_
            refine A_iincv (z := (i14 + 1)) (L' := [some (av_R (some 2)), some (av_R (some 1)), some (av_I a2), some (av_I 0), some (av_I (i14 + 1))]) d_Reader_read_150 rfl (w32_to (by omega) (by unfold i32; omega)) rfl ?_
            refine A_goto (tgt := 31) d_Reader_read_153 (by decide) ?_
            exact ih31 0 (i14 + 1) h55 (by omega) (by omega) (by omega) (by omega) k58 (by omega)
  exact lp31 _ 1 0 h10 (by omega) (by omega) (by omega) (by omega) k12 (Nat.lt_succ_self _)
