/-! ===== the class's methods, 22k ===== -/
def m_Trees_forget : mr_T := (⟨"PlainMusic$Trees", "forget", "()V"⟩, prog_11_method_2_code, 1, none)
theorem d_Trees_forget_0 : decode prog_11_method_2_code 0 = .ok (.aload_n 0, 1) := by decide +kernel
theorem d_Trees_forget_1 : decode prog_11_method_2_code 1 = .ok (.iconst 0, 1) := by decide +kernel
theorem d_Trees_forget_2 : decode prog_11_method_2_code 2 = .ok (.putfield 15, 3) := by decide +kernel
theorem f_Trees_15 : fl_OK "PlainMusic$Trees" 15 9 1 .int false := ⟨_, rfl, by decide, gwi_544, rfl, rfl⟩
theorem sf_162 : sh_L[162]? = some (9 + 4, 6) := by decide +kernel
theorem rgf_162_1 : rg 162 1 = ((-2147483648), 2147483647) := by decide +kernel
theorem d_Trees_forget_5 : decode prog_11_method_2_code 5 = .ok (.return_, 1) := by decide +kernel
def m_Trees_slot : mr_T := (⟨"PlainMusic$Trees", "slot", "(III)I"⟩, prog_11_method_3_code, 3, some .int)
theorem d_Trees_slot_0 : decode prog_11_method_3_code 0 = .ok (.iload_n 0, 1) := by decide +kernel
theorem d_Trees_slot_1 : decode prog_11_method_3_code 1 = .ok (.bipush 13, 2) := by decide +kernel
theorem d_Trees_slot_3 : decode prog_11_method_3_code 3 = .ok (.imul, 1) := by decide +kernel
theorem d_Trees_slot_4 : decode prog_11_method_3_code 4 = .ok (.iload_n 1, 1) := by decide +kernel
theorem d_Trees_slot_5 : decode prog_11_method_3_code 5 = .ok (.iadd, 1) := by decide +kernel
theorem d_Trees_slot_6 : decode prog_11_method_3_code 6 = .ok (.bipush 13, 2) := by decide +kernel
theorem d_Trees_slot_8 : decode prog_11_method_3_code 8 = .ok (.imul, 1) := by decide +kernel
theorem d_Trees_slot_9 : decode prog_11_method_3_code 9 = .ok (.iload_n 2, 1) := by decide +kernel
theorem d_Trees_slot_10 : decode prog_11_method_3_code 10 = .ok (.iadd, 1) := by decide +kernel
theorem d_Trees_slot_11 : decode prog_11_method_3_code 11 = .ok (.ireturn, 1) := by decide +kernel
def m_Trees_treesOf : mr_T := (⟨"PlainMusic$Trees", "treesOf", "(III)I"⟩, prog_11_method_4_code, 5, some .int)
theorem d_Trees_treesOf_0 : decode prog_11_method_4_code 0 = .ok (.iload_n 1, 1) := by decide +kernel
theorem d_Trees_treesOf_1 : decode prog_11_method_4_code 1 = .ok (.iload_n 2, 1) := by decide +kernel
theorem d_Trees_treesOf_2 : decode prog_11_method_4_code 2 = .ok (.iload_n 3, 1) := by decide +kernel
theorem d_Trees_treesOf_3 : decode prog_11_method_4_code 3 = .ok (.invokestatic 19, 3) := by decide +kernel
theorem k_Trees_slot : mt_OK m_Trees_slot 3 0 := ⟨gwi_1346, gwi_144, ⟨by decide +kernel, by decide +kernel, by decide +kernel⟩, fun _ => gwi_1345, fun h => absurd h (by decide), fun h => absurd h (by decide)⟩
theorem l_Trees_19 : ml_OK "PlainMusic$Trees" 19 ⟨"PlainMusic$Trees", "slot", "(III)I"⟩ := Or.inl gwi_1344
theorem d_Trees_treesOf_6 : decode prog_11_method_4_code 6 = .ok (.istore 4, 2) := by decide +kernel
theorem d_Trees_treesOf_8 : decode prog_11_method_4_code 8 = .ok (.iload 4, 2) := by decide +kernel
theorem d_Trees_treesOf_10 : decode prog_11_method_4_code 10 = .ok (.ifCond .lt 23, 3) := by decide +kernel
theorem d_Trees_treesOf_33 : decode prog_11_method_4_code 33 = .ok (.iconst 0, 1) := by decide +kernel
theorem d_Trees_treesOf_34 : decode prog_11_method_4_code 34 = .ok (.ireturn, 1) := by decide +kernel
theorem d_Trees_treesOf_13 : decode prog_11_method_4_code 13 = .ok (.iload 4, 2) := by decide +kernel
theorem d_Trees_treesOf_15 : decode prog_11_method_4_code 15 = .ok (.aload_n 0, 1) := by decide +kernel
theorem d_Trees_treesOf_16 : decode prog_11_method_4_code 16 = .ok (.getfield 11, 3) := by decide +kernel
theorem rff_162_0 : (162, 0, 163) ∈ rf_L := by decide +kernel
theorem d_Trees_treesOf_19 : decode prog_11_method_4_code 19 = .ok (.arraylength, 1) := by decide +kernel
theorem sf_163 : sh_L[163]? = some (0, 2704) := by decide +kernel
theorem d_Trees_treesOf_20 : decode prog_11_method_4_code 20 = .ok (.if_icmp .ge 13, 3) := by decide +kernel
theorem d_Trees_treesOf_23 : decode prog_11_method_4_code 23 = .ok (.aload_n 0, 1) := by decide +kernel
theorem d_Trees_treesOf_24 : decode prog_11_method_4_code 24 = .ok (.getfield 11, 3) := by decide +kernel
theorem d_Trees_treesOf_27 : decode prog_11_method_4_code 27 = .ok (.iload 4, 2) := by decide +kernel
theorem d_Trees_treesOf_29 : decode prog_11_method_4_code 29 = .ok (.iaload, 1) := by decide +kernel
theorem rgf_163 (k : Nat) : rg 163 k = ((-2147483648), 2147483647) := rfl
theorem d_Trees_treesOf_30 : decode prog_11_method_4_code 30 = .ok (.goto 4, 3) := by decide +kernel
def m_Trees_treesCut : mr_T := (⟨"PlainMusic$Trees", "treesCut", "(LPlainMusic$Score;IIII)J"⟩, prog_11_method_8_code, 8, some .long)
theorem d_Trees_treesCut_0 : decode prog_11_method_8_code 0 = .ok (.aload_n 0, 1) := by decide +kernel
theorem d_Trees_treesCut_1 : decode prog_11_method_8_code 1 = .ok (.aload_n 1, 1) := by decide +kernel
theorem d_Trees_treesCut_2 : decode prog_11_method_8_code 2 = .ok (.getfield 60, 3) := by decide +kernel
theorem f_Trees_60 : fl_OK "PlainMusic$Trees" 60 6 8 (.array .int) true := ⟨_, rfl, by decide, gwi_372, rfl, rfl⟩
theorem d_Trees_treesCut_5 : decode prog_11_method_8_code 5 = .ok (.iload_n 2, 1) := by decide +kernel
theorem d_Trees_treesCut_6 : decode prog_11_method_8_code 6 = .ok (.iaload, 1) := by decide +kernel
theorem d_Trees_treesCut_7 : decode prog_11_method_8_code 7 = .ok (.iload_n 3, 1) := by decide +kernel
theorem d_Trees_treesCut_8 : decode prog_11_method_8_code 8 = .ok (.iload 4, 2) := by decide +kernel
theorem d_Trees_treesCut_10 : decode prog_11_method_8_code 10 = .ok (.invokevirtual 35, 3) := by decide +kernel
theorem k_Trees_treesOf : mt_OK m_Trees_treesOf 3 1 := ⟨gwi_1358, gwi_144, ⟨by decide +kernel, by decide +kernel, by decide +kernel⟩, fun h => absurd h (by decide), fun _ => ⟨gwi_1357, gwi_49⟩, fun h => absurd h (by decide)⟩
theorem l_Trees_35 : ml_OK "PlainMusic$Trees" 35 ⟨"PlainMusic$Trees", "treesOf", "(III)I"⟩ := Or.inl gwi_1355
theorem d_Trees_treesCut_13 : decode prog_11_method_8_code 13 = .ok (.i2l, 1) := by decide +kernel
theorem d_Trees_treesCut_14 : decode prog_11_method_8_code 14 = .ok (.lstore 6, 2) := by decide +kernel
theorem d_Trees_treesCut_16 : decode prog_11_method_8_code 16 = .ok (.lload 6, 2) := by decide +kernel
theorem d_Trees_treesCut_18 : decode prog_11_method_8_code 18 = .ok (.aload_n 0, 1) := by decide +kernel
theorem d_Trees_treesCut_19 : decode prog_11_method_8_code 19 = .ok (.aload_n 1, 1) := by decide +kernel
theorem d_Trees_treesCut_20 : decode prog_11_method_8_code 20 = .ok (.getfield 54, 3) := by decide +kernel
theorem f_Trees_54 : fl_OK "PlainMusic$Trees" 54 6 9 (.array .int) true := ⟨_, rfl, by decide, gwi_374, rfl, rfl⟩
theorem d_Trees_treesCut_23 : decode prog_11_method_8_code 23 = .ok (.iload_n 2, 1) := by decide +kernel
theorem d_Trees_treesCut_24 : decode prog_11_method_8_code 24 = .ok (.iaload, 1) := by decide +kernel
theorem d_Trees_treesCut_25 : decode prog_11_method_8_code 25 = .ok (.iload 4, 2) := by decide +kernel
theorem d_Trees_treesCut_27 : decode prog_11_method_8_code 27 = .ok (.iload 5, 2) := by decide +kernel
theorem d_Trees_treesCut_29 : decode prog_11_method_8_code 29 = .ok (.invokevirtual 35, 3) := by decide +kernel
theorem d_Trees_treesCut_32 : decode prog_11_method_8_code 32 = .ok (.i2l, 1) := by decide +kernel
theorem d_Trees_treesCut_33 : decode prog_11_method_8_code 33 = .ok (.lmul, 1) := by decide +kernel
theorem d_Trees_treesCut_34 : decode prog_11_method_8_code 34 = .ok (.lreturn, 1) := by decide +kernel
def m_Trees_treesBy : mr_T := (⟨"PlainMusic$Trees", "treesBy", "(LPlainMusic$Score;III)J"⟩, prog_11_method_7_code, 8, some .long)
theorem d_Trees_treesBy_0 : decode prog_11_method_7_code 0 = .ok (.aload_n 1, 1) := by decide +kernel
theorem d_Trees_treesBy_1 : decode prog_11_method_7_code 1 = .ok (.getfield 54, 3) := by decide +kernel
theorem d_Trees_treesBy_4 : decode prog_11_method_7_code 4 = .ok (.iload_n 2, 1) := by decide +kernel
theorem d_Trees_treesBy_5 : decode prog_11_method_7_code 5 = .ok (.iaload, 1) := by decide +kernel
theorem d_Trees_treesBy_6 : decode prog_11_method_7_code 6 = .ok (.ifCond .ge 32, 3) := by decide +kernel
theorem d_Trees_treesBy_38 : decode prog_11_method_7_code 38 = .ok (.lconst 0, 1) := by decide +kernel
theorem d_Trees_treesBy_39 : decode prog_11_method_7_code 39 = .ok (.lstore 5, 2) := by decide +kernel
theorem d_Trees_treesBy_41 : decode prog_11_method_7_code 41 = .ok (.iload_n 3, 1) := by decide +kernel
theorem d_Trees_treesBy_42 : decode prog_11_method_7_code 42 = .ok (.iconst 1, 1) := by decide +kernel
theorem d_Trees_treesBy_43 : decode prog_11_method_7_code 43 = .ok (.iadd, 1) := by decide +kernel
theorem d_Trees_treesBy_44 : decode prog_11_method_7_code 44 = .ok (.istore 7, 2) := by decide +kernel
theorem d_Trees_treesBy_46 : decode prog_11_method_7_code 46 = .ok (.iload 7, 2) := by decide +kernel
theorem d_Trees_treesBy_48 : decode prog_11_method_7_code 48 = .ok (.iload 4, 2) := by decide +kernel
theorem d_Trees_treesBy_50 : decode prog_11_method_7_code 50 = .ok (.if_icmp .ge 25, 3) := by decide +kernel
theorem d_Trees_treesBy_75 : decode prog_11_method_7_code 75 = .ok (.lload 5, 2) := by decide +kernel
theorem d_Trees_treesBy_77 : decode prog_11_method_7_code 77 = .ok (.lreturn, 1) := by decide +kernel
theorem d_Trees_treesBy_53 : decode prog_11_method_7_code 53 = .ok (.lload 5, 2) := by decide +kernel
theorem d_Trees_treesBy_55 : decode prog_11_method_7_code 55 = .ok (.aload_n 0, 1) := by decide +kernel
theorem d_Trees_treesBy_56 : decode prog_11_method_7_code 56 = .ok (.aload_n 1, 1) := by decide +kernel
theorem d_Trees_treesBy_57 : decode prog_11_method_7_code 57 = .ok (.iload_n 2, 1) := by decide +kernel
theorem d_Trees_treesBy_58 : decode prog_11_method_7_code 58 = .ok (.iload_n 3, 1) := by decide +kernel
theorem d_Trees_treesBy_59 : decode prog_11_method_7_code 59 = .ok (.iload 7, 2) := by decide +kernel
theorem d_Trees_treesBy_61 : decode prog_11_method_7_code 61 = .ok (.iload 4, 2) := by decide +kernel
theorem d_Trees_treesBy_63 : decode prog_11_method_7_code 63 = .ok (.invokevirtual 63, 3) := by decide +kernel
theorem k_Trees_treesCut : mt_OK m_Trees_treesCut 5 1 := ⟨gwi_1354, gwi_144, ⟨by decide +kernel, by decide +kernel, by decide +kernel⟩, fun h => absurd h (by decide), fun _ => ⟨gwi_1353, gwi_48⟩, fun h => absurd h (by decide)⟩
theorem l_Trees_63 : ml_OK "PlainMusic$Trees" 63 ⟨"PlainMusic$Trees", "treesCut", "(LPlainMusic$Score;IIII)J"⟩ := Or.inl gwi_1351
theorem d_Trees_treesBy_66 : decode prog_11_method_7_code 66 = .ok (.ladd, 1) := by decide +kernel
theorem d_Trees_treesBy_67 : decode prog_11_method_7_code 67 = .ok (.lstore 5, 2) := by decide +kernel
theorem d_Trees_treesBy_69 : decode prog_11_method_7_code 69 = .ok (.iinc 7 1, 3) := by decide +kernel
theorem d_Trees_treesBy_72 : decode prog_11_method_7_code 72 = .ok (.goto (-26), 3) := by decide +kernel
theorem d_Trees_treesBy_9 : decode prog_11_method_7_code 9 = .ok (.iload 4, 2) := by decide +kernel
theorem d_Trees_treesBy_11 : decode prog_11_method_7_code 11 = .ok (.iload_n 3, 1) := by decide +kernel
theorem d_Trees_treesBy_12 : decode prog_11_method_7_code 12 = .ok (.isub, 1) := by decide +kernel
theorem d_Trees_treesBy_13 : decode prog_11_method_7_code 13 = .ok (.iconst 1, 1) := by decide +kernel
theorem d_Trees_treesBy_14 : decode prog_11_method_7_code 14 = .ok (.if_icmp .ne 22, 3) := by decide +kernel
theorem d_Trees_treesBy_36 : decode prog_11_method_7_code 36 = .ok (.lconst 0, 1) := by decide +kernel
theorem d_Trees_treesBy_37 : decode prog_11_method_7_code 37 = .ok (.lreturn, 1) := by decide +kernel
theorem d_Trees_treesBy_17 : decode prog_11_method_7_code 17 = .ok (.aload_n 1, 1) := by decide +kernel
theorem d_Trees_treesBy_18 : decode prog_11_method_7_code 18 = .ok (.getfield 57, 3) := by decide +kernel
theorem f_Trees_57 : fl_OK "PlainMusic$Trees" 57 6 11 (.array .int) true := ⟨_, rfl, by decide, gwi_380, rfl, rfl⟩
theorem d_Trees_treesBy_21 : decode prog_11_method_7_code 21 = .ok (.iload_n 3, 1) := by decide +kernel
theorem d_Trees_treesBy_22 : decode prog_11_method_7_code 22 = .ok (.iaload, 1) := by decide +kernel
theorem d_Trees_treesBy_23 : decode prog_11_method_7_code 23 = .ok (.aload_n 1, 1) := by decide +kernel
theorem d_Trees_treesBy_24 : decode prog_11_method_7_code 24 = .ok (.getfield 60, 3) := by decide +kernel
theorem d_Trees_treesBy_27 : decode prog_11_method_7_code 27 = .ok (.iload_n 2, 1) := by decide +kernel
theorem d_Trees_treesBy_28 : decode prog_11_method_7_code 28 = .ok (.iaload, 1) := by decide +kernel
theorem d_Trees_treesBy_29 : decode prog_11_method_7_code 29 = .ok (.if_icmp .ne 7, 3) := by decide +kernel
theorem d_Trees_treesBy_32 : decode prog_11_method_7_code 32 = .ok (.lconst 1, 1) := by decide +kernel
theorem d_Trees_treesBy_33 : decode prog_11_method_7_code 33 = .ok (.goto 4, 3) := by decide +kernel
def m_Trees_fill : mr_T := (⟨"PlainMusic$Trees", "fill", "(LPlainMusic$Score;II)V"⟩, prog_11_method_6_code, 6, none)
theorem d_Trees_fill_0 : decode prog_11_method_6_code 0 = .ok (.iconst 0, 1) := by decide +kernel
theorem d_Trees_fill_1 : decode prog_11_method_6_code 1 = .ok (.istore 4, 2) := by decide +kernel
theorem d_Trees_fill_3 : decode prog_11_method_6_code 3 = .ok (.iload 4, 2) := by decide +kernel
theorem d_Trees_fill_5 : decode prog_11_method_6_code 5 = .ok (.aload_n 1, 1) := by decide +kernel
theorem d_Trees_fill_6 : decode prog_11_method_6_code 6 = .ok (.getfield 39, 3) := by decide +kernel
theorem f_Trees_39 : fl_OK "PlainMusic$Trees" 39 6 10 .int false := ⟨_, rfl, by decide, gwi_376, rfl, rfl⟩
theorem d_Trees_fill_9 : decode prog_11_method_6_code 9 = .ok (.if_icmp .ge 70, 3) := by decide +kernel
theorem d_Trees_fill_79 : decode prog_11_method_6_code 79 = .ok (.return_, 1) := by decide +kernel
theorem d_Trees_fill_12 : decode prog_11_method_6_code 12 = .ok (.aload_n 1, 1) := by decide +kernel
theorem d_Trees_fill_13 : decode prog_11_method_6_code 13 = .ok (.getfield 32, 3) := by decide +kernel
theorem f_Trees_32 : fl_OK "PlainMusic$Trees" 32 6 7 (.array .int) true := ⟨_, rfl, by decide, gwi_370, rfl, rfl⟩
theorem d_Trees_fill_16 : decode prog_11_method_6_code 16 = .ok (.iload 4, 2) := by decide +kernel
theorem d_Trees_fill_18 : decode prog_11_method_6_code 18 = .ok (.iaload, 1) := by decide +kernel
theorem d_Trees_fill_19 : decode prog_11_method_6_code 19 = .ok (.iload_n 2, 1) := by decide +kernel
theorem d_Trees_fill_20 : decode prog_11_method_6_code 20 = .ok (.iload_n 3, 1) := by decide +kernel
theorem d_Trees_fill_21 : decode prog_11_method_6_code 21 = .ok (.invokestatic 19, 3) := by decide +kernel
theorem d_Trees_fill_24 : decode prog_11_method_6_code 24 = .ok (.istore 5, 2) := by decide +kernel
theorem d_Trees_fill_26 : decode prog_11_method_6_code 26 = .ok (.iload 5, 2) := by decide +kernel
theorem d_Trees_fill_28 : decode prog_11_method_6_code 28 = .ok (.ifCond .lt 45, 3) := by decide +kernel
theorem d_Trees_fill_73 : decode prog_11_method_6_code 73 = .ok (.iinc 4 1, 3) := by decide +kernel
theorem d_Trees_fill_76 : decode prog_11_method_6_code 76 = .ok (.goto (-73), 3) := by decide +kernel
theorem d_Trees_fill_31 : decode prog_11_method_6_code 31 = .ok (.iload 5, 2) := by decide +kernel
theorem d_Trees_fill_33 : decode prog_11_method_6_code 33 = .ok (.aload_n 0, 1) := by decide +kernel
theorem d_Trees_fill_34 : decode prog_11_method_6_code 34 = .ok (.getfield 11, 3) := by decide +kernel
theorem d_Trees_fill_37 : decode prog_11_method_6_code 37 = .ok (.arraylength, 1) := by decide +kernel
theorem d_Trees_fill_38 : decode prog_11_method_6_code 38 = .ok (.if_icmp .ge 35, 3) := by decide +kernel
theorem d_Trees_fill_41 : decode prog_11_method_6_code 41 = .ok (.aload_n 0, 1) := by decide +kernel
theorem d_Trees_fill_42 : decode prog_11_method_6_code 42 = .ok (.getfield 11, 3) := by decide +kernel
theorem d_Trees_fill_45 : decode prog_11_method_6_code 45 = .ok (.iload 5, 2) := by decide +kernel
theorem d_Trees_fill_47 : decode prog_11_method_6_code 47 = .ok (.aload_n 0, 1) := by decide +kernel
theorem d_Trees_fill_48 : decode prog_11_method_6_code 48 = .ok (.getfield 11, 3) := by decide +kernel
theorem d_Trees_fill_51 : decode prog_11_method_6_code 51 = .ok (.iload 5, 2) := by decide +kernel
theorem d_Trees_fill_53 : decode prog_11_method_6_code 53 = .ok (.iaload, 1) := by decide +kernel
theorem d_Trees_fill_54 : decode prog_11_method_6_code 54 = .ok (.i2l, 1) := by decide +kernel
theorem d_Trees_fill_55 : decode prog_11_method_6_code 55 = .ok (.aload_n 0, 1) := by decide +kernel
theorem d_Trees_fill_56 : decode prog_11_method_6_code 56 = .ok (.aload_n 1, 1) := by decide +kernel
theorem d_Trees_fill_57 : decode prog_11_method_6_code 57 = .ok (.iload 4, 2) := by decide +kernel
theorem d_Trees_fill_59 : decode prog_11_method_6_code 59 = .ok (.iload_n 2, 1) := by decide +kernel
theorem d_Trees_fill_60 : decode prog_11_method_6_code 60 = .ok (.iload_n 3, 1) := by decide +kernel
theorem d_Trees_fill_61 : decode prog_11_method_6_code 61 = .ok (.invokevirtual 42, 3) := by decide +kernel
theorem k_Trees_treesBy : mt_OK m_Trees_treesBy 4 1 := ⟨gwi_1350, gwi_144, ⟨by decide +kernel, by decide +kernel, by decide +kernel⟩, fun h => absurd h (by decide), fun _ => ⟨gwi_1349, gwi_47⟩, fun h => absurd h (by decide)⟩
theorem l_Trees_42 : ml_OK "PlainMusic$Trees" 42 ⟨"PlainMusic$Trees", "treesBy", "(LPlainMusic$Score;III)J"⟩ := Or.inl gwi_1347
theorem d_Trees_fill_64 : decode prog_11_method_6_code 64 = .ok (.ladd, 1) := by decide +kernel
theorem d_Trees_fill_65 : decode prog_11_method_6_code 65 = .ok (.ldc2_w 46, 3) := by decide +kernel
theorem cst_Trees_46 : Cond.constantLong "PlainMusic$Trees" 46 (Int64.ofInt 1000001) ∈ gw := gwi_1359
theorem d_Trees_fill_68 : decode prog_11_method_6_code 68 = .ok (.invokestatic 48, 3) := by decide +kernel
theorem k_JMath_min_JJJ : mt_OK m_JMath_min_JJJ 2 0 := ⟨gwi_1362, gwi_147, ⟨by decide +kernel, by decide +kernel, by decide +kernel⟩, fun _ => gwi_1361, fun h => absurd h (by decide), fun h => absurd h (by decide)⟩
theorem l_Trees_48 : ml_OK "PlainMusic$Trees" 48 ⟨"java/lang/Math", "min", "(JJ)J"⟩ := Or.inl gwi_1360
theorem d_Trees_fill_71 : decode prog_11_method_6_code 71 = .ok (.l2i, 1) := by decide +kernel
theorem d_Trees_fill_72 : decode prog_11_method_6_code 72 = .ok (.iastore, 1) := by decide +kernel
def m_Trees_find : mr_T := (⟨"PlainMusic$Trees", "find", "(LPlainMusic$Score;)I"⟩, prog_11_method_5_code, 4, some .int)
theorem d_Trees_find_0 : decode prog_11_method_5_code 0 = .ok (.iconst 0, 1) := by decide +kernel
theorem d_Trees_find_1 : decode prog_11_method_5_code 1 = .ok (.istore_n 2, 1) := by decide +kernel
theorem d_Trees_find_2 : decode prog_11_method_5_code 2 = .ok (.iload_n 2, 1) := by decide +kernel
theorem d_Trees_find_3 : decode prog_11_method_5_code 3 = .ok (.aload_n 0, 1) := by decide +kernel
theorem d_Trees_find_4 : decode prog_11_method_5_code 4 = .ok (.getfield 11, 3) := by decide +kernel
theorem d_Trees_find_7 : decode prog_11_method_5_code 7 = .ok (.arraylength, 1) := by decide +kernel
theorem d_Trees_find_8 : decode prog_11_method_5_code 8 = .ok (.if_icmp .ge 16, 3) := by decide +kernel
theorem d_Trees_find_11 : decode prog_11_method_5_code 11 = .ok (.aload_n 0, 1) := by decide +kernel
theorem d_Trees_find_12 : decode prog_11_method_5_code 12 = .ok (.getfield 11, 3) := by decide +kernel
theorem d_Trees_find_15 : decode prog_11_method_5_code 15 = .ok (.iload_n 2, 1) := by decide +kernel
theorem d_Trees_find_16 : decode prog_11_method_5_code 16 = .ok (.iconst 0, 1) := by decide +kernel
theorem d_Trees_find_17 : decode prog_11_method_5_code 17 = .ok (.iastore, 1) := by decide +kernel
theorem d_Trees_find_18 : decode prog_11_method_5_code 18 = .ok (.iinc 2 1, 3) := by decide +kernel
theorem d_Trees_find_21 : decode prog_11_method_5_code 21 = .ok (.goto (-19), 3) := by decide +kernel
theorem d_Trees_find_24 : decode prog_11_method_5_code 24 = .ok (.iconst 1, 1) := by decide +kernel
theorem d_Trees_find_25 : decode prog_11_method_5_code 25 = .ok (.istore_n 2, 1) := by decide +kernel
theorem d_Trees_find_26 : decode prog_11_method_5_code 26 = .ok (.iload_n 2, 1) := by decide +kernel
theorem d_Trees_find_27 : decode prog_11_method_5_code 27 = .ok (.aload_n 1, 1) := by decide +kernel
theorem d_Trees_find_28 : decode prog_11_method_5_code 28 = .ok (.getfield 23, 3) := by decide +kernel
theorem f_Trees_23 : fl_OK "PlainMusic$Trees" 23 6 12 .int false := ⟨_, rfl, by decide, gwi_382, rfl, rfl⟩
theorem d_Trees_find_31 : decode prog_11_method_5_code 31 = .ok (.if_icmp .gt 36, 3) := by decide +kernel
theorem d_Trees_find_67 : decode prog_11_method_5_code 67 = .ok (.aload_n 0, 1) := by decide +kernel
theorem d_Trees_find_68 : decode prog_11_method_5_code 68 = .ok (.aload_n 1, 1) := by decide +kernel
theorem d_Trees_find_69 : decode prog_11_method_5_code 69 = .ok (.getfield 32, 3) := by decide +kernel
theorem d_Trees_find_72 : decode prog_11_method_5_code 72 = .ok (.iconst 0, 1) := by decide +kernel
theorem d_Trees_find_73 : decode prog_11_method_5_code 73 = .ok (.iaload, 1) := by decide +kernel
theorem d_Trees_find_74 : decode prog_11_method_5_code 74 = .ok (.iconst 0, 1) := by decide +kernel
theorem d_Trees_find_75 : decode prog_11_method_5_code 75 = .ok (.aload_n 1, 1) := by decide +kernel
theorem d_Trees_find_76 : decode prog_11_method_5_code 76 = .ok (.getfield 23, 3) := by decide +kernel
theorem d_Trees_find_79 : decode prog_11_method_5_code 79 = .ok (.invokevirtual 35, 3) := by decide +kernel
theorem d_Trees_find_82 : decode prog_11_method_5_code 82 = .ok (.istore_n 2, 1) := by decide +kernel
theorem d_Trees_find_83 : decode prog_11_method_5_code 83 = .ok (.iload_n 2, 1) := by decide +kernel
theorem d_Trees_find_84 : decode prog_11_method_5_code 84 = .ok (.ldc 38, 2) := by decide +kernel
theorem cst_Trees_38 : Cond.constant "PlainMusic$Trees" 38 (Int32.ofInt 1000000) ∈ gw := gwi_1363
theorem d_Trees_find_86 : decode prog_11_method_5_code 86 = .ok (.if_icmp .le 6, 3) := by decide +kernel
theorem d_Trees_find_92 : decode prog_11_method_5_code 92 = .ok (.aload_n 0, 1) := by decide +kernel
theorem d_Trees_find_93 : decode prog_11_method_5_code 93 = .ok (.iload_n 2, 1) := by decide +kernel
theorem d_Trees_find_94 : decode prog_11_method_5_code 94 = .ok (.putfield 15, 3) := by decide +kernel
theorem d_Trees_find_97 : decode prog_11_method_5_code 97 = .ok (.iload_n 2, 1) := by decide +kernel
theorem d_Trees_find_98 : decode prog_11_method_5_code 98 = .ok (.ireturn, 1) := by decide +kernel
theorem d_Trees_find_89 : decode prog_11_method_5_code 89 = .ok (.bipush (-4), 2) := by decide +kernel
theorem d_Trees_find_91 : decode prog_11_method_5_code 91 = .ok (.ireturn, 1) := by decide +kernel
theorem d_Trees_find_34 : decode prog_11_method_5_code 34 = .ok (.iconst 0, 1) := by decide +kernel
theorem d_Trees_find_35 : decode prog_11_method_5_code 35 = .ok (.istore_n 3, 1) := by decide +kernel
theorem d_Trees_find_36 : decode prog_11_method_5_code 36 = .ok (.iload_n 3, 1) := by decide +kernel
theorem d_Trees_find_37 : decode prog_11_method_5_code 37 = .ok (.iload_n 2, 1) := by decide +kernel
theorem d_Trees_find_38 : decode prog_11_method_5_code 38 = .ok (.iadd, 1) := by decide +kernel
theorem d_Trees_find_39 : decode prog_11_method_5_code 39 = .ok (.aload_n 1, 1) := by decide +kernel
theorem d_Trees_find_40 : decode prog_11_method_5_code 40 = .ok (.getfield 23, 3) := by decide +kernel
theorem d_Trees_find_43 : decode prog_11_method_5_code 43 = .ok (.if_icmp .gt 18, 3) := by decide +kernel
theorem d_Trees_find_61 : decode prog_11_method_5_code 61 = .ok (.iinc 2 1, 3) := by decide +kernel
theorem d_Trees_find_64 : decode prog_11_method_5_code 64 = .ok (.goto (-38), 3) := by decide +kernel
theorem d_Trees_find_46 : decode prog_11_method_5_code 46 = .ok (.aload_n 0, 1) := by decide +kernel
theorem d_Trees_find_47 : decode prog_11_method_5_code 47 = .ok (.aload_n 1, 1) := by decide +kernel
theorem d_Trees_find_48 : decode prog_11_method_5_code 48 = .ok (.iload_n 3, 1) := by decide +kernel
theorem d_Trees_find_49 : decode prog_11_method_5_code 49 = .ok (.iload_n 3, 1) := by decide +kernel
theorem d_Trees_find_50 : decode prog_11_method_5_code 50 = .ok (.iload_n 2, 1) := by decide +kernel
theorem d_Trees_find_51 : decode prog_11_method_5_code 51 = .ok (.iadd, 1) := by decide +kernel
theorem d_Trees_find_52 : decode prog_11_method_5_code 52 = .ok (.invokevirtual 28, 3) := by decide +kernel
theorem k_Trees_fill : mt_OK m_Trees_fill 3 1 := ⟨gwi_1343, gwi_144, ⟨by decide +kernel, by decide +kernel, by decide +kernel⟩, fun h => absurd h (by decide), fun _ => ⟨gwi_1342, gwi_46⟩, fun h => absurd h (by decide)⟩
theorem l_Trees_28 : ml_OK "PlainMusic$Trees" 28 ⟨"PlainMusic$Trees", "fill", "(LPlainMusic$Score;II)V"⟩ := Or.inl gwi_1340
theorem d_Trees_find_55 : decode prog_11_method_5_code 55 = .ok (.iinc 3 1, 3) := by decide +kernel
theorem d_Trees_find_58 : decode prog_11_method_5_code 58 = .ok (.goto (-22), 3) := by decide +kernel
def m_Trees_findRule : mr_T := (⟨"PlainMusic$Trees", "findRule", "(LPlainMusic$Score;)I"⟩, prog_11_method_10_code, 5, some .int)
theorem d_Trees_findRule_0 : decode prog_11_method_10_code 0 = .ok (.iconst 0, 1) := by decide +kernel
theorem d_Trees_findRule_1 : decode prog_11_method_10_code 1 = .ok (.istore_n 2, 1) := by decide +kernel
theorem d_Trees_findRule_2 : decode prog_11_method_10_code 2 = .ok (.iload_n 2, 1) := by decide +kernel
theorem d_Trees_findRule_3 : decode prog_11_method_10_code 3 = .ok (.aload_n 1, 1) := by decide +kernel
theorem d_Trees_findRule_4 : decode prog_11_method_10_code 4 = .ok (.getfield 39, 3) := by decide +kernel
theorem d_Trees_findRule_7 : decode prog_11_method_10_code 7 = .ok (.if_icmp .ge 58, 3) := by decide +kernel
theorem d_Trees_findRule_65 : decode prog_11_method_10_code 65 = .ok (.iconst (-1), 1) := by decide +kernel
theorem d_Trees_findRule_66 : decode prog_11_method_10_code 66 = .ok (.ireturn, 1) := by decide +kernel
theorem d_Trees_findRule_10 : decode prog_11_method_10_code 10 = .ok (.aload_n 1, 1) := by decide +kernel
theorem d_Trees_findRule_11 : decode prog_11_method_10_code 11 = .ok (.getfield 32, 3) := by decide +kernel
theorem d_Trees_findRule_14 : decode prog_11_method_10_code 14 = .ok (.iload_n 2, 1) := by decide +kernel
theorem d_Trees_findRule_15 : decode prog_11_method_10_code 15 = .ok (.iaload, 1) := by decide +kernel
theorem d_Trees_findRule_16 : decode prog_11_method_10_code 16 = .ok (.aload_n 0, 1) := by decide +kernel
theorem d_Trees_findRule_17 : decode prog_11_method_10_code 17 = .ok (.getfield 67, 3) := by decide +kernel
theorem f_Trees_67 : fl_OK "PlainMusic$Trees" 67 9 2 .int false := ⟨_, rfl, by decide, gwi_545, rfl, rfl⟩
theorem rgf_162_2 : rg 162 2 = ((-2147483648), 2147483647) := by decide +kernel
theorem d_Trees_findRule_20 : decode prog_11_method_10_code 20 = .ok (.if_icmp .ne 39, 3) := by decide +kernel
theorem d_Trees_findRule_59 : decode prog_11_method_10_code 59 = .ok (.iinc 2 1, 3) := by decide +kernel
theorem d_Trees_findRule_62 : decode prog_11_method_10_code 62 = .ok (.goto (-60), 3) := by decide +kernel
theorem d_Trees_findRule_23 : decode prog_11_method_10_code 23 = .ok (.aload_n 0, 1) := by decide +kernel
theorem d_Trees_findRule_24 : decode prog_11_method_10_code 24 = .ok (.aload_n 1, 1) := by decide +kernel
theorem d_Trees_findRule_25 : decode prog_11_method_10_code 25 = .ok (.iload_n 2, 1) := by decide +kernel
theorem d_Trees_findRule_26 : decode prog_11_method_10_code 26 = .ok (.aload_n 0, 1) := by decide +kernel
theorem d_Trees_findRule_27 : decode prog_11_method_10_code 27 = .ok (.getfield 70, 3) := by decide +kernel
theorem f_Trees_70 : fl_OK "PlainMusic$Trees" 70 9 3 .int false := ⟨_, rfl, by decide, gwi_546, rfl, rfl⟩
theorem rgf_162_3 : rg 162 3 = (0, 12) := by decide +kernel
theorem d_Trees_findRule_30 : decode prog_11_method_10_code 30 = .ok (.aload_n 0, 1) := by decide +kernel
theorem d_Trees_findRule_31 : decode prog_11_method_10_code 31 = .ok (.getfield 73, 3) := by decide +kernel
theorem f_Trees_73 : fl_OK "PlainMusic$Trees" 73 9 4 .int false := ⟨_, rfl, by decide, gwi_547, rfl, rfl⟩
theorem rgf_162_4 : rg 162 4 = (0, 12) := by decide +kernel
theorem d_Trees_findRule_34 : decode prog_11_method_10_code 34 = .ok (.invokevirtual 42, 3) := by decide +kernel
theorem d_Trees_findRule_37 : decode prog_11_method_10_code 37 = .ok (.lstore_n 3, 1) := by decide +kernel
theorem d_Trees_findRule_38 : decode prog_11_method_10_code 38 = .ok (.aload_n 0, 1) := by decide +kernel
theorem d_Trees_findRule_39 : decode prog_11_method_10_code 39 = .ok (.getfield 76, 3) := by decide +kernel
theorem f_Trees_76 : fl_OK "PlainMusic$Trees" 76 9 5 .long false := ⟨_, rfl, by decide, gwi_548, rfl, rfl⟩
theorem d_Trees_findRule_42 : decode prog_11_method_10_code 42 = .ok (.lload_n 3, 1) := by decide +kernel
theorem d_Trees_findRule_43 : decode prog_11_method_10_code 43 = .ok (.lcmp, 1) := by decide +kernel
theorem d_Trees_findRule_44 : decode prog_11_method_10_code 44 = .ok (.ifCond .ge 5, 3) := by decide +kernel
theorem d_Trees_findRule_49 : decode prog_11_method_10_code 49 = .ok (.aload_n 0, 1) := by decide +kernel
theorem d_Trees_findRule_50 : decode prog_11_method_10_code 50 = .ok (.dup, 1) := by decide +kernel
theorem d_Trees_findRule_51 : decode prog_11_method_10_code 51 = .ok (.getfield 76, 3) := by decide +kernel
theorem d_Trees_findRule_54 : decode prog_11_method_10_code 54 = .ok (.lload_n 3, 1) := by decide +kernel
theorem d_Trees_findRule_55 : decode prog_11_method_10_code 55 = .ok (.lsub, 1) := by decide +kernel
theorem d_Trees_findRule_56 : decode prog_11_method_10_code 56 = .ok (.putfield 76, 3) := by decide +kernel
theorem d_Trees_findRule_47 : decode prog_11_method_10_code 47 = .ok (.iload_n 2, 1) := by decide +kernel
theorem d_Trees_findRule_48 : decode prog_11_method_10_code 48 = .ok (.ireturn, 1) := by decide +kernel
def m_Trees_findCut : mr_T := (⟨"PlainMusic$Trees", "findCut", "(LPlainMusic$Score;I)I"⟩, prog_11_method_11_code, 6, some .int)
theorem d_Trees_findCut_0 : decode prog_11_method_11_code 0 = .ok (.aload_n 0, 1) := by decide +kernel
theorem d_Trees_findCut_1 : decode prog_11_method_11_code 1 = .ok (.getfield 70, 3) := by decide +kernel
theorem d_Trees_findCut_4 : decode prog_11_method_11_code 4 = .ok (.iconst 1, 1) := by decide +kernel
theorem d_Trees_findCut_5 : decode prog_11_method_11_code 5 = .ok (.iadd, 1) := by decide +kernel
theorem d_Trees_findCut_6 : decode prog_11_method_11_code 6 = .ok (.istore_n 3, 1) := by decide +kernel
theorem d_Trees_findCut_7 : decode prog_11_method_11_code 7 = .ok (.iload_n 3, 1) := by decide +kernel
theorem d_Trees_findCut_8 : decode prog_11_method_11_code 8 = .ok (.aload_n 0, 1) := by decide +kernel
theorem d_Trees_findCut_9 : decode prog_11_method_11_code 9 = .ok (.getfield 73, 3) := by decide +kernel
theorem d_Trees_findCut_12 : decode prog_11_method_11_code 12 = .ok (.if_icmp .ge 49, 3) := by decide +kernel
theorem d_Trees_findCut_61 : decode prog_11_method_11_code 61 = .ok (.aload_n 0, 1) := by decide +kernel
theorem d_Trees_findCut_62 : decode prog_11_method_11_code 62 = .ok (.getfield 73, 3) := by decide +kernel
theorem d_Trees_findCut_65 : decode prog_11_method_11_code 65 = .ok (.ireturn, 1) := by decide +kernel
theorem d_Trees_findCut_15 : decode prog_11_method_11_code 15 = .ok (.aload_n 0, 1) := by decide +kernel
theorem d_Trees_findCut_16 : decode prog_11_method_11_code 16 = .ok (.aload_n 1, 1) := by decide +kernel
theorem d_Trees_findCut_17 : decode prog_11_method_11_code 17 = .ok (.iload_n 2, 1) := by decide +kernel
theorem d_Trees_findCut_18 : decode prog_11_method_11_code 18 = .ok (.aload_n 0, 1) := by decide +kernel
theorem d_Trees_findCut_19 : decode prog_11_method_11_code 19 = .ok (.getfield 70, 3) := by decide +kernel
theorem d_Trees_findCut_22 : decode prog_11_method_11_code 22 = .ok (.iload_n 3, 1) := by decide +kernel
theorem d_Trees_findCut_23 : decode prog_11_method_11_code 23 = .ok (.aload_n 0, 1) := by decide +kernel
theorem d_Trees_findCut_24 : decode prog_11_method_11_code 24 = .ok (.getfield 73, 3) := by decide +kernel
theorem d_Trees_findCut_27 : decode prog_11_method_11_code 27 = .ok (.invokevirtual 63, 3) := by decide +kernel
theorem d_Trees_findCut_30 : decode prog_11_method_11_code 30 = .ok (.lstore 4, 2) := by decide +kernel
theorem d_Trees_findCut_32 : decode prog_11_method_11_code 32 = .ok (.aload_n 0, 1) := by decide +kernel
theorem d_Trees_findCut_33 : decode prog_11_method_11_code 33 = .ok (.getfield 76, 3) := by decide +kernel
theorem d_Trees_findCut_36 : decode prog_11_method_11_code 36 = .ok (.lload 4, 2) := by decide +kernel
theorem d_Trees_findCut_38 : decode prog_11_method_11_code 38 = .ok (.lcmp, 1) := by decide +kernel
theorem d_Trees_findCut_39 : decode prog_11_method_11_code 39 = .ok (.ifCond .ge 5, 3) := by decide +kernel
theorem d_Trees_findCut_44 : decode prog_11_method_11_code 44 = .ok (.aload_n 0, 1) := by decide +kernel
theorem d_Trees_findCut_45 : decode prog_11_method_11_code 45 = .ok (.dup, 1) := by decide +kernel
theorem d_Trees_findCut_46 : decode prog_11_method_11_code 46 = .ok (.getfield 76, 3) := by decide +kernel
theorem d_Trees_findCut_49 : decode prog_11_method_11_code 49 = .ok (.lload 4, 2) := by decide +kernel
theorem d_Trees_findCut_51 : decode prog_11_method_11_code 51 = .ok (.lsub, 1) := by decide +kernel
theorem d_Trees_findCut_52 : decode prog_11_method_11_code 52 = .ok (.putfield 76, 3) := by decide +kernel
theorem d_Trees_findCut_55 : decode prog_11_method_11_code 55 = .ok (.iinc 3 1, 3) := by decide +kernel
theorem d_Trees_findCut_58 : decode prog_11_method_11_code 58 = .ok (.goto (-51), 3) := by decide +kernel
theorem d_Trees_findCut_42 : decode prog_11_method_11_code 42 = .ok (.iload_n 3, 1) := by decide +kernel
theorem d_Trees_findCut_43 : decode prog_11_method_11_code 43 = .ok (.ireturn, 1) := by decide +kernel
def m_Trees_goDown : mr_T := (⟨"PlainMusic$Trees", "goDown", "(LPlainMusic$Score;IIZ)V"⟩, prog_11_method_12_code, 7, none)
theorem d_Trees_goDown_0 : decode prog_11_method_12_code 0 = .ok (.iconst 1, 1) := by decide +kernel
theorem d_Trees_goDown_1 : decode prog_11_method_12_code 1 = .ok (.aload_n 0, 1) := by decide +kernel
theorem d_Trees_goDown_2 : decode prog_11_method_12_code 2 = .ok (.aload_n 1, 1) := by decide +kernel
theorem d_Trees_goDown_3 : decode prog_11_method_12_code 3 = .ok (.getfield 54, 3) := by decide +kernel
theorem d_Trees_goDown_6 : decode prog_11_method_12_code 6 = .ok (.iload_n 2, 1) := by decide +kernel
theorem d_Trees_goDown_7 : decode prog_11_method_12_code 7 = .ok (.iaload, 1) := by decide +kernel
theorem d_Trees_goDown_8 : decode prog_11_method_12_code 8 = .ok (.iload_n 3, 1) := by decide +kernel
theorem d_Trees_goDown_9 : decode prog_11_method_12_code 9 = .ok (.aload_n 0, 1) := by decide +kernel
theorem d_Trees_goDown_10 : decode prog_11_method_12_code 10 = .ok (.getfield 73, 3) := by decide +kernel
theorem d_Trees_goDown_13 : decode prog_11_method_12_code 13 = .ok (.invokevirtual 35, 3) := by decide +kernel
theorem d_Trees_goDown_16 : decode prog_11_method_12_code 16 = .ok (.invokestatic 92, 3) := by decide +kernel
theorem lm_Trees_92 : Cond.methodLink "PlainMusic$Trees" 92 Lib.Math.max.name ∈ gw := gwi_1384
theorem d_Trees_goDown_19 : decode prog_11_method_12_code 19 = .ok (.i2l, 1) := by decide +kernel
theorem d_Trees_goDown_20 : decode prog_11_method_12_code 20 = .ok (.lstore 5, 2) := by decide +kernel
theorem d_Trees_goDown_22 : decode prog_11_method_12_code 22 = .ok (.iload 4, 2) := by decide +kernel
theorem d_Trees_goDown_24 : decode prog_11_method_12_code 24 = .ok (.ifCond .eq 32, 3) := by decide +kernel
theorem d_Trees_goDown_56 : decode prog_11_method_12_code 56 = .ok (.aload_n 0, 1) := by decide +kernel
theorem d_Trees_goDown_57 : decode prog_11_method_12_code 57 = .ok (.aload_n 1, 1) := by decide +kernel
theorem d_Trees_goDown_58 : decode prog_11_method_12_code 58 = .ok (.getfield 54, 3) := by decide +kernel
theorem d_Trees_goDown_61 : decode prog_11_method_12_code 61 = .ok (.iload_n 2, 1) := by decide +kernel
theorem d_Trees_goDown_62 : decode prog_11_method_12_code 62 = .ok (.iaload, 1) := by decide +kernel
theorem d_Trees_goDown_63 : decode prog_11_method_12_code 63 = .ok (.putfield 67, 3) := by decide +kernel
theorem d_Trees_goDown_66 : decode prog_11_method_12_code 66 = .ok (.aload_n 0, 1) := by decide +kernel
theorem d_Trees_goDown_67 : decode prog_11_method_12_code 67 = .ok (.iload_n 3, 1) := by decide +kernel
theorem d_Trees_goDown_68 : decode prog_11_method_12_code 68 = .ok (.putfield 70, 3) := by decide +kernel
theorem d_Trees_goDown_71 : decode prog_11_method_12_code 71 = .ok (.aload_n 0, 1) := by decide +kernel
theorem d_Trees_goDown_72 : decode prog_11_method_12_code 72 = .ok (.dup, 1) := by decide +kernel
theorem d_Trees_goDown_73 : decode prog_11_method_12_code 73 = .ok (.getfield 76, 3) := by decide +kernel
theorem d_Trees_goDown_76 : decode prog_11_method_12_code 76 = .ok (.lload 5, 2) := by decide +kernel
theorem d_Trees_goDown_78 : decode prog_11_method_12_code 78 = .ok (.lrem, 1) := by decide +kernel
theorem d_Trees_goDown_79 : decode prog_11_method_12_code 79 = .ok (.putfield 76, 3) := by decide +kernel
theorem d_Trees_goDown_82 : decode prog_11_method_12_code 82 = .ok (.return_, 1) := by decide +kernel
theorem d_Trees_goDown_27 : decode prog_11_method_12_code 27 = .ok (.aload_n 0, 1) := by decide +kernel
theorem d_Trees_goDown_28 : decode prog_11_method_12_code 28 = .ok (.aload_n 1, 1) := by decide +kernel
theorem d_Trees_goDown_29 : decode prog_11_method_12_code 29 = .ok (.getfield 60, 3) := by decide +kernel
theorem d_Trees_goDown_32 : decode prog_11_method_12_code 32 = .ok (.iload_n 2, 1) := by decide +kernel
theorem d_Trees_goDown_33 : decode prog_11_method_12_code 33 = .ok (.iaload, 1) := by decide +kernel
theorem d_Trees_goDown_34 : decode prog_11_method_12_code 34 = .ok (.putfield 67, 3) := by decide +kernel
theorem d_Trees_goDown_37 : decode prog_11_method_12_code 37 = .ok (.aload_n 0, 1) := by decide +kernel
theorem d_Trees_goDown_38 : decode prog_11_method_12_code 38 = .ok (.iload_n 3, 1) := by decide +kernel
theorem d_Trees_goDown_39 : decode prog_11_method_12_code 39 = .ok (.putfield 73, 3) := by decide +kernel
theorem d_Trees_goDown_42 : decode prog_11_method_12_code 42 = .ok (.aload_n 0, 1) := by decide +kernel
theorem d_Trees_goDown_43 : decode prog_11_method_12_code 43 = .ok (.dup, 1) := by decide +kernel
theorem d_Trees_goDown_44 : decode prog_11_method_12_code 44 = .ok (.getfield 76, 3) := by decide +kernel
theorem d_Trees_goDown_47 : decode prog_11_method_12_code 47 = .ok (.lload 5, 2) := by decide +kernel
theorem d_Trees_goDown_49 : decode prog_11_method_12_code 49 = .ok (.ldiv, 1) := by decide +kernel
theorem d_Trees_goDown_50 : decode prog_11_method_12_code 50 = .ok (.putfield 76, 3) := by decide +kernel
theorem d_Trees_goDown_53 : decode prog_11_method_12_code 53 = .ok (.goto 29, 3) := by decide +kernel
def m_Trees_ruleIn : mr_T := (⟨"PlainMusic$Trees", "ruleIn", "(LPlainMusic$Score;II)I"⟩, prog_11_method_9_code, 10, some .int)
theorem d_Trees_ruleIn_0 : decode prog_11_method_9_code 0 = .ok (.iload_n 2, 1) := by decide +kernel
theorem d_Trees_ruleIn_1 : decode prog_11_method_9_code 1 = .ok (.ifCond .lt 27, 3) := by decide +kernel
theorem d_Trees_ruleIn_28 : decode prog_11_method_9_code 28 = .ok (.iconst (-1), 1) := by decide +kernel
theorem d_Trees_ruleIn_29 : decode prog_11_method_9_code 29 = .ok (.ireturn, 1) := by decide +kernel
theorem d_Trees_ruleIn_4 : decode prog_11_method_9_code 4 = .ok (.iload_n 2, 1) := by decide +kernel
theorem d_Trees_ruleIn_5 : decode prog_11_method_9_code 5 = .ok (.aload_n 0, 1) := by decide +kernel
theorem d_Trees_ruleIn_6 : decode prog_11_method_9_code 6 = .ok (.getfield 15, 3) := by decide +kernel
theorem d_Trees_ruleIn_9 : decode prog_11_method_9_code 9 = .ok (.if_icmp .ge 19, 3) := by decide +kernel
theorem d_Trees_ruleIn_12 : decode prog_11_method_9_code 12 = .ok (.iload_n 3, 1) := by decide +kernel
theorem d_Trees_ruleIn_13 : decode prog_11_method_9_code 13 = .ok (.ifCond .lt 15, 3) := by decide +kernel
theorem d_Trees_ruleIn_16 : decode prog_11_method_9_code 16 = .ok (.iload_n 3, 1) := by decide +kernel
theorem d_Trees_ruleIn_17 : decode prog_11_method_9_code 17 = .ok (.iconst 2, 1) := by decide +kernel
theorem d_Trees_ruleIn_18 : decode prog_11_method_9_code 18 = .ok (.aload_n 1, 1) := by decide +kernel
theorem d_Trees_ruleIn_19 : decode prog_11_method_9_code 19 = .ok (.getfield 23, 3) := by decide +kernel
theorem d_Trees_ruleIn_22 : decode prog_11_method_9_code 22 = .ok (.imul, 1) := by decide +kernel
theorem d_Trees_ruleIn_23 : decode prog_11_method_9_code 23 = .ok (.iconst 1, 1) := by decide +kernel
theorem d_Trees_ruleIn_24 : decode prog_11_method_9_code 24 = .ok (.isub, 1) := by decide +kernel
theorem d_Trees_ruleIn_25 : decode prog_11_method_9_code 25 = .ok (.if_icmp .lt 5, 3) := by decide +kernel
theorem d_Trees_ruleIn_30 : decode prog_11_method_9_code 30 = .ok (.aload_n 0, 1) := by decide +kernel
theorem d_Trees_ruleIn_31 : decode prog_11_method_9_code 31 = .ok (.aload_n 1, 1) := by decide +kernel
theorem d_Trees_ruleIn_32 : decode prog_11_method_9_code 32 = .ok (.getfield 32, 3) := by decide +kernel
theorem d_Trees_ruleIn_35 : decode prog_11_method_9_code 35 = .ok (.iconst 0, 1) := by decide +kernel
theorem d_Trees_ruleIn_36 : decode prog_11_method_9_code 36 = .ok (.iaload, 1) := by decide +kernel
theorem d_Trees_ruleIn_37 : decode prog_11_method_9_code 37 = .ok (.putfield 67, 3) := by decide +kernel
theorem d_Trees_ruleIn_40 : decode prog_11_method_9_code 40 = .ok (.aload_n 0, 1) := by decide +kernel
theorem d_Trees_ruleIn_41 : decode prog_11_method_9_code 41 = .ok (.iconst 0, 1) := by decide +kernel
theorem d_Trees_ruleIn_42 : decode prog_11_method_9_code 42 = .ok (.putfield 70, 3) := by decide +kernel
theorem d_Trees_ruleIn_45 : decode prog_11_method_9_code 45 = .ok (.aload_n 0, 1) := by decide +kernel
theorem d_Trees_ruleIn_46 : decode prog_11_method_9_code 46 = .ok (.aload_n 1, 1) := by decide +kernel
theorem d_Trees_ruleIn_47 : decode prog_11_method_9_code 47 = .ok (.getfield 23, 3) := by decide +kernel
theorem d_Trees_ruleIn_50 : decode prog_11_method_9_code 50 = .ok (.putfield 73, 3) := by decide +kernel
theorem d_Trees_ruleIn_53 : decode prog_11_method_9_code 53 = .ok (.aload_n 0, 1) := by decide +kernel
theorem d_Trees_ruleIn_54 : decode prog_11_method_9_code 54 = .ok (.iload_n 2, 1) := by decide +kernel
theorem d_Trees_ruleIn_55 : decode prog_11_method_9_code 55 = .ok (.i2l, 1) := by decide +kernel
theorem d_Trees_ruleIn_56 : decode prog_11_method_9_code 56 = .ok (.putfield 76, 3) := by decide +kernel
theorem d_Trees_ruleIn_59 : decode prog_11_method_9_code 59 = .ok (.iload_n 3, 1) := by decide +kernel
theorem d_Trees_ruleIn_60 : decode prog_11_method_9_code 60 = .ok (.istore 4, 2) := by decide +kernel
theorem d_Trees_ruleIn_62 : decode prog_11_method_9_code 62 = .ok (.iconst 0, 1) := by decide +kernel
theorem d_Trees_ruleIn_63 : decode prog_11_method_9_code 63 = .ok (.istore 5, 2) := by decide +kernel
theorem d_Trees_ruleIn_65 : decode prog_11_method_9_code 65 = .ok (.iload 5, 2) := by decide +kernel
theorem d_Trees_ruleIn_67 : decode prog_11_method_9_code 67 = .ok (.bipush 24, 2) := by decide +kernel
theorem d_Trees_ruleIn_69 : decode prog_11_method_9_code 69 = .ok (.if_icmp .ge 104, 3) := by decide +kernel
theorem d_Trees_ruleIn_72 : decode prog_11_method_9_code 72 = .ok (.aload_n 0, 1) := by decide +kernel
theorem d_Trees_ruleIn_73 : decode prog_11_method_9_code 73 = .ok (.aload_n 1, 1) := by decide +kernel
theorem d_Trees_ruleIn_74 : decode prog_11_method_9_code 74 = .ok (.invokevirtual 80, 3) := by decide +kernel
theorem k_Trees_findRule : mt_OK m_Trees_findRule 1 1 := ⟨gwi_1375, gwi_144, ⟨by decide +kernel, by decide +kernel, by decide +kernel⟩, fun h => absurd h (by decide), fun _ => ⟨gwi_1374, gwi_50⟩, fun h => absurd h (by decide)⟩
theorem l_Trees_80 : ml_OK "PlainMusic$Trees" 80 ⟨"PlainMusic$Trees", "findRule", "(LPlainMusic$Score;)I"⟩ := Or.inl gwi_1372
theorem d_Trees_ruleIn_77 : decode prog_11_method_9_code 77 = .ok (.istore 6, 2) := by decide +kernel
theorem d_Trees_ruleIn_79 : decode prog_11_method_9_code 79 = .ok (.iload 4, 2) := by decide +kernel
theorem d_Trees_ruleIn_81 : decode prog_11_method_9_code 81 = .ok (.ifCond .eq 18, 3) := by decide +kernel
theorem d_Trees_ruleIn_99 : decode prog_11_method_9_code 99 = .ok (.iload 6, 2) := by decide +kernel
theorem d_Trees_ruleIn_101 : decode prog_11_method_9_code 101 = .ok (.ireturn, 1) := by decide +kernel
theorem d_Trees_ruleIn_84 : decode prog_11_method_9_code 84 = .ok (.iload 6, 2) := by decide +kernel
theorem d_Trees_ruleIn_86 : decode prog_11_method_9_code 86 = .ok (.ifCond .lt 13, 3) := by decide +kernel
theorem d_Trees_ruleIn_89 : decode prog_11_method_9_code 89 = .ok (.aload_n 1, 1) := by decide +kernel
theorem d_Trees_ruleIn_90 : decode prog_11_method_9_code 90 = .ok (.getfield 54, 3) := by decide +kernel
theorem d_Trees_ruleIn_93 : decode prog_11_method_9_code 93 = .ok (.iload 6, 2) := by decide +kernel
theorem d_Trees_ruleIn_95 : decode prog_11_method_9_code 95 = .ok (.iaload, 1) := by decide +kernel
theorem d_Trees_ruleIn_96 : decode prog_11_method_9_code 96 = .ok (.ifCond .ge 6, 3) := by decide +kernel
theorem d_Trees_ruleIn_102 : decode prog_11_method_9_code 102 = .ok (.aload_n 0, 1) := by decide +kernel
theorem d_Trees_ruleIn_103 : decode prog_11_method_9_code 103 = .ok (.aload_n 1, 1) := by decide +kernel
theorem d_Trees_ruleIn_104 : decode prog_11_method_9_code 104 = .ok (.iload 6, 2) := by decide +kernel
theorem d_Trees_ruleIn_106 : decode prog_11_method_9_code 106 = .ok (.invokevirtual 84, 3) := by decide +kernel
theorem k_Trees_findCut : mt_OK m_Trees_findCut 2 1 := ⟨gwi_1379, gwi_144, ⟨by decide +kernel, by decide +kernel, by decide +kernel⟩, fun h => absurd h (by decide), fun _ => ⟨gwi_1378, gwi_51⟩, fun h => absurd h (by decide)⟩
theorem l_Trees_84 : ml_OK "PlainMusic$Trees" 84 ⟨"PlainMusic$Trees", "findCut", "(LPlainMusic$Score;I)I"⟩ := Or.inl gwi_1376
theorem d_Trees_ruleIn_109 : decode prog_11_method_9_code 109 = .ok (.istore 7, 2) := by decide +kernel
theorem d_Trees_ruleIn_111 : decode prog_11_method_9_code 111 = .ok (.iconst 2, 1) := by decide +kernel
theorem d_Trees_ruleIn_112 : decode prog_11_method_9_code 112 = .ok (.iload 7, 2) := by decide +kernel
theorem d_Trees_ruleIn_114 : decode prog_11_method_9_code 114 = .ok (.aload_n 0, 1) := by decide +kernel
theorem d_Trees_ruleIn_115 : decode prog_11_method_9_code 115 = .ok (.getfield 70, 3) := by decide +kernel
theorem d_Trees_ruleIn_118 : decode prog_11_method_9_code 118 = .ok (.isub, 1) := by decide +kernel
theorem d_Trees_ruleIn_119 : decode prog_11_method_9_code 119 = .ok (.imul, 1) := by decide +kernel
theorem d_Trees_ruleIn_120 : decode prog_11_method_9_code 120 = .ok (.iconst 1, 1) := by decide +kernel
theorem d_Trees_ruleIn_121 : decode prog_11_method_9_code 121 = .ok (.isub, 1) := by decide +kernel
theorem d_Trees_ruleIn_122 : decode prog_11_method_9_code 122 = .ok (.istore 8, 2) := by decide +kernel
theorem d_Trees_ruleIn_124 : decode prog_11_method_9_code 124 = .ok (.iload 4, 2) := by decide +kernel
theorem d_Trees_ruleIn_126 : decode prog_11_method_9_code 126 = .ok (.iload 8, 2) := by decide +kernel
theorem d_Trees_ruleIn_128 : decode prog_11_method_9_code 128 = .ok (.if_icmp .gt 7, 3) := by decide +kernel
theorem d_Trees_ruleIn_135 : decode prog_11_method_9_code 135 = .ok (.iconst 0, 1) := by decide +kernel
theorem d_Trees_ruleIn_136 : decode prog_11_method_9_code 136 = .ok (.istore 9, 2) := by decide +kernel
theorem d_Trees_ruleIn_138 : decode prog_11_method_9_code 138 = .ok (.aload_n 0, 1) := by decide +kernel
theorem d_Trees_ruleIn_139 : decode prog_11_method_9_code 139 = .ok (.aload_n 1, 1) := by decide +kernel
theorem d_Trees_ruleIn_140 : decode prog_11_method_9_code 140 = .ok (.iload 6, 2) := by decide +kernel
theorem d_Trees_ruleIn_142 : decode prog_11_method_9_code 142 = .ok (.iload 7, 2) := by decide +kernel
theorem d_Trees_ruleIn_144 : decode prog_11_method_9_code 144 = .ok (.iload 9, 2) := by decide +kernel
theorem d_Trees_ruleIn_146 : decode prog_11_method_9_code 146 = .ok (.invokevirtual 88, 3) := by decide +kernel
theorem k_Trees_goDown : mt_OK m_Trees_goDown 4 1 := ⟨gwi_1383, gwi_144, ⟨by decide +kernel, by decide +kernel, by decide +kernel⟩, fun h => absurd h (by decide), fun _ => ⟨gwi_1382, gwi_52⟩, fun h => absurd h (by decide)⟩
theorem l_Trees_88 : ml_OK "PlainMusic$Trees" 88 ⟨"PlainMusic$Trees", "goDown", "(LPlainMusic$Score;IIZ)V"⟩ := Or.inl gwi_1380
theorem d_Trees_ruleIn_149 : decode prog_11_method_9_code 149 = .ok (.iload 4, 2) := by decide +kernel
theorem d_Trees_ruleIn_151 : decode prog_11_method_9_code 151 = .ok (.iload 9, 2) := by decide +kernel
theorem d_Trees_ruleIn_153 : decode prog_11_method_9_code 153 = .ok (.ifCond .eq 7, 3) := by decide +kernel
theorem d_Trees_ruleIn_160 : decode prog_11_method_9_code 160 = .ok (.iconst 1, 1) := by decide +kernel
theorem d_Trees_ruleIn_161 : decode prog_11_method_9_code 161 = .ok (.iload 8, 2) := by decide +kernel
theorem d_Trees_ruleIn_163 : decode prog_11_method_9_code 163 = .ok (.iadd, 1) := by decide +kernel
theorem d_Trees_ruleIn_164 : decode prog_11_method_9_code 164 = .ok (.isub, 1) := by decide +kernel
theorem d_Trees_ruleIn_165 : decode prog_11_method_9_code 165 = .ok (.istore 4, 2) := by decide +kernel
theorem d_Trees_ruleIn_167 : decode prog_11_method_9_code 167 = .ok (.iinc 5 1, 3) := by decide +kernel
theorem d_Trees_ruleIn_170 : decode prog_11_method_9_code 170 = .ok (.goto (-105), 3) := by decide +kernel
theorem d_Trees_ruleIn_131 : decode prog_11_method_9_code 131 = .ok (.iconst 1, 1) := by decide +kernel
theorem d_Trees_ruleIn_132 : decode prog_11_method_9_code 132 = .ok (.goto 4, 3) := by decide +kernel
theorem d_Trees_ruleIn_156 : decode prog_11_method_9_code 156 = .ok (.iconst 1, 1) := by decide +kernel
theorem d_Trees_ruleIn_157 : decode prog_11_method_9_code 157 = .ok (.goto 7, 3) := by decide +kernel
theorem d_Trees_ruleIn_173 : decode prog_11_method_9_code 173 = .ok (.iconst (-1), 1) := by decide +kernel
theorem d_Trees_ruleIn_174 : decode prog_11_method_9_code 174 = .ok (.ireturn, 1) := by decide +kernel
theorem s_Trees_forget {G : cx_T} {s : Nat} {h : ah_T} (hx : xi s h)   : con G 0 0 0 m_Trees_forget [av_R (some 162)] h (fun r h' => r = none ∧ kF FC s h h') := by
  refine con_of (L := [some (av_R (some 162))]) (by decide +kernel) (Nat.le_of_ble_eq_true rfl) rfl ?_
  have hS : isS s := hx.2.1
  have hs0 : s = 17 ∨ s = 80 := hS
  have hs0b : 17 ≤ s ∧ s ≤ 80 := by omega
  have k0 : kF FC s h h := kF_0 hx
  refine A_aload_n 0 d_Trees_forget_0 rfl rfl ?_
  refine A_iconst d_Trees_forget_1 rfl ?_
  refine A_putIk (KR := kF FC s h) T_ok d_Trees_forget_2 f_Trees_15 (xi_s k0.1 sf_162) fin_f (kF_j k0 (by decide) (ns_b rfl) rgf_162_1 (by omega) (by omega)) (fun h1 k2 eh1 => ?_)
  exact A_vret d_Trees_forget_5 (by decide) rfl ⟨rfl, k2⟩
theorem s_Trees_slot {G : cx_T} {h : ah_T} {a0 : Int} {a1 : Int} {a2 : Int}  : con G 0 0 0 m_Trees_slot [av_I a0, av_I a1, av_I a2] h (fun r h' => ∃ z, r = some (av_I z) ∧ ((-2147483648) ≤ z ∧ z ≤ 2147483647) ∧ h = h') := by
  refine con_of (L := [some (av_I a0), some (av_I a1), some (av_I a2)]) (by decide +kernel) (Nat.le_of_ble_eq_true rfl) rfl ?_
  refine A_locI 0 rfl (fun ra => ?_)
  obtain ⟨_, _⟩ := ra
  refine A_locI 1 rfl (fun ra => ?_)
  obtain ⟨_, _⟩ := ra
  refine A_locI 2 rfl (fun ra => ?_)
  obtain ⟨_, _⟩ := ra
  refine A_iload_n 0 d_Trees_slot_0 rfl rfl ?_
  refine A_bipush d_Trees_slot_1 rfl ?_
  refine A_imulw d_Trees_slot_3 (fun x1 _ _ _ => ?_)
  refine A_iload_n 1 d_Trees_slot_4 rfl rfl ?_
  refine A_iaddw d_Trees_slot_5 (fun x2 _ _ _ => ?_)
  refine A_pc (pc' := 6) rfl ?_
  refine A_bipush d_Trees_slot_6 rfl ?_
  refine A_imulw d_Trees_slot_8 (fun x3 _ _ _ => ?_)
  refine A_iload_n 2 d_Trees_slot_9 rfl rfl ?_
  refine A_iaddw d_Trees_slot_10 (fun x4 _ _ _ => ?_)
  exact A_iret d_Trees_slot_11 (by decide) rfl ⟨_, rfl, ⟨by omega, by omega⟩, rfl⟩
theorem s_Trees_treesOf {G : cx_T} {s : Nat} {h : ah_T} (hx : xi s h) {a1 : Int} {a2 : Int} {a3 : Int}  : con G 1 0 0 m_Trees_treesOf [av_R (some 162), av_I a1, av_I a2, av_I a3] h (fun r h' => ∃ z, r = some (av_I z) ∧ ((-2147483648) ≤ z ∧ z ≤ 2147483647) ∧ h = h') := by
  refine con_of (L := [some (av_R (some 162)), some (av_I a1), some (av_I a2), some (av_I a3), none]) (by decide +kernel) (Nat.le_of_ble_eq_true rfl) rfl ?_
  have hS : isS s := hx.2.1
  have hs0 : s = 17 ∨ s = 80 := hS
  have hs0b : 17 ≤ s ∧ s ≤ 80 := by omega
  refine A_locI 1 rfl (fun ra => ?_)
  obtain ⟨_, _⟩ := ra
  refine A_locI 2 rfl (fun ra => ?_)
  obtain ⟨_, _⟩ := ra
  refine A_locI 3 rfl (fun ra => ?_)
  obtain ⟨_, _⟩ := ra
  refine A_iload_n 1 d_Trees_treesOf_0 rfl rfl ?_
  refine A_iload_n 2 d_Trees_treesOf_1 rfl rfl ?_
  refine A_iload_n 3 d_Trees_treesOf_2 rfl rfl ?_
  refine A_callS3 m_Trees_slot d_Trees_treesOf_3 l_Trees_19 k_Trees_slot (by decide +kernel) (by decide) (Nat.le_of_ble_eq_true rfl) (s_Trees_slot  ) (fun r h1 hq => ?_)
  obtain ⟨x3, rfl, ⟨_, _⟩, rfl⟩ := hq
  refine A_istore (L' := [some (av_R (some 162)), some (av_I a1), some (av_I a2), some (av_I a3), some (av_I x3)]) d_Trees_treesOf_6 (Nat.le_of_ble_eq_true rfl) rfl ?_
  refine A_iload d_Trees_treesOf_8 rfl ?_
  refine A_if_lt (tgt := 33) d_Trees_treesOf_10 (by decide) (fun c4 => ?_) (fun c4 => ?_)
  · refine A_iconst d_Trees_treesOf_33 rfl ?_
    exact A_iret d_Trees_treesOf_34 (by decide) rfl ⟨_, rfl, ⟨by omega, by omega⟩, rfl⟩
  · refine A_iload d_Trees_treesOf_13 rfl ?_
    refine A_aload_n 0 d_Trees_treesOf_15 rfl rfl ?_
    refine A_getAv (z := some 163) T_ok d_Trees_treesOf_16 f_Trees_11 (xi_s hx sf_162) (xi_r hx rff_162_0) ?_
    refine A_alenN d_Trees_treesOf_19 (xi_s hx sf_163) (by decide) (by decide) ?_
    refine A_icmp_ge (tgt := 33) d_Trees_treesOf_20 (by decide) (fun c6 => ?_) (fun c6 => ?_)
    · refine A_iconst d_Trees_treesOf_33 rfl ?_
      exact A_iret d_Trees_treesOf_34 (by decide) rfl ⟨_, rfl, ⟨by omega, by omega⟩, rfl⟩
    · refine A_aload_n 0 d_Trees_treesOf_23 rfl rfl ?_
      refine A_getAv (z := some 163) T_ok d_Trees_treesOf_24 f_Trees_11 (xi_s hx sf_162) (xi_r hx rff_162_0) ?_
      refine A_iload d_Trees_treesOf_27 rfl ?_
      refine A_ialoadf d_Trees_treesOf_29 (xi_s hx sf_163) (by omega) (by omega) (fun x8 ex8 _ _ => ?_)
      refine A_goto (tgt := 34) d_Trees_treesOf_30 (by decide) ?_
      exact A_iret d_Trees_treesOf_34 (by decide) rfl ⟨_, rfl, ⟨by omega, by omega⟩, rfl⟩
theorem s_Trees_treesCut {G : cx_T} {s : Nat} {h : ah_T} (hx : xi s h) {a1 : Nat} {a2 : Int} {a3 : Int} {a4 : Int} {a5 : Int} (ha1 : isS a1) (la2 : 0 ≤ a2) (ua2 : a2 ≤ 23) : con G 2 0 0 m_Trees_treesCut [av_R (some 162), av_R (some a1), av_I a2, av_I a3, av_I a4, av_I a5] h (fun r h' => ∃ z, r = some (av_L z) ∧ ((-9223372036854775808) ≤ z ∧ z ≤ 9223372036854775807) ∧ h = h') := by
  refine con_of (L := [some (av_R (some 162)), some (av_R (some a1)), some (av_I a2), some (av_I a3), some (av_I a4), some (av_I a5), none, none]) (by decide +kernel) (Nat.le_of_ble_eq_true rfl) rfl ?_
  have hS : isS s := hx.2.1
  have hs0 : s = 17 ∨ s = 80 := hS
  have hs0b : 17 ≤ s ∧ s ≤ 80 := by omega
  refine A_locI 3 rfl (fun ra => ?_)
  obtain ⟨_, _⟩ := ra
  refine A_locI 4 rfl (fun ra => ?_)
  obtain ⟨_, _⟩ := ra
  refine A_locI 5 rfl (fun ra => ?_)
  obtain ⟨_, _⟩ := ra
  refine A_aload_n 0 d_Trees_treesCut_0 rfl rfl ?_
  refine A_aload_n 1 d_Trees_treesCut_1 rfl rfl ?_
  refine A_getAv (z := some (a1 + 4)) T_ok d_Trees_treesCut_2 f_Trees_60 (xs_S hx ha1) (xr_S_8 hx ha1) ?_
  refine A_iload_n 2 d_Trees_treesCut_5 rfl rfl ?_
  refine A_ialoadf d_Trees_treesCut_6 (xs_S_8 hx ha1) (by omega) (by omega) (fun x2 ex2 _ _ => ?_)
  refine A_pc (pc' := 7) rfl ?_
  refine A_iload_n 3 d_Trees_treesCut_7 rfl rfl ?_
  refine A_iload d_Trees_treesCut_8 rfl ?_
  refine A_callV3 m_Trees_treesOf T_ok d_Trees_treesCut_10 l_Trees_35 k_Trees_treesOf (xi_s hx sf_162) rfl (by decide +kernel) (by decide) (Nat.le_of_ble_eq_true rfl) (s_Trees_treesOf hx ) (fun r h3 hq => ?_)
  obtain ⟨x5, rfl, ⟨_, _⟩, rfl⟩ := hq
  refine A_i2l d_Trees_treesCut_13 ?_
  refine A_lstore (L' := [some (av_R (some 162)), some (av_R (some a1)), some (av_I a2), some (av_I a3), some (av_I a4), some (av_I a5), some (av_L x5), none]) d_Trees_treesCut_14 (Nat.le_of_ble_eq_true rfl) rfl ?_
  refine A_lload d_Trees_treesCut_16 rfl ?_
  refine A_aload_n 0 d_Trees_treesCut_18 rfl rfl ?_
  refine A_aload_n 1 d_Trees_treesCut_19 rfl rfl ?_
  refine A_pc (pc' := 20) rfl ?_
  refine A_getAv (z := some (a1 + 5)) T_ok d_Trees_treesCut_20 f_Trees_54 (xs_S hx ha1) (xr_S_9 hx ha1) ?_
  refine A_iload_n 2 d_Trees_treesCut_23 rfl rfl ?_
  refine A_ialoadf d_Trees_treesCut_24 (xs_S_9 hx ha1) (by omega) (by omega) (fun x7 ex7 _ _ => ?_)
  refine A_iload d_Trees_treesCut_25 rfl ?_
  refine A_iload d_Trees_treesCut_27 rfl ?_
  refine A_callV3 m_Trees_treesOf T_ok d_Trees_treesCut_29 l_Trees_35 k_Trees_treesOf (xi_s hx sf_162) rfl (by decide +kernel) (by decide) (Nat.le_of_ble_eq_true rfl) (s_Trees_treesOf hx ) (fun r h8 hq => ?_)
  obtain ⟨x10, rfl, ⟨_, _⟩, rfl⟩ := hq
  refine A_i2l d_Trees_treesCut_32 ?_
  refine A_lmulw d_Trees_treesCut_33 (fun x11 _ _ _ => ?_)
  exact A_lret d_Trees_treesCut_34 (by decide) rfl ⟨_, rfl, ⟨by omega, by omega⟩, rfl⟩
theorem s_Trees_treesBy {G : cx_T} {s : Nat} {h : ah_T} (hx : xi s h) {a1 : Nat} {a2 : Int} {a3 : Int} {a4 : Int} (ha1 : isS a1) (la2 : 0 ≤ a2) (ua2 : a2 ≤ 23) (la3 : 0 ≤ a3) (ua3 : a3 ≤ 12) (la4 : 0 ≤ a4) (ua4 : a4 ≤ 12) : con G 3 0 0 m_Trees_treesBy [av_R (some 162), av_R (some a1), av_I a2, av_I a3, av_I a4] h (fun r h' => ∃ z, r = some (av_L z) ∧ ((-9223372036854775808) ≤ z ∧ z ≤ 9223372036854775807) ∧ h = h') := by
  refine con_of (L := [some (av_R (some 162)), some (av_R (some a1)), some (av_I a2), some (av_I a3), some (av_I a4), none, none, none]) (by decide +kernel) (Nat.le_of_ble_eq_true rfl) rfl ?_
  have hS : isS s := hx.2.1
  have hs0 : s = 17 ∨ s = 80 := hS
  have hs0b : 17 ≤ s ∧ s ≤ 80 := by omega
  refine A_aload_n 1 d_Trees_treesBy_0 rfl rfl ?_
  refine A_getAv (z := some (a1 + 5)) T_ok d_Trees_treesBy_1 f_Trees_54 (xs_S hx ha1) (xr_S_9 hx ha1) ?_
  refine A_iload_n 2 d_Trees_treesBy_4 rfl rfl ?_
  refine A_ialoadf d_Trees_treesBy_5 (xs_S_9 hx ha1) (by omega) (by omega) (fun x2 ex2 _ _ => ?_)
  refine A_if_ge (tgt := 38) d_Trees_treesBy_6 (by decide) (fun c3 => ?_) (fun c3 => ?_)
  · refine A_lconst_0 d_Trees_treesBy_38 ?_
    refine A_lstore (L' := [some (av_R (some 162)), some (av_R (some a1)), some (av_I a2), some (av_I a3), some (av_I a4), some (av_L 0), none, none]) d_Trees_treesBy_39 (Nat.le_of_ble_eq_true rfl) rfl ?_
    refine A_iload_n 3 d_Trees_treesBy_41 rfl rfl ?_
    refine A_iconst d_Trees_treesBy_42 rfl ?_
    refine A_iaddv (z := (a3 + 1)) d_Trees_treesBy_43 (w32_to (by omega) (by unfold i32; omega)) ?_
    refine A_pc (pc' := 44) rfl ?_
    refine A_istore (L' := [some (av_R (some 162)), some (av_R (some a1)), some (av_I a2), some (av_I a3), some (av_I a4), some (av_L 0), none, some (av_I (a3 + 1))]) d_Trees_treesBy_44 (Nat.le_of_ble_eq_true rfl) rfl ?_
    have lp46 : ∀ (n : Nat) (i4 i5 : Int) , (-9223372036854775808) ≤ i4 → i4 ≤ 9223372036854775807 → 1 ≤ i5 → i5 ≤ 13 → (14 - i5).toNat < n → aw G (rm_R 3 0 0) m_Trees_treesBy 0 0 46 [some (av_R (some 162)), some (av_R (some a1)), some (av_I a2), some (av_I a3), some (av_I a4), some (av_L i4), none, some (av_I i5)] [] h (fun r h' => ∃ z, r = some (av_L z) ∧ ((-9223372036854775808) ≤ z ∧ z ≤ 9223372036854775807) ∧ h = h') := by
      intro n
      induction n with
      | zero => intro i4 i5 _ _ _ _ hm; omega
      | succ n ih46 =>
        intro i4 i5 hl0 hl1 hl2 hl3 hm
        refine A_iload d_Trees_treesBy_46 rfl ?_
        refine A_iload d_Trees_treesBy_48 rfl ?_
        refine A_icmp_ge (tgt := 75) d_Trees_treesBy_50 (by decide) (fun c6 => ?_) (fun c6 => ?_)
        · refine A_lload d_Trees_treesBy_75 rfl ?_
          exact A_lret d_Trees_treesBy_77 (by decide) rfl ⟨_, rfl, ⟨by omega, by omega⟩, rfl⟩
        · refine A_lload d_Trees_treesBy_53 rfl ?_
          refine A_aload_n 0 d_Trees_treesBy_55 rfl rfl ?_
          refine A_aload_n 1 d_Trees_treesBy_56 rfl rfl ?_
          refine A_iload_n 2 d_Trees_treesBy_57 rfl rfl ?_
          refine A_iload_n 3 d_Trees_treesBy_58 rfl rfl ?_
          refine A_pc (pc' := 59) rfl ?_
          refine A_iload d_Trees_treesBy_59 rfl ?_
          refine A_iload d_Trees_treesBy_61 rfl ?_
          refine A_callV5 m_Trees_treesCut T_ok d_Trees_treesBy_63 l_Trees_63 k_Trees_treesCut (xi_s hx sf_162) rfl (by decide +kernel) (by decide) (Nat.le_of_ble_eq_true rfl) (s_Trees_treesCut hx ha1 (by omega) (by omega)) (fun r h7 hq => ?_)
          obtain ⟨x9, rfl, ⟨_, _⟩, rfl⟩ := hq
          refine A_laddw d_Trees_treesBy_66 (fun x10 _ _ _ => ?_)
          refine A_lstore (L' := [some (av_R (some 162)), some (av_R (some a1)), some (av_I a2), some (av_I a3), some (av_I a4), some (av_L x10), none, some (av_I i5)]) d_Trees_treesBy_67 (Nat.le_of_ble_eq_true rfl) rfl ?_
          refine A_iincv (z := (i5 + 1)) (L' := [some (av_R (some 162)), some (av_R (some a1)), some (av_I a2), some (av_I a3), some (av_I a4), some (av_L x10), none, some (av_I (i5 + 1))]) d_Trees_treesBy_69 rfl (w32_to (by omega) (by unfold i32; omega)) rfl ?_
          refine A_goto (tgt := 46) d_Trees_treesBy_72 (by decide) ?_
          exact ih46 x10 (i5 + 1) (by omega) (by omega) (by omega) (by omega) (by omega)
    exact lp46 _ 0 (a3 + 1) (by omega) (by omega) (by omega) (by omega) (Nat.lt_succ_self _)
  · refine A_iload d_Trees_treesBy_9 rfl ?_
    refine A_iload_n 3 d_Trees_treesBy_11 rfl rfl ?_
    refine A_isubv (z := (a4 - a3)) d_Trees_treesBy_12 (w32_to (by omega) (by unfold i32; omega)) ?_
    refine A_iconst d_Trees_treesBy_13 rfl ?_
    refine A_icmp_ne (tgt := 36) d_Trees_treesBy_14 (by decide) (fun c11 => ?_) (fun c11 => ?_)
    · refine A_lconst_0 d_Trees_treesBy_36 ?_
      exact A_lret d_Trees_treesBy_37 (by decide) rfl ⟨_, rfl, ⟨by omega, by omega⟩, rfl⟩
    · refine A_aload_n 1 d_Trees_treesBy_17 rfl rfl ?_
      refine A_getAv (z := some (a1 + 6)) T_ok d_Trees_treesBy_18 f_Trees_57 (xs_S hx ha1) (xr_S_11 hx ha1) ?_
      refine A_iload_n 3 d_Trees_treesBy_21 rfl rfl ?_
      refine A_ialoadf d_Trees_treesBy_22 (xs_S_11 hx ha1) (by omega) (by omega) (fun x13 ex13 _ _ => ?_)
      refine A_aload_n 1 d_Trees_treesBy_23 rfl rfl ?_
      refine A_pc (pc' := 24) rfl ?_
      refine A_getAv (z := some (a1 + 4)) T_ok d_Trees_treesBy_24 f_Trees_60 (xs_S hx ha1) (xr_S_8 hx ha1) ?_
      refine A_iload_n 2 d_Trees_treesBy_27 rfl rfl ?_
      refine A_ialoadf d_Trees_treesBy_28 (xs_S_8 hx ha1) (by omega) (by omega) (fun x15 ex15 _ _ => ?_)
      refine A_icmp_ne (tgt := 36) d_Trees_treesBy_29 (by decide) (fun c16 => ?_) (fun c16 => ?_)
      · refine A_lconst_0 d_Trees_treesBy_36 ?_
        exact A_lret d_Trees_treesBy_37 (by decide) rfl ⟨_, rfl, ⟨by omega, by omega⟩, rfl⟩
      · refine A_lconst_1 d_Trees_treesBy_32 ?_
        refine A_goto (tgt := 37) d_Trees_treesBy_33 (by decide) ?_
        exact A_lret d_Trees_treesBy_37 (by decide) rfl ⟨_, rfl, ⟨by omega, by omega⟩, rfl⟩
theorem s_Trees_fill {G : cx_T} {s : Nat} {h : ah_T} (hx : xi s h) {a1 : Nat} {a2 : Int} {a3 : Int} (ha1 : isS a1) (la2 : 0 ≤ a2) (ua2 : a2 ≤ 12) (la3 : 0 ≤ a3) (ua3 : a3 ≤ 12) : con G 4 0 0 m_Trees_fill [av_R (some 162), av_R (some a1), av_I a2, av_I a3] h (fun r h' => r = none ∧ kF FC s h h') := by
  refine con_of (L := [some (av_R (some 162)), some (av_R (some a1)), some (av_I a2), some (av_I a3), none, none]) (by decide +kernel) (Nat.le_of_ble_eq_true rfl) rfl ?_
  have hS : isS s := hx.2.1
  have hs0 : s = 17 ∨ s = 80 := hS
  have hs0b : 17 ≤ s ∧ s ≤ 80 := by omega
  have k0 : kF FC s h h := kF_0 hx
  refine A_iconst d_Trees_fill_0 rfl ?_
  refine A_istore (L' := [some (av_R (some 162)), some (av_R (some a1)), some (av_I a2), some (av_I a3), some (av_I 0), none]) d_Trees_fill_1 (Nat.le_of_ble_eq_true rfl) rfl ?_
  have lp3 : ∀ (n : Nat) (i1 : Int) (h2 : ah_T) , 0 ≤ i1 → i1 ≤ 24 → kF FC s h h2 → (25 - i1).toNat < n → aw G (rm_R 4 0 0) m_Trees_fill 0 0 3 [some (av_R (some 162)), some (av_R (some a1)), some (av_I a2), some (av_I a3), some (av_I i1), none] [] h2 (fun r h' => r = none ∧ kF FC s h h') := by
    intro n
    induction n with
    | zero => intro i1 h2 _ _ _ hm; omega
    | succ n ih3 =>
      intro i1 h2 hl0 hl1 k3 hm
      refine A_iload d_Trees_fill_3 rfl ?_
      refine A_aload_n 1 d_Trees_fill_5 rfl rfl ?_
      refine A_getIn (lo := 0) (hi := 24) T_ok d_Trees_fill_6 f_Trees_39 (xs_S k3.1 ha1) (xi_g k3.1 (lt1_S ha1) (rg_S_10 ha1)) (fun x4 ex4 _ _ => ?_)
      refine A_icmp_ge (tgt := 79) d_Trees_fill_9 (by decide) (fun c5 => ?_) (fun c5 => ?_)
      · exact A_vret d_Trees_fill_79 (by decide) rfl ⟨rfl, k3⟩
      · refine A_aload_n 1 d_Trees_fill_12 rfl rfl ?_
        refine A_getAv (z := some (a1 + 3)) T_ok d_Trees_fill_13 f_Trees_32 (xs_S k3.1 ha1) (xr_S_7 k3.1 ha1) ?_
        refine A_iload d_Trees_fill_16 rfl ?_
        refine A_ialoadf d_Trees_fill_18 (xs_S_7 k3.1 ha1) (by omega) (by omega) (fun x7 ex7 _ _ => ?_)
        refine A_iload_n 2 d_Trees_fill_19 rfl rfl ?_
        refine A_pc (pc' := 20) rfl ?_
        refine A_iload_n 3 d_Trees_fill_20 rfl rfl ?_
        refine A_callS3 m_Trees_slot d_Trees_fill_21 l_Trees_19 k_Trees_slot (by decide +kernel) (by decide) (Nat.le_of_ble_eq_true rfl) (s_Trees_slot  ) (fun r h8 hq => ?_)
        obtain ⟨x10, rfl, ⟨_, _⟩, rfl⟩ := hq
        refine A_istore (L' := [some (av_R (some 162)), some (av_R (some a1)), some (av_I a2), some (av_I a3), some (av_I i1), some (av_I x10)]) d_Trees_fill_24 (Nat.le_of_ble_eq_true rfl) rfl ?_
        refine A_iload d_Trees_fill_26 rfl ?_
        refine A_if_lt (tgt := 73) d_Trees_fill_28 (by decide) (fun c11 => ?_) (fun c11 => ?_)
        · refine A_iincv (z := (i1 + 1)) (L' := [some (av_R (some 162)), some (av_R (some a1)), some (av_I a2), some (av_I a3), some (av_I (i1 + 1)), some (av_I x10)]) d_Trees_fill_73 rfl (w32_to (by omega) (by unfold i32; omega)) rfl ?_
          refine A_goto (tgt := 3) d_Trees_fill_76 (by decide) ?_
          refine A_free (L' := [some (av_R (some 162)), some (av_R (some a1)), some (av_I a2), some (av_I a3), some (av_I (i1 + 1)), none]) (And.intro rfl (And.intro rfl (And.intro rfl (And.intro rfl (And.intro rfl trivial))))) ?_
          exact ih3 (i1 + 1) h2 (by omega) (by omega) k3 (by omega)
        · refine A_iload d_Trees_fill_31 rfl ?_
          refine A_aload_n 0 d_Trees_fill_33 rfl rfl ?_
          refine A_getAv (z := some 163) T_ok d_Trees_fill_34 f_Trees_11 (xi_s k3.1 sf_162) (xi_r k3.1 rff_162_0) ?_
          refine A_alenN d_Trees_fill_37 (xi_s k3.1 sf_163) (by decide) (by decide) ?_
          refine A_icmp_ge (tgt := 73) d_Trees_fill_38 (by decide) (fun c13 => ?_) (fun c13 => ?_)
          · refine A_iincv (z := (i1 + 1)) (L' := [some (av_R (some 162)), some (av_R (some a1)), some (av_I a2), some (av_I a3), some (av_I (i1 + 1)), some (av_I x10)]) d_Trees_fill_73 rfl (w32_to (by omega) (by unfold i32; omega)) rfl ?_
            refine A_goto (tgt := 3) d_Trees_fill_76 (by decide) ?_
            refine A_free (L' := [some (av_R (some 162)), some (av_R (some a1)), some (av_I a2), some (av_I a3), some (av_I (i1 + 1)), none]) (And.intro rfl (And.intro rfl (And.intro rfl (And.intro rfl (And.intro rfl trivial))))) ?_
            exact ih3 (i1 + 1) h2 (by omega) (by omega) k3 (by omega)
          · refine A_aload_n 0 d_Trees_fill_41 rfl rfl ?_
            refine A_getAv (z := some 163) T_ok d_Trees_fill_42 f_Trees_11 (xi_s k3.1 sf_162) (xi_r k3.1 rff_162_0) ?_
            refine A_iload d_Trees_fill_45 rfl ?_
            refine A_aload_n 0 d_Trees_fill_47 rfl rfl ?_
            refine A_getAv (z := some 163) T_ok d_Trees_fill_48 f_Trees_11 (xi_s k3.1 sf_162) (xi_r k3.1 rff_162_0) ?_
            refine A_pc (pc' := 51) rfl ?_
            refine A_iload d_Trees_fill_51 rfl ?_
            refine A_ialoadf d_Trees_fill_53 (xi_s k3.1 sf_163) (by omega) (by omega) (fun x16 ex16 _ _ => ?_)
            refine A_i2l d_Trees_fill_54 ?_
            refine A_aload_n 0 d_Trees_fill_55 rfl rfl ?_
            refine A_aload_n 1 d_Trees_fill_56 rfl rfl ?_
            refine A_iload d_Trees_fill_57 rfl ?_
            refine A_pc (pc' := 59) rfl ?_
            refine A_iload_n 2 d_Trees_fill_59 rfl rfl ?_
            refine A_iload_n 3 d_Trees_fill_60 rfl rfl ?_
            refine A_callV4 m_Trees_treesBy T_ok d_Trees_fill_61 l_Trees_42 k_Trees_treesBy (xi_s k3.1 sf_162) rfl (by decide +kernel) (by decide) (Nat.le_of_ble_eq_true rfl) (s_Trees_treesBy k3.1 ha1 (by omega) (by omega) (by omega) (by omega) (by omega) (by omega)) (fun r h17 hq => ?_)
            obtain ⟨x19, rfl, ⟨_, _⟩, rfl⟩ := hq
            refine A_laddw d_Trees_fill_64 (fun x20 _ _ _ => ?_)
            refine A_ldc2 (z := 1000001) d_Trees_fill_65 cst_Trees_46 rfl ?_
            refine A_callS2 m_JMath_min_JJJ d_Trees_fill_68 l_Trees_48 k_JMath_min_JJJ (by decide +kernel) (by decide) (Nat.le_of_ble_eq_true rfl) (s_JMath_min_JJJ  ) (fun r h21 hq => ?_)
            obtain ⟨x23, rfl, ⟨_, _⟩, xx23, rfl⟩ := hq
            refine A_l2iw d_Trees_fill_71 (fun x24 _ _ _ => ?_)
            refine A_iastorek (KR := kF FC s h) d_Trees_fill_72 (xi_s k3.1 sf_163) (by omega) (by omega) (kF_j k3 (by decide) (ns_b rfl) (rgf_163 _) (by omega) (by omega)) (fun h25 k26 eh25 => ?_)
            refine A_iincv (z := (i1 + 1)) (L' := [some (av_R (some 162)), some (av_R (some a1)), some (av_I a2), some (av_I a3), some (av_I (i1 + 1)), some (av_I x10)]) d_Trees_fill_73 rfl (w32_to (by omega) (by unfold i32; omega)) rfl ?_
            refine A_goto (tgt := 3) d_Trees_fill_76 (by decide) ?_
            refine A_free (L' := [some (av_R (some 162)), some (av_R (some a1)), some (av_I a2), some (av_I a3), some (av_I (i1 + 1)), none]) (And.intro rfl (And.intro rfl (And.intro rfl (And.intro rfl (And.intro rfl trivial))))) ?_
            exact ih3 (i1 + 1) h25 (by omega) (by omega) k26 (by omega)
  exact lp3 _ 0 h (by omega) (by omega) k0 (Nat.lt_succ_self _)
theorem s_Trees_find {G : cx_T} {s : Nat} {h : ah_T} (hx : xi s h) {a1 : Nat} (ha1 : isS a1) : con G 5 0 0 m_Trees_find [av_R (some 162), av_R (some a1)] h (fun r h' => ∃ z, r = some (av_I z) ∧ ((-2147483648) ≤ z ∧ z ≤ 2147483647) ∧ kF FC s h h') := by
  refine con_of (L := [some (av_R (some 162)), some (av_R (some a1)), none, none]) (by decide +kernel) (Nat.le_of_ble_eq_true rfl) rfl ?_
  have hS : isS s := hx.2.1
  have hs0 : s = 17 ∨ s = 80 := hS
  have hs0b : 17 ≤ s ∧ s ≤ 80 := by omega
  have k0 : kF FC s h h := kF_0 hx
  refine A_iconst d_Trees_find_0 rfl ?_
  refine A_istore_n 2 (L' := [some (av_R (some 162)), some (av_R (some a1)), some (av_I 0), none]) d_Trees_find_1 rfl (Nat.le_of_ble_eq_true rfl) rfl ?_
  have lp2 : ∀ (n : Nat) (i1 : Int) (h2 : ah_T) , 0 ≤ i1 → i1 ≤ 2704 → kF FC s h h2 → (2705 - i1).toNat < n → aw G (rm_R 5 0 0) m_Trees_find 0 0 2 [some (av_R (some 162)), some (av_R (some a1)), some (av_I i1), none] [] h2 (fun r h' => ∃ z, r = some (av_I z) ∧ ((-2147483648) ≤ z ∧ z ≤ 2147483647) ∧ kF FC s h h') := by
    intro n
    induction n with
    | zero => intro i1 h2 _ _ _ hm; omega
    | succ n ih2 =>
      intro i1 h2 hl0 hl1 k3 hm
      refine A_iload_n 2 d_Trees_find_2 rfl rfl ?_
      refine A_aload_n 0 d_Trees_find_3 rfl rfl ?_
      refine A_getAv (z := some 163) T_ok d_Trees_find_4 f_Trees_11 (xi_s k3.1 sf_162) (xi_r k3.1 rff_162_0) ?_
      refine A_alenN d_Trees_find_7 (xi_s k3.1 sf_163) (by decide) (by decide) ?_
      refine A_icmp_ge (tgt := 24) d_Trees_find_8 (by decide) (fun c5 => ?_) (fun c5 => ?_)
      · refine A_iconst d_Trees_find_24 rfl ?_
        refine A_istore_n 2 (L' := [some (av_R (some 162)), some (av_R (some a1)), some (av_I 1), none]) d_Trees_find_25 rfl (Nat.le_of_ble_eq_true rfl) rfl ?_
        have lp26 : ∀ (n : Nat) (i6 : Int) (h7 : ah_T) , 1 ≤ i6 → i6 ≤ 13 → kF FC s h h7 → (14 - i6).toNat < n → aw G (rm_R 5 0 0) m_Trees_find 0 0 26 [some (av_R (some 162)), some (av_R (some a1)), some (av_I i6), none] [] h7 (fun r h' => ∃ z, r = some (av_I z) ∧ ((-2147483648) ≤ z ∧ z ≤ 2147483647) ∧ kF FC s h h') := by
          intro n
          induction n with
          | zero => intro i6 h7 _ _ _ hm; omega
          | succ n ih26 =>
            intro i6 h7 hl0 hl1 k8 hm
            refine A_iload_n 2 d_Trees_find_26 rfl rfl ?_
            refine A_aload_n 1 d_Trees_find_27 rfl rfl ?_
            refine A_getIn (lo := 0) (hi := 12) T_ok d_Trees_find_28 f_Trees_23 (xs_S k8.1 ha1) (xi_g k8.1 (lt1_S ha1) (rg_S_12 ha1)) (fun x9 ex9 _ _ => ?_)
            refine A_icmp_gt (tgt := 67) d_Trees_find_31 (by decide) (fun c10 => ?_) (fun c10 => ?_)
            · refine A_aload_n 0 d_Trees_find_67 rfl rfl ?_
              refine A_aload_n 1 d_Trees_find_68 rfl rfl ?_
              refine A_getAv (z := some (a1 + 3)) T_ok d_Trees_find_69 f_Trees_32 (xs_S k8.1 ha1) (xr_S_7 k8.1 ha1) ?_
              refine A_iconst d_Trees_find_72 rfl ?_
              refine A_ialoadf d_Trees_find_73 (xs_S_7 k8.1 ha1) (by decide) (by decide) (fun x12 ex12 _ _ => ?_)
              refine A_pc (pc' := 74) rfl ?_
              refine A_iconst d_Trees_find_74 rfl ?_
              refine A_aload_n 1 d_Trees_find_75 rfl rfl ?_
              refine A_getIv (z := x9) T_ok d_Trees_find_76 f_Trees_23 (xs_S k8.1 ha1) ex9.symm ?_
              refine A_callV3 m_Trees_treesOf T_ok d_Trees_find_79 l_Trees_35 k_Trees_treesOf (xi_s k8.1 sf_162) rfl (by decide +kernel) (by decide) (Nat.le_of_ble_eq_true rfl) (s_Trees_treesOf k8.1 ) (fun r h14 hq => ?_)
              obtain ⟨x16, rfl, ⟨_, _⟩, rfl⟩ := hq
              refine A_istore_n 2 (L' := [some (av_R (some 162)), some (av_R (some a1)), some (av_I x16), none]) d_Trees_find_82 rfl (Nat.le_of_ble_eq_true rfl) rfl ?_
              refine A_iload_n 2 d_Trees_find_83 rfl rfl ?_
              refine A_ldc (z := 1000000) d_Trees_find_84 cst_Trees_38 rfl ?_
              refine A_icmp_le (tgt := 92) d_Trees_find_86 (by decide) (fun c17 => ?_) (fun c17 => ?_)
              · refine A_aload_n 0 d_Trees_find_92 rfl rfl ?_
                refine A_iload_n 2 d_Trees_find_93 rfl rfl ?_
                refine A_putIk (KR := kF FC s h) T_ok d_Trees_find_94 f_Trees_15 (xi_s k8.1 sf_162) fin_f (kF_j k8 (by decide) (ns_b rfl) rgf_162_1 (by omega) (by omega)) (fun h18 k19 eh18 => ?_)
                refine A_iload_n 2 d_Trees_find_97 rfl rfl ?_
                exact A_iret d_Trees_find_98 (by decide) rfl ⟨_, rfl, ⟨by omega, by omega⟩, k19⟩
              · refine A_bipush d_Trees_find_89 rfl ?_
                exact A_iret d_Trees_find_91 (by decide) rfl ⟨_, rfl, ⟨by omega, by omega⟩, k8⟩
            · refine A_iconst d_Trees_find_34 rfl ?_
              refine A_istore_n 3 (L' := [some (av_R (some 162)), some (av_R (some a1)), some (av_I i6), some (av_I 0)]) d_Trees_find_35 rfl (Nat.le_of_ble_eq_true rfl) rfl ?_
              have lp36 : ∀ (n : Nat) (i20 : Int) (h21 : ah_T) , 0 ≤ i20 → i20 ≤ 12 → kF FC s h h21 → (13 - i20).toNat < n → aw G (rm_R 5 0 0) m_Trees_find 0 0 36 [some (av_R (some 162)), some (av_R (some a1)), some (av_I i6), some (av_I i20)] [] h21 (fun r h' => ∃ z, r = some (av_I z) ∧ ((-2147483648) ≤ z ∧ z ≤ 2147483647) ∧ kF FC s h h') := by
                intro n
                induction n with
                | zero => intro i20 h21 _ _ _ hm; omega
                | succ n ih36 =>
                  intro i20 h21 hl0 hl1 k22 hm
                  refine A_iload_n 3 d_Trees_find_36 rfl rfl ?_
                  refine A_iload_n 2 d_Trees_find_37 rfl rfl ?_
                  refine A_iaddv (z := (i20 + i6)) d_Trees_find_38 (w32_to (by omega) (by unfold i32; omega)) ?_
                  refine A_aload_n 1 d_Trees_find_39 rfl rfl ?_
                  refine A_getIn (lo := 0) (hi := 12) T_ok d_Trees_find_40 f_Trees_23 (xs_S k22.1 ha1) (xi_g k22.1 (lt1_S ha1) (rg_S_12 ha1)) (fun x23 ex23 _ _ => ?_)
                  refine A_pc (pc' := 43) rfl ?_
                  refine A_icmp_gt (tgt := 61) d_Trees_find_43 (by decide) (fun c24 => ?_) (fun c24 => ?_)
                  · refine A_iincv (z := (i6 + 1)) (L' := [some (av_R (some 162)), some (av_R (some a1)), some (av_I (i6 + 1)), some (av_I i20)]) d_Trees_find_61 rfl (w32_to (by omega) (by unfold i32; omega)) rfl ?_
                    refine A_goto (tgt := 26) d_Trees_find_64 (by decide) ?_
                    refine A_free (L' := [some (av_R (some 162)), some (av_R (some a1)), some (av_I (i6 + 1)), none]) (And.intro rfl (And.intro rfl (And.intro rfl trivial))) ?_
                    exact ih26 (i6 + 1) h21 (by omega) (by omega) k22 (by omega)
                  · refine A_aload_n 0 d_Trees_find_46 rfl rfl ?_
                    refine A_aload_n 1 d_Trees_find_47 rfl rfl ?_
                    refine A_iload_n 3 d_Trees_find_48 rfl rfl ?_
                    refine A_iload_n 3 d_Trees_find_49 rfl rfl ?_
                    refine A_iload_n 2 d_Trees_find_50 rfl rfl ?_
                    refine A_pc (pc' := 51) rfl ?_
                    refine A_iaddv (z := (i20 + i6)) d_Trees_find_51 (w32_to (by omega) (by unfold i32; omega)) ?_
                    refine A_callV3 m_Trees_fill T_ok d_Trees_find_52 l_Trees_28 k_Trees_fill (xi_s k22.1 sf_162) rfl (by decide +kernel) (by decide) (Nat.le_of_ble_eq_true rfl) (s_Trees_fill k22.1 ha1 (by omega) (by omega) (by omega) (by omega)) (fun r h25 hq => ?_)
                    obtain ⟨rfl, k26⟩ := hq
                    have k27 := kF_t k22 k26 (fun _ q => q)
                    refine A_iincv (z := (i20 + 1)) (L' := [some (av_R (some 162)), some (av_R (some a1)), some (av_I i6), some (av_I (i20 + 1))]) d_Trees_find_55 rfl (w32_to (by omega) (by unfold i32; omega)) rfl ?_
                    refine A_goto (tgt := 36) d_Trees_find_58 (by decide) ?_
                    exact ih36 (i20 + 1) h25 (by omega) (by omega) k27 (by omega)
              exact lp36 _ 0 h7 (by omega) (by omega) k8 (Nat.lt_succ_self _)
        exact lp26 _ 1 h2 (by omega) (by omega) k3 (Nat.lt_succ_self _)
      · refine A_aload_n 0 d_Trees_find_11 rfl rfl ?_
        refine A_getAv (z := some 163) T_ok d_Trees_find_12 f_Trees_11 (xi_s k3.1 sf_162) (xi_r k3.1 rff_162_0) ?_
        refine A_iload_n 2 d_Trees_find_15 rfl rfl ?_
        refine A_iconst d_Trees_find_16 rfl ?_
        refine A_iastorek (KR := kF FC s h) d_Trees_find_17 (xi_s k3.1 sf_163) (by omega) (by omega) (kF_j k3 (by decide) (ns_b rfl) (rgf_163 _) (by omega) (by omega)) (fun h29 k30 eh29 => ?_)
        refine A_pc (pc' := 18) rfl ?_
        refine A_iincv (z := (i1 + 1)) (L' := [some (av_R (some 162)), some (av_R (some a1)), some (av_I (i1 + 1)), none]) d_Trees_find_18 rfl (w32_to (by omega) (by unfold i32; omega)) rfl ?_
        refine A_goto (tgt := 2) d_Trees_find_21 (by decide) ?_
        exact ih2 (i1 + 1) h29 (by omega) (by omega) k30 (by omega)
  exact lp2 _ 0 h (by omega) (by omega) k0 (Nat.lt_succ_self _)
theorem s_Trees_findRule {G : cx_T} {s : Nat} {h : ah_T} (hx : xi s h) {a1 : Nat} (ha1 : isS a1) : con G 4 0 0 m_Trees_findRule [av_R (some 162), av_R (some a1)] h (fun r h' => ∃ z, r = some (av_I z) ∧ ((-1) ≤ z ∧ z ≤ 23) ∧ kF FC s h h') := by
  refine con_of (L := [some (av_R (some 162)), some (av_R (some a1)), none, none, none]) (by decide +kernel) (Nat.le_of_ble_eq_true rfl) rfl ?_
  have hS : isS s := hx.2.1
  have hs0 : s = 17 ∨ s = 80 := hS
  have hs0b : 17 ≤ s ∧ s ≤ 80 := by omega
  have k0 : kF FC s h h := kF_0 hx
  refine A_iconst d_Trees_findRule_0 rfl ?_
  refine A_istore_n 2 (L' := [some (av_R (some 162)), some (av_R (some a1)), some (av_I 0), none, none]) d_Trees_findRule_1 rfl (Nat.le_of_ble_eq_true rfl) rfl ?_
  have lp2 : ∀ (n : Nat) (i1 : Int) (h2 : ah_T) , 0 ≤ i1 → i1 ≤ 24 → kF FC s h h2 → (25 - i1).toNat < n → aw G (rm_R 4 0 0) m_Trees_findRule 0 0 2 [some (av_R (some 162)), some (av_R (some a1)), some (av_I i1), none, none] [] h2 (fun r h' => ∃ z, r = some (av_I z) ∧ ((-1) ≤ z ∧ z ≤ 23) ∧ kF FC s h h') := by
    intro n
    induction n with
    | zero => intro i1 h2 _ _ _ hm; omega
    | succ n ih2 =>
      intro i1 h2 hl0 hl1 k3 hm
      refine A_iload_n 2 d_Trees_findRule_2 rfl rfl ?_
      refine A_aload_n 1 d_Trees_findRule_3 rfl rfl ?_
      refine A_getIn (lo := 0) (hi := 24) T_ok d_Trees_findRule_4 f_Trees_39 (xs_S k3.1 ha1) (xi_g k3.1 (lt1_S ha1) (rg_S_10 ha1)) (fun x4 ex4 _ _ => ?_)
      refine A_icmp_ge (tgt := 65) d_Trees_findRule_7 (by decide) (fun c5 => ?_) (fun c5 => ?_)
      · refine A_iconst d_Trees_findRule_65 rfl ?_
        exact A_iret d_Trees_findRule_66 (by decide) rfl ⟨_, rfl, ⟨by omega, by omega⟩, k3⟩
      · refine A_aload_n 1 d_Trees_findRule_10 rfl rfl ?_
        refine A_getAv (z := some (a1 + 3)) T_ok d_Trees_findRule_11 f_Trees_32 (xs_S k3.1 ha1) (xr_S_7 k3.1 ha1) ?_
        refine A_iload_n 2 d_Trees_findRule_14 rfl rfl ?_
        refine A_ialoadf d_Trees_findRule_15 (xs_S_7 k3.1 ha1) (by omega) (by omega) (fun x7 ex7 _ _ => ?_)
        refine A_aload_n 0 d_Trees_findRule_16 rfl rfl ?_
        refine A_pc (pc' := 17) rfl ?_
        refine A_getIf T_ok d_Trees_findRule_17 f_Trees_67 (xi_s k3.1 sf_162) (fun x8 ex8 _ _ => ?_)
        refine A_icmp_ne (tgt := 59) d_Trees_findRule_20 (by decide) (fun c9 => ?_) (fun c9 => ?_)
        · refine A_iincv (z := (i1 + 1)) (L' := [some (av_R (some 162)), some (av_R (some a1)), some (av_I (i1 + 1)), none, none]) d_Trees_findRule_59 rfl (w32_to (by omega) (by unfold i32; omega)) rfl ?_
          refine A_goto (tgt := 2) d_Trees_findRule_62 (by decide) ?_
          exact ih2 (i1 + 1) h2 (by omega) (by omega) k3 (by omega)
        · refine A_aload_n 0 d_Trees_findRule_23 rfl rfl ?_
          refine A_aload_n 1 d_Trees_findRule_24 rfl rfl ?_
          refine A_iload_n 2 d_Trees_findRule_25 rfl rfl ?_
          refine A_aload_n 0 d_Trees_findRule_26 rfl rfl ?_
          refine A_getIn (lo := 0) (hi := 12) T_ok d_Trees_findRule_27 f_Trees_70 (xi_s k3.1 sf_162) (xi_g k3.1 (by decide) rgf_162_3) (fun x10 ex10 _ _ => ?_)
          refine A_pc (pc' := 30) rfl ?_
          refine A_aload_n 0 d_Trees_findRule_30 rfl rfl ?_
          refine A_getIn (lo := 0) (hi := 12) T_ok d_Trees_findRule_31 f_Trees_73 (xi_s k3.1 sf_162) (xi_g k3.1 (by decide) rgf_162_4) (fun x11 ex11 _ _ => ?_)
          refine A_callV4 m_Trees_treesBy T_ok d_Trees_findRule_34 l_Trees_42 k_Trees_treesBy (xi_s k3.1 sf_162) rfl (by decide +kernel) (by decide) (Nat.le_of_ble_eq_true rfl) (s_Trees_treesBy k3.1 ha1 (by omega) (by omega) (by omega) (by omega) (by omega) (by omega)) (fun r h12 hq => ?_)
          obtain ⟨x14, rfl, ⟨_, _⟩, rfl⟩ := hq
          refine A_lstore_n 3 (L' := [some (av_R (some 162)), some (av_R (some a1)), some (av_I i1), some (av_L x14), none]) d_Trees_findRule_37 rfl (Nat.le_of_ble_eq_true rfl) rfl ?_
          refine A_aload_n 0 d_Trees_findRule_38 rfl rfl ?_
          refine A_getLf T_ok d_Trees_findRule_39 f_Trees_76 (xi_s k3.1 sf_162) (fun x15 ex15 _ _ => ?_)
          refine A_lload_n 3 d_Trees_findRule_42 rfl rfl ?_
          refine A_lcmpn d_Trees_findRule_43 (fun x16 lx16 ex16 gx16 _ _ => ?_)
          refine A_pc (pc' := 44) rfl ?_
          refine A_if_ge (tgt := 49) d_Trees_findRule_44 (by decide) (fun c17 => ?_) (fun c17 => ?_)
          · have mc17 : (x15 - x14) ≥ 0 := by omega
            refine A_aload_n 0 d_Trees_findRule_49 rfl rfl ?_
            refine A_dupR d_Trees_findRule_50 ?_
            refine A_getLv (z := x15) T_ok d_Trees_findRule_51 f_Trees_76 (xi_s k3.1 sf_162) ex15.symm ?_
            refine A_lload_n 3 d_Trees_findRule_54 rfl rfl ?_
            refine A_lsubw d_Trees_findRule_55 (fun x19 _ _ _ => ?_)
            refine A_pc (pc' := 56) rfl ?_
            refine A_putLk (KR := kF FC s h) T_ok d_Trees_findRule_56 f_Trees_76 (xi_s k3.1 sf_162) fin_f (kF_l k3 (by decide) (nl_b rfl)) (fun h20 k21 eh20 => ?_)
            refine A_iincv (z := (i1 + 1)) (L' := [some (av_R (some 162)), some (av_R (some a1)), some (av_I (i1 + 1)), some (av_L x14), none]) d_Trees_findRule_59 rfl (w32_to (by omega) (by unfold i32; omega)) rfl ?_
            refine A_goto (tgt := 2) d_Trees_findRule_62 (by decide) ?_
            refine A_free (L' := [some (av_R (some 162)), some (av_R (some a1)), some (av_I (i1 + 1)), none, none]) (And.intro rfl (And.intro rfl (And.intro rfl trivial))) ?_
            exact ih2 (i1 + 1) h20 (by omega) (by omega) k21 (by omega)
          · have mc17 : (x15 - x14) < 0 := by omega
            refine A_iload_n 2 d_Trees_findRule_47 rfl rfl ?_
            exact A_iret d_Trees_findRule_48 (by decide) rfl ⟨_, rfl, ⟨by omega, by omega⟩, k3⟩
  exact lp2 _ 0 h (by omega) (by omega) k0 (Nat.lt_succ_self _)
theorem s_Trees_findCut {G : cx_T} {s : Nat} {h : ah_T} (hx : xi s h) {a1 : Nat} {a2 : Int} (ha1 : isS a1) (la2 : 0 ≤ a2) (ua2 : a2 ≤ 23) : con G 3 0 0 m_Trees_findCut [av_R (some 162), av_R (some a1), av_I a2] h (fun r h' => ∃ z, r = some (av_I z) ∧ (0 ≤ z ∧ z ≤ 12) ∧ kF FC s h h') := by
  refine con_of (L := [some (av_R (some 162)), some (av_R (some a1)), some (av_I a2), none, none, none]) (by decide +kernel) (Nat.le_of_ble_eq_true rfl) rfl ?_
  have hS : isS s := hx.2.1
  have hs0 : s = 17 ∨ s = 80 := hS
  have hs0b : 17 ≤ s ∧ s ≤ 80 := by omega
  have k0 : kF FC s h h := kF_0 hx
  refine A_aload_n 0 d_Trees_findCut_0 rfl rfl ?_
  refine A_getIn (lo := 0) (hi := 12) T_ok d_Trees_findCut_1 f_Trees_70 (xi_s k0.1 sf_162) (xi_g k0.1 (by decide) rgf_162_3) (fun x1 ex1 _ _ => ?_)
  refine A_iconst d_Trees_findCut_4 rfl ?_
  refine A_iaddv (z := (x1 + 1)) d_Trees_findCut_5 (w32_to (by omega) (by unfold i32; omega)) ?_
  refine A_istore_n 3 (L' := [some (av_R (some 162)), some (av_R (some a1)), some (av_I a2), some (av_I (x1 + 1)), none, none]) d_Trees_findCut_6 rfl (Nat.le_of_ble_eq_true rfl) rfl ?_
  have lp7 : ∀ (n : Nat) (i2 : Int) (h3 : ah_T) , 1 ≤ i2 → i2 ≤ 13 → kF FC s h h3 → (14 - i2).toNat < n → aw G (rm_R 3 0 0) m_Trees_findCut 0 0 7 [some (av_R (some 162)), some (av_R (some a1)), some (av_I a2), some (av_I i2), none, none] [] h3 (fun r h' => ∃ z, r = some (av_I z) ∧ (0 ≤ z ∧ z ≤ 12) ∧ kF FC s h h') := by
    intro n
    induction n with
    | zero => intro i2 h3 _ _ _ hm; omega
    | succ n ih7 =>
      intro i2 h3 hl0 hl1 k4 hm
      refine A_iload_n 3 d_Trees_findCut_7 rfl rfl ?_
      refine A_aload_n 0 d_Trees_findCut_8 rfl rfl ?_
      refine A_getIn (lo := 0) (hi := 12) T_ok d_Trees_findCut_9 f_Trees_73 (xi_s k4.1 sf_162) (xi_g k4.1 (by decide) rgf_162_4) (fun x5 ex5 _ _ => ?_)
      refine A_icmp_ge (tgt := 61) d_Trees_findCut_12 (by decide) (fun c6 => ?_) (fun c6 => ?_)
      · refine A_aload_n 0 d_Trees_findCut_61 rfl rfl ?_
        refine A_getIv (z := x5) T_ok d_Trees_findCut_62 f_Trees_73 (xi_s k4.1 sf_162) ex5.symm ?_
        exact A_iret d_Trees_findCut_65 (by decide) rfl ⟨_, rfl, ⟨by omega, by omega⟩, k4⟩
      · refine A_aload_n 0 d_Trees_findCut_15 rfl rfl ?_
        refine A_aload_n 1 d_Trees_findCut_16 rfl rfl ?_
        refine A_iload_n 2 d_Trees_findCut_17 rfl rfl ?_
        refine A_aload_n 0 d_Trees_findCut_18 rfl rfl ?_
        refine A_getIn (lo := 0) (hi := 12) T_ok d_Trees_findCut_19 f_Trees_70 (xi_s k4.1 sf_162) (xi_g k4.1 (by decide) rgf_162_3) (fun x8 ex8 _ _ => ?_)
        refine A_pc (pc' := 22) rfl ?_
        refine A_iload_n 3 d_Trees_findCut_22 rfl rfl ?_
        refine A_aload_n 0 d_Trees_findCut_23 rfl rfl ?_
        refine A_getIv (z := x5) T_ok d_Trees_findCut_24 f_Trees_73 (xi_s k4.1 sf_162) ex5.symm ?_
        refine A_callV5 m_Trees_treesCut T_ok d_Trees_findCut_27 l_Trees_63 k_Trees_treesCut (xi_s k4.1 sf_162) rfl (by decide +kernel) (by decide) (Nat.le_of_ble_eq_true rfl) (s_Trees_treesCut k4.1 ha1 (by omega) (by omega)) (fun r h10 hq => ?_)
        obtain ⟨x12, rfl, ⟨_, _⟩, rfl⟩ := hq
        refine A_lstore (L' := [some (av_R (some 162)), some (av_R (some a1)), some (av_I a2), some (av_I i2), some (av_L x12), none]) d_Trees_findCut_30 (Nat.le_of_ble_eq_true rfl) rfl ?_
        refine A_aload_n 0 d_Trees_findCut_32 rfl rfl ?_
        refine A_getLf T_ok d_Trees_findCut_33 f_Trees_76 (xi_s k4.1 sf_162) (fun x13 ex13 _ _ => ?_)
        refine A_lload d_Trees_findCut_36 rfl ?_
        refine A_lcmpn d_Trees_findCut_38 (fun x14 lx14 ex14 gx14 _ _ => ?_)
        refine A_pc (pc' := 39) rfl ?_
        refine A_if_ge (tgt := 44) d_Trees_findCut_39 (by decide) (fun c15 => ?_) (fun c15 => ?_)
        · have mc15 : (x13 - x12) ≥ 0 := by omega
          refine A_aload_n 0 d_Trees_findCut_44 rfl rfl ?_
          refine A_dupR d_Trees_findCut_45 ?_
          refine A_getLv (z := x13) T_ok d_Trees_findCut_46 f_Trees_76 (xi_s k4.1 sf_162) ex13.symm ?_
          refine A_lload d_Trees_findCut_49 rfl ?_
          refine A_lsubw d_Trees_findCut_51 (fun x17 _ _ _ => ?_)
          refine A_pc (pc' := 52) rfl ?_
          refine A_putLk (KR := kF FC s h) T_ok d_Trees_findCut_52 f_Trees_76 (xi_s k4.1 sf_162) fin_f (kF_l k4 (by decide) (nl_b rfl)) (fun h18 k19 eh18 => ?_)
          refine A_iincv (z := (i2 + 1)) (L' := [some (av_R (some 162)), some (av_R (some a1)), some (av_I a2), some (av_I (i2 + 1)), some (av_L x12), none]) d_Trees_findCut_55 rfl (w32_to (by omega) (by unfold i32; omega)) rfl ?_
          refine A_goto (tgt := 7) d_Trees_findCut_58 (by decide) ?_
          refine A_free (L' := [some (av_R (some 162)), some (av_R (some a1)), some (av_I a2), some (av_I (i2 + 1)), none, none]) (And.intro rfl (And.intro rfl (And.intro rfl (And.intro rfl trivial)))) ?_
          exact ih7 (i2 + 1) h18 (by omega) (by omega) k19 (by omega)
        · have mc15 : (x13 - x12) < 0 := by omega
          refine A_iload_n 3 d_Trees_findCut_42 rfl rfl ?_
          exact A_iret d_Trees_findCut_43 (by decide) rfl ⟨_, rfl, ⟨by omega, by omega⟩, k4⟩
  exact lp7 _ (x1 + 1) h (by omega) (by omega) k0 (Nat.lt_succ_self _)
theorem s_Trees_goDown {G : cx_T} {s : Nat} {h : ah_T} (hx : xi s h) {a1 : Nat} {a2 : Int} {a3 : Int} {a4 : Int} (ha1 : isS a1) (la2 : 0 ≤ a2) (ua2 : a2 ≤ 23) (la3 : 0 ≤ a3) (ua3 : a3 ≤ 12) (ba4 : a4 = 0 ∨ a4 = 1) : con G 2 0 0 m_Trees_goDown [av_R (some 162), av_R (some a1), av_I a2, av_I a3, av_I a4] h (fun r h' => r = none ∧ kF FC s h h') := by
  refine con_of (L := [some (av_R (some 162)), some (av_R (some a1)), some (av_I a2), some (av_I a3), some (av_I a4), none, none]) (by decide +kernel) (Nat.le_of_ble_eq_true rfl) rfl ?_
  have hS : isS s := hx.2.1
  have hs0 : s = 17 ∨ s = 80 := hS
  have hs0b : 17 ≤ s ∧ s ≤ 80 := by omega
  have k0 : kF FC s h h := kF_0 hx
  refine A_iconst d_Trees_goDown_0 rfl ?_
  refine A_aload_n 0 d_Trees_goDown_1 rfl rfl ?_
  refine A_aload_n 1 d_Trees_goDown_2 rfl rfl ?_
  refine A_getAv (z := some (a1 + 5)) T_ok d_Trees_goDown_3 f_Trees_54 (xs_S k0.1 ha1) (xr_S_9 k0.1 ha1) ?_
  refine A_iload_n 2 d_Trees_goDown_6 rfl rfl ?_
  refine A_pc (pc' := 7) rfl ?_
  refine A_ialoadf d_Trees_goDown_7 (xs_S_9 k0.1 ha1) (by omega) (by omega) (fun x2 ex2 _ _ => ?_)
  refine A_iload_n 3 d_Trees_goDown_8 rfl rfl ?_
  refine A_aload_n 0 d_Trees_goDown_9 rfl rfl ?_
  refine A_getIn (lo := 0) (hi := 12) T_ok d_Trees_goDown_10 f_Trees_73 (xi_s k0.1 sf_162) (xi_g k0.1 (by decide) rgf_162_4) (fun x3 ex3 _ _ => ?_)
  refine A_callV3 m_Trees_treesOf T_ok d_Trees_goDown_13 l_Trees_35 k_Trees_treesOf (xi_s k0.1 sf_162) rfl (by decide +kernel) (by decide) (Nat.le_of_ble_eq_true rfl) (s_Trees_treesOf k0.1 ) (fun r h4 hq => ?_)
  obtain ⟨x6, rfl, ⟨_, _⟩, rfl⟩ := hq
  refine A_mmax d_Trees_goDown_16 lm_Trees_92 ma_max (by decide) (by decide) (Nat.le_of_ble_eq_true rfl) rfl ?_
  refine A_nrI (fun x7 ex7 _ _ => ?_)
  have bx7 := mmax_r ex7
  refine A_i2l d_Trees_goDown_19 ?_
  refine A_lstore (L' := [some (av_R (some 162)), some (av_R (some a1)), some (av_I a2), some (av_I a3), some (av_I a4), some (av_L x7), none]) d_Trees_goDown_20 (Nat.le_of_ble_eq_true rfl) rfl ?_
  refine A_iload d_Trees_goDown_22 rfl ?_
  refine A_if_eq (tgt := 56) d_Trees_goDown_24 (by decide) (fun c8 => ?_) (fun c8 => ?_)
  · refine A_aload_n 0 d_Trees_goDown_56 rfl rfl ?_
    refine A_aload_n 1 d_Trees_goDown_57 rfl rfl ?_
    refine A_getAv (z := some (a1 + 5)) T_ok d_Trees_goDown_58 f_Trees_54 (xs_S k0.1 ha1) (xr_S_9 k0.1 ha1) ?_
    refine A_iload_n 2 d_Trees_goDown_61 rfl rfl ?_
    refine A_ialoadv (z := x2) d_Trees_goDown_62 (xs_S_9 k0.1 ha1) (by omega) (by omega) ex2.symm ?_
    refine A_pc (pc' := 63) rfl ?_
    refine A_putIk (KR := kF FC s h) T_ok d_Trees_goDown_63 f_Trees_67 (xi_s k0.1 sf_162) fin_f (kF_j k0 (by decide) (ns_b rfl) rgf_162_2 (by omega) (by omega)) (fun h11 k12 eh11 => ?_)
    refine A_aload_n 0 d_Trees_goDown_66 rfl rfl ?_
    refine A_iload_n 3 d_Trees_goDown_67 rfl rfl ?_
    refine A_putIk (KR := kF FC s h) T_ok d_Trees_goDown_68 f_Trees_70 (xi_s k12.1 sf_162) fin_f (kF_j k12 (by decide) (ns_b rfl) rgf_162_3 (by omega) (by omega)) (fun h13 k14 eh13 => ?_)
    refine A_aload_n 0 d_Trees_goDown_71 rfl rfl ?_
    refine A_dupR d_Trees_goDown_72 ?_
    refine A_pc (pc' := 73) rfl ?_
    refine A_getLf T_ok d_Trees_goDown_73 f_Trees_76 (xi_s k14.1 sf_162) (fun x15 ex15 _ _ => ?_)
    refine A_lload d_Trees_goDown_76 rfl ?_
    refine A_lremc d_Trees_goDown_78 (by omega) (fun x16 ex16 _ _ => ?_)
    refine A_putLk (KR := kF FC s h) T_ok d_Trees_goDown_79 f_Trees_76 (xi_s k14.1 sf_162) fin_f (kF_l k14 (by decide) (nl_b rfl)) (fun h17 k18 eh17 => ?_)
    exact A_vret d_Trees_goDown_82 (by decide) rfl ⟨rfl, k18⟩
  · refine A_aload_n 0 d_Trees_goDown_27 rfl rfl ?_
    refine A_aload_n 1 d_Trees_goDown_28 rfl rfl ?_
    refine A_getAv (z := some (a1 + 4)) T_ok d_Trees_goDown_29 f_Trees_60 (xs_S k0.1 ha1) (xr_S_8 k0.1 ha1) ?_
    refine A_iload_n 2 d_Trees_goDown_32 rfl rfl ?_
    refine A_ialoadf d_Trees_goDown_33 (xs_S_8 k0.1 ha1) (by omega) (by omega) (fun x20 ex20 _ _ => ?_)
    refine A_pc (pc' := 34) rfl ?_
    refine A_putIk (KR := kF FC s h) T_ok d_Trees_goDown_34 f_Trees_67 (xi_s k0.1 sf_162) fin_f (kF_j k0 (by decide) (ns_b rfl) rgf_162_2 (by omega) (by omega)) (fun h21 k22 eh21 => ?_)
    refine A_aload_n 0 d_Trees_goDown_37 rfl rfl ?_
    refine A_iload_n 3 d_Trees_goDown_38 rfl rfl ?_
    refine A_putIk (KR := kF FC s h) T_ok d_Trees_goDown_39 f_Trees_73 (xi_s k22.1 sf_162) fin_f (kF_j k22 (by decide) (ns_b rfl) rgf_162_4 (by omega) (by omega)) (fun h23 k24 eh23 => ?_)
    refine A_aload_n 0 d_Trees_goDown_42 rfl rfl ?_
    refine A_dupR d_Trees_goDown_43 ?_
    refine A_pc (pc' := 44) rfl ?_
    refine A_getLf T_ok d_Trees_goDown_44 f_Trees_76 (xi_s k24.1 sf_162) (fun x25 ex25 _ _ => ?_)
    refine A_lload d_Trees_goDown_47 rfl ?_
    refine A_ldivc d_Trees_goDown_49 (by omega) (fun x26 ex26 _ _ => ?_)
    refine A_putLk (KR := kF FC s h) T_ok d_Trees_goDown_50 f_Trees_76 (xi_s k24.1 sf_162) fin_f (kF_l k24 (by decide) (nl_b rfl)) (fun h27 k28 eh27 => ?_)
    refine A_goto (tgt := 82) d_Trees_goDown_53 (by decide) ?_
    exact A_vret d_Trees_goDown_82 (by decide) rfl ⟨rfl, k28⟩
theorem s_Trees_ruleIn {G : cx_T} {s : Nat} {h : ah_T} (hx : xi s h) {a1 : Nat} {a2 : Int} {a3 : Int} (ha1 : isS a1) : con G 5 0 0 m_Trees_ruleIn [av_R (some 162), av_R (some a1), av_I a2, av_I a3] h (fun r h' => ∃ z, r = some (av_I z) ∧ ((-2147483648) ≤ z ∧ z ≤ 2147483647) ∧ kF FC s h h') := by
  refine con_of (L := [some (av_R (some 162)), some (av_R (some a1)), some (av_I a2), some (av_I a3), none, none, none, none, none, none]) (by decide +kernel) (Nat.le_of_ble_eq_true rfl) rfl ?_
  have hS : isS s := hx.2.1
  have hs0 : s = 17 ∨ s = 80 := hS
  have hs0b : 17 ≤ s ∧ s ≤ 80 := by omega
  have k0 : kF FC s h h := kF_0 hx
  refine A_locI 2 rfl (fun ra => ?_)
  obtain ⟨_, _⟩ := ra
  refine A_locI 3 rfl (fun ra => ?_)
  obtain ⟨_, _⟩ := ra
  refine A_iload_n 2 d_Trees_ruleIn_0 rfl rfl ?_
  refine A_if_lt (tgt := 28) d_Trees_ruleIn_1 (by decide) (fun c1 => ?_) (fun c1 => ?_)
  · refine A_iconst d_Trees_ruleIn_28 rfl ?_
    exact A_iret d_Trees_ruleIn_29 (by decide) rfl ⟨_, rfl, ⟨by omega, by omega⟩, k0⟩
  · refine A_iload_n 2 d_Trees_ruleIn_4 rfl rfl ?_
    refine A_aload_n 0 d_Trees_ruleIn_5 rfl rfl ?_
    refine A_getIf T_ok d_Trees_ruleIn_6 f_Trees_15 (xi_s k0.1 sf_162) (fun x2 ex2 _ _ => ?_)
    refine A_icmp_ge (tgt := 28) d_Trees_ruleIn_9 (by decide) (fun c3 => ?_) (fun c3 => ?_)
    · refine A_iconst d_Trees_ruleIn_28 rfl ?_
      exact A_iret d_Trees_ruleIn_29 (by decide) rfl ⟨_, rfl, ⟨by omega, by omega⟩, k0⟩
    · refine A_iload_n 3 d_Trees_ruleIn_12 rfl rfl ?_
      refine A_if_lt (tgt := 28) d_Trees_ruleIn_13 (by decide) (fun c4 => ?_) (fun c4 => ?_)
      · refine A_iconst d_Trees_ruleIn_28 rfl ?_
        exact A_iret d_Trees_ruleIn_29 (by decide) rfl ⟨_, rfl, ⟨by omega, by omega⟩, k0⟩
      · refine A_iload_n 3 d_Trees_ruleIn_16 rfl rfl ?_
        refine A_iconst d_Trees_ruleIn_17 rfl ?_
        refine A_aload_n 1 d_Trees_ruleIn_18 rfl rfl ?_
        refine A_getIn (lo := 0) (hi := 12) T_ok d_Trees_ruleIn_19 f_Trees_23 (xs_S k0.1 ha1) (xi_g k0.1 (lt1_S ha1) (rg_S_12 ha1)) (fun x5 ex5 _ _ => ?_)
        refine A_imulv (z := (2 * x5)) d_Trees_ruleIn_22 (w32_to (by omega) (by unfold i32; omega)) ?_
        refine A_pc (pc' := 23) rfl ?_
        refine A_iconst d_Trees_ruleIn_23 rfl ?_
        refine A_isubv (z := (2 * x5 - 1)) d_Trees_ruleIn_24 (w32_to (by omega) (by unfold i32; omega)) ?_
        refine A_icmp_lt (tgt := 30) d_Trees_ruleIn_25 (by decide) (fun c6 => ?_) (fun c6 => ?_)
        · refine A_aload_n 0 d_Trees_ruleIn_30 rfl rfl ?_
          refine A_aload_n 1 d_Trees_ruleIn_31 rfl rfl ?_
          refine A_getAv (z := some (a1 + 3)) T_ok d_Trees_ruleIn_32 f_Trees_32 (xs_S k0.1 ha1) (xr_S_7 k0.1 ha1) ?_
          refine A_iconst d_Trees_ruleIn_35 rfl ?_
          refine A_ialoadf d_Trees_ruleIn_36 (xs_S_7 k0.1 ha1) (by decide) (by decide) (fun x8 ex8 _ _ => ?_)
          refine A_pc (pc' := 37) rfl ?_
          refine A_putIk (KR := kF FC s h) T_ok d_Trees_ruleIn_37 f_Trees_67 (xi_s k0.1 sf_162) fin_f (kF_j k0 (by decide) (ns_b rfl) rgf_162_2 (by omega) (by omega)) (fun h9 k10 eh9 => ?_)
          refine A_aload_n 0 d_Trees_ruleIn_40 rfl rfl ?_
          refine A_iconst d_Trees_ruleIn_41 rfl ?_
          refine A_putIk (KR := kF FC s h) T_ok d_Trees_ruleIn_42 f_Trees_70 (xi_s k10.1 sf_162) fin_f (kF_j k10 (by decide) (ns_b rfl) rgf_162_3 (by omega) (by omega)) (fun h11 k12 eh11 => ?_)
          refine A_aload_n 0 d_Trees_ruleIn_45 rfl rfl ?_
          refine A_aload_n 1 d_Trees_ruleIn_46 rfl rfl ?_
          refine A_pc (pc' := 47) rfl ?_
          refine A_getIv (z := x5) T_ok d_Trees_ruleIn_47 f_Trees_23 (xs_S k12.1 ha1) ((eh11.1 _ _ (fun q => by omega)).trans ((eh9.1 _ _ (fun q => by omega)).trans ex5.symm)) ?_
          refine A_putIk (KR := kF FC s h) T_ok d_Trees_ruleIn_50 f_Trees_73 (xi_s k12.1 sf_162) fin_f (kF_j k12 (by decide) (ns_b rfl) rgf_162_4 (by omega) (by omega)) (fun h14 k15 eh14 => ?_)
          refine A_aload_n 0 d_Trees_ruleIn_53 rfl rfl ?_
          refine A_iload_n 2 d_Trees_ruleIn_54 rfl rfl ?_
          refine A_i2l d_Trees_ruleIn_55 ?_
          refine A_putLk (KR := kF FC s h) T_ok d_Trees_ruleIn_56 f_Trees_76 (xi_s k15.1 sf_162) fin_f (kF_l k15 (by decide) (nl_b rfl)) (fun h16 k17 eh16 => ?_)
          refine A_pc (pc' := 59) rfl ?_
          refine A_iload_n 3 d_Trees_ruleIn_59 rfl rfl ?_
          refine A_istore (L' := [some (av_R (some 162)), some (av_R (some a1)), some (av_I a2), some (av_I a3), some (av_I a3), none, none, none, none, none]) d_Trees_ruleIn_60 (Nat.le_of_ble_eq_true rfl) rfl ?_
          refine A_iconst d_Trees_ruleIn_62 rfl ?_
          refine A_istore (L' := [some (av_R (some 162)), some (av_R (some a1)), some (av_I a2), some (av_I a3), some (av_I a3), some (av_I 0), none, none, none, none]) d_Trees_ruleIn_63 (Nat.le_of_ble_eq_true rfl) rfl ?_
          have lp65 : ∀ (n : Nat) (i18 i19 : Int) (h20 : ah_T) , (-2147483648) ≤ i18 → i18 ≤ 2147483647 → 0 ≤ i19 → i19 ≤ 24 → kF FC s h h20 → (25 - i19).toNat < n → aw G (rm_R 5 0 0) m_Trees_ruleIn 0 0 65 [some (av_R (some 162)), some (av_R (some a1)), some (av_I a2), some (av_I a3), some (av_I i18), some (av_I i19), none, none, none, none] [] h20 (fun r h' => ∃ z, r = some (av_I z) ∧ ((-2147483648) ≤ z ∧ z ≤ 2147483647) ∧ kF FC s h h') := by
            intro n
            induction n with
            | zero => intro i18 i19 h20 _ _ _ _ _ hm; omega
            | succ n ih65 =>
              intro i18 i19 h20 hl0 hl1 hl2 hl3 k21 hm
              refine A_iload d_Trees_ruleIn_65 rfl ?_
              refine A_bipush d_Trees_ruleIn_67 rfl ?_
              refine A_icmp_ge (tgt := 173) d_Trees_ruleIn_69 (by decide) (fun c22 => ?_) (fun c22 => ?_)
              · refine A_iconst d_Trees_ruleIn_173 rfl ?_
                exact A_iret d_Trees_ruleIn_174 (by decide) rfl ⟨_, rfl, ⟨by omega, by omega⟩, k21⟩
              · refine A_aload_n 0 d_Trees_ruleIn_72 rfl rfl ?_
                refine A_aload_n 1 d_Trees_ruleIn_73 rfl rfl ?_
                refine A_callV1 m_Trees_findRule T_ok d_Trees_ruleIn_74 l_Trees_80 k_Trees_findRule (xi_s k21.1 sf_162) rfl (by decide +kernel) (by decide) (Nat.le_of_ble_eq_true rfl) (s_Trees_findRule k21.1 ha1) (fun r h23 hq => ?_)
                obtain ⟨x25, rfl, ⟨_, _⟩, k24⟩ := hq
                have k26 := kF_t k21 k24 (fun _ q => q)
                refine A_istore (L' := [some (av_R (some 162)), some (av_R (some a1)), some (av_I a2), some (av_I a3), some (av_I i18), some (av_I i19), some (av_I x25), none, none, none]) d_Trees_ruleIn_77 (Nat.le_of_ble_eq_true rfl) rfl ?_
                refine A_iload d_Trees_ruleIn_79 rfl ?_
                refine A_if_eq (tgt := 99) d_Trees_ruleIn_81 (by decide) (fun c27 => ?_) (fun c27 => ?_)
                · refine A_iload d_Trees_ruleIn_99 rfl ?_
                  exact A_iret d_Trees_ruleIn_101 (by decide) rfl ⟨_, rfl, ⟨by omega, by omega⟩, k26⟩
                · refine A_iload d_Trees_ruleIn_84 rfl ?_
                  refine A_if_lt (tgt := 99) d_Trees_ruleIn_86 (by decide) (fun c28 => ?_) (fun c28 => ?_)
                  · refine A_iload d_Trees_ruleIn_99 rfl ?_
                    exact A_iret d_Trees_ruleIn_101 (by decide) rfl ⟨_, rfl, ⟨by omega, by omega⟩, k26⟩
                  · refine A_aload_n 1 d_Trees_ruleIn_89 rfl rfl ?_
                    refine A_getAv (z := some (a1 + 5)) T_ok d_Trees_ruleIn_90 f_Trees_54 (xs_S k26.1 ha1) (xr_S_9 k26.1 ha1) ?_
                    refine A_iload d_Trees_ruleIn_93 rfl ?_
                    refine A_ialoadf d_Trees_ruleIn_95 (xs_S_9 k26.1 ha1) (by omega) (by omega) (fun x30 ex30 _ _ => ?_)
                    refine A_if_ge (tgt := 102) d_Trees_ruleIn_96 (by decide) (fun c31 => ?_) (fun c31 => ?_)
                    · refine A_aload_n 0 d_Trees_ruleIn_102 rfl rfl ?_
                      refine A_aload_n 1 d_Trees_ruleIn_103 rfl rfl ?_
                      refine A_iload d_Trees_ruleIn_104 rfl ?_
                      refine A_callV2 m_Trees_findCut T_ok d_Trees_ruleIn_106 l_Trees_84 k_Trees_findCut (xi_s k26.1 sf_162) rfl (by decide +kernel) (by decide) (Nat.le_of_ble_eq_true rfl) (s_Trees_findCut k26.1 ha1 (by omega) (by omega)) (fun r h32 hq => ?_)
                      obtain ⟨x34, rfl, ⟨_, _⟩, k33⟩ := hq
                      have k35 := kF_t k26 k33 (fun _ q => q)
                      refine A_istore (L' := [some (av_R (some 162)), some (av_R (some a1)), some (av_I a2), some (av_I a3), some (av_I i18), some (av_I i19), some (av_I x25), some (av_I x34), none, none]) d_Trees_ruleIn_109 (Nat.le_of_ble_eq_true rfl) rfl ?_
                      refine A_iconst d_Trees_ruleIn_111 rfl ?_
                      refine A_iload d_Trees_ruleIn_112 rfl ?_
                      refine A_aload_n 0 d_Trees_ruleIn_114 rfl rfl ?_
                      refine A_getIn (lo := 0) (hi := 12) T_ok d_Trees_ruleIn_115 f_Trees_70 (xi_s k35.1 sf_162) (xi_g k35.1 (by decide) rgf_162_3) (fun x36 ex36 _ _ => ?_)
                      refine A_pc (pc' := 118) rfl ?_
                      refine A_isubv (z := (x34 - x36)) d_Trees_ruleIn_118 (w32_to (by omega) (by unfold i32; omega)) ?_
                      refine A_imulv (z := (2 * x34 - 2 * x36)) d_Trees_ruleIn_119 (w32_to (by omega) (by unfold i32; omega)) ?_
                      refine A_iconst d_Trees_ruleIn_120 rfl ?_
                      refine A_isubv (z := (2 * x34 - 2 * x36 - 1)) d_Trees_ruleIn_121 (w32_to (by omega) (by unfold i32; omega)) ?_
                      refine A_istore (L' := [some (av_R (some 162)), some (av_R (some a1)), some (av_I a2), some (av_I a3), some (av_I i18), some (av_I i19), some (av_I x25), some (av_I x34), some (av_I (2 * x34 - 2 * x36 - 1)), none]) d_Trees_ruleIn_122 (Nat.le_of_ble_eq_true rfl) rfl ?_
                      refine A_iload d_Trees_ruleIn_124 rfl ?_
                      refine A_pc (pc' := 126) rfl ?_
                      refine A_iload d_Trees_ruleIn_126 rfl ?_
                      refine A_icmp_gt (tgt := 135) d_Trees_ruleIn_128 (by decide) (fun c37 => ?_) (fun c37 => ?_)
                      · refine A_iconst d_Trees_ruleIn_135 rfl ?_
                        refine A_istore (L' := [some (av_R (some 162)), some (av_R (some a1)), some (av_I a2), some (av_I a3), some (av_I i18), some (av_I i19), some (av_I x25), some (av_I x34), some (av_I (2 * x34 - 2 * x36 - 1)), some (av_I 0)]) d_Trees_ruleIn_136 (Nat.le_of_ble_eq_true rfl) rfl ?_
                        refine A_aload_n 0 d_Trees_ruleIn_138 rfl rfl ?_
                        refine A_aload_n 1 d_Trees_ruleIn_139 rfl rfl ?_
                        refine A_iload d_Trees_ruleIn_140 rfl ?_
                        refine A_pc (pc' := 142) rfl ?_
                        refine A_iload d_Trees_ruleIn_142 rfl ?_
                        refine A_iload d_Trees_ruleIn_144 rfl ?_
                        refine A_callV4 m_Trees_goDown T_ok d_Trees_ruleIn_146 l_Trees_88 k_Trees_goDown (xi_s k35.1 sf_162) rfl (by decide +kernel) (by decide) (Nat.le_of_ble_eq_true rfl) (s_Trees_goDown k35.1 ha1 (by omega) (by omega) (by omega) (by omega) (by omega)) (fun r h38 hq => ?_)
                        obtain ⟨rfl, k39⟩ := hq
                        have k40 := kF_t k35 k39 (fun _ q => q)
                        refine A_iload d_Trees_ruleIn_149 rfl ?_
                        refine A_iload d_Trees_ruleIn_151 rfl ?_
                        refine A_if_eq (tgt := 160) d_Trees_ruleIn_153 (by decide) (fun _ => ?_) (fun c => absurd c (by decide))
                        refine A_iconst d_Trees_ruleIn_160 rfl ?_
                        refine A_iload d_Trees_ruleIn_161 rfl ?_
                        refine A_iaddv (z := (2 * x34 - 2 * x36)) d_Trees_ruleIn_163 (w32_to (by omega) (by unfold i32; omega)) ?_
                        refine A_isubw d_Trees_ruleIn_164 (fun x42 _ _ _ => ?_)
                        refine A_istore (L' := [some (av_R (some 162)), some (av_R (some a1)), some (av_I a2), some (av_I a3), some (av_I x42), some (av_I i19), some (av_I x25), some (av_I x34), some (av_I (2 * x34 - 2 * x36 - 1)), some (av_I 0)]) d_Trees_ruleIn_165 (Nat.le_of_ble_eq_true rfl) rfl ?_
                        refine A_pc (pc' := 167) rfl ?_
                        refine A_iincv (z := (i19 + 1)) (L' := [some (av_R (some 162)), some (av_R (some a1)), some (av_I a2), some (av_I a3), some (av_I x42), some (av_I (i19 + 1)), some (av_I x25), some (av_I x34), some (av_I (2 * x34 - 2 * x36 - 1)), some (av_I 0)]) d_Trees_ruleIn_167 rfl (w32_to (by omega) (by unfold i32; omega)) rfl ?_
                        refine A_goto (tgt := 65) d_Trees_ruleIn_170 (by decide) ?_
                        refine A_free (L' := [some (av_R (some 162)), some (av_R (some a1)), some (av_I a2), some (av_I a3), some (av_I x42), some (av_I (i19 + 1)), none, none, none, none]) (And.intro rfl (And.intro rfl (And.intro rfl (And.intro rfl (And.intro rfl (And.intro rfl trivial)))))) ?_
                        exact ih65 x42 (i19 + 1) h38 (by omega) (by omega) (by omega) (by omega) k40 (by omega)
                      · refine A_iconst d_Trees_ruleIn_131 rfl ?_
                        refine A_goto (tgt := 136) d_Trees_ruleIn_132 (by decide) ?_
                        refine A_istore (L' := [some (av_R (some 162)), some (av_R (some a1)), some (av_I a2), some (av_I a3), some (av_I i18), some (av_I i19), some (av_I x25), some (av_I x34), some (av_I (2 * x34 - 2 * x36 - 1)), some (av_I 1)]) d_Trees_ruleIn_136 (Nat.le_of_ble_eq_true rfl) rfl ?_
                        refine A_aload_n 0 d_Trees_ruleIn_138 rfl rfl ?_
                        refine A_aload_n 1 d_Trees_ruleIn_139 rfl rfl ?_
                        refine A_iload d_Trees_ruleIn_140 rfl ?_
                        refine A_iload d_Trees_ruleIn_142 rfl ?_
                        refine A_pc (pc' := 144) rfl ?_
                        refine A_iload d_Trees_ruleIn_144 rfl ?_
                        refine A_callV4 m_Trees_goDown T_ok d_Trees_ruleIn_146 l_Trees_88 k_Trees_goDown (xi_s k35.1 sf_162) rfl (by decide +kernel) (by decide) (Nat.le_of_ble_eq_true rfl) (s_Trees_goDown k35.1 ha1 (by omega) (by omega) (by omega) (by omega) (by omega)) (fun r h43 hq => ?_)
                        obtain ⟨rfl, k44⟩ := hq
                        have k45 := kF_t k35 k44 (fun _ q => q)
                        refine A_iload d_Trees_ruleIn_149 rfl ?_
                        refine A_iload d_Trees_ruleIn_151 rfl ?_
                        refine A_if_eq (tgt := 160) d_Trees_ruleIn_153 (by decide) (fun c => absurd c (by decide)) (fun _ => ?_)
                        refine A_iconst d_Trees_ruleIn_156 rfl ?_
                        refine A_goto (tgt := 164) d_Trees_ruleIn_157 (by decide) ?_
                        refine A_isubw d_Trees_ruleIn_164 (fun x47 _ _ _ => ?_)
                        refine A_istore (L' := [some (av_R (some 162)), some (av_R (some a1)), some (av_I a2), some (av_I a3), some (av_I x47), some (av_I i19), some (av_I x25), some (av_I x34), some (av_I (2 * x34 - 2 * x36 - 1)), some (av_I 1)]) d_Trees_ruleIn_165 (Nat.le_of_ble_eq_true rfl) rfl ?_
                        refine A_iincv (z := (i19 + 1)) (L' := [some (av_R (some 162)), some (av_R (some a1)), some (av_I a2), some (av_I a3), some (av_I x47), some (av_I (i19 + 1)), some (av_I x25), some (av_I x34), some (av_I (2 * x34 - 2 * x36 - 1)), some (av_I 1)]) d_Trees_ruleIn_167 rfl (w32_to (by omega) (by unfold i32; omega)) rfl ?_
                        refine A_goto (tgt := 65) d_Trees_ruleIn_170 (by decide) ?_
                        refine A_free (L' := [some (av_R (some 162)), some (av_R (some a1)), some (av_I a2), some (av_I a3), some (av_I x47), some (av_I (i19 + 1)), none, none, none, none]) (And.intro rfl (And.intro rfl (And.intro rfl (And.intro rfl (And.intro rfl (And.intro rfl trivial)))))) ?_
                        exact ih65 x47 (i19 + 1) h43 (by omega) (by omega) (by omega) (by omega) k45 (by omega)
                    · refine A_iload d_Trees_ruleIn_99 rfl ?_
                      exact A_iret d_Trees_ruleIn_101 (by decide) rfl ⟨_, rfl, ⟨by omega, by omega⟩, k26⟩
          exact lp65 _ a3 0 h16 (by omega) (by omega) (by omega) (by omega) k17 (Nat.lt_succ_self _)
        · refine A_iconst d_Trees_ruleIn_28 rfl ?_
          exact A_iret d_Trees_ruleIn_29 (by decide) rfl ⟨_, rfl, ⟨by omega, by omega⟩, k0⟩

/-! ===== the class's methods, 22l ===== -/
def m_Pairing_forget : mr_T := (⟨"PlainMusic$Pairing", "forget", "()V"⟩, prog_5_method_2_code, 1, none)
theorem d_Pairing_forget_0 : decode prog_5_method_2_code 0 = .ok (.aload_n 0, 1) := by decide +kernel
theorem d_Pairing_forget_1 : decode prog_5_method_2_code 1 = .ok (.iconst 0, 1) := by decide +kernel
theorem d_Pairing_forget_2 : decode prog_5_method_2_code 2 = .ok (.putfield 27, 3) := by decide +kernel
theorem f_Pairing_27 : fl_OK "PlainMusic$Pairing" 27 3 5 .int false := ⟨_, rfl, by decide, gwi_573, rfl, rfl⟩
theorem sf_164 : sh_L[164]? = some (3 + 4, 8) := by decide +kernel
theorem rgf_164_5 : rg 164 5 = (0, 80) := by decide +kernel
theorem d_Pairing_forget_5 : decode prog_5_method_2_code 5 = .ok (.aload_n 0, 1) := by decide +kernel
theorem d_Pairing_forget_6 : decode prog_5_method_2_code 6 = .ok (.iconst 0, 1) := by decide +kernel
theorem d_Pairing_forget_7 : decode prog_5_method_2_code 7 = .ok (.putfield 31, 3) := by decide +kernel
theorem f_Pairing_31 : fl_OK "PlainMusic$Pairing" 31 3 7 .int false := ⟨_, rfl, by decide, gwi_575, rfl, rfl⟩
theorem rgf_164_7 : rg 164 7 = ((-2147483648), 2147483647) := by decide +kernel
theorem d_Pairing_forget_10 : decode prog_5_method_2_code 10 = .ok (.return_, 1) := by decide +kernel
def m_Pairing_partnerOf : mr_T := (⟨"PlainMusic$Pairing", "partnerOf", "(I)I"⟩, prog_5_method_3_code, 2, some .int)
theorem d_Pairing_partnerOf_0 : decode prog_5_method_3_code 0 = .ok (.iload_n 1, 1) := by decide +kernel
theorem d_Pairing_partnerOf_1 : decode prog_5_method_3_code 1 = .ok (.ifCond .lt 29, 3) := by decide +kernel
theorem d_Pairing_partnerOf_30 : decode prog_5_method_3_code 30 = .ok (.iconst (-1), 1) := by decide +kernel
theorem d_Pairing_partnerOf_31 : decode prog_5_method_3_code 31 = .ok (.ireturn, 1) := by decide +kernel
theorem d_Pairing_partnerOf_4 : decode prog_5_method_3_code 4 = .ok (.iload_n 1, 1) := by decide +kernel
theorem d_Pairing_partnerOf_5 : decode prog_5_method_3_code 5 = .ok (.aload_n 0, 1) := by decide +kernel
theorem d_Pairing_partnerOf_6 : decode prog_5_method_3_code 6 = .ok (.getfield 27, 3) := by decide +kernel
theorem d_Pairing_partnerOf_9 : decode prog_5_method_3_code 9 = .ok (.if_icmp .ge 21, 3) := by decide +kernel
theorem d_Pairing_partnerOf_12 : decode prog_5_method_3_code 12 = .ok (.iload_n 1, 1) := by decide +kernel
theorem d_Pairing_partnerOf_13 : decode prog_5_method_3_code 13 = .ok (.aload_n 0, 1) := by decide +kernel
theorem d_Pairing_partnerOf_14 : decode prog_5_method_3_code 14 = .ok (.getfield 24, 3) := by decide +kernel
theorem rff_164_4 : (164, 4, 169) ∈ rf_L := by decide +kernel
theorem d_Pairing_partnerOf_17 : decode prog_5_method_3_code 17 = .ok (.arraylength, 1) := by decide +kernel
theorem sf_169 : sh_L[169]? = some (0, 80) := by decide +kernel
theorem d_Pairing_partnerOf_18 : decode prog_5_method_3_code 18 = .ok (.if_icmp .ge 12, 3) := by decide +kernel
theorem d_Pairing_partnerOf_21 : decode prog_5_method_3_code 21 = .ok (.aload_n 0, 1) := by decide +kernel
theorem d_Pairing_partnerOf_22 : decode prog_5_method_3_code 22 = .ok (.getfield 24, 3) := by decide +kernel
theorem d_Pairing_partnerOf_25 : decode prog_5_method_3_code 25 = .ok (.iload_n 1, 1) := by decide +kernel
theorem d_Pairing_partnerOf_26 : decode prog_5_method_3_code 26 = .ok (.iaload, 1) := by decide +kernel
theorem rgf_169 (k : Nat) : rg 169 k = ((-2147483648), 2147483647) := rfl
theorem d_Pairing_partnerOf_27 : decode prog_5_method_3_code 27 = .ok (.goto 4, 3) := by decide +kernel
def m_Pairing_soundsOf : mr_T := (⟨"PlainMusic$Pairing", "soundsOf", "(LPlainMusic$Voice;)I"⟩, prog_5_method_5_code, 3, some .int)
theorem d_Pairing_soundsOf_0 : decode prog_5_method_5_code 0 = .ok (.iconst 0, 1) := by decide +kernel
theorem d_Pairing_soundsOf_1 : decode prog_5_method_5_code 1 = .ok (.istore_n 1, 1) := by decide +kernel
theorem d_Pairing_soundsOf_2 : decode prog_5_method_5_code 2 = .ok (.iconst 0, 1) := by decide +kernel
theorem d_Pairing_soundsOf_3 : decode prog_5_method_5_code 3 = .ok (.istore_n 2, 1) := by decide +kernel
theorem d_Pairing_soundsOf_4 : decode prog_5_method_5_code 4 = .ok (.iload_n 2, 1) := by decide +kernel
theorem d_Pairing_soundsOf_5 : decode prog_5_method_5_code 5 = .ok (.aload_n 0, 1) := by decide +kernel
theorem d_Pairing_soundsOf_6 : decode prog_5_method_5_code 6 = .ok (.getfield 53, 3) := by decide +kernel
theorem f_Pairing_53 : fl_OK "PlainMusic$Pairing" 53 10 14 .int false := ⟨_, rfl, by decide, gwi_301, rfl, rfl⟩
theorem d_Pairing_soundsOf_9 : decode prog_5_method_5_code 9 = .ok (.if_icmp .ge 25, 3) := by decide +kernel
theorem d_Pairing_soundsOf_34 : decode prog_5_method_5_code 34 = .ok (.iload_n 1, 1) := by decide +kernel
theorem d_Pairing_soundsOf_35 : decode prog_5_method_5_code 35 = .ok (.ireturn, 1) := by decide +kernel
theorem d_Pairing_soundsOf_12 : decode prog_5_method_5_code 12 = .ok (.iload_n 1, 1) := by decide +kernel
theorem d_Pairing_soundsOf_13 : decode prog_5_method_5_code 13 = .ok (.aload_n 0, 1) := by decide +kernel
theorem d_Pairing_soundsOf_14 : decode prog_5_method_5_code 14 = .ok (.iload_n 2, 1) := by decide +kernel
theorem d_Pairing_soundsOf_15 : decode prog_5_method_5_code 15 = .ok (.invokevirtual 58, 3) := by decide +kernel
theorem l_Pairing_58 : ml_OK "PlainMusic$Pairing" 58 ⟨"PlainMusic$Voice", "isRest", "(I)Z"⟩ := Or.inl gwi_1396
theorem d_Pairing_soundsOf_18 : decode prog_5_method_5_code 18 = .ok (.ifCond .eq 7, 3) := by decide +kernel
theorem d_Pairing_soundsOf_25 : decode prog_5_method_5_code 25 = .ok (.iconst 1, 1) := by decide +kernel
theorem d_Pairing_soundsOf_26 : decode prog_5_method_5_code 26 = .ok (.iadd, 1) := by decide +kernel
theorem d_Pairing_soundsOf_27 : decode prog_5_method_5_code 27 = .ok (.istore_n 1, 1) := by decide +kernel
theorem d_Pairing_soundsOf_28 : decode prog_5_method_5_code 28 = .ok (.iinc 2 1, 3) := by decide +kernel
theorem d_Pairing_soundsOf_31 : decode prog_5_method_5_code 31 = .ok (.goto (-27), 3) := by decide +kernel
theorem d_Pairing_soundsOf_21 : decode prog_5_method_5_code 21 = .ok (.iconst 0, 1) := by decide +kernel
theorem d_Pairing_soundsOf_22 : decode prog_5_method_5_code 22 = .ok (.goto 4, 3) := by decide +kernel
def m_Pairing_gather : mr_T := (⟨"PlainMusic$Pairing", "gather", "(LPlainMusic$Voice;[I)I"⟩, prog_5_method_6_code, 4, some .int)
theorem d_Pairing_gather_0 : decode prog_5_method_6_code 0 = .ok (.iconst 0, 1) := by decide +kernel
theorem d_Pairing_gather_1 : decode prog_5_method_6_code 1 = .ok (.istore_n 2, 1) := by decide +kernel
theorem d_Pairing_gather_2 : decode prog_5_method_6_code 2 = .ok (.iconst 0, 1) := by decide +kernel
theorem d_Pairing_gather_3 : decode prog_5_method_6_code 3 = .ok (.istore_n 3, 1) := by decide +kernel
theorem d_Pairing_gather_4 : decode prog_5_method_6_code 4 = .ok (.iload_n 3, 1) := by decide +kernel
theorem d_Pairing_gather_5 : decode prog_5_method_6_code 5 = .ok (.aload_n 0, 1) := by decide +kernel
theorem d_Pairing_gather_6 : decode prog_5_method_6_code 6 = .ok (.getfield 53, 3) := by decide +kernel
theorem d_Pairing_gather_9 : decode prog_5_method_6_code 9 = .ok (.if_icmp .ge 30, 3) := by decide +kernel
theorem d_Pairing_gather_39 : decode prog_5_method_6_code 39 = .ok (.iload_n 2, 1) := by decide +kernel
theorem d_Pairing_gather_40 : decode prog_5_method_6_code 40 = .ok (.ireturn, 1) := by decide +kernel
theorem d_Pairing_gather_12 : decode prog_5_method_6_code 12 = .ok (.aload_n 0, 1) := by decide +kernel
theorem d_Pairing_gather_13 : decode prog_5_method_6_code 13 = .ok (.iload_n 3, 1) := by decide +kernel
theorem d_Pairing_gather_14 : decode prog_5_method_6_code 14 = .ok (.invokevirtual 58, 3) := by decide +kernel
theorem d_Pairing_gather_17 : decode prog_5_method_6_code 17 = .ok (.ifCond .ne 16, 3) := by decide +kernel
theorem d_Pairing_gather_33 : decode prog_5_method_6_code 33 = .ok (.iinc 3 1, 3) := by decide +kernel
theorem d_Pairing_gather_36 : decode prog_5_method_6_code 36 = .ok (.goto (-32), 3) := by decide +kernel
theorem d_Pairing_gather_20 : decode prog_5_method_6_code 20 = .ok (.iload_n 2, 1) := by decide +kernel
theorem d_Pairing_gather_21 : decode prog_5_method_6_code 21 = .ok (.aload_n 1, 1) := by decide +kernel
theorem d_Pairing_gather_22 : decode prog_5_method_6_code 22 = .ok (.arraylength, 1) := by decide +kernel
theorem sf_165 : sh_L[165]? = some (0, 80) := by decide +kernel
theorem d_Pairing_gather_23 : decode prog_5_method_6_code 23 = .ok (.if_icmp .ge 10, 3) := by decide +kernel
theorem d_Pairing_gather_26 : decode prog_5_method_6_code 26 = .ok (.aload_n 1, 1) := by decide +kernel
theorem d_Pairing_gather_27 : decode prog_5_method_6_code 27 = .ok (.iload_n 2, 1) := by decide +kernel
theorem d_Pairing_gather_28 : decode prog_5_method_6_code 28 = .ok (.iload_n 3, 1) := by decide +kernel
theorem d_Pairing_gather_29 : decode prog_5_method_6_code 29 = .ok (.iastore, 1) := by decide +kernel
theorem rgf_165 (k : Nat) : rg 165 k = (0, 299) := rfl
theorem d_Pairing_gather_30 : decode prog_5_method_6_code 30 = .ok (.iinc 2 1, 3) := by decide +kernel
theorem sf_166 : sh_L[166]? = some (0, 80) := by decide +kernel
theorem rgf_166 (k : Nat) : rg 166 k = (0, 299) := rfl
def m_Pairing_slot : mr_T := (⟨"PlainMusic$Pairing", "slot", "(II)I"⟩, prog_5_method_7_code, 3, some .int)
theorem d_Pairing_slot_0 : decode prog_5_method_7_code 0 = .ok (.iload_n 1, 1) := by decide +kernel
theorem d_Pairing_slot_1 : decode prog_5_method_7_code 1 = .ok (.aload_n 0, 1) := by decide +kernel
theorem d_Pairing_slot_2 : decode prog_5_method_7_code 2 = .ok (.getfield 42, 3) := by decide +kernel
theorem f_Pairing_42 : fl_OK "PlainMusic$Pairing" 42 3 6 .int false := ⟨_, rfl, by decide, gwi_574, rfl, rfl⟩
theorem rgf_164_6 : rg 164 6 = (0, 80) := by decide +kernel
theorem d_Pairing_slot_5 : decode prog_5_method_7_code 5 = .ok (.iconst 1, 1) := by decide +kernel
theorem d_Pairing_slot_6 : decode prog_5_method_7_code 6 = .ok (.iadd, 1) := by decide +kernel
theorem d_Pairing_slot_7 : decode prog_5_method_7_code 7 = .ok (.imul, 1) := by decide +kernel
theorem d_Pairing_slot_8 : decode prog_5_method_7_code 8 = .ok (.iload_n 2, 1) := by decide +kernel
theorem d_Pairing_slot_9 : decode prog_5_method_7_code 9 = .ok (.iadd, 1) := by decide +kernel
theorem d_Pairing_slot_10 : decode prog_5_method_7_code 10 = .ok (.sipush 1680, 3) := by decide +kernel
theorem d_Pairing_slot_13 : decode prog_5_method_7_code 13 = .ok (.invokestatic 62, 3) := by decide +kernel
theorem lm_Pairing_62 : Cond.methodLink "PlainMusic$Pairing" 62 Lib.Math.min.name ∈ gw := gwi_1408
theorem d_Pairing_slot_16 : decode prog_5_method_7_code 16 = .ok (.ireturn, 1) := by decide +kernel
def m_Pairing_pairCost : mr_T := (⟨"PlainMusic$Pairing", "pairCost", "(LPlainMusic$Voice;LPlainMusic$Voice;II)I"⟩, prog_5_method_8_code, 9, some .int)
theorem d_Pairing_pairCost_0 : decode prog_5_method_8_code 0 = .ok (.aload_n 0, 1) := by decide +kernel
theorem d_Pairing_pairCost_1 : decode prog_5_method_8_code 1 = .ok (.getfield 11, 3) := by decide +kernel
theorem rff_164_0 : (164, 0, 165) ∈ rf_L := by decide +kernel
theorem d_Pairing_pairCost_4 : decode prog_5_method_8_code 4 = .ok (.iload_n 3, 1) := by decide +kernel
theorem d_Pairing_pairCost_5 : decode prog_5_method_8_code 5 = .ok (.iaload, 1) := by decide +kernel
theorem d_Pairing_pairCost_6 : decode prog_5_method_8_code 6 = .ok (.istore 5, 2) := by decide +kernel
theorem d_Pairing_pairCost_8 : decode prog_5_method_8_code 8 = .ok (.aload_n 0, 1) := by decide +kernel
theorem d_Pairing_pairCost_9 : decode prog_5_method_8_code 9 = .ok (.getfield 15, 3) := by decide +kernel
theorem rff_164_1 : (164, 1, 166) ∈ rf_L := by decide +kernel
theorem d_Pairing_pairCost_12 : decode prog_5_method_8_code 12 = .ok (.iload 4, 2) := by decide +kernel
theorem d_Pairing_pairCost_14 : decode prog_5_method_8_code 14 = .ok (.iaload, 1) := by decide +kernel
theorem d_Pairing_pairCost_15 : decode prog_5_method_8_code 15 = .ok (.istore 6, 2) := by decide +kernel
theorem d_Pairing_pairCost_17 : decode prog_5_method_8_code 17 = .ok (.bipush 12, 2) := by decide +kernel
theorem d_Pairing_pairCost_19 : decode prog_5_method_8_code 19 = .ok (.aload_n 1, 1) := by decide +kernel
theorem d_Pairing_pairCost_20 : decode prog_5_method_8_code 20 = .ok (.iload 5, 2) := by decide +kernel
theorem d_Pairing_pairCost_22 : decode prog_5_method_8_code 22 = .ok (.invokevirtual 68, 3) := by decide +kernel
theorem l_Pairing_68 : ml_OK "PlainMusic$Pairing" 68 ⟨"PlainMusic$Voice", "lowestKey", "(I)I"⟩ := Or.inl gwi_1413
theorem d_Pairing_pairCost_25 : decode prog_5_method_8_code 25 = .ok (.aload_n 2, 1) := by decide +kernel
theorem d_Pairing_pairCost_26 : decode prog_5_method_8_code 26 = .ok (.iload 6, 2) := by decide +kernel
theorem d_Pairing_pairCost_28 : decode prog_5_method_8_code 28 = .ok (.invokevirtual 68, 3) := by decide +kernel
theorem d_Pairing_pairCost_31 : decode prog_5_method_8_code 31 = .ok (.isub, 1) := by decide +kernel
theorem d_Pairing_pairCost_32 : decode prog_5_method_8_code 32 = .ok (.invokestatic 72, 3) := by decide +kernel
theorem lm_Pairing_72 : Cond.methodLink "PlainMusic$Pairing" 72 Lib.Math.abs.name ∈ gw := gwi_1414
theorem d_Pairing_pairCost_35 : decode prog_5_method_8_code 35 = .ok (.invokestatic 62, 3) := by decide +kernel
theorem d_Pairing_pairCost_38 : decode prog_5_method_8_code 38 = .ok (.istore 7, 2) := by decide +kernel
theorem d_Pairing_pairCost_40 : decode prog_5_method_8_code 40 = .ok (.aload_n 1, 1) := by decide +kernel
theorem d_Pairing_pairCost_41 : decode prog_5_method_8_code 41 = .ok (.getfield 75, 3) := by decide +kernel
theorem f_Pairing_75 : fl_OK "PlainMusic$Pairing" 75 10 12 (.array .long) true := ⟨_, rfl, by decide, gwi_295, rfl, rfl⟩
theorem d_Pairing_pairCost_44 : decode prog_5_method_8_code 44 = .ok (.iload 5, 2) := by decide +kernel
theorem d_Pairing_pairCost_46 : decode prog_5_method_8_code 46 = .ok (.laload, 1) := by decide +kernel
theorem d_Pairing_pairCost_47 : decode prog_5_method_8_code 47 = .ok (.aload_n 2, 1) := by decide +kernel
theorem d_Pairing_pairCost_48 : decode prog_5_method_8_code 48 = .ok (.getfield 75, 3) := by decide +kernel
theorem d_Pairing_pairCost_51 : decode prog_5_method_8_code 51 = .ok (.iload 6, 2) := by decide +kernel
theorem d_Pairing_pairCost_53 : decode prog_5_method_8_code 53 = .ok (.laload, 1) := by decide +kernel
theorem d_Pairing_pairCost_54 : decode prog_5_method_8_code 54 = .ok (.lcmp, 1) := by decide +kernel
theorem d_Pairing_pairCost_55 : decode prog_5_method_8_code 55 = .ok (.ifCond .ne 25, 3) := by decide +kernel
theorem d_Pairing_pairCost_80 : decode prog_5_method_8_code 80 = .ok (.iconst 0, 1) := by decide +kernel
theorem d_Pairing_pairCost_81 : decode prog_5_method_8_code 81 = .ok (.istore 8, 2) := by decide +kernel
theorem d_Pairing_pairCost_83 : decode prog_5_method_8_code 83 = .ok (.iload 8, 2) := by decide +kernel
theorem d_Pairing_pairCost_85 : decode prog_5_method_8_code 85 = .ok (.ifCond .eq 8, 3) := by decide +kernel
theorem d_Pairing_pairCost_93 : decode prog_5_method_8_code 93 = .ok (.iload 7, 2) := by decide +kernel
theorem d_Pairing_pairCost_95 : decode prog_5_method_8_code 95 = .ok (.iconst 1, 1) := by decide +kernel
theorem d_Pairing_pairCost_96 : decode prog_5_method_8_code 96 = .ok (.iadd, 1) := by decide +kernel
theorem d_Pairing_pairCost_97 : decode prog_5_method_8_code 97 = .ok (.ireturn, 1) := by decide +kernel
theorem d_Pairing_pairCost_58 : decode prog_5_method_8_code 58 = .ok (.aload_n 1, 1) := by decide +kernel
theorem d_Pairing_pairCost_59 : decode prog_5_method_8_code 59 = .ok (.getfield 79, 3) := by decide +kernel
theorem f_Pairing_79 : fl_OK "PlainMusic$Pairing" 79 10 13 (.array .long) true := ⟨_, rfl, by decide, gwi_298, rfl, rfl⟩
theorem d_Pairing_pairCost_62 : decode prog_5_method_8_code 62 = .ok (.iload 5, 2) := by decide +kernel
theorem d_Pairing_pairCost_64 : decode prog_5_method_8_code 64 = .ok (.laload, 1) := by decide +kernel
theorem d_Pairing_pairCost_65 : decode prog_5_method_8_code 65 = .ok (.aload_n 2, 1) := by decide +kernel
theorem d_Pairing_pairCost_66 : decode prog_5_method_8_code 66 = .ok (.getfield 79, 3) := by decide +kernel
theorem d_Pairing_pairCost_69 : decode prog_5_method_8_code 69 = .ok (.iload 6, 2) := by decide +kernel
theorem d_Pairing_pairCost_71 : decode prog_5_method_8_code 71 = .ok (.laload, 1) := by decide +kernel
theorem d_Pairing_pairCost_72 : decode prog_5_method_8_code 72 = .ok (.lcmp, 1) := by decide +kernel
theorem d_Pairing_pairCost_73 : decode prog_5_method_8_code 73 = .ok (.ifCond .ne 7, 3) := by decide +kernel
theorem d_Pairing_pairCost_76 : decode prog_5_method_8_code 76 = .ok (.iconst 1, 1) := by decide +kernel
theorem d_Pairing_pairCost_77 : decode prog_5_method_8_code 77 = .ok (.goto 4, 3) := by decide +kernel
theorem d_Pairing_pairCost_88 : decode prog_5_method_8_code 88 = .ok (.iload 7, 2) := by decide +kernel
theorem d_Pairing_pairCost_90 : decode prog_5_method_8_code 90 = .ok (.goto 7, 3) := by decide +kernel
def m_Pairing_weigh : mr_T := (⟨"PlainMusic$Pairing", "weigh", "(LPlainMusic$Voice;LPlainMusic$Voice;II)V"⟩, prog_5_method_9_code, 12, none)
theorem d_Pairing_weigh_0 : decode prog_5_method_9_code 0 = .ok (.aload_n 0, 1) := by decide +kernel
theorem d_Pairing_weigh_1 : decode prog_5_method_9_code 1 = .ok (.iload_n 3, 1) := by decide +kernel
theorem d_Pairing_weigh_2 : decode prog_5_method_9_code 2 = .ok (.iload 4, 2) := by decide +kernel
theorem d_Pairing_weigh_4 : decode prog_5_method_9_code 4 = .ok (.invokevirtual 82, 3) := by decide +kernel
theorem k_Pairing_slot : mt_OK m_Pairing_slot 2 1 := ⟨gwi_1407, gwi_145, ⟨by decide +kernel, by decide +kernel, by decide +kernel⟩, fun h => absurd h (by decide), fun _ => ⟨gwi_1406, gwi_54⟩, fun h => absurd h (by decide)⟩
theorem l_Pairing_82 : ml_OK "PlainMusic$Pairing" 82 ⟨"PlainMusic$Pairing", "slot", "(II)I"⟩ := Or.inl gwi_1404
theorem d_Pairing_weigh_7 : decode prog_5_method_9_code 7 = .ok (.istore 5, 2) := by decide +kernel
theorem d_Pairing_weigh_9 : decode prog_5_method_9_code 9 = .ok (.iload_n 3, 1) := by decide +kernel
theorem d_Pairing_weigh_10 : decode prog_5_method_9_code 10 = .ok (.aload_n 0, 1) := by decide +kernel
theorem d_Pairing_weigh_11 : decode prog_5_method_9_code 11 = .ok (.getfield 27, 3) := by decide +kernel
theorem d_Pairing_weigh_14 : decode prog_5_method_9_code 14 = .ok (.if_icmp .ne 29, 3) := by decide +kernel
theorem d_Pairing_weigh_17 : decode prog_5_method_9_code 17 = .ok (.iload 4, 2) := by decide +kernel
theorem d_Pairing_weigh_19 : decode prog_5_method_9_code 19 = .ok (.aload_n 0, 1) := by decide +kernel
theorem d_Pairing_weigh_20 : decode prog_5_method_9_code 20 = .ok (.getfield 42, 3) := by decide +kernel
theorem d_Pairing_weigh_23 : decode prog_5_method_9_code 23 = .ok (.if_icmp .ne 20, 3) := by decide +kernel
theorem d_Pairing_weigh_26 : decode prog_5_method_9_code 26 = .ok (.aload_n 0, 1) := by decide +kernel
theorem d_Pairing_weigh_27 : decode prog_5_method_9_code 27 = .ok (.getfield 18, 3) := by decide +kernel
theorem rff_164_2 : (164, 2, 167) ∈ rf_L := by decide +kernel
theorem d_Pairing_weigh_30 : decode prog_5_method_9_code 30 = .ok (.iload 5, 2) := by decide +kernel
theorem d_Pairing_weigh_32 : decode prog_5_method_9_code 32 = .ok (.iconst 0, 1) := by decide +kernel
theorem d_Pairing_weigh_33 : decode prog_5_method_9_code 33 = .ok (.iastore, 1) := by decide +kernel
theorem sf_167 : sh_L[167]? = some (0, 1681) := by decide +kernel
theorem rgf_167 (k : Nat) : rg 167 k = ((-2147483648), 2147483647) := rfl
theorem d_Pairing_weigh_34 : decode prog_5_method_9_code 34 = .ok (.aload_n 0, 1) := by decide +kernel
theorem d_Pairing_weigh_35 : decode prog_5_method_9_code 35 = .ok (.getfield 21, 3) := by decide +kernel
theorem rff_164_3 : (164, 3, 168) ∈ rf_L := by decide +kernel
theorem d_Pairing_weigh_38 : decode prog_5_method_9_code 38 = .ok (.iload 5, 2) := by decide +kernel
theorem d_Pairing_weigh_40 : decode prog_5_method_9_code 40 = .ok (.iconst 1, 1) := by decide +kernel
theorem d_Pairing_weigh_41 : decode prog_5_method_9_code 41 = .ok (.iastore, 1) := by decide +kernel
theorem sf_168 : sh_L[168]? = some (0, 1681) := by decide +kernel
theorem rgf_168 (k : Nat) : rg 168 k = ((-2147483648), 2147483647) := rfl
theorem d_Pairing_weigh_42 : decode prog_5_method_9_code 42 = .ok (.return_, 1) := by decide +kernel
theorem d_Pairing_weigh_43 : decode prog_5_method_9_code 43 = .ok (.iload_n 3, 1) := by decide +kernel
theorem d_Pairing_weigh_44 : decode prog_5_method_9_code 44 = .ok (.aload_n 0, 1) := by decide +kernel
theorem d_Pairing_weigh_45 : decode prog_5_method_9_code 45 = .ok (.getfield 27, 3) := by decide +kernel
theorem d_Pairing_weigh_48 : decode prog_5_method_9_code 48 = .ok (.if_icmp .ge 41, 3) := by decide +kernel
theorem d_Pairing_weigh_51 : decode prog_5_method_9_code 51 = .ok (.iload 4, 2) := by decide +kernel
theorem d_Pairing_weigh_53 : decode prog_5_method_9_code 53 = .ok (.aload_n 0, 1) := by decide +kernel
theorem d_Pairing_weigh_54 : decode prog_5_method_9_code 54 = .ok (.getfield 42, 3) := by decide +kernel
theorem d_Pairing_weigh_57 : decode prog_5_method_9_code 57 = .ok (.if_icmp .ge 32, 3) := by decide +kernel
theorem d_Pairing_weigh_60 : decode prog_5_method_9_code 60 = .ok (.aload_n 0, 1) := by decide +kernel
theorem d_Pairing_weigh_61 : decode prog_5_method_9_code 61 = .ok (.aload_n 1, 1) := by decide +kernel
theorem d_Pairing_weigh_62 : decode prog_5_method_9_code 62 = .ok (.aload_n 2, 1) := by decide +kernel
theorem d_Pairing_weigh_63 : decode prog_5_method_9_code 63 = .ok (.iload_n 3, 1) := by decide +kernel
theorem d_Pairing_weigh_64 : decode prog_5_method_9_code 64 = .ok (.iload 4, 2) := by decide +kernel
theorem d_Pairing_weigh_66 : decode prog_5_method_9_code 66 = .ok (.invokevirtual 85, 3) := by decide +kernel
theorem k_Pairing_pairCost : mt_OK m_Pairing_pairCost 4 1 := ⟨gwi_1412, gwi_145, ⟨by decide +kernel, by decide +kernel, by decide +kernel⟩, fun h => absurd h (by decide), fun _ => ⟨gwi_1411, gwi_55⟩, fun h => absurd h (by decide)⟩
theorem l_Pairing_85 : ml_OK "PlainMusic$Pairing" 85 ⟨"PlainMusic$Pairing", "pairCost", "(LPlainMusic$Voice;LPlainMusic$Voice;II)I"⟩ := Or.inl gwi_1409
theorem d_Pairing_weigh_69 : decode prog_5_method_9_code 69 = .ok (.aload_n 0, 1) := by decide +kernel
theorem d_Pairing_weigh_70 : decode prog_5_method_9_code 70 = .ok (.getfield 18, 3) := by decide +kernel
theorem d_Pairing_weigh_73 : decode prog_5_method_9_code 73 = .ok (.aload_n 0, 1) := by decide +kernel
theorem d_Pairing_weigh_74 : decode prog_5_method_9_code 74 = .ok (.iload_n 3, 1) := by decide +kernel
theorem d_Pairing_weigh_75 : decode prog_5_method_9_code 75 = .ok (.iconst 1, 1) := by decide +kernel
theorem d_Pairing_weigh_76 : decode prog_5_method_9_code 76 = .ok (.iadd, 1) := by decide +kernel
theorem d_Pairing_weigh_77 : decode prog_5_method_9_code 77 = .ok (.iload 4, 2) := by decide +kernel
theorem d_Pairing_weigh_79 : decode prog_5_method_9_code 79 = .ok (.iconst 1, 1) := by decide +kernel
theorem d_Pairing_weigh_80 : decode prog_5_method_9_code 80 = .ok (.iadd, 1) := by decide +kernel
theorem d_Pairing_weigh_81 : decode prog_5_method_9_code 81 = .ok (.invokevirtual 82, 3) := by decide +kernel
theorem d_Pairing_weigh_84 : decode prog_5_method_9_code 84 = .ok (.iaload, 1) := by decide +kernel
theorem d_Pairing_weigh_85 : decode prog_5_method_9_code 85 = .ok (.iadd, 1) := by decide +kernel
theorem d_Pairing_weigh_86 : decode prog_5_method_9_code 86 = .ok (.goto 5, 3) := by decide +kernel
theorem d_Pairing_weigh_91 : decode prog_5_method_9_code 91 = .ok (.istore 6, 2) := by decide +kernel
theorem d_Pairing_weigh_93 : decode prog_5_method_9_code 93 = .ok (.iload_n 3, 1) := by decide +kernel
theorem d_Pairing_weigh_94 : decode prog_5_method_9_code 94 = .ok (.aload_n 0, 1) := by decide +kernel
theorem d_Pairing_weigh_95 : decode prog_5_method_9_code 95 = .ok (.getfield 27, 3) := by decide +kernel
theorem d_Pairing_weigh_98 : decode prog_5_method_9_code 98 = .ok (.if_icmp .ge 22, 3) := by decide +kernel
theorem d_Pairing_weigh_101 : decode prog_5_method_9_code 101 = .ok (.iconst 5, 1) := by decide +kernel
theorem d_Pairing_weigh_102 : decode prog_5_method_9_code 102 = .ok (.aload_n 0, 1) := by decide +kernel
theorem d_Pairing_weigh_103 : decode prog_5_method_9_code 103 = .ok (.getfield 18, 3) := by decide +kernel
theorem d_Pairing_weigh_106 : decode prog_5_method_9_code 106 = .ok (.aload_n 0, 1) := by decide +kernel
theorem d_Pairing_weigh_107 : decode prog_5_method_9_code 107 = .ok (.iload_n 3, 1) := by decide +kernel
theorem d_Pairing_weigh_108 : decode prog_5_method_9_code 108 = .ok (.iconst 1, 1) := by decide +kernel
theorem d_Pairing_weigh_109 : decode prog_5_method_9_code 109 = .ok (.iadd, 1) := by decide +kernel
theorem d_Pairing_weigh_110 : decode prog_5_method_9_code 110 = .ok (.iload 4, 2) := by decide +kernel
theorem d_Pairing_weigh_112 : decode prog_5_method_9_code 112 = .ok (.invokevirtual 82, 3) := by decide +kernel
theorem d_Pairing_weigh_115 : decode prog_5_method_9_code 115 = .ok (.iaload, 1) := by decide +kernel
theorem d_Pairing_weigh_116 : decode prog_5_method_9_code 116 = .ok (.iadd, 1) := by decide +kernel
theorem d_Pairing_weigh_117 : decode prog_5_method_9_code 117 = .ok (.goto 5, 3) := by decide +kernel
theorem d_Pairing_weigh_122 : decode prog_5_method_9_code 122 = .ok (.istore 7, 2) := by decide +kernel
theorem d_Pairing_weigh_124 : decode prog_5_method_9_code 124 = .ok (.iload 4, 2) := by decide +kernel
theorem d_Pairing_weigh_126 : decode prog_5_method_9_code 126 = .ok (.aload_n 0, 1) := by decide +kernel
theorem d_Pairing_weigh_127 : decode prog_5_method_9_code 127 = .ok (.getfield 42, 3) := by decide +kernel
theorem d_Pairing_weigh_130 : decode prog_5_method_9_code 130 = .ok (.if_icmp .ge 22, 3) := by decide +kernel
theorem d_Pairing_weigh_133 : decode prog_5_method_9_code 133 = .ok (.iconst 5, 1) := by decide +kernel
theorem d_Pairing_weigh_134 : decode prog_5_method_9_code 134 = .ok (.aload_n 0, 1) := by decide +kernel
theorem d_Pairing_weigh_135 : decode prog_5_method_9_code 135 = .ok (.getfield 18, 3) := by decide +kernel
theorem d_Pairing_weigh_138 : decode prog_5_method_9_code 138 = .ok (.aload_n 0, 1) := by decide +kernel
theorem d_Pairing_weigh_139 : decode prog_5_method_9_code 139 = .ok (.iload_n 3, 1) := by decide +kernel
theorem d_Pairing_weigh_140 : decode prog_5_method_9_code 140 = .ok (.iload 4, 2) := by decide +kernel
theorem d_Pairing_weigh_142 : decode prog_5_method_9_code 142 = .ok (.iconst 1, 1) := by decide +kernel
theorem d_Pairing_weigh_143 : decode prog_5_method_9_code 143 = .ok (.iadd, 1) := by decide +kernel
theorem d_Pairing_weigh_144 : decode prog_5_method_9_code 144 = .ok (.invokevirtual 82, 3) := by decide +kernel
theorem d_Pairing_weigh_147 : decode prog_5_method_9_code 147 = .ok (.iaload, 1) := by decide +kernel
theorem d_Pairing_weigh_148 : decode prog_5_method_9_code 148 = .ok (.iadd, 1) := by decide +kernel
theorem d_Pairing_weigh_149 : decode prog_5_method_9_code 149 = .ok (.goto 5, 3) := by decide +kernel
theorem d_Pairing_weigh_154 : decode prog_5_method_9_code 154 = .ok (.istore 8, 2) := by decide +kernel
theorem d_Pairing_weigh_156 : decode prog_5_method_9_code 156 = .ok (.iload 6, 2) := by decide +kernel
theorem d_Pairing_weigh_158 : decode prog_5_method_9_code 158 = .ok (.iload 7, 2) := by decide +kernel
theorem d_Pairing_weigh_160 : decode prog_5_method_9_code 160 = .ok (.iload 8, 2) := by decide +kernel
theorem d_Pairing_weigh_162 : decode prog_5_method_9_code 162 = .ok (.invokestatic 62, 3) := by decide +kernel
theorem d_Pairing_weigh_165 : decode prog_5_method_9_code 165 = .ok (.invokestatic 62, 3) := by decide +kernel
theorem d_Pairing_weigh_168 : decode prog_5_method_9_code 168 = .ok (.istore 9, 2) := by decide +kernel
theorem d_Pairing_weigh_170 : decode prog_5_method_9_code 170 = .ok (.lconst 0, 1) := by decide +kernel
theorem d_Pairing_weigh_171 : decode prog_5_method_9_code 171 = .ok (.lstore 10, 2) := by decide +kernel
theorem d_Pairing_weigh_173 : decode prog_5_method_9_code 173 = .ok (.lload 10, 2) := by decide +kernel
theorem d_Pairing_weigh_175 : decode prog_5_method_9_code 175 = .ok (.iload 6, 2) := by decide +kernel
theorem d_Pairing_weigh_177 : decode prog_5_method_9_code 177 = .ok (.iload 9, 2) := by decide +kernel
theorem d_Pairing_weigh_179 : decode prog_5_method_9_code 179 = .ok (.if_icmp .ne 23, 3) := by decide +kernel
theorem d_Pairing_weigh_202 : decode prog_5_method_9_code 202 = .ok (.lconst 0, 1) := by decide +kernel
theorem d_Pairing_weigh_203 : decode prog_5_method_9_code 203 = .ok (.ladd, 1) := by decide +kernel
theorem d_Pairing_weigh_204 : decode prog_5_method_9_code 204 = .ok (.lstore 10, 2) := by decide +kernel
theorem d_Pairing_weigh_206 : decode prog_5_method_9_code 206 = .ok (.lload 10, 2) := by decide +kernel
theorem d_Pairing_weigh_208 : decode prog_5_method_9_code 208 = .ok (.iload 7, 2) := by decide +kernel
theorem d_Pairing_weigh_210 : decode prog_5_method_9_code 210 = .ok (.iload 9, 2) := by decide +kernel
theorem d_Pairing_weigh_212 : decode prog_5_method_9_code 212 = .ok (.if_icmp .ne 21, 3) := by decide +kernel
theorem d_Pairing_weigh_233 : decode prog_5_method_9_code 233 = .ok (.lconst 0, 1) := by decide +kernel
theorem d_Pairing_weigh_234 : decode prog_5_method_9_code 234 = .ok (.ladd, 1) := by decide +kernel
theorem d_Pairing_weigh_235 : decode prog_5_method_9_code 235 = .ok (.lstore 10, 2) := by decide +kernel
theorem d_Pairing_weigh_237 : decode prog_5_method_9_code 237 = .ok (.lload 10, 2) := by decide +kernel
theorem d_Pairing_weigh_239 : decode prog_5_method_9_code 239 = .ok (.iload 8, 2) := by decide +kernel
theorem d_Pairing_weigh_241 : decode prog_5_method_9_code 241 = .ok (.iload 9, 2) := by decide +kernel
theorem d_Pairing_weigh_243 : decode prog_5_method_9_code 243 = .ok (.if_icmp .ne 21, 3) := by decide +kernel
theorem d_Pairing_weigh_264 : decode prog_5_method_9_code 264 = .ok (.lconst 0, 1) := by decide +kernel
theorem d_Pairing_weigh_265 : decode prog_5_method_9_code 265 = .ok (.ladd, 1) := by decide +kernel
theorem d_Pairing_weigh_266 : decode prog_5_method_9_code 266 = .ok (.lstore 10, 2) := by decide +kernel
theorem d_Pairing_weigh_268 : decode prog_5_method_9_code 268 = .ok (.aload_n 0, 1) := by decide +kernel
theorem d_Pairing_weigh_269 : decode prog_5_method_9_code 269 = .ok (.getfield 18, 3) := by decide +kernel
theorem d_Pairing_weigh_272 : decode prog_5_method_9_code 272 = .ok (.iload 5, 2) := by decide +kernel
theorem d_Pairing_weigh_274 : decode prog_5_method_9_code 274 = .ok (.iload 9, 2) := by decide +kernel
theorem d_Pairing_weigh_276 : decode prog_5_method_9_code 276 = .ok (.iastore, 1) := by decide +kernel
theorem d_Pairing_weigh_277 : decode prog_5_method_9_code 277 = .ok (.aload_n 0, 1) := by decide +kernel
theorem d_Pairing_weigh_278 : decode prog_5_method_9_code 278 = .ok (.getfield 21, 3) := by decide +kernel
theorem d_Pairing_weigh_281 : decode prog_5_method_9_code 281 = .ok (.iload 5, 2) := by decide +kernel
theorem d_Pairing_weigh_283 : decode prog_5_method_9_code 283 = .ok (.lload 10, 2) := by decide +kernel
theorem d_Pairing_weigh_285 : decode prog_5_method_9_code 285 = .ok (.ldc2_w 92, 3) := by decide +kernel
theorem cst_Pairing_92 : Cond.constantLong "PlainMusic$Pairing" 92 (Int64.ofInt 1000000007) ∈ gw := gwi_1416
theorem d_Pairing_weigh_288 : decode prog_5_method_9_code 288 = .ok (.lrem, 1) := by decide +kernel
theorem d_Pairing_weigh_289 : decode prog_5_method_9_code 289 = .ok (.l2i, 1) := by decide +kernel
theorem d_Pairing_weigh_290 : decode prog_5_method_9_code 290 = .ok (.iastore, 1) := by decide +kernel
theorem d_Pairing_weigh_291 : decode prog_5_method_9_code 291 = .ok (.return_, 1) := by decide +kernel
theorem d_Pairing_weigh_246 : decode prog_5_method_9_code 246 = .ok (.aload_n 0, 1) := by decide +kernel
theorem d_Pairing_weigh_247 : decode prog_5_method_9_code 247 = .ok (.getfield 21, 3) := by decide +kernel
theorem d_Pairing_weigh_250 : decode prog_5_method_9_code 250 = .ok (.aload_n 0, 1) := by decide +kernel
theorem d_Pairing_weigh_251 : decode prog_5_method_9_code 251 = .ok (.iload_n 3, 1) := by decide +kernel
theorem d_Pairing_weigh_252 : decode prog_5_method_9_code 252 = .ok (.iload 4, 2) := by decide +kernel
theorem d_Pairing_weigh_254 : decode prog_5_method_9_code 254 = .ok (.iconst 1, 1) := by decide +kernel
theorem d_Pairing_weigh_255 : decode prog_5_method_9_code 255 = .ok (.iadd, 1) := by decide +kernel
theorem d_Pairing_weigh_256 : decode prog_5_method_9_code 256 = .ok (.invokevirtual 82, 3) := by decide +kernel
theorem d_Pairing_weigh_259 : decode prog_5_method_9_code 259 = .ok (.iaload, 1) := by decide +kernel
theorem d_Pairing_weigh_260 : decode prog_5_method_9_code 260 = .ok (.i2l, 1) := by decide +kernel
theorem d_Pairing_weigh_261 : decode prog_5_method_9_code 261 = .ok (.goto 4, 3) := by decide +kernel
theorem d_Pairing_weigh_215 : decode prog_5_method_9_code 215 = .ok (.aload_n 0, 1) := by decide +kernel
theorem d_Pairing_weigh_216 : decode prog_5_method_9_code 216 = .ok (.getfield 21, 3) := by decide +kernel
theorem d_Pairing_weigh_219 : decode prog_5_method_9_code 219 = .ok (.aload_n 0, 1) := by decide +kernel
theorem d_Pairing_weigh_220 : decode prog_5_method_9_code 220 = .ok (.iload_n 3, 1) := by decide +kernel
theorem d_Pairing_weigh_221 : decode prog_5_method_9_code 221 = .ok (.iconst 1, 1) := by decide +kernel
theorem d_Pairing_weigh_222 : decode prog_5_method_9_code 222 = .ok (.iadd, 1) := by decide +kernel
theorem d_Pairing_weigh_223 : decode prog_5_method_9_code 223 = .ok (.iload 4, 2) := by decide +kernel
theorem d_Pairing_weigh_225 : decode prog_5_method_9_code 225 = .ok (.invokevirtual 82, 3) := by decide +kernel
theorem d_Pairing_weigh_228 : decode prog_5_method_9_code 228 = .ok (.iaload, 1) := by decide +kernel
theorem d_Pairing_weigh_229 : decode prog_5_method_9_code 229 = .ok (.i2l, 1) := by decide +kernel
theorem d_Pairing_weigh_230 : decode prog_5_method_9_code 230 = .ok (.goto 4, 3) := by decide +kernel
theorem d_Pairing_weigh_182 : decode prog_5_method_9_code 182 = .ok (.aload_n 0, 1) := by decide +kernel
theorem d_Pairing_weigh_183 : decode prog_5_method_9_code 183 = .ok (.getfield 21, 3) := by decide +kernel
theorem d_Pairing_weigh_186 : decode prog_5_method_9_code 186 = .ok (.aload_n 0, 1) := by decide +kernel
theorem d_Pairing_weigh_187 : decode prog_5_method_9_code 187 = .ok (.iload_n 3, 1) := by decide +kernel
theorem d_Pairing_weigh_188 : decode prog_5_method_9_code 188 = .ok (.iconst 1, 1) := by decide +kernel
theorem d_Pairing_weigh_189 : decode prog_5_method_9_code 189 = .ok (.iadd, 1) := by decide +kernel
theorem d_Pairing_weigh_190 : decode prog_5_method_9_code 190 = .ok (.iload 4, 2) := by decide +kernel
theorem d_Pairing_weigh_192 : decode prog_5_method_9_code 192 = .ok (.iconst 1, 1) := by decide +kernel
theorem d_Pairing_weigh_193 : decode prog_5_method_9_code 193 = .ok (.iadd, 1) := by decide +kernel
theorem d_Pairing_weigh_194 : decode prog_5_method_9_code 194 = .ok (.invokevirtual 82, 3) := by decide +kernel
theorem d_Pairing_weigh_197 : decode prog_5_method_9_code 197 = .ok (.iaload, 1) := by decide +kernel
theorem d_Pairing_weigh_198 : decode prog_5_method_9_code 198 = .ok (.i2l, 1) := by decide +kernel
theorem d_Pairing_weigh_199 : decode prog_5_method_9_code 199 = .ok (.goto 4, 3) := by decide +kernel
theorem d_Pairing_weigh_89 : decode prog_5_method_9_code 89 = .ok (.ldc 91, 2) := by decide +kernel
theorem cst_Pairing_91 : Cond.constant "PlainMusic$Pairing" 91 (Int32.ofInt 2147483647) ∈ gw := gwi_1415
theorem d_Pairing_weigh_120 : decode prog_5_method_9_code 120 = .ok (.ldc 91, 2) := by decide +kernel
theorem d_Pairing_weigh_152 : decode prog_5_method_9_code 152 = .ok (.ldc 91, 2) := by decide +kernel
def m_Pairing_isPair : mr_T := (⟨"PlainMusic$Pairing", "isPair", "(LPlainMusic$Voice;LPlainMusic$Voice;II)Z"⟩, prog_5_method_11_code, 5, some .boolean)
theorem d_Pairing_isPair_0 : decode prog_5_method_11_code 0 = .ok (.aload_n 0, 1) := by decide +kernel
theorem d_Pairing_isPair_1 : decode prog_5_method_11_code 1 = .ok (.getfield 18, 3) := by decide +kernel
theorem d_Pairing_isPair_4 : decode prog_5_method_11_code 4 = .ok (.aload_n 0, 1) := by decide +kernel
theorem d_Pairing_isPair_5 : decode prog_5_method_11_code 5 = .ok (.iload_n 3, 1) := by decide +kernel
theorem d_Pairing_isPair_6 : decode prog_5_method_11_code 6 = .ok (.iload 4, 2) := by decide +kernel
theorem d_Pairing_isPair_8 : decode prog_5_method_11_code 8 = .ok (.invokevirtual 82, 3) := by decide +kernel
theorem d_Pairing_isPair_11 : decode prog_5_method_11_code 11 = .ok (.iaload, 1) := by decide +kernel
theorem d_Pairing_isPair_12 : decode prog_5_method_11_code 12 = .ok (.aload_n 0, 1) := by decide +kernel
theorem d_Pairing_isPair_13 : decode prog_5_method_11_code 13 = .ok (.aload_n 1, 1) := by decide +kernel
theorem d_Pairing_isPair_14 : decode prog_5_method_11_code 14 = .ok (.aload_n 2, 1) := by decide +kernel
theorem d_Pairing_isPair_15 : decode prog_5_method_11_code 15 = .ok (.iload_n 3, 1) := by decide +kernel
theorem d_Pairing_isPair_16 : decode prog_5_method_11_code 16 = .ok (.iload 4, 2) := by decide +kernel
theorem d_Pairing_isPair_18 : decode prog_5_method_11_code 18 = .ok (.invokevirtual 85, 3) := by decide +kernel
theorem d_Pairing_isPair_21 : decode prog_5_method_11_code 21 = .ok (.aload_n 0, 1) := by decide +kernel
theorem d_Pairing_isPair_22 : decode prog_5_method_11_code 22 = .ok (.getfield 18, 3) := by decide +kernel
theorem d_Pairing_isPair_25 : decode prog_5_method_11_code 25 = .ok (.aload_n 0, 1) := by decide +kernel
theorem d_Pairing_isPair_26 : decode prog_5_method_11_code 26 = .ok (.iload_n 3, 1) := by decide +kernel
theorem d_Pairing_isPair_27 : decode prog_5_method_11_code 27 = .ok (.iconst 1, 1) := by decide +kernel
theorem d_Pairing_isPair_28 : decode prog_5_method_11_code 28 = .ok (.iadd, 1) := by decide +kernel
theorem d_Pairing_isPair_29 : decode prog_5_method_11_code 29 = .ok (.iload 4, 2) := by decide +kernel
theorem d_Pairing_isPair_31 : decode prog_5_method_11_code 31 = .ok (.iconst 1, 1) := by decide +kernel
theorem d_Pairing_isPair_32 : decode prog_5_method_11_code 32 = .ok (.iadd, 1) := by decide +kernel
theorem d_Pairing_isPair_33 : decode prog_5_method_11_code 33 = .ok (.invokevirtual 82, 3) := by decide +kernel
theorem d_Pairing_isPair_36 : decode prog_5_method_11_code 36 = .ok (.iaload, 1) := by decide +kernel
theorem d_Pairing_isPair_37 : decode prog_5_method_11_code 37 = .ok (.iadd, 1) := by decide +kernel
theorem d_Pairing_isPair_38 : decode prog_5_method_11_code 38 = .ok (.if_icmp .ne 7, 3) := by decide +kernel
theorem d_Pairing_isPair_45 : decode prog_5_method_11_code 45 = .ok (.iconst 0, 1) := by decide +kernel
theorem d_Pairing_isPair_46 : decode prog_5_method_11_code 46 = .ok (.ireturn, 1) := by decide +kernel
theorem d_Pairing_isPair_41 : decode prog_5_method_11_code 41 = .ok (.iconst 1, 1) := by decide +kernel
theorem d_Pairing_isPair_42 : decode prog_5_method_11_code 42 = .ok (.goto 4, 3) := by decide +kernel
def m_Pairing_isFirstAlone : mr_T := (⟨"PlainMusic$Pairing", "isFirstAlone", "(II)Z"⟩, prog_5_method_12_code, 3, some .boolean)
theorem d_Pairing_isFirstAlone_0 : decode prog_5_method_12_code 0 = .ok (.aload_n 0, 1) := by decide +kernel
theorem d_Pairing_isFirstAlone_1 : decode prog_5_method_12_code 1 = .ok (.getfield 18, 3) := by decide +kernel
theorem d_Pairing_isFirstAlone_4 : decode prog_5_method_12_code 4 = .ok (.aload_n 0, 1) := by decide +kernel
theorem d_Pairing_isFirstAlone_5 : decode prog_5_method_12_code 5 = .ok (.iload_n 1, 1) := by decide +kernel
theorem d_Pairing_isFirstAlone_6 : decode prog_5_method_12_code 6 = .ok (.iload_n 2, 1) := by decide +kernel
theorem d_Pairing_isFirstAlone_7 : decode prog_5_method_12_code 7 = .ok (.invokevirtual 82, 3) := by decide +kernel
theorem d_Pairing_isFirstAlone_10 : decode prog_5_method_12_code 10 = .ok (.iaload, 1) := by decide +kernel
theorem d_Pairing_isFirstAlone_11 : decode prog_5_method_12_code 11 = .ok (.iconst 5, 1) := by decide +kernel
theorem d_Pairing_isFirstAlone_12 : decode prog_5_method_12_code 12 = .ok (.aload_n 0, 1) := by decide +kernel
theorem d_Pairing_isFirstAlone_13 : decode prog_5_method_12_code 13 = .ok (.getfield 18, 3) := by decide +kernel
theorem d_Pairing_isFirstAlone_16 : decode prog_5_method_12_code 16 = .ok (.aload_n 0, 1) := by decide +kernel
theorem d_Pairing_isFirstAlone_17 : decode prog_5_method_12_code 17 = .ok (.iload_n 1, 1) := by decide +kernel
theorem d_Pairing_isFirstAlone_18 : decode prog_5_method_12_code 18 = .ok (.iconst 1, 1) := by decide +kernel
theorem d_Pairing_isFirstAlone_19 : decode prog_5_method_12_code 19 = .ok (.iadd, 1) := by decide +kernel
theorem d_Pairing_isFirstAlone_20 : decode prog_5_method_12_code 20 = .ok (.iload_n 2, 1) := by decide +kernel
theorem d_Pairing_isFirstAlone_21 : decode prog_5_method_12_code 21 = .ok (.invokevirtual 82, 3) := by decide +kernel
theorem d_Pairing_isFirstAlone_24 : decode prog_5_method_12_code 24 = .ok (.iaload, 1) := by decide +kernel
theorem d_Pairing_isFirstAlone_25 : decode prog_5_method_12_code 25 = .ok (.iadd, 1) := by decide +kernel
theorem d_Pairing_isFirstAlone_26 : decode prog_5_method_12_code 26 = .ok (.if_icmp .ne 7, 3) := by decide +kernel
theorem d_Pairing_isFirstAlone_33 : decode prog_5_method_12_code 33 = .ok (.iconst 0, 1) := by decide +kernel
theorem d_Pairing_isFirstAlone_34 : decode prog_5_method_12_code 34 = .ok (.ireturn, 1) := by decide +kernel
theorem d_Pairing_isFirstAlone_29 : decode prog_5_method_12_code 29 = .ok (.iconst 1, 1) := by decide +kernel
theorem d_Pairing_isFirstAlone_30 : decode prog_5_method_12_code 30 = .ok (.goto 4, 3) := by decide +kernel
def m_Pairing_choose : mr_T := (⟨"PlainMusic$Pairing", "choose", "(LPlainMusic$Voice;LPlainMusic$Voice;)V"⟩, prog_5_method_10_code, 5, none)
theorem d_Pairing_choose_0 : decode prog_5_method_10_code 0 = .ok (.iconst 0, 1) := by decide +kernel
theorem d_Pairing_choose_1 : decode prog_5_method_10_code 1 = .ok (.istore_n 3, 1) := by decide +kernel
theorem d_Pairing_choose_2 : decode prog_5_method_10_code 2 = .ok (.iconst 0, 1) := by decide +kernel
theorem d_Pairing_choose_3 : decode prog_5_method_10_code 3 = .ok (.istore 4, 2) := by decide +kernel
theorem d_Pairing_choose_5 : decode prog_5_method_10_code 5 = .ok (.iload 4, 2) := by decide +kernel
theorem d_Pairing_choose_7 : decode prog_5_method_10_code 7 = .ok (.aload_n 0, 1) := by decide +kernel
theorem d_Pairing_choose_8 : decode prog_5_method_10_code 8 = .ok (.getfield 27, 3) := by decide +kernel
theorem d_Pairing_choose_11 : decode prog_5_method_10_code 11 = .ok (.if_icmp .ge 85, 3) := by decide +kernel
theorem d_Pairing_choose_96 : decode prog_5_method_10_code 96 = .ok (.return_, 1) := by decide +kernel
theorem d_Pairing_choose_14 : decode prog_5_method_10_code 14 = .ok (.aload_n 0, 1) := by decide +kernel
theorem d_Pairing_choose_15 : decode prog_5_method_10_code 15 = .ok (.getfield 24, 3) := by decide +kernel
theorem d_Pairing_choose_18 : decode prog_5_method_10_code 18 = .ok (.iload 4, 2) := by decide +kernel
theorem d_Pairing_choose_20 : decode prog_5_method_10_code 20 = .ok (.bipush (-2), 2) := by decide +kernel
theorem d_Pairing_choose_22 : decode prog_5_method_10_code 22 = .ok (.iastore, 1) := by decide +kernel
theorem d_Pairing_choose_23 : decode prog_5_method_10_code 23 = .ok (.iload_n 3, 1) := by decide +kernel
theorem d_Pairing_choose_24 : decode prog_5_method_10_code 24 = .ok (.aload_n 0, 1) := by decide +kernel
theorem d_Pairing_choose_25 : decode prog_5_method_10_code 25 = .ok (.getfield 42, 3) := by decide +kernel
theorem d_Pairing_choose_28 : decode prog_5_method_10_code 28 = .ok (.if_icmp .ge 31, 3) := by decide +kernel
theorem d_Pairing_choose_59 : decode prog_5_method_10_code 59 = .ok (.iload_n 3, 1) := by decide +kernel
theorem d_Pairing_choose_60 : decode prog_5_method_10_code 60 = .ok (.aload_n 0, 1) := by decide +kernel
theorem d_Pairing_choose_61 : decode prog_5_method_10_code 61 = .ok (.getfield 42, 3) := by decide +kernel
theorem d_Pairing_choose_64 : decode prog_5_method_10_code 64 = .ok (.if_icmp .ge 26, 3) := by decide +kernel
theorem d_Pairing_choose_90 : decode prog_5_method_10_code 90 = .ok (.iinc 4 1, 3) := by decide +kernel
theorem d_Pairing_choose_93 : decode prog_5_method_10_code 93 = .ok (.goto (-88), 3) := by decide +kernel
theorem d_Pairing_choose_31 : decode prog_5_method_10_code 31 = .ok (.aload_n 0, 1) := by decide +kernel
theorem d_Pairing_choose_32 : decode prog_5_method_10_code 32 = .ok (.aload_n 1, 1) := by decide +kernel
theorem d_Pairing_choose_33 : decode prog_5_method_10_code 33 = .ok (.aload_n 2, 1) := by decide +kernel
theorem d_Pairing_choose_34 : decode prog_5_method_10_code 34 = .ok (.iload 4, 2) := by decide +kernel
theorem d_Pairing_choose_36 : decode prog_5_method_10_code 36 = .ok (.iload_n 3, 1) := by decide +kernel
theorem d_Pairing_choose_37 : decode prog_5_method_10_code 37 = .ok (.invokevirtual 94, 3) := by decide +kernel
theorem k_Pairing_isPair : mt_OK m_Pairing_isPair 4 1 := ⟨gwi_1424, gwi_145, ⟨by decide +kernel, by decide +kernel, by decide +kernel⟩, fun h => absurd h (by decide), fun _ => ⟨gwi_1423, gwi_57⟩, fun h => absurd h (by decide)⟩
theorem l_Pairing_94 : ml_OK "PlainMusic$Pairing" 94 ⟨"PlainMusic$Pairing", "isPair", "(LPlainMusic$Voice;LPlainMusic$Voice;II)Z"⟩ := Or.inl gwi_1421
theorem d_Pairing_choose_40 : decode prog_5_method_10_code 40 = .ok (.ifCond .ne 19, 3) := by decide +kernel
theorem d_Pairing_choose_67 : decode prog_5_method_10_code 67 = .ok (.aload_n 0, 1) := by decide +kernel
theorem d_Pairing_choose_68 : decode prog_5_method_10_code 68 = .ok (.aload_n 1, 1) := by decide +kernel
theorem d_Pairing_choose_69 : decode prog_5_method_10_code 69 = .ok (.aload_n 2, 1) := by decide +kernel
theorem d_Pairing_choose_70 : decode prog_5_method_10_code 70 = .ok (.iload 4, 2) := by decide +kernel
theorem d_Pairing_choose_72 : decode prog_5_method_10_code 72 = .ok (.iload_n 3, 1) := by decide +kernel
theorem d_Pairing_choose_73 : decode prog_5_method_10_code 73 = .ok (.invokevirtual 94, 3) := by decide +kernel
theorem d_Pairing_choose_76 : decode prog_5_method_10_code 76 = .ok (.ifCond .eq 14, 3) := by decide +kernel
theorem d_Pairing_choose_79 : decode prog_5_method_10_code 79 = .ok (.aload_n 0, 1) := by decide +kernel
theorem d_Pairing_choose_80 : decode prog_5_method_10_code 80 = .ok (.getfield 24, 3) := by decide +kernel
theorem d_Pairing_choose_83 : decode prog_5_method_10_code 83 = .ok (.iload 4, 2) := by decide +kernel
theorem d_Pairing_choose_85 : decode prog_5_method_10_code 85 = .ok (.iload_n 3, 1) := by decide +kernel
theorem d_Pairing_choose_86 : decode prog_5_method_10_code 86 = .ok (.iastore, 1) := by decide +kernel
theorem d_Pairing_choose_87 : decode prog_5_method_10_code 87 = .ok (.iinc 3 1, 3) := by decide +kernel
theorem d_Pairing_choose_43 : decode prog_5_method_10_code 43 = .ok (.aload_n 0, 1) := by decide +kernel
theorem d_Pairing_choose_44 : decode prog_5_method_10_code 44 = .ok (.iload 4, 2) := by decide +kernel
theorem d_Pairing_choose_46 : decode prog_5_method_10_code 46 = .ok (.iload_n 3, 1) := by decide +kernel
theorem d_Pairing_choose_47 : decode prog_5_method_10_code 47 = .ok (.invokevirtual 98, 3) := by decide +kernel
theorem k_Pairing_isFirstAlone : mt_OK m_Pairing_isFirstAlone 2 1 := ⟨gwi_1428, gwi_145, ⟨by decide +kernel, by decide +kernel, by decide +kernel⟩, fun h => absurd h (by decide), fun _ => ⟨gwi_1427, gwi_58⟩, fun h => absurd h (by decide)⟩
theorem l_Pairing_98 : ml_OK "PlainMusic$Pairing" 98 ⟨"PlainMusic$Pairing", "isFirstAlone", "(II)Z"⟩ := Or.inl gwi_1425
theorem d_Pairing_choose_50 : decode prog_5_method_10_code 50 = .ok (.ifCond .ne 9, 3) := by decide +kernel
theorem d_Pairing_choose_53 : decode prog_5_method_10_code 53 = .ok (.iinc 3 1, 3) := by decide +kernel
theorem d_Pairing_choose_56 : decode prog_5_method_10_code 56 = .ok (.goto (-33), 3) := by decide +kernel
def m_Pairing_find : mr_T := (⟨"PlainMusic$Pairing", "find", "(LPlainMusic$Voice;LPlainMusic$Voice;)I"⟩, prog_5_method_4_code, 5, some .int)
theorem d_Pairing_find_0 : decode prog_5_method_4_code 0 = .ok (.aload_n 1, 1) := by decide +kernel
theorem d_Pairing_find_1 : decode prog_5_method_4_code 1 = .ok (.invokestatic 34, 3) := by decide +kernel
theorem k_Pairing_soundsOf : mt_OK m_Pairing_soundsOf 1 0 := ⟨gwi_1395, gwi_145, ⟨by decide +kernel, by decide +kernel, by decide +kernel⟩, fun _ => gwi_1394, fun h => absurd h (by decide), fun h => absurd h (by decide)⟩
theorem l_Pairing_34 : ml_OK "PlainMusic$Pairing" 34 ⟨"PlainMusic$Pairing", "soundsOf", "(LPlainMusic$Voice;)I"⟩ := Or.inl gwi_1393
theorem d_Pairing_find_4 : decode prog_5_method_4_code 4 = .ok (.aload_n 2, 1) := by decide +kernel
theorem d_Pairing_find_5 : decode prog_5_method_4_code 5 = .ok (.invokestatic 34, 3) := by decide +kernel
theorem d_Pairing_find_8 : decode prog_5_method_4_code 8 = .ok (.iadd, 1) := by decide +kernel
theorem d_Pairing_find_9 : decode prog_5_method_4_code 9 = .ok (.bipush 80, 2) := by decide +kernel
theorem d_Pairing_find_11 : decode prog_5_method_4_code 11 = .ok (.if_icmp .le 6, 3) := by decide +kernel
theorem d_Pairing_find_17 : decode prog_5_method_4_code 17 = .ok (.aload_n 0, 1) := by decide +kernel
theorem d_Pairing_find_18 : decode prog_5_method_4_code 18 = .ok (.aload_n 1, 1) := by decide +kernel
theorem d_Pairing_find_19 : decode prog_5_method_4_code 19 = .ok (.aload_n 0, 1) := by decide +kernel
theorem d_Pairing_find_20 : decode prog_5_method_4_code 20 = .ok (.getfield 11, 3) := by decide +kernel
theorem d_Pairing_find_23 : decode prog_5_method_4_code 23 = .ok (.invokestatic 38, 3) := by decide +kernel
theorem k_Pairing_gather : mt_OK m_Pairing_gather 2 0 := ⟨gwi_1399, gwi_145, ⟨by decide +kernel, by decide +kernel, by decide +kernel⟩, fun _ => gwi_1398, fun h => absurd h (by decide), fun h => absurd h (by decide)⟩
theorem l_Pairing_38 : ml_OK "PlainMusic$Pairing" 38 ⟨"PlainMusic$Pairing", "gather", "(LPlainMusic$Voice;[I)I"⟩ := Or.inl gwi_1397
theorem d_Pairing_find_26 : decode prog_5_method_4_code 26 = .ok (.putfield 27, 3) := by decide +kernel
theorem d_Pairing_find_29 : decode prog_5_method_4_code 29 = .ok (.aload_n 0, 1) := by decide +kernel
theorem d_Pairing_find_30 : decode prog_5_method_4_code 30 = .ok (.aload_n 2, 1) := by decide +kernel
theorem d_Pairing_find_31 : decode prog_5_method_4_code 31 = .ok (.aload_n 0, 1) := by decide +kernel
theorem d_Pairing_find_32 : decode prog_5_method_4_code 32 = .ok (.getfield 15, 3) := by decide +kernel
theorem d_Pairing_find_35 : decode prog_5_method_4_code 35 = .ok (.invokestatic 38, 3) := by decide +kernel
theorem d_Pairing_find_38 : decode prog_5_method_4_code 38 = .ok (.putfield 42, 3) := by decide +kernel
theorem d_Pairing_find_41 : decode prog_5_method_4_code 41 = .ok (.aload_n 0, 1) := by decide +kernel
theorem d_Pairing_find_42 : decode prog_5_method_4_code 42 = .ok (.getfield 27, 3) := by decide +kernel
theorem d_Pairing_find_45 : decode prog_5_method_4_code 45 = .ok (.istore_n 3, 1) := by decide +kernel
theorem d_Pairing_find_46 : decode prog_5_method_4_code 46 = .ok (.iload_n 3, 1) := by decide +kernel
theorem d_Pairing_find_47 : decode prog_5_method_4_code 47 = .ok (.ifCond .lt 35, 3) := by decide +kernel
theorem d_Pairing_find_50 : decode prog_5_method_4_code 50 = .ok (.aload_n 0, 1) := by decide +kernel
theorem d_Pairing_find_51 : decode prog_5_method_4_code 51 = .ok (.getfield 42, 3) := by decide +kernel
theorem d_Pairing_find_54 : decode prog_5_method_4_code 54 = .ok (.istore 4, 2) := by decide +kernel
theorem d_Pairing_find_56 : decode prog_5_method_4_code 56 = .ok (.iload 4, 2) := by decide +kernel
theorem d_Pairing_find_58 : decode prog_5_method_4_code 58 = .ok (.ifCond .lt 18, 3) := by decide +kernel
theorem d_Pairing_find_61 : decode prog_5_method_4_code 61 = .ok (.aload_n 0, 1) := by decide +kernel
theorem d_Pairing_find_62 : decode prog_5_method_4_code 62 = .ok (.aload_n 1, 1) := by decide +kernel
theorem d_Pairing_find_63 : decode prog_5_method_4_code 63 = .ok (.aload_n 2, 1) := by decide +kernel
theorem d_Pairing_find_64 : decode prog_5_method_4_code 64 = .ok (.iload_n 3, 1) := by decide +kernel
theorem d_Pairing_find_65 : decode prog_5_method_4_code 65 = .ok (.iload 4, 2) := by decide +kernel
theorem d_Pairing_find_67 : decode prog_5_method_4_code 67 = .ok (.invokevirtual 45, 3) := by decide +kernel
theorem k_Pairing_weigh : mt_OK m_Pairing_weigh 4 1 := ⟨gwi_1403, gwi_145, ⟨by decide +kernel, by decide +kernel, by decide +kernel⟩, fun h => absurd h (by decide), fun _ => ⟨gwi_1402, gwi_53⟩, fun h => absurd h (by decide)⟩
theorem l_Pairing_45 : ml_OK "PlainMusic$Pairing" 45 ⟨"PlainMusic$Pairing", "weigh", "(LPlainMusic$Voice;LPlainMusic$Voice;II)V"⟩ := Or.inl gwi_1400
theorem d_Pairing_find_70 : decode prog_5_method_4_code 70 = .ok (.iinc 4 (-1), 3) := by decide +kernel
theorem d_Pairing_find_73 : decode prog_5_method_4_code 73 = .ok (.goto (-17), 3) := by decide +kernel
theorem d_Pairing_find_76 : decode prog_5_method_4_code 76 = .ok (.iinc 3 (-1), 3) := by decide +kernel
theorem d_Pairing_find_79 : decode prog_5_method_4_code 79 = .ok (.goto (-33), 3) := by decide +kernel
theorem d_Pairing_find_82 : decode prog_5_method_4_code 82 = .ok (.aload_n 0, 1) := by decide +kernel
theorem d_Pairing_find_83 : decode prog_5_method_4_code 83 = .ok (.aload_n 1, 1) := by decide +kernel
theorem d_Pairing_find_84 : decode prog_5_method_4_code 84 = .ok (.aload_n 2, 1) := by decide +kernel
theorem d_Pairing_find_85 : decode prog_5_method_4_code 85 = .ok (.invokevirtual 49, 3) := by decide +kernel
theorem k_Pairing_choose : mt_OK m_Pairing_choose 2 1 := ⟨gwi_1420, gwi_145, ⟨by decide +kernel, by decide +kernel, by decide +kernel⟩, fun h => absurd h (by decide), fun _ => ⟨gwi_1419, gwi_56⟩, fun h => absurd h (by decide)⟩
theorem l_Pairing_49 : ml_OK "PlainMusic$Pairing" 49 ⟨"PlainMusic$Pairing", "choose", "(LPlainMusic$Voice;LPlainMusic$Voice;)V"⟩ := Or.inl gwi_1417
theorem d_Pairing_find_88 : decode prog_5_method_4_code 88 = .ok (.aload_n 0, 1) := by decide +kernel
theorem d_Pairing_find_89 : decode prog_5_method_4_code 89 = .ok (.aload_n 0, 1) := by decide +kernel
theorem d_Pairing_find_90 : decode prog_5_method_4_code 90 = .ok (.getfield 21, 3) := by decide +kernel
theorem d_Pairing_find_93 : decode prog_5_method_4_code 93 = .ok (.iconst 0, 1) := by decide +kernel
theorem d_Pairing_find_94 : decode prog_5_method_4_code 94 = .ok (.iaload, 1) := by decide +kernel
theorem d_Pairing_find_95 : decode prog_5_method_4_code 95 = .ok (.putfield 31, 3) := by decide +kernel
theorem d_Pairing_find_98 : decode prog_5_method_4_code 98 = .ok (.aload_n 0, 1) := by decide +kernel
theorem d_Pairing_find_99 : decode prog_5_method_4_code 99 = .ok (.getfield 18, 3) := by decide +kernel
theorem d_Pairing_find_102 : decode prog_5_method_4_code 102 = .ok (.iconst 0, 1) := by decide +kernel
theorem d_Pairing_find_103 : decode prog_5_method_4_code 103 = .ok (.iaload, 1) := by decide +kernel
theorem d_Pairing_find_104 : decode prog_5_method_4_code 104 = .ok (.ireturn, 1) := by decide +kernel
theorem d_Pairing_find_14 : decode prog_5_method_4_code 14 = .ok (.bipush (-4), 2) := by decide +kernel
theorem d_Pairing_find_16 : decode prog_5_method_4_code 16 = .ok (.ireturn, 1) := by decide +kernel
theorem s_Pairing_forget {G : cx_T} {s : Nat} {h : ah_T} (hx : xi s h)   : con G 0 0 0 m_Pairing_forget [av_R (some 164)] h (fun r h' => r = none ∧ kF FC s h h') := by
  refine con_of (L := [some (av_R (some 164))]) (by decide +kernel) (Nat.le_of_ble_eq_true rfl) rfl ?_
  have hS : isS s := hx.2.1
  have hs0 : s = 17 ∨ s = 80 := hS
  have hs0b : 17 ≤ s ∧ s ≤ 80 := by omega
  have k0 : kF FC s h h := kF_0 hx
  refine A_aload_n 0 d_Pairing_forget_0 rfl rfl ?_
  refine A_iconst d_Pairing_forget_1 rfl ?_
  refine A_putIk (KR := kF FC s h) T_ok d_Pairing_forget_2 f_Pairing_27 (xi_s k0.1 sf_164) fin_f (kF_j k0 (by decide) (ns_b rfl) rgf_164_5 (by omega) (by omega)) (fun h1 k2 eh1 => ?_)
  refine A_aload_n 0 d_Pairing_forget_5 rfl rfl ?_
  refine A_iconst d_Pairing_forget_6 rfl ?_
  refine A_pc (pc' := 7) rfl ?_
  refine A_putIk (KR := kF FC s h) T_ok d_Pairing_forget_7 f_Pairing_31 (xi_s k2.1 sf_164) fin_f (kF_j k2 (by decide) (ns_b rfl) rgf_164_7 (by omega) (by omega)) (fun h3 k4 eh3 => ?_)
  exact A_vret d_Pairing_forget_10 (by decide) rfl ⟨rfl, k4⟩
theorem s_Pairing_partnerOf {G : cx_T} {s : Nat} {h : ah_T} (hx : xi s h) {a1 : Int}  : con G 0 0 0 m_Pairing_partnerOf [av_R (some 164), av_I a1] h (fun r h' => ∃ z, r = some (av_I z) ∧ ((-2147483648) ≤ z ∧ z ≤ 2147483647) ∧ h = h') := by
  refine con_of (L := [some (av_R (some 164)), some (av_I a1)]) (by decide +kernel) (Nat.le_of_ble_eq_true rfl) rfl ?_
  have hS : isS s := hx.2.1
  have hs0 : s = 17 ∨ s = 80 := hS
  have hs0b : 17 ≤ s ∧ s ≤ 80 := by omega
  refine A_locI 1 rfl (fun ra => ?_)
  obtain ⟨_, _⟩ := ra
  refine A_iload_n 1 d_Pairing_partnerOf_0 rfl rfl ?_
  refine A_if_lt (tgt := 30) d_Pairing_partnerOf_1 (by decide) (fun c1 => ?_) (fun c1 => ?_)
  · refine A_iconst d_Pairing_partnerOf_30 rfl ?_
    exact A_iret d_Pairing_partnerOf_31 (by decide) rfl ⟨_, rfl, ⟨by omega, by omega⟩, rfl⟩
  · refine A_iload_n 1 d_Pairing_partnerOf_4 rfl rfl ?_
    refine A_aload_n 0 d_Pairing_partnerOf_5 rfl rfl ?_
    refine A_getIn (lo := 0) (hi := 80) T_ok d_Pairing_partnerOf_6 f_Pairing_27 (xi_s hx sf_164) (xi_g hx (by decide) rgf_164_5) (fun x2 ex2 _ _ => ?_)
    refine A_icmp_ge (tgt := 30) d_Pairing_partnerOf_9 (by decide) (fun c3 => ?_) (fun c3 => ?_)
    · refine A_iconst d_Pairing_partnerOf_30 rfl ?_
      exact A_iret d_Pairing_partnerOf_31 (by decide) rfl ⟨_, rfl, ⟨by omega, by omega⟩, rfl⟩
    · refine A_iload_n 1 d_Pairing_partnerOf_12 rfl rfl ?_
      refine A_aload_n 0 d_Pairing_partnerOf_13 rfl rfl ?_
      refine A_getAv (z := some 169) T_ok d_Pairing_partnerOf_14 f_Pairing_24 (xi_s hx sf_164) (xi_r hx rff_164_4) ?_
      refine A_alenN d_Pairing_partnerOf_17 (xi_s hx sf_169) (by decide) (by decide) ?_
      refine A_icmp_ge (tgt := 30) d_Pairing_partnerOf_18 (by decide) (fun c => False.elim (by omega)) (fun c5 => ?_)
      refine A_aload_n 0 d_Pairing_partnerOf_21 rfl rfl ?_
      refine A_getAv (z := some 169) T_ok d_Pairing_partnerOf_22 f_Pairing_24 (xi_s hx sf_164) (xi_r hx rff_164_4) ?_
      refine A_iload_n 1 d_Pairing_partnerOf_25 rfl rfl ?_
      refine A_ialoadf d_Pairing_partnerOf_26 (xi_s hx sf_169) (by omega) (by omega) (fun x7 ex7 _ _ => ?_)
      refine A_goto (tgt := 31) d_Pairing_partnerOf_27 (by decide) ?_
      exact A_iret d_Pairing_partnerOf_31 (by decide) rfl ⟨_, rfl, ⟨by omega, by omega⟩, rfl⟩
theorem s_Pairing_soundsOf {G : cx_T} {s : Nat} {h : ah_T} (hx : xi s h) {a0 : Nat} (ha0 : isV a0) : con G 2 0 0 m_Pairing_soundsOf [av_R (some a0)] h (fun r h' => ∃ z, r = some (av_I z) ∧ ((-2147483648) ≤ z ∧ z ≤ 2147483647) ∧ h = h') := by
  refine con_of (L := [some (av_R (some a0)), none, none]) (by decide +kernel) (Nat.le_of_ble_eq_true rfl) rfl ?_
  have hS : isS s := hx.2.1
  have hs0 : s = 17 ∨ s = 80 := hS
  have hs0b : 17 ≤ s ∧ s ≤ 80 := by omega
  have ga0 := lt_V ha0
  refine A_iconst d_Pairing_soundsOf_0 rfl ?_
  refine A_istore_n 1 (L' := [some (av_R (some a0)), some (av_I 0), none]) d_Pairing_soundsOf_1 rfl (Nat.le_of_ble_eq_true rfl) rfl ?_
  refine A_iconst d_Pairing_soundsOf_2 rfl ?_
  refine A_istore_n 2 (L' := [some (av_R (some a0)), some (av_I 0), some (av_I 0)]) d_Pairing_soundsOf_3 rfl (Nat.le_of_ble_eq_true rfl) rfl ?_
  have lp4 : ∀ (n : Nat) (i1 i2 : Int) , (-2147483648) ≤ i1 → i1 ≤ 2147483647 → 0 ≤ i2 → i2 ≤ 300 → (301 - i2).toNat < n → aw G (rm_R 2 0 0) m_Pairing_soundsOf 0 0 4 [some (av_R (some a0)), some (av_I i1), some (av_I i2)] [] h (fun r h' => ∃ z, r = some (av_I z) ∧ ((-2147483648) ≤ z ∧ z ≤ 2147483647) ∧ h = h') := by
    intro n
    induction n with
    | zero => intro i1 i2 _ _ _ _ hm; omega
    | succ n ih4 =>
      intro i1 i2 hl0 hl1 hl2 hl3 hm
      refine A_iload_n 2 d_Pairing_soundsOf_4 rfl rfl ?_
      refine A_aload_n 0 d_Pairing_soundsOf_5 rfl rfl ?_
      refine A_getIn (lo := 0) (hi := 300) T_ok d_Pairing_soundsOf_6 f_Pairing_53 (xs_V hx ha0) (xi_g hx (lt1_V ha0) (rg_V_14 ha0)) (fun x3 ex3 _ _ => ?_)
      refine A_icmp_ge (tgt := 34) d_Pairing_soundsOf_9 (by decide) (fun c4 => ?_) (fun c4 => ?_)
      · refine A_iload_n 1 d_Pairing_soundsOf_34 rfl rfl ?_
        exact A_iret d_Pairing_soundsOf_35 (by decide) rfl ⟨_, rfl, ⟨by omega, by omega⟩, rfl⟩
      · refine A_iload_n 1 d_Pairing_soundsOf_12 rfl rfl ?_
        refine A_aload_n 0 d_Pairing_soundsOf_13 rfl rfl ?_
        refine A_iload_n 2 d_Pairing_soundsOf_14 rfl rfl ?_
        refine A_callV1 m_Voice_isRest T_ok d_Pairing_soundsOf_15 l_Pairing_58 k_Voice_isRest (xs_V hx ha0) rfl (by decide +kernel) (by decide) (Nat.le_of_ble_eq_true rfl) (s_Voice_isRest hx ha0 (by omega) (by omega)) (fun r h5 hq => ?_)
        obtain ⟨x7, rfl, bx7, rfl⟩ := hq
        refine A_if_eq (tgt := 25) d_Pairing_soundsOf_18 (by decide) (fun c8 => ?_) (fun c8 => ?_)
        · refine A_iconst d_Pairing_soundsOf_25 rfl ?_
          refine A_iaddw d_Pairing_soundsOf_26 (fun x9 _ _ _ => ?_)
          refine A_istore_n 1 (L' := [some (av_R (some a0)), some (av_I x9), some (av_I i2)]) d_Pairing_soundsOf_27 rfl (Nat.le_of_ble_eq_true rfl) rfl ?_
          refine A_iincv (z := (i2 + 1)) (L' := [some (av_R (some a0)), some (av_I x9), some (av_I (i2 + 1))]) d_Pairing_soundsOf_28 rfl (w32_to (by omega) (by unfold i32; omega)) rfl ?_
          refine A_goto (tgt := 4) d_Pairing_soundsOf_31 (by decide) ?_
          exact ih4 x9 (i2 + 1) (by omega) (by omega) (by omega) (by omega) (by omega)
        · refine A_iconst d_Pairing_soundsOf_21 rfl ?_
          refine A_goto (tgt := 26) d_Pairing_soundsOf_22 (by decide) ?_
          refine A_iaddv (z := i1) d_Pairing_soundsOf_26 (w32_to (by omega) (by unfold i32; omega)) ?_
          refine A_istore_n 1 (L' := [some (av_R (some a0)), some (av_I i1), some (av_I i2)]) d_Pairing_soundsOf_27 rfl (Nat.le_of_ble_eq_true rfl) rfl ?_
          refine A_iincv (z := (i2 + 1)) (L' := [some (av_R (some a0)), some (av_I i1), some (av_I (i2 + 1))]) d_Pairing_soundsOf_28 rfl (w32_to (by omega) (by unfold i32; omega)) rfl ?_
          refine A_goto (tgt := 4) d_Pairing_soundsOf_31 (by decide) ?_
          exact ih4 i1 (i2 + 1) (by omega) (by omega) (by omega) (by omega) (by omega)
  exact lp4 _ 0 0 (by omega) (by omega) (by omega) (by omega) (Nat.lt_succ_self _)
theorem s_Pairing_gather_a {G : cx_T} {s : Nat} {h : ah_T} (hx : xi s h) {a0 : Nat} (ha0 : isV a0) : con G 2 0 0 m_Pairing_gather [av_R (some a0), av_R (some 165)] h (fun r h' => ∃ z, r = some (av_I z) ∧ (0 ≤ z ∧ z ≤ 80) ∧ kF FC s h h') := by
  refine con_of (L := [some (av_R (some a0)), some (av_R (some 165)), none, none]) (by decide +kernel) (Nat.le_of_ble_eq_true rfl) rfl ?_
  have hS : isS s := hx.2.1
  have hs0 : s = 17 ∨ s = 80 := hS
  have hs0b : 17 ≤ s ∧ s ≤ 80 := by omega
  have k0 : kF FC s h h := kF_0 hx
  have ga0 := lt_V ha0
  refine A_iconst d_Pairing_gather_0 rfl ?_
  refine A_istore_n 2 (L' := [some (av_R (some a0)), some (av_R (some 165)), some (av_I 0), none]) d_Pairing_gather_1 rfl (Nat.le_of_ble_eq_true rfl) rfl ?_
  refine A_iconst d_Pairing_gather_2 rfl ?_
  refine A_istore_n 3 (L' := [some (av_R (some a0)), some (av_R (some 165)), some (av_I 0), some (av_I 0)]) d_Pairing_gather_3 rfl (Nat.le_of_ble_eq_true rfl) rfl ?_
  have lp4 : ∀ (n : Nat) (i1 i2 : Int) (h3 : ah_T) , 0 ≤ i1 → i1 ≤ 80 → 0 ≤ i2 → i2 ≤ 300 → kF FC s h h3 → (301 - i2).toNat < n → aw G (rm_R 2 0 0) m_Pairing_gather 0 0 4 [some (av_R (some a0)), some (av_R (some 165)), some (av_I i1), some (av_I i2)] [] h3 (fun r h' => ∃ z, r = some (av_I z) ∧ (0 ≤ z ∧ z ≤ 80) ∧ kF FC s h h') := by
    intro n
    induction n with
    | zero => intro i1 i2 h3 _ _ _ _ _ hm; omega
    | succ n ih4 =>
      intro i1 i2 h3 hl0 hl1 hl2 hl3 k4 hm
      refine A_iload_n 3 d_Pairing_gather_4 rfl rfl ?_
      refine A_aload_n 0 d_Pairing_gather_5 rfl rfl ?_
      refine A_getIn (lo := 0) (hi := 300) T_ok d_Pairing_gather_6 f_Pairing_53 (xs_V k4.1 ha0) (xi_g k4.1 (lt1_V ha0) (rg_V_14 ha0)) (fun x5 ex5 _ _ => ?_)
      refine A_icmp_ge (tgt := 39) d_Pairing_gather_9 (by decide) (fun c6 => ?_) (fun c6 => ?_)
      · refine A_iload_n 2 d_Pairing_gather_39 rfl rfl ?_
        exact A_iret d_Pairing_gather_40 (by decide) rfl ⟨_, rfl, ⟨by omega, by omega⟩, k4⟩
      · refine A_aload_n 0 d_Pairing_gather_12 rfl rfl ?_
        refine A_iload_n 3 d_Pairing_gather_13 rfl rfl ?_
        refine A_callV1 m_Voice_isRest T_ok d_Pairing_gather_14 l_Pairing_58 k_Voice_isRest (xs_V k4.1 ha0) rfl (by decide +kernel) (by decide) (Nat.le_of_ble_eq_true rfl) (s_Voice_isRest k4.1 ha0 (by omega) (by omega)) (fun r h7 hq => ?_)
        obtain ⟨x9, rfl, bx9, rfl⟩ := hq
        refine A_if_ne (tgt := 33) d_Pairing_gather_17 (by decide) (fun c10 => ?_) (fun c10 => ?_)
        · refine A_iincv (z := (i2 + 1)) (L' := [some (av_R (some a0)), some (av_R (some 165)), some (av_I i1), some (av_I (i2 + 1))]) d_Pairing_gather_33 rfl (w32_to (by omega) (by unfold i32; omega)) rfl ?_
          refine A_goto (tgt := 4) d_Pairing_gather_36 (by decide) ?_
          exact ih4 i1 (i2 + 1) h3 (by omega) (by omega) (by omega) (by omega) k4 (by omega)
        · refine A_iload_n 2 d_Pairing_gather_20 rfl rfl ?_
          refine A_aload_n 1 d_Pairing_gather_21 rfl rfl ?_
          refine A_alenN d_Pairing_gather_22 (xi_s k4.1 sf_165) (by decide) (by decide) ?_
          refine A_icmp_ge (tgt := 33) d_Pairing_gather_23 (by decide) (fun c11 => ?_) (fun c11 => ?_)
          · refine A_iincv (z := (i2 + 1)) (L' := [some (av_R (some a0)), some (av_R (some 165)), some (av_I i1), some (av_I (i2 + 1))]) d_Pairing_gather_33 rfl (w32_to (by omega) (by unfold i32; omega)) rfl ?_
            refine A_goto (tgt := 4) d_Pairing_gather_36 (by decide) ?_
            exact ih4 i1 (i2 + 1) h3 (by omega) (by omega) (by omega) (by omega) k4 (by omega)
          · refine A_aload_n 1 d_Pairing_gather_26 rfl rfl ?_
            refine A_iload_n 2 d_Pairing_gather_27 rfl rfl ?_
            refine A_iload_n 3 d_Pairing_gather_28 rfl rfl ?_
            refine A_iastorek (KR := kF FC s h) d_Pairing_gather_29 (xi_s k4.1 sf_165) (by omega) (by omega) (kF_j k4 (by decide) (ns_b rfl) (rgf_165 _) (by omega) (by omega)) (fun h12 k13 eh12 => ?_)
            refine A_iincv (z := (i1 + 1)) (L' := [some (av_R (some a0)), some (av_R (some 165)), some (av_I (i1 + 1)), some (av_I i2)]) d_Pairing_gather_30 rfl (w32_to (by omega) (by unfold i32; omega)) rfl ?_
            refine A_pc (pc' := 33) rfl ?_
            refine A_iincv (z := (i2 + 1)) (L' := [some (av_R (some a0)), some (av_R (some 165)), some (av_I (i1 + 1)), some (av_I (i2 + 1))]) d_Pairing_gather_33 rfl (w32_to (by omega) (by unfold i32; omega)) rfl ?_
            refine A_goto (tgt := 4) d_Pairing_gather_36 (by decide) ?_
            exact ih4 (i1 + 1) (i2 + 1) h12 (by omega) (by omega) (by omega) (by omega) k13 (by omega)
  exact lp4 _ 0 0 h (by omega) (by omega) (by omega) (by omega) k0 (Nat.lt_succ_self _)
theorem s_Pairing_gather_b {G : cx_T} {s : Nat} {h : ah_T} (hx : xi s h) {a0 : Nat} (ha0 : isV a0) : con G 2 0 0 m_Pairing_gather [av_R (some a0), av_R (some 166)] h (fun r h' => ∃ z, r = some (av_I z) ∧ (0 ≤ z ∧ z ≤ 80) ∧ kF FC s h h') := by
  refine con_of (L := [some (av_R (some a0)), some (av_R (some 166)), none, none]) (by decide +kernel) (Nat.le_of_ble_eq_true rfl) rfl ?_
  have hS : isS s := hx.2.1
  have hs0 : s = 17 ∨ s = 80 := hS
  have hs0b : 17 ≤ s ∧ s ≤ 80 := by omega
  have k0 : kF FC s h h := kF_0 hx
  have ga0 := lt_V ha0
  refine A_iconst d_Pairing_gather_0 rfl ?_
  refine A_istore_n 2 (L' := [some (av_R (some a0)), some (av_R (some 166)), some (av_I 0), none]) d_Pairing_gather_1 rfl (Nat.le_of_ble_eq_true rfl) rfl ?_
  refine A_iconst d_Pairing_gather_2 rfl ?_
  refine A_istore_n 3 (L' := [some (av_R (some a0)), some (av_R (some 166)), some (av_I 0), some (av_I 0)]) d_Pairing_gather_3 rfl (Nat.le_of_ble_eq_true rfl) rfl ?_
  have lp4 : ∀ (n : Nat) (i1 i2 : Int) (h3 : ah_T) , 0 ≤ i1 → i1 ≤ 80 → 0 ≤ i2 → i2 ≤ 300 → kF FC s h h3 → (301 - i2).toNat < n → aw G (rm_R 2 0 0) m_Pairing_gather 0 0 4 [some (av_R (some a0)), some (av_R (some 166)), some (av_I i1), some (av_I i2)] [] h3 (fun r h' => ∃ z, r = some (av_I z) ∧ (0 ≤ z ∧ z ≤ 80) ∧ kF FC s h h') := by
    intro n
    induction n with
    | zero => intro i1 i2 h3 _ _ _ _ _ hm; omega
    | succ n ih4 =>
      intro i1 i2 h3 hl0 hl1 hl2 hl3 k4 hm
      refine A_iload_n 3 d_Pairing_gather_4 rfl rfl ?_
      refine A_aload_n 0 d_Pairing_gather_5 rfl rfl ?_
      refine A_getIn (lo := 0) (hi := 300) T_ok d_Pairing_gather_6 f_Pairing_53 (xs_V k4.1 ha0) (xi_g k4.1 (lt1_V ha0) (rg_V_14 ha0)) (fun x5 ex5 _ _ => ?_)
      refine A_icmp_ge (tgt := 39) d_Pairing_gather_9 (by decide) (fun c6 => ?_) (fun c6 => ?_)
      · refine A_iload_n 2 d_Pairing_gather_39 rfl rfl ?_
        exact A_iret d_Pairing_gather_40 (by decide) rfl ⟨_, rfl, ⟨by omega, by omega⟩, k4⟩
      · refine A_aload_n 0 d_Pairing_gather_12 rfl rfl ?_
        refine A_iload_n 3 d_Pairing_gather_13 rfl rfl ?_
        refine A_callV1 m_Voice_isRest T_ok d_Pairing_gather_14 l_Pairing_58 k_Voice_isRest (xs_V k4.1 ha0) rfl (by decide +kernel) (by decide) (Nat.le_of_ble_eq_true rfl) (s_Voice_isRest k4.1 ha0 (by omega) (by omega)) (fun r h7 hq => ?_)
        obtain ⟨x9, rfl, bx9, rfl⟩ := hq
        refine A_if_ne (tgt := 33) d_Pairing_gather_17 (by decide) (fun c10 => ?_) (fun c10 => ?_)
        · refine A_iincv (z := (i2 + 1)) (L' := [some (av_R (some a0)), some (av_R (some 166)), some (av_I i1), some (av_I (i2 + 1))]) d_Pairing_gather_33 rfl (w32_to (by omega) (by unfold i32; omega)) rfl ?_
          refine A_goto (tgt := 4) d_Pairing_gather_36 (by decide) ?_
          exact ih4 i1 (i2 + 1) h3 (by omega) (by omega) (by omega) (by omega) k4 (by omega)
        · refine A_iload_n 2 d_Pairing_gather_20 rfl rfl ?_
          refine A_aload_n 1 d_Pairing_gather_21 rfl rfl ?_
          refine A_alenN d_Pairing_gather_22 (xi_s k4.1 sf_166) (by decide) (by decide) ?_
          refine A_icmp_ge (tgt := 33) d_Pairing_gather_23 (by decide) (fun c11 => ?_) (fun c11 => ?_)
          · refine A_iincv (z := (i2 + 1)) (L' := [some (av_R (some a0)), some (av_R (some 166)), some (av_I i1), some (av_I (i2 + 1))]) d_Pairing_gather_33 rfl (w32_to (by omega) (by unfold i32; omega)) rfl ?_
            refine A_goto (tgt := 4) d_Pairing_gather_36 (by decide) ?_
            exact ih4 i1 (i2 + 1) h3 (by omega) (by omega) (by omega) (by omega) k4 (by omega)
          · refine A_aload_n 1 d_Pairing_gather_26 rfl rfl ?_
            refine A_iload_n 2 d_Pairing_gather_27 rfl rfl ?_
            refine A_iload_n 3 d_Pairing_gather_28 rfl rfl ?_
            refine A_iastorek (KR := kF FC s h) d_Pairing_gather_29 (xi_s k4.1 sf_166) (by omega) (by omega) (kF_j k4 (by decide) (ns_b rfl) (rgf_166 _) (by omega) (by omega)) (fun h12 k13 eh12 => ?_)
            refine A_iincv (z := (i1 + 1)) (L' := [some (av_R (some a0)), some (av_R (some 166)), some (av_I (i1 + 1)), some (av_I i2)]) d_Pairing_gather_30 rfl (w32_to (by omega) (by unfold i32; omega)) rfl ?_
            refine A_pc (pc' := 33) rfl ?_
            refine A_iincv (z := (i2 + 1)) (L' := [some (av_R (some a0)), some (av_R (some 166)), some (av_I (i1 + 1)), some (av_I (i2 + 1))]) d_Pairing_gather_33 rfl (w32_to (by omega) (by unfold i32; omega)) rfl ?_
            refine A_goto (tgt := 4) d_Pairing_gather_36 (by decide) ?_
            exact ih4 (i1 + 1) (i2 + 1) h12 (by omega) (by omega) (by omega) (by omega) k13 (by omega)
  exact lp4 _ 0 0 h (by omega) (by omega) (by omega) (by omega) k0 (Nat.lt_succ_self _)
theorem s_Pairing_slot {G : cx_T} {s : Nat} {h : ah_T} (hx : xi s h) {a1 : Int} {a2 : Int} (la1 : 0 ≤ a1) (ua1 : a1 ≤ 81) (la2 : 0 ≤ a2) (ua2 : a2 ≤ 81) : con G 1 0 0 m_Pairing_slot [av_R (some 164), av_I a1, av_I a2] h (fun r h' => ∃ z, r = some (av_I z) ∧ (0 ≤ z ∧ z ≤ 1680) ∧ h = h') := by
  refine con_of (L := [some (av_R (some 164)), some (av_I a1), some (av_I a2)]) (by decide +kernel) (Nat.le_of_ble_eq_true rfl) rfl ?_
  have hS : isS s := hx.2.1
  have hs0 : s = 17 ∨ s = 80 := hS
  have hs0b : 17 ≤ s ∧ s ≤ 80 := by omega
  refine A_iload_n 1 d_Pairing_slot_0 rfl rfl ?_
  refine A_aload_n 0 d_Pairing_slot_1 rfl rfl ?_
  refine A_getIn (lo := 0) (hi := 80) T_ok d_Pairing_slot_2 f_Pairing_42 (xi_s hx sf_164) (xi_g hx (by decide) rgf_164_6) (fun x1 ex1 _ _ => ?_)
  refine A_iconst d_Pairing_slot_5 rfl ?_
  refine A_iaddv (z := (x1 + 1)) d_Pairing_slot_6 (w32_to (by omega) (by unfold i32; omega)) ?_
  refine A_pc (pc' := 7) rfl ?_
  refine A_imulw d_Pairing_slot_7 (fun x2 ex2 _ _ => ?_)
  have bx2 := mul_nn32 (ux := 81) (uy := 81) ex2 (by omega) (by omega) (by omega) (by omega) (by decide)
  refine A_iload_n 2 d_Pairing_slot_8 rfl rfl ?_
  refine A_iaddv (z := (x2 + a2)) d_Pairing_slot_9 (w32_to (by omega) (by unfold i32; omega)) ?_
  refine A_sipush d_Pairing_slot_10 rfl ?_
  refine A_mmin d_Pairing_slot_13 lm_Pairing_62 ma_min (by decide) (by decide) (Nat.le_of_ble_eq_true rfl) rfl ?_
  refine A_nrI (fun x3 ex3 _ _ => ?_)
  have bx3 := mmin_r ex3
  exact A_iret d_Pairing_slot_16 (by decide) rfl ⟨_, rfl, ⟨by omega, by omega⟩, rfl⟩
theorem s_Pairing_pairCost {G : cx_T} {s : Nat} {h : ah_T} (hx : xi s h) {a1 : Nat} {a2 : Nat} {a3 : Int} {a4 : Int} (ha1 : isV a1) (ha2 : isV a2) (la3 : 0 ≤ a3) (ua3 : a3 ≤ 79) (la4 : 0 ≤ a4) (ua4 : a4 ≤ 79) : con G 2 0 0 m_Pairing_pairCost [av_R (some 164), av_R (some a1), av_R (some a2), av_I a3, av_I a4] h (fun r h' => ∃ z, r = some (av_I z) ∧ ((-2147483648) ≤ z ∧ z ≤ 2147483647) ∧ h = h') := by
  refine con_of (L := [some (av_R (some 164)), some (av_R (some a1)), some (av_R (some a2)), some (av_I a3), some (av_I a4), none, none, none, none]) (by decide +kernel) (Nat.le_of_ble_eq_true rfl) rfl ?_
  have hS : isS s := hx.2.1
  have hs0 : s = 17 ∨ s = 80 := hS
  have hs0b : 17 ≤ s ∧ s ≤ 80 := by omega
  have ga1 := lt_V ha1
  have ga2 := lt_V ha2
  refine A_aload_n 0 d_Pairing_pairCost_0 rfl rfl ?_
  refine A_getAv (z := some 165) T_ok d_Pairing_pairCost_1 f_Pairing_11 (xi_s hx sf_164) (xi_r hx rff_164_0) ?_
  refine A_iload_n 3 d_Pairing_pairCost_4 rfl rfl ?_
  refine A_ialoadn (lo := 0) (hi := 299) d_Pairing_pairCost_5 (xi_s hx sf_165) (by omega) (by omega) (xi_g hx (by decide) (rgf_165 _)) (fun x2 ex2 _ _ => ?_)
  refine A_istore (L' := [some (av_R (some 164)), some (av_R (some a1)), some (av_R (some a2)), some (av_I a3), some (av_I a4), some (av_I x2), none, none, none]) d_Pairing_pairCost_6 (Nat.le_of_ble_eq_true rfl) rfl ?_
  refine A_pc (pc' := 8) rfl ?_
  refine A_aload_n 0 d_Pairing_pairCost_8 rfl rfl ?_
  refine A_getAv (z := some 166) T_ok d_Pairing_pairCost_9 f_Pairing_15 (xi_s hx sf_164) (xi_r hx rff_164_1) ?_
  refine A_iload d_Pairing_pairCost_12 rfl ?_
  refine A_ialoadn (lo := 0) (hi := 299) d_Pairing_pairCost_14 (xi_s hx sf_166) (by omega) (by omega) (xi_g hx (by decide) (rgf_166 _)) (fun x4 ex4 _ _ => ?_)
  refine A_istore (L' := [some (av_R (some 164)), some (av_R (some a1)), some (av_R (some a2)), some (av_I a3), some (av_I a4), some (av_I x2), some (av_I x4), none, none]) d_Pairing_pairCost_15 (Nat.le_of_ble_eq_true rfl) rfl ?_
  refine A_bipush d_Pairing_pairCost_17 rfl ?_
  refine A_pc (pc' := 19) rfl ?_
  refine A_aload_n 1 d_Pairing_pairCost_19 rfl rfl ?_
  refine A_iload d_Pairing_pairCost_20 rfl ?_
  refine A_callV1 m_Voice_lowestKey T_ok d_Pairing_pairCost_22 l_Pairing_68 k_Voice_lowestKey (xs_V hx ha1) rfl (by decide +kernel) (by decide) (Nat.le_of_ble_eq_true rfl) (s_Voice_lowestKey hx ha1 (by omega) (by omega)) (fun r h5 hq => ?_)
  obtain ⟨x7, rfl, ⟨_, _⟩, rfl⟩ := hq
  refine A_aload_n 2 d_Pairing_pairCost_25 rfl rfl ?_
  refine A_iload d_Pairing_pairCost_26 rfl ?_
  refine A_callV1 m_Voice_lowestKey T_ok d_Pairing_pairCost_28 l_Pairing_68 k_Voice_lowestKey (xs_V hx ha2) rfl (by decide +kernel) (by decide) (Nat.le_of_ble_eq_true rfl) (s_Voice_lowestKey hx ha2 (by omega) (by omega)) (fun r h8 hq => ?_)
  obtain ⟨x10, rfl, ⟨_, _⟩, rfl⟩ := hq
  refine A_isubw d_Pairing_pairCost_31 (fun x11 _ _ _ => ?_)
  refine A_mabs d_Pairing_pairCost_32 lm_Pairing_72 ma_abs (by decide) (by decide) (Nat.le_of_ble_eq_true rfl) rfl ?_
  refine A_nrI (fun x12 ex12 _ _ => ?_)
  refine A_mmin d_Pairing_pairCost_35 lm_Pairing_62 ma_min (by decide) (by decide) (Nat.le_of_ble_eq_true rfl) rfl ?_
  refine A_nrI (fun x13 ex13 _ _ => ?_)
  have bx13 := mmin_r ex13
  refine A_istore (L' := [some (av_R (some 164)), some (av_R (some a1)), some (av_R (some a2)), some (av_I a3), some (av_I a4), some (av_I x2), some (av_I x4), some (av_I x13), none]) d_Pairing_pairCost_38 (Nat.le_of_ble_eq_true rfl) rfl ?_
  refine A_aload_n 1 d_Pairing_pairCost_40 rfl rfl ?_
  refine A_pc (pc' := 41) rfl ?_
  refine A_getAv (z := some (a1 + 11)) T_ok d_Pairing_pairCost_41 f_Pairing_75 (xs_V hx ha1) (xr_V_12 hx ha1) ?_
  refine A_iload d_Pairing_pairCost_44 rfl ?_
  refine A_laloadf d_Pairing_pairCost_46 (xs_V_12 hx ha1) (by omega) (by omega) (fun x15 ex15 _ _ => ?_)
  refine A_aload_n 2 d_Pairing_pairCost_47 rfl rfl ?_
  refine A_getAv (z := some (a2 + 11)) T_ok d_Pairing_pairCost_48 f_Pairing_75 (xs_V hx ha2) (xr_V_12 hx ha2) ?_
  refine A_iload d_Pairing_pairCost_51 rfl ?_
  refine A_pc (pc' := 53) rfl ?_
  refine A_laloadf d_Pairing_pairCost_53 (xs_V_12 hx ha2) (by omega) (by omega) (fun x17 ex17 _ _ => ?_)
  refine A_lcmpn d_Pairing_pairCost_54 (fun x18 lx18 ex18 gx18 _ _ => ?_)
  refine A_if_ne (tgt := 80) d_Pairing_pairCost_55 (by decide) (fun c19 => ?_) (fun c19 => ?_)
  · have mc19 : (x15 - x17) ≠ 0 := by omega
    refine A_iconst d_Pairing_pairCost_80 rfl ?_
    refine A_istore (L' := [some (av_R (some 164)), some (av_R (some a1)), some (av_R (some a2)), some (av_I a3), some (av_I a4), some (av_I x2), some (av_I x4), some (av_I x13), some (av_I 0)]) d_Pairing_pairCost_81 (Nat.le_of_ble_eq_true rfl) rfl ?_
    refine A_iload d_Pairing_pairCost_83 rfl ?_
    refine A_if_eq (tgt := 93) d_Pairing_pairCost_85 (by decide) (fun _ => ?_) (fun c => absurd c (by decide))
    refine A_iload d_Pairing_pairCost_93 rfl ?_
    refine A_iconst d_Pairing_pairCost_95 rfl ?_
    refine A_iaddv (z := (x13 + 1)) d_Pairing_pairCost_96 (w32_to (by omega) (by unfold i32; omega)) ?_
    exact A_iret d_Pairing_pairCost_97 (by decide) rfl ⟨_, rfl, ⟨by omega, by omega⟩, rfl⟩
  · have mc19 : (x15 - x17) = 0 := by omega
    refine A_aload_n 1 d_Pairing_pairCost_58 rfl rfl ?_
    refine A_getAv (z := some (a1 + 12)) T_ok d_Pairing_pairCost_59 f_Pairing_79 (xs_V hx ha1) (xr_V_13 hx ha1) ?_
    refine A_iload d_Pairing_pairCost_62 rfl ?_
    refine A_laloadf d_Pairing_pairCost_64 (xs_V_13 hx ha1) (by omega) (by omega) (fun x22 ex22 _ _ => ?_)
    refine A_aload_n 2 d_Pairing_pairCost_65 rfl rfl ?_
    refine A_pc (pc' := 66) rfl ?_
    refine A_getAv (z := some (a2 + 12)) T_ok d_Pairing_pairCost_66 f_Pairing_79 (xs_V hx ha2) (xr_V_13 hx ha2) ?_
    refine A_iload d_Pairing_pairCost_69 rfl ?_
    refine A_laloadf d_Pairing_pairCost_71 (xs_V_13 hx ha2) (by omega) (by omega) (fun x24 ex24 _ _ => ?_)
    refine A_lcmpn d_Pairing_pairCost_72 (fun x25 lx25 ex25 gx25 _ _ => ?_)
    refine A_if_ne (tgt := 80) d_Pairing_pairCost_73 (by decide) (fun c26 => ?_) (fun c26 => ?_)
    · have mc26 : (x22 - x24) ≠ 0 := by omega
      refine A_iconst d_Pairing_pairCost_80 rfl ?_
      refine A_istore (L' := [some (av_R (some 164)), some (av_R (some a1)), some (av_R (some a2)), some (av_I a3), some (av_I a4), some (av_I x2), some (av_I x4), some (av_I x13), some (av_I 0)]) d_Pairing_pairCost_81 (Nat.le_of_ble_eq_true rfl) rfl ?_
      refine A_iload d_Pairing_pairCost_83 rfl ?_
      refine A_if_eq (tgt := 93) d_Pairing_pairCost_85 (by decide) (fun _ => ?_) (fun c => absurd c (by decide))
      refine A_iload d_Pairing_pairCost_93 rfl ?_
      refine A_iconst d_Pairing_pairCost_95 rfl ?_
      refine A_iaddv (z := (x13 + 1)) d_Pairing_pairCost_96 (w32_to (by omega) (by unfold i32; omega)) ?_
      exact A_iret d_Pairing_pairCost_97 (by decide) rfl ⟨_, rfl, ⟨by omega, by omega⟩, rfl⟩
    · have mc26 : (x22 - x24) = 0 := by omega
      refine A_iconst d_Pairing_pairCost_76 rfl ?_
      refine A_goto (tgt := 81) d_Pairing_pairCost_77 (by decide) ?_
      refine A_istore (L' := [some (av_R (some 164)), some (av_R (some a1)), some (av_R (some a2)), some (av_I a3), some (av_I a4), some (av_I x2), some (av_I x4), some (av_I x13), some (av_I 1)]) d_Pairing_pairCost_81 (Nat.le_of_ble_eq_true rfl) rfl ?_
      refine A_iload d_Pairing_pairCost_83 rfl ?_
      refine A_if_eq (tgt := 93) d_Pairing_pairCost_85 (by decide) (fun c => absurd c (by decide)) (fun _ => ?_)
      refine A_iload d_Pairing_pairCost_88 rfl ?_
      refine A_goto (tgt := 97) d_Pairing_pairCost_90 (by decide) ?_
      exact A_iret d_Pairing_pairCost_97 (by decide) rfl ⟨_, rfl, ⟨by omega, by omega⟩, rfl⟩
theorem s_Pairing_weigh {G : cx_T} {s : Nat} {h : ah_T} (hx : xi s h) {a1 : Nat} {a2 : Nat} {a3 : Int} {a4 : Int} (ha1 : isV a1) (ha2 : isV a2) (la3 : 0 ≤ a3) (ua3 : a3 ≤ 80) (la4 : 0 ≤ a4) (ua4 : a4 ≤ 80) : con G 3 0 0 m_Pairing_weigh [av_R (some 164), av_R (some a1), av_R (some a2), av_I a3, av_I a4] h (fun r h' => r = none ∧ kF FC s h h') := by
  refine con_of (L := [some (av_R (some 164)), some (av_R (some a1)), some (av_R (some a2)), some (av_I a3), some (av_I a4), none, none, none, none, none, none, none]) (by decide +kernel) (Nat.le_of_ble_eq_true rfl) rfl ?_
  have hS : isS s := hx.2.1
  have hs0 : s = 17 ∨ s = 80 := hS
  have hs0b : 17 ≤ s ∧ s ≤ 80 := by omega
  have k0 : kF FC s h h := kF_0 hx
  have ga1 := lt_V ha1
  have ga2 := lt_V ha2
  refine A_aload_n 0 d_Pairing_weigh_0 rfl rfl ?_
  refine A_iload_n 3 d_Pairing_weigh_1 rfl rfl ?_
  refine A_iload d_Pairing_weigh_2 rfl ?_
  refine A_callV2 m_Pairing_slot T_ok d_Pairing_weigh_4 l_Pairing_82 k_Pairing_slot (xi_s k0.1 sf_164) rfl (by decide +kernel) (by decide) (Nat.le_of_ble_eq_true rfl) (s_Pairing_slot k0.1 (by omega) (by omega) (by omega) (by omega)) (fun r h1 hq => ?_)
  obtain ⟨x3, rfl, ⟨_, _⟩, rfl⟩ := hq
  refine A_istore (L' := [some (av_R (some 164)), some (av_R (some a1)), some (av_R (some a2)), some (av_I a3), some (av_I a4), some (av_I x3), none, none, none, none, none, none]) d_Pairing_weigh_7 (Nat.le_of_ble_eq_true rfl) rfl ?_
  refine A_iload_n 3 d_Pairing_weigh_9 rfl rfl ?_
  refine A_aload_n 0 d_Pairing_weigh_10 rfl rfl ?_
  refine A_getIn (lo := 0) (hi := 80) T_ok d_Pairing_weigh_11 f_Pairing_27 (xi_s k0.1 sf_164) (xi_g k0.1 (by decide) rgf_164_5) (fun x4 ex4 _ _ => ?_)
  have jp43 : aw G (rm_R 3 0 0) m_Pairing_weigh 0 0 43 [some (av_R (some 164)), some (av_R (some a1)), some (av_R (some a2)), some (av_I a3), some (av_I a4), some (av_I x3), none, none, none, none, none, none] [] h (fun r h' => r = none ∧ kF FC s h h') := by
    refine A_iload_n 3 d_Pairing_weigh_43 rfl rfl ?_
    refine A_aload_n 0 d_Pairing_weigh_44 rfl rfl ?_
    refine A_getIv (z := x4) T_ok d_Pairing_weigh_45 f_Pairing_27 (xi_s k0.1 sf_164) ex4.symm ?_
    have jp89 : aw G (rm_R 3 0 0) m_Pairing_weigh 0 0 89 [some (av_R (some 164)), some (av_R (some a1)), some (av_R (some a2)), some (av_I a3), some (av_I a4), some (av_I x3), none, none, none, none, none, none] [] h (fun r h' => r = none ∧ kF FC s h h') := by
      refine A_ldc (z := 2147483647) d_Pairing_weigh_89 cst_Pairing_91 rfl ?_
      refine A_istore (L' := [some (av_R (some 164)), some (av_R (some a1)), some (av_R (some a2)), some (av_I a3), some (av_I a4), some (av_I x3), some (av_I 2147483647), none, none, none, none, none]) d_Pairing_weigh_91 (Nat.le_of_ble_eq_true rfl) rfl ?_
      refine A_iload_n 3 d_Pairing_weigh_93 rfl rfl ?_
      refine A_aload_n 0 d_Pairing_weigh_94 rfl rfl ?_
      refine A_getIv (z := x4) T_ok d_Pairing_weigh_95 f_Pairing_27 (xi_s k0.1 sf_164) ex4.symm ?_
      have jp122 : ∀ (j7 : Int) , (-2147483648) ≤ j7 → j7 ≤ 2147483647 → aw G (rm_R 3 0 0) m_Pairing_weigh 0 0 122 [some (av_R (some 164)), some (av_R (some a1)), some (av_R (some a2)), some (av_I a3), some (av_I a4), some (av_I x3), some (av_I 2147483647), none, none, none, none, none] [av_I j7] h (fun r h' => r = none ∧ kF FC s h h') := by
        intro j7  _ _ 
        refine A_istore (L' := [some (av_R (some 164)), some (av_R (some a1)), some (av_R (some a2)), some (av_I a3), some (av_I a4), some (av_I x3), some (av_I 2147483647), some (av_I j7), none, none, none, none]) d_Pairing_weigh_122 (Nat.le_of_ble_eq_true rfl) rfl ?_
        refine A_iload d_Pairing_weigh_124 rfl ?_
        refine A_aload_n 0 d_Pairing_weigh_126 rfl rfl ?_
        refine A_getIn (lo := 0) (hi := 80) T_ok d_Pairing_weigh_127 f_Pairing_42 (xi_s k0.1 sf_164) (xi_g k0.1 (by decide) rgf_164_6) (fun x8 ex8 _ _ => ?_)
        have jp154 : ∀ (j9 : Int) , (-2147483648) ≤ j9 → j9 ≤ 2147483647 → aw G (rm_R 3 0 0) m_Pairing_weigh 0 0 154 [some (av_R (some 164)), some (av_R (some a1)), some (av_R (some a2)), some (av_I a3), some (av_I a4), some (av_I x3), some (av_I 2147483647), some (av_I j7), none, none, none, none] [av_I j9] h (fun r h' => r = none ∧ kF FC s h h') := by
          intro j9  _ _ 
          refine A_istore (L' := [some (av_R (some 164)), some (av_R (some a1)), some (av_R (some a2)), some (av_I a3), some (av_I a4), some (av_I x3), some (av_I 2147483647), some (av_I j7), some (av_I j9), none, none, none]) d_Pairing_weigh_154 (Nat.le_of_ble_eq_true rfl) rfl ?_
          refine A_iload d_Pairing_weigh_156 rfl ?_
          refine A_iload d_Pairing_weigh_158 rfl ?_
          refine A_iload d_Pairing_weigh_160 rfl ?_
          refine A_mmin d_Pairing_weigh_162 lm_Pairing_62 ma_min (by decide) (by decide) (Nat.le_of_ble_eq_true rfl) rfl ?_
          refine A_nrI (fun x10 ex10 _ _ => ?_)
          have bx10 := mmin_r ex10
          refine A_pc (pc' := 165) rfl ?_
          refine A_mmin d_Pairing_weigh_165 lm_Pairing_62 ma_min (by decide) (by decide) (Nat.le_of_ble_eq_true rfl) rfl ?_
          refine A_nrI (fun x11 ex11 _ _ => ?_)
          have bx11 := mmin_r ex11
          refine A_istore (L' := [some (av_R (some 164)), some (av_R (some a1)), some (av_R (some a2)), some (av_I a3), some (av_I a4), some (av_I x3), some (av_I 2147483647), some (av_I j7), some (av_I j9), some (av_I x11), none, none]) d_Pairing_weigh_168 (Nat.le_of_ble_eq_true rfl) rfl ?_
          refine A_lconst_0 d_Pairing_weigh_170 ?_
          refine A_lstore (L' := [some (av_R (some 164)), some (av_R (some a1)), some (av_R (some a2)), some (av_I a3), some (av_I a4), some (av_I x3), some (av_I 2147483647), some (av_I j7), some (av_I j9), some (av_I x11), some (av_L 0), none]) d_Pairing_weigh_171 (Nat.le_of_ble_eq_true rfl) rfl ?_
          refine A_lload d_Pairing_weigh_173 rfl ?_
          refine A_iload d_Pairing_weigh_175 rfl ?_
          refine A_pc (pc' := 177) rfl ?_
          refine A_iload d_Pairing_weigh_177 rfl ?_
          have jp203 : ∀ (j12 : Int) , (-2147483648) ≤ j12 → j12 ≤ 2147483647 → aw G (rm_R 3 0 0) m_Pairing_weigh 0 0 203 [some (av_R (some 164)), some (av_R (some a1)), some (av_R (some a2)), some (av_I a3), some (av_I a4), some (av_I x3), some (av_I 2147483647), some (av_I j7), some (av_I j9), some (av_I x11), some (av_L 0), none] [av_L j12, av_L 0] h (fun r h' => r = none ∧ kF FC s h h') := by
            intro j12  _ _ 
            refine A_laddv (z := j12) d_Pairing_weigh_203 (w64_to (by omega) (by unfold i64; omega)) ?_
            refine A_lstore (L' := [some (av_R (some 164)), some (av_R (some a1)), some (av_R (some a2)), some (av_I a3), some (av_I a4), some (av_I x3), some (av_I 2147483647), some (av_I j7), some (av_I j9), some (av_I x11), some (av_L j12), none]) d_Pairing_weigh_204 (Nat.le_of_ble_eq_true rfl) rfl ?_
            refine A_lload d_Pairing_weigh_206 rfl ?_
            refine A_iload d_Pairing_weigh_208 rfl ?_
            refine A_iload d_Pairing_weigh_210 rfl ?_
            have jp234 : ∀ (j13 : Int) , (-2147483648) ≤ j13 → j13 ≤ 2147483647 → aw G (rm_R 3 0 0) m_Pairing_weigh 0 0 234 [some (av_R (some 164)), some (av_R (some a1)), some (av_R (some a2)), some (av_I a3), some (av_I a4), some (av_I x3), some (av_I 2147483647), some (av_I j7), some (av_I j9), some (av_I x11), some (av_L j12), none] [av_L j13, av_L j12] h (fun r h' => r = none ∧ kF FC s h h') := by
              intro j13  _ _ 
              refine A_laddv (z := (j12 + j13)) d_Pairing_weigh_234 (w64_to (by omega) (by unfold i64; omega)) ?_
              refine A_lstore (L' := [some (av_R (some 164)), some (av_R (some a1)), some (av_R (some a2)), some (av_I a3), some (av_I a4), some (av_I x3), some (av_I 2147483647), some (av_I j7), some (av_I j9), some (av_I x11), some (av_L (j12 + j13)), none]) d_Pairing_weigh_235 (Nat.le_of_ble_eq_true rfl) rfl ?_
              refine A_lload d_Pairing_weigh_237 rfl ?_
              refine A_iload d_Pairing_weigh_239 rfl ?_
              refine A_iload d_Pairing_weigh_241 rfl ?_
              have jp265 : ∀ (j14 : Int) , (-2147483648) ≤ j14 → j14 ≤ 2147483647 → aw G (rm_R 3 0 0) m_Pairing_weigh 0 0 265 [some (av_R (some 164)), some (av_R (some a1)), some (av_R (some a2)), some (av_I a3), some (av_I a4), some (av_I x3), some (av_I 2147483647), some (av_I j7), some (av_I j9), some (av_I x11), some (av_L (j12 + j13)), none] [av_L j14, av_L (j12 + j13)] h (fun r h' => r = none ∧ kF FC s h h') := by
                intro j14  _ _ 
                refine A_laddv (z := (j12 + j13 + j14)) d_Pairing_weigh_265 (w64_to (by omega) (by unfold i64; omega)) ?_
                refine A_lstore (L' := [some (av_R (some 164)), some (av_R (some a1)), some (av_R (some a2)), some (av_I a3), some (av_I a4), some (av_I x3), some (av_I 2147483647), some (av_I j7), some (av_I j9), some (av_I x11), some (av_L (j12 + j13 + j14)), none]) d_Pairing_weigh_266 (Nat.le_of_ble_eq_true rfl) rfl ?_
                refine A_aload_n 0 d_Pairing_weigh_268 rfl rfl ?_
                refine A_getAv (z := some 167) T_ok d_Pairing_weigh_269 f_Pairing_18 (xi_s k0.1 sf_164) (xi_r k0.1 rff_164_2) ?_
                refine A_iload d_Pairing_weigh_272 rfl ?_
                refine A_pc (pc' := 274) rfl ?_
                refine A_iload d_Pairing_weigh_274 rfl ?_
                refine A_iastorek (KR := kF FC s h) d_Pairing_weigh_276 (xi_s k0.1 sf_167) (by omega) (by omega) (kF_j k0 (by decide) (ns_b rfl) (rgf_167 _) (by omega) (by omega)) (fun h16 k17 eh16 => ?_)
                refine A_aload_n 0 d_Pairing_weigh_277 rfl rfl ?_
                refine A_getAv (z := some 168) T_ok d_Pairing_weigh_278 f_Pairing_21 (xi_s k17.1 sf_164) (xi_r k17.1 rff_164_3) ?_
                refine A_iload d_Pairing_weigh_281 rfl ?_
                refine A_lload d_Pairing_weigh_283 rfl ?_
                refine A_pc (pc' := 285) rfl ?_
                refine A_ldc2 (z := 1000000007) d_Pairing_weigh_285 cst_Pairing_92 rfl ?_
                refine A_lremc d_Pairing_weigh_288 (by decide) (fun x19 ex19 _ _ => ?_)
                have bx19 := rem_c ex19 (by decide)
                refine A_l2iv (z := x19) d_Pairing_weigh_289 (w32_id (by unfold i32; omega)) ?_
                refine A_iastorek (KR := kF FC s h) d_Pairing_weigh_290 (xi_s k17.1 sf_168) (by omega) (by omega) (kF_j k17 (by decide) (ns_b rfl) (rgf_168 _) (by omega) (by omega)) (fun h20 k21 eh20 => ?_)
                exact A_vret d_Pairing_weigh_291 (by decide) rfl ⟨rfl, k21⟩
              refine A_icmp_ne (tgt := 264) d_Pairing_weigh_243 (by decide) (fun c22 => ?_) (fun c22 => ?_)
              · refine A_lconst_0 d_Pairing_weigh_264 ?_
                refine A_pc (pc' := 265) rfl ?_
                exact jp265 0 (by omega) (by omega)
              · refine A_aload_n 0 d_Pairing_weigh_246 rfl rfl ?_
                refine A_getAv (z := some 168) T_ok d_Pairing_weigh_247 f_Pairing_21 (xi_s k0.1 sf_164) (xi_r k0.1 rff_164_3) ?_
                refine A_aload_n 0 d_Pairing_weigh_250 rfl rfl ?_
                refine A_iload_n 3 d_Pairing_weigh_251 rfl rfl ?_
                refine A_iload d_Pairing_weigh_252 rfl ?_
                refine A_pc (pc' := 254) rfl ?_
                refine A_iconst d_Pairing_weigh_254 rfl ?_
                refine A_iaddv (z := (a4 + 1)) d_Pairing_weigh_255 (w32_to (by omega) (by unfold i32; omega)) ?_
                refine A_callV2 m_Pairing_slot T_ok d_Pairing_weigh_256 l_Pairing_82 k_Pairing_slot (xi_s k0.1 sf_164) rfl (by decide +kernel) (by decide) (Nat.le_of_ble_eq_true rfl) (s_Pairing_slot k0.1 (by omega) (by omega) (by omega) (by omega)) (fun r h24 hq => ?_)
                obtain ⟨x26, rfl, ⟨_, _⟩, rfl⟩ := hq
                refine A_ialoadf d_Pairing_weigh_259 (xi_s k0.1 sf_168) (by omega) (by omega) (fun x27 ex27 _ _ => ?_)
                refine A_i2l d_Pairing_weigh_260 ?_
                refine A_goto (tgt := 265) d_Pairing_weigh_261 (by decide) ?_
                refine A_pc (pc' := 265) rfl ?_
                exact jp265 x27 (by omega) (by omega)
            refine A_icmp_ne (tgt := 233) d_Pairing_weigh_212 (by decide) (fun c28 => ?_) (fun c28 => ?_)
            · refine A_lconst_0 d_Pairing_weigh_233 ?_
              refine A_pc (pc' := 234) rfl ?_
              exact jp234 0 (by omega) (by omega)
            · refine A_aload_n 0 d_Pairing_weigh_215 rfl rfl ?_
              refine A_getAv (z := some 168) T_ok d_Pairing_weigh_216 f_Pairing_21 (xi_s k0.1 sf_164) (xi_r k0.1 rff_164_3) ?_
              refine A_aload_n 0 d_Pairing_weigh_219 rfl rfl ?_
              refine A_iload_n 3 d_Pairing_weigh_220 rfl rfl ?_
              refine A_iconst d_Pairing_weigh_221 rfl ?_
              refine A_pc (pc' := 222) rfl ?_
              refine A_iaddv (z := (a3 + 1)) d_Pairing_weigh_222 (w32_to (by omega) (by unfold i32; omega)) ?_
              refine A_iload d_Pairing_weigh_223 rfl ?_
              refine A_callV2 m_Pairing_slot T_ok d_Pairing_weigh_225 l_Pairing_82 k_Pairing_slot (xi_s k0.1 sf_164) rfl (by decide +kernel) (by decide) (Nat.le_of_ble_eq_true rfl) (s_Pairing_slot k0.1 (by omega) (by omega) (by omega) (by omega)) (fun r h30 hq => ?_)
              obtain ⟨x32, rfl, ⟨_, _⟩, rfl⟩ := hq
              refine A_ialoadf d_Pairing_weigh_228 (xi_s k0.1 sf_168) (by omega) (by omega) (fun x33 ex33 _ _ => ?_)
              refine A_i2l d_Pairing_weigh_229 ?_
              refine A_goto (tgt := 234) d_Pairing_weigh_230 (by decide) ?_
              refine A_pc (pc' := 234) rfl ?_
              exact jp234 x33 (by omega) (by omega)
          refine A_icmp_ne (tgt := 202) d_Pairing_weigh_179 (by decide) (fun c34 => ?_) (fun c34 => ?_)
          · refine A_lconst_0 d_Pairing_weigh_202 ?_
            refine A_pc (pc' := 203) rfl ?_
            exact jp203 0 (by omega) (by omega)
          · refine A_aload_n 0 d_Pairing_weigh_182 rfl rfl ?_
            refine A_getAv (z := some 168) T_ok d_Pairing_weigh_183 f_Pairing_21 (xi_s k0.1 sf_164) (xi_r k0.1 rff_164_3) ?_
            refine A_aload_n 0 d_Pairing_weigh_186 rfl rfl ?_
            refine A_iload_n 3 d_Pairing_weigh_187 rfl rfl ?_
            refine A_iconst d_Pairing_weigh_188 rfl ?_
            refine A_pc (pc' := 189) rfl ?_
            refine A_iaddv (z := (a3 + 1)) d_Pairing_weigh_189 (w32_to (by omega) (by unfold i32; omega)) ?_
            refine A_iload d_Pairing_weigh_190 rfl ?_
            refine A_iconst d_Pairing_weigh_192 rfl ?_
            refine A_iaddv (z := (a4 + 1)) d_Pairing_weigh_193 (w32_to (by omega) (by unfold i32; omega)) ?_
            refine A_callV2 m_Pairing_slot T_ok d_Pairing_weigh_194 l_Pairing_82 k_Pairing_slot (xi_s k0.1 sf_164) rfl (by decide +kernel) (by decide) (Nat.le_of_ble_eq_true rfl) (s_Pairing_slot k0.1 (by omega) (by omega) (by omega) (by omega)) (fun r h36 hq => ?_)
            obtain ⟨x38, rfl, ⟨_, _⟩, rfl⟩ := hq
            refine A_ialoadf d_Pairing_weigh_197 (xi_s k0.1 sf_168) (by omega) (by omega) (fun x39 ex39 _ _ => ?_)
            refine A_i2l d_Pairing_weigh_198 ?_
            refine A_goto (tgt := 203) d_Pairing_weigh_199 (by decide) ?_
            refine A_pc (pc' := 203) rfl ?_
            exact jp203 x39 (by omega) (by omega)
        refine A_icmp_ge (tgt := 152) d_Pairing_weigh_130 (by decide) (fun c40 => ?_) (fun c40 => ?_)
        · refine A_ldc (z := 2147483647) d_Pairing_weigh_152 cst_Pairing_91 rfl ?_
          refine A_pc (pc' := 154) rfl ?_
          exact jp154 2147483647 (by omega) (by omega)
        · refine A_iconst d_Pairing_weigh_133 rfl ?_
          refine A_aload_n 0 d_Pairing_weigh_134 rfl rfl ?_
          refine A_getAv (z := some 167) T_ok d_Pairing_weigh_135 f_Pairing_18 (xi_s k0.1 sf_164) (xi_r k0.1 rff_164_2) ?_
          refine A_aload_n 0 d_Pairing_weigh_138 rfl rfl ?_
          refine A_iload_n 3 d_Pairing_weigh_139 rfl rfl ?_
          refine A_pc (pc' := 140) rfl ?_
          refine A_iload d_Pairing_weigh_140 rfl ?_
          refine A_iconst d_Pairing_weigh_142 rfl ?_
          refine A_iaddv (z := (a4 + 1)) d_Pairing_weigh_143 (w32_to (by omega) (by unfold i32; omega)) ?_
          refine A_callV2 m_Pairing_slot T_ok d_Pairing_weigh_144 l_Pairing_82 k_Pairing_slot (xi_s k0.1 sf_164) rfl (by decide +kernel) (by decide) (Nat.le_of_ble_eq_true rfl) (s_Pairing_slot k0.1 (by omega) (by omega) (by omega) (by omega)) (fun r h42 hq => ?_)
          obtain ⟨x44, rfl, ⟨_, _⟩, rfl⟩ := hq
          refine A_ialoadf d_Pairing_weigh_147 (xi_s k0.1 sf_167) (by omega) (by omega) (fun x45 ex45 _ _ => ?_)
          refine A_iaddw d_Pairing_weigh_148 (fun x46 _ _ _ => ?_)
          refine A_goto (tgt := 154) d_Pairing_weigh_149 (by decide) ?_
          refine A_pc (pc' := 154) rfl ?_
          exact jp154 x46 (by omega) (by omega)
      refine A_icmp_ge (tgt := 120) d_Pairing_weigh_98 (by decide) (fun c47 => ?_) (fun c47 => ?_)
      · refine A_ldc (z := 2147483647) d_Pairing_weigh_120 cst_Pairing_91 rfl ?_
        refine A_pc (pc' := 122) rfl ?_
        exact jp122 2147483647 (by omega) (by omega)
      · refine A_iconst d_Pairing_weigh_101 rfl ?_
        refine A_aload_n 0 d_Pairing_weigh_102 rfl rfl ?_
        refine A_getAv (z := some 167) T_ok d_Pairing_weigh_103 f_Pairing_18 (xi_s k0.1 sf_164) (xi_r k0.1 rff_164_2) ?_
        refine A_aload_n 0 d_Pairing_weigh_106 rfl rfl ?_
        refine A_iload_n 3 d_Pairing_weigh_107 rfl rfl ?_
        refine A_pc (pc' := 108) rfl ?_
        refine A_iconst d_Pairing_weigh_108 rfl ?_
        refine A_iaddv (z := (a3 + 1)) d_Pairing_weigh_109 (w32_to (by omega) (by unfold i32; omega)) ?_
        refine A_iload d_Pairing_weigh_110 rfl ?_
        refine A_callV2 m_Pairing_slot T_ok d_Pairing_weigh_112 l_Pairing_82 k_Pairing_slot (xi_s k0.1 sf_164) rfl (by decide +kernel) (by decide) (Nat.le_of_ble_eq_true rfl) (s_Pairing_slot k0.1 (by omega) (by omega) (by omega) (by omega)) (fun r h49 hq => ?_)
        obtain ⟨x51, rfl, ⟨_, _⟩, rfl⟩ := hq
        refine A_ialoadf d_Pairing_weigh_115 (xi_s k0.1 sf_167) (by omega) (by omega) (fun x52 ex52 _ _ => ?_)
        refine A_iaddw d_Pairing_weigh_116 (fun x53 _ _ _ => ?_)
        refine A_goto (tgt := 122) d_Pairing_weigh_117 (by decide) ?_
        refine A_pc (pc' := 122) rfl ?_
        exact jp122 x53 (by omega) (by omega)
    have jp91 : ∀ (j54 : Int) , (-2147483648) ≤ j54 → j54 ≤ 2147483647 → aw G (rm_R 3 0 0) m_Pairing_weigh 0 0 91 [some (av_R (some 164)), some (av_R (some a1)), some (av_R (some a2)), some (av_I a3), some (av_I a4), some (av_I x3), none, none, none, none, none, none] [av_I j54] h (fun r h' => r = none ∧ kF FC s h h') := by
      intro j54  _ _ 
      refine A_istore (L' := [some (av_R (some 164)), some (av_R (some a1)), some (av_R (some a2)), some (av_I a3), some (av_I a4), some (av_I x3), some (av_I j54), none, none, none, none, none]) d_Pairing_weigh_91 (Nat.le_of_ble_eq_true rfl) rfl ?_
      refine A_iload_n 3 d_Pairing_weigh_93 rfl rfl ?_
      refine A_aload_n 0 d_Pairing_weigh_94 rfl rfl ?_
      refine A_getIv (z := x4) T_ok d_Pairing_weigh_95 f_Pairing_27 (xi_s k0.1 sf_164) ex4.symm ?_
      have jp122 : ∀ (j56 : Int) , (-2147483648) ≤ j56 → j56 ≤ 2147483647 → aw G (rm_R 3 0 0) m_Pairing_weigh 0 0 122 [some (av_R (some 164)), some (av_R (some a1)), some (av_R (some a2)), some (av_I a3), some (av_I a4), some (av_I x3), some (av_I j54), none, none, none, none, none] [av_I j56] h (fun r h' => r = none ∧ kF FC s h h') := by
        intro j56  _ _ 
        refine A_istore (L' := [some (av_R (some 164)), some (av_R (some a1)), some (av_R (some a2)), some (av_I a3), some (av_I a4), some (av_I x3), some (av_I j54), some (av_I j56), none, none, none, none]) d_Pairing_weigh_122 (Nat.le_of_ble_eq_true rfl) rfl ?_
        refine A_iload d_Pairing_weigh_124 rfl ?_
        refine A_aload_n 0 d_Pairing_weigh_126 rfl rfl ?_
        refine A_getIn (lo := 0) (hi := 80) T_ok d_Pairing_weigh_127 f_Pairing_42 (xi_s k0.1 sf_164) (xi_g k0.1 (by decide) rgf_164_6) (fun x57 ex57 _ _ => ?_)
        have jp154 : ∀ (j58 : Int) , (-2147483648) ≤ j58 → j58 ≤ 2147483647 → aw G (rm_R 3 0 0) m_Pairing_weigh 0 0 154 [some (av_R (some 164)), some (av_R (some a1)), some (av_R (some a2)), some (av_I a3), some (av_I a4), some (av_I x3), some (av_I j54), some (av_I j56), none, none, none, none] [av_I j58] h (fun r h' => r = none ∧ kF FC s h h') := by
          intro j58  _ _ 
          refine A_istore (L' := [some (av_R (some 164)), some (av_R (some a1)), some (av_R (some a2)), some (av_I a3), some (av_I a4), some (av_I x3), some (av_I j54), some (av_I j56), some (av_I j58), none, none, none]) d_Pairing_weigh_154 (Nat.le_of_ble_eq_true rfl) rfl ?_
          refine A_iload d_Pairing_weigh_156 rfl ?_
          refine A_iload d_Pairing_weigh_158 rfl ?_
          refine A_iload d_Pairing_weigh_160 rfl ?_
          refine A_mmin d_Pairing_weigh_162 lm_Pairing_62 ma_min (by decide) (by decide) (Nat.le_of_ble_eq_true rfl) rfl ?_
          refine A_nrI (fun x59 ex59 _ _ => ?_)
          have bx59 := mmin_r ex59
          refine A_pc (pc' := 165) rfl ?_
          refine A_mmin d_Pairing_weigh_165 lm_Pairing_62 ma_min (by decide) (by decide) (Nat.le_of_ble_eq_true rfl) rfl ?_
          refine A_nrI (fun x60 ex60 _ _ => ?_)
          have bx60 := mmin_r ex60
          refine A_istore (L' := [some (av_R (some 164)), some (av_R (some a1)), some (av_R (some a2)), some (av_I a3), some (av_I a4), some (av_I x3), some (av_I j54), some (av_I j56), some (av_I j58), some (av_I x60), none, none]) d_Pairing_weigh_168 (Nat.le_of_ble_eq_true rfl) rfl ?_
          refine A_lconst_0 d_Pairing_weigh_170 ?_
          refine A_lstore (L' := [some (av_R (some 164)), some (av_R (some a1)), some (av_R (some a2)), some (av_I a3), some (av_I a4), some (av_I x3), some (av_I j54), some (av_I j56), some (av_I j58), some (av_I x60), some (av_L 0), none]) d_Pairing_weigh_171 (Nat.le_of_ble_eq_true rfl) rfl ?_
          refine A_lload d_Pairing_weigh_173 rfl ?_
          refine A_iload d_Pairing_weigh_175 rfl ?_
          refine A_pc (pc' := 177) rfl ?_
          refine A_iload d_Pairing_weigh_177 rfl ?_
          have jp203 : ∀ (j61 : Int) , (-2147483648) ≤ j61 → j61 ≤ 2147483647 → aw G (rm_R 3 0 0) m_Pairing_weigh 0 0 203 [some (av_R (some 164)), some (av_R (some a1)), some (av_R (some a2)), some (av_I a3), some (av_I a4), some (av_I x3), some (av_I j54), some (av_I j56), some (av_I j58), some (av_I x60), some (av_L 0), none] [av_L j61, av_L 0] h (fun r h' => r = none ∧ kF FC s h h') := by
            intro j61  _ _ 
            refine A_laddv (z := j61) d_Pairing_weigh_203 (w64_to (by omega) (by unfold i64; omega)) ?_
            refine A_lstore (L' := [some (av_R (some 164)), some (av_R (some a1)), some (av_R (some a2)), some (av_I a3), some (av_I a4), some (av_I x3), some (av_I j54), some (av_I j56), some (av_I j58), some (av_I x60), some (av_L j61), none]) d_Pairing_weigh_204 (Nat.le_of_ble_eq_true rfl) rfl ?_
            refine A_lload d_Pairing_weigh_206 rfl ?_
            refine A_iload d_Pairing_weigh_208 rfl ?_
            refine A_iload d_Pairing_weigh_210 rfl ?_
            have jp234 : ∀ (j62 : Int) , (-2147483648) ≤ j62 → j62 ≤ 2147483647 → aw G (rm_R 3 0 0) m_Pairing_weigh 0 0 234 [some (av_R (some 164)), some (av_R (some a1)), some (av_R (some a2)), some (av_I a3), some (av_I a4), some (av_I x3), some (av_I j54), some (av_I j56), some (av_I j58), some (av_I x60), some (av_L j61), none] [av_L j62, av_L j61] h (fun r h' => r = none ∧ kF FC s h h') := by
              intro j62  _ _ 
              refine A_laddv (z := (j61 + j62)) d_Pairing_weigh_234 (w64_to (by omega) (by unfold i64; omega)) ?_
              refine A_lstore (L' := [some (av_R (some 164)), some (av_R (some a1)), some (av_R (some a2)), some (av_I a3), some (av_I a4), some (av_I x3), some (av_I j54), some (av_I j56), some (av_I j58), some (av_I x60), some (av_L (j61 + j62)), none]) d_Pairing_weigh_235 (Nat.le_of_ble_eq_true rfl) rfl ?_
              refine A_lload d_Pairing_weigh_237 rfl ?_
              refine A_iload d_Pairing_weigh_239 rfl ?_
              refine A_iload d_Pairing_weigh_241 rfl ?_
              have jp265 : ∀ (j63 : Int) , (-2147483648) ≤ j63 → j63 ≤ 2147483647 → aw G (rm_R 3 0 0) m_Pairing_weigh 0 0 265 [some (av_R (some 164)), some (av_R (some a1)), some (av_R (some a2)), some (av_I a3), some (av_I a4), some (av_I x3), some (av_I j54), some (av_I j56), some (av_I j58), some (av_I x60), some (av_L (j61 + j62)), none] [av_L j63, av_L (j61 + j62)] h (fun r h' => r = none ∧ kF FC s h h') := by
                intro j63  _ _ 
                refine A_laddv (z := (j61 + j62 + j63)) d_Pairing_weigh_265 (w64_to (by omega) (by unfold i64; omega)) ?_
                refine A_lstore (L' := [some (av_R (some 164)), some (av_R (some a1)), some (av_R (some a2)), some (av_I a3), some (av_I a4), some (av_I x3), some (av_I j54), some (av_I j56), some (av_I j58), some (av_I x60), some (av_L (j61 + j62 + j63)), none]) d_Pairing_weigh_266 (Nat.le_of_ble_eq_true rfl) rfl ?_
                refine A_aload_n 0 d_Pairing_weigh_268 rfl rfl ?_
                refine A_getAv (z := some 167) T_ok d_Pairing_weigh_269 f_Pairing_18 (xi_s k0.1 sf_164) (xi_r k0.1 rff_164_2) ?_
                refine A_iload d_Pairing_weigh_272 rfl ?_
                refine A_pc (pc' := 274) rfl ?_
                refine A_iload d_Pairing_weigh_274 rfl ?_
                refine A_iastorek (KR := kF FC s h) d_Pairing_weigh_276 (xi_s k0.1 sf_167) (by omega) (by omega) (kF_j k0 (by decide) (ns_b rfl) (rgf_167 _) (by omega) (by omega)) (fun h65 k66 eh65 => ?_)
                refine A_aload_n 0 d_Pairing_weigh_277 rfl rfl ?_
                refine A_getAv (z := some 168) T_ok d_Pairing_weigh_278 f_Pairing_21 (xi_s k66.1 sf_164) (xi_r k66.1 rff_164_3) ?_
                refine A_iload d_Pairing_weigh_281 rfl ?_
                refine A_lload d_Pairing_weigh_283 rfl ?_
                refine A_pc (pc' := 285) rfl ?_
                refine A_ldc2 (z := 1000000007) d_Pairing_weigh_285 cst_Pairing_92 rfl ?_
                refine A_lremc d_Pairing_weigh_288 (by decide) (fun x68 ex68 _ _ => ?_)
                have bx68 := rem_c ex68 (by decide)
                refine A_l2iv (z := x68) d_Pairing_weigh_289 (w32_id (by unfold i32; omega)) ?_
                refine A_iastorek (KR := kF FC s h) d_Pairing_weigh_290 (xi_s k66.1 sf_168) (by omega) (by omega) (kF_j k66 (by decide) (ns_b rfl) (rgf_168 _) (by omega) (by omega)) (fun h69 k70 eh69 => ?_)
                exact A_vret d_Pairing_weigh_291 (by decide) rfl ⟨rfl, k70⟩
              refine A_icmp_ne (tgt := 264) d_Pairing_weigh_243 (by decide) (fun c71 => ?_) (fun c71 => ?_)
              · refine A_lconst_0 d_Pairing_weigh_264 ?_
                refine A_pc (pc' := 265) rfl ?_
                exact jp265 0 (by omega) (by omega)
              · refine A_aload_n 0 d_Pairing_weigh_246 rfl rfl ?_
                refine A_getAv (z := some 168) T_ok d_Pairing_weigh_247 f_Pairing_21 (xi_s k0.1 sf_164) (xi_r k0.1 rff_164_3) ?_
                refine A_aload_n 0 d_Pairing_weigh_250 rfl rfl ?_
                refine A_iload_n 3 d_Pairing_weigh_251 rfl rfl ?_
                refine A_iload d_Pairing_weigh_252 rfl ?_
                refine A_pc (pc' := 254) rfl ?_
                refine A_iconst d_Pairing_weigh_254 rfl ?_
                refine A_iaddv (z := (a4 + 1)) d_Pairing_weigh_255 (w32_to (by omega) (by unfold i32; omega)) ?_
                refine A_callV2 m_Pairing_slot T_ok d_Pairing_weigh_256 l_Pairing_82 k_Pairing_slot (xi_s k0.1 sf_164) rfl (by decide +kernel) (by decide) (Nat.le_of_ble_eq_true rfl) (s_Pairing_slot k0.1 (by omega) (by omega) (by omega) (by omega)) (fun r h73 hq => ?_)
                obtain ⟨x75, rfl, ⟨_, _⟩, rfl⟩ := hq
                refine A_ialoadf d_Pairing_weigh_259 (xi_s k0.1 sf_168) (by omega) (by omega) (fun x76 ex76 _ _ => ?_)
                refine A_i2l d_Pairing_weigh_260 ?_
                refine A_goto (tgt := 265) d_Pairing_weigh_261 (by decide) ?_
                refine A_pc (pc' := 265) rfl ?_
                exact jp265 x76 (by omega) (by omega)
            refine A_icmp_ne (tgt := 233) d_Pairing_weigh_212 (by decide) (fun c77 => ?_) (fun c77 => ?_)
            · refine A_lconst_0 d_Pairing_weigh_233 ?_
              refine A_pc (pc' := 234) rfl ?_
              exact jp234 0 (by omega) (by omega)
            · refine A_aload_n 0 d_Pairing_weigh_215 rfl rfl ?_
              refine A_getAv (z := some 168) T_ok d_Pairing_weigh_216 f_Pairing_21 (xi_s k0.1 sf_164) (xi_r k0.1 rff_164_3) ?_
              refine A_aload_n 0 d_Pairing_weigh_219 rfl rfl ?_
              refine A_iload_n 3 d_Pairing_weigh_220 rfl rfl ?_
              refine A_iconst d_Pairing_weigh_221 rfl ?_
              refine A_pc (pc' := 222) rfl ?_
              refine A_iaddv (z := (a3 + 1)) d_Pairing_weigh_222 (w32_to (by omega) (by unfold i32; omega)) ?_
              refine A_iload d_Pairing_weigh_223 rfl ?_
              refine A_callV2 m_Pairing_slot T_ok d_Pairing_weigh_225 l_Pairing_82 k_Pairing_slot (xi_s k0.1 sf_164) rfl (by decide +kernel) (by decide) (Nat.le_of_ble_eq_true rfl) (s_Pairing_slot k0.1 (by omega) (by omega) (by omega) (by omega)) (fun r h79 hq => ?_)
              obtain ⟨x81, rfl, ⟨_, _⟩, rfl⟩ := hq
              refine A_ialoadf d_Pairing_weigh_228 (xi_s k0.1 sf_168) (by omega) (by omega) (fun x82 ex82 _ _ => ?_)
              refine A_i2l d_Pairing_weigh_229 ?_
              refine A_goto (tgt := 234) d_Pairing_weigh_230 (by decide) ?_
              refine A_pc (pc' := 234) rfl ?_
              exact jp234 x82 (by omega) (by omega)
          refine A_icmp_ne (tgt := 202) d_Pairing_weigh_179 (by decide) (fun c83 => ?_) (fun c83 => ?_)
          · refine A_lconst_0 d_Pairing_weigh_202 ?_
            refine A_pc (pc' := 203) rfl ?_
            exact jp203 0 (by omega) (by omega)
          · refine A_aload_n 0 d_Pairing_weigh_182 rfl rfl ?_
            refine A_getAv (z := some 168) T_ok d_Pairing_weigh_183 f_Pairing_21 (xi_s k0.1 sf_164) (xi_r k0.1 rff_164_3) ?_
            refine A_aload_n 0 d_Pairing_weigh_186 rfl rfl ?_
            refine A_iload_n 3 d_Pairing_weigh_187 rfl rfl ?_
            refine A_iconst d_Pairing_weigh_188 rfl ?_
            refine A_pc (pc' := 189) rfl ?_
            refine A_iaddv (z := (a3 + 1)) d_Pairing_weigh_189 (w32_to (by omega) (by unfold i32; omega)) ?_
            refine A_iload d_Pairing_weigh_190 rfl ?_
            refine A_iconst d_Pairing_weigh_192 rfl ?_
            refine A_iaddv (z := (a4 + 1)) d_Pairing_weigh_193 (w32_to (by omega) (by unfold i32; omega)) ?_
            refine A_callV2 m_Pairing_slot T_ok d_Pairing_weigh_194 l_Pairing_82 k_Pairing_slot (xi_s k0.1 sf_164) rfl (by decide +kernel) (by decide) (Nat.le_of_ble_eq_true rfl) (s_Pairing_slot k0.1 (by omega) (by omega) (by omega) (by omega)) (fun r h85 hq => ?_)
            obtain ⟨x87, rfl, ⟨_, _⟩, rfl⟩ := hq
            refine A_ialoadf d_Pairing_weigh_197 (xi_s k0.1 sf_168) (by omega) (by omega) (fun x88 ex88 _ _ => ?_)
            refine A_i2l d_Pairing_weigh_198 ?_
            refine A_goto (tgt := 203) d_Pairing_weigh_199 (by decide) ?_
            refine A_pc (pc' := 203) rfl ?_
            exact jp203 x88 (by omega) (by omega)
        refine A_icmp_ge (tgt := 152) d_Pairing_weigh_130 (by decide) (fun c89 => ?_) (fun c89 => ?_)
        · refine A_ldc (z := 2147483647) d_Pairing_weigh_152 cst_Pairing_91 rfl ?_
          refine A_pc (pc' := 154) rfl ?_
          exact jp154 2147483647 (by omega) (by omega)
        · refine A_iconst d_Pairing_weigh_133 rfl ?_
          refine A_aload_n 0 d_Pairing_weigh_134 rfl rfl ?_
          refine A_getAv (z := some 167) T_ok d_Pairing_weigh_135 f_Pairing_18 (xi_s k0.1 sf_164) (xi_r k0.1 rff_164_2) ?_
          refine A_aload_n 0 d_Pairing_weigh_138 rfl rfl ?_
          refine A_iload_n 3 d_Pairing_weigh_139 rfl rfl ?_
          refine A_pc (pc' := 140) rfl ?_
          refine A_iload d_Pairing_weigh_140 rfl ?_
          refine A_iconst d_Pairing_weigh_142 rfl ?_
          refine A_iaddv (z := (a4 + 1)) d_Pairing_weigh_143 (w32_to (by omega) (by unfold i32; omega)) ?_
          refine A_callV2 m_Pairing_slot T_ok d_Pairing_weigh_144 l_Pairing_82 k_Pairing_slot (xi_s k0.1 sf_164) rfl (by decide +kernel) (by decide) (Nat.le_of_ble_eq_true rfl) (s_Pairing_slot k0.1 (by omega) (by omega) (by omega) (by omega)) (fun r h91 hq => ?_)
          obtain ⟨x93, rfl, ⟨_, _⟩, rfl⟩ := hq
          refine A_ialoadf d_Pairing_weigh_147 (xi_s k0.1 sf_167) (by omega) (by omega) (fun x94 ex94 _ _ => ?_)
          refine A_iaddw d_Pairing_weigh_148 (fun x95 _ _ _ => ?_)
          refine A_goto (tgt := 154) d_Pairing_weigh_149 (by decide) ?_
          refine A_pc (pc' := 154) rfl ?_
          exact jp154 x95 (by omega) (by omega)
      refine A_icmp_ge (tgt := 120) d_Pairing_weigh_98 (by decide) (fun c96 => ?_) (fun c96 => ?_)
      · refine A_ldc (z := 2147483647) d_Pairing_weigh_120 cst_Pairing_91 rfl ?_
        refine A_pc (pc' := 122) rfl ?_
        exact jp122 2147483647 (by omega) (by omega)
      · refine A_iconst d_Pairing_weigh_101 rfl ?_
        refine A_aload_n 0 d_Pairing_weigh_102 rfl rfl ?_
        refine A_getAv (z := some 167) T_ok d_Pairing_weigh_103 f_Pairing_18 (xi_s k0.1 sf_164) (xi_r k0.1 rff_164_2) ?_
        refine A_aload_n 0 d_Pairing_weigh_106 rfl rfl ?_
        refine A_iload_n 3 d_Pairing_weigh_107 rfl rfl ?_
        refine A_pc (pc' := 108) rfl ?_
        refine A_iconst d_Pairing_weigh_108 rfl ?_
        refine A_iaddv (z := (a3 + 1)) d_Pairing_weigh_109 (w32_to (by omega) (by unfold i32; omega)) ?_
        refine A_iload d_Pairing_weigh_110 rfl ?_
        refine A_callV2 m_Pairing_slot T_ok d_Pairing_weigh_112 l_Pairing_82 k_Pairing_slot (xi_s k0.1 sf_164) rfl (by decide +kernel) (by decide) (Nat.le_of_ble_eq_true rfl) (s_Pairing_slot k0.1 (by omega) (by omega) (by omega) (by omega)) (fun r h98 hq => ?_)
        obtain ⟨x100, rfl, ⟨_, _⟩, rfl⟩ := hq
        refine A_ialoadf d_Pairing_weigh_115 (xi_s k0.1 sf_167) (by omega) (by omega) (fun x101 ex101 _ _ => ?_)
        refine A_iaddw d_Pairing_weigh_116 (fun x102 _ _ _ => ?_)
        refine A_goto (tgt := 122) d_Pairing_weigh_117 (by decide) ?_
        refine A_pc (pc' := 122) rfl ?_
        exact jp122 x102 (by omega) (by omega)
    refine A_icmp_ge (tgt := 89) d_Pairing_weigh_48 (by decide) (fun c103 => ?_) (fun c103 => ?_)
    · refine A_pc (pc' := 89) rfl ?_
      exact jp89 
    · refine A_iload d_Pairing_weigh_51 rfl ?_
      refine A_aload_n 0 d_Pairing_weigh_53 rfl rfl ?_
      refine A_getIn (lo := 0) (hi := 80) T_ok d_Pairing_weigh_54 f_Pairing_42 (xi_s k0.1 sf_164) (xi_g k0.1 (by decide) rgf_164_6) (fun x104 ex104 _ _ => ?_)
      refine A_icmp_ge (tgt := 89) d_Pairing_weigh_57 (by decide) (fun c105 => ?_) (fun c105 => ?_)
      · refine A_pc (pc' := 89) rfl ?_
        exact jp89 
      · refine A_aload_n 0 d_Pairing_weigh_60 rfl rfl ?_
        refine A_aload_n 1 d_Pairing_weigh_61 rfl rfl ?_
        refine A_aload_n 2 d_Pairing_weigh_62 rfl rfl ?_
        refine A_iload_n 3 d_Pairing_weigh_63 rfl rfl ?_
        refine A_iload d_Pairing_weigh_64 rfl ?_
        refine A_pc (pc' := 66) rfl ?_
        refine A_callV4 m_Pairing_pairCost T_ok d_Pairing_weigh_66 l_Pairing_85 k_Pairing_pairCost (xi_s k0.1 sf_164) rfl (by decide +kernel) (by decide) (Nat.le_of_ble_eq_true rfl) (s_Pairing_pairCost k0.1 ha1 ha2 (by omega) (by omega) (by omega) (by omega)) (fun r h106 hq => ?_)
        obtain ⟨x108, rfl, ⟨_, _⟩, rfl⟩ := hq
        refine A_aload_n 0 d_Pairing_weigh_69 rfl rfl ?_
        refine A_getAv (z := some 167) T_ok d_Pairing_weigh_70 f_Pairing_18 (xi_s k0.1 sf_164) (xi_r k0.1 rff_164_2) ?_
        refine A_aload_n 0 d_Pairing_weigh_73 rfl rfl ?_
        refine A_iload_n 3 d_Pairing_weigh_74 rfl rfl ?_
        refine A_iconst d_Pairing_weigh_75 rfl ?_
        refine A_pc (pc' := 76) rfl ?_
        refine A_iaddv (z := (a3 + 1)) d_Pairing_weigh_76 (w32_to (by omega) (by unfold i32; omega)) ?_
        refine A_iload d_Pairing_weigh_77 rfl ?_
        refine A_iconst d_Pairing_weigh_79 rfl ?_
        refine A_iaddv (z := (a4 + 1)) d_Pairing_weigh_80 (w32_to (by omega) (by unfold i32; omega)) ?_
        refine A_callV2 m_Pairing_slot T_ok d_Pairing_weigh_81 l_Pairing_82 k_Pairing_slot (xi_s k0.1 sf_164) rfl (by decide +kernel) (by decide) (Nat.le_of_ble_eq_true rfl) (s_Pairing_slot k0.1 (by omega) (by omega) (by omega) (by omega)) (fun r h110 hq => ?_)
        obtain ⟨x112, rfl, ⟨_, _⟩, rfl⟩ := hq
        refine A_ialoadf d_Pairing_weigh_84 (xi_s k0.1 sf_167) (by omega) (by omega) (fun x113 ex113 _ _ => ?_)
        refine A_iaddw d_Pairing_weigh_85 (fun x114 _ _ _ => ?_)
        refine A_goto (tgt := 91) d_Pairing_weigh_86 (by decide) ?_
        refine A_pc (pc' := 91) rfl ?_
        exact jp91 x114 (by omega) (by omega)
  refine A_icmp_ne (tgt := 43) d_Pairing_weigh_14 (by decide) (fun c115 => ?_) (fun c115 => ?_)
  · refine A_pc (pc' := 43) rfl ?_
    exact jp43 
  · refine A_iload d_Pairing_weigh_17 rfl ?_
    refine A_aload_n 0 d_Pairing_weigh_19 rfl rfl ?_
    refine A_getIn (lo := 0) (hi := 80) T_ok d_Pairing_weigh_20 f_Pairing_42 (xi_s k0.1 sf_164) (xi_g k0.1 (by decide) rgf_164_6) (fun x116 ex116 _ _ => ?_)
    refine A_icmp_ne (tgt := 43) d_Pairing_weigh_23 (by decide) (fun c117 => ?_) (fun c117 => ?_)
    · refine A_pc (pc' := 43) rfl ?_
      exact jp43 
    · refine A_aload_n 0 d_Pairing_weigh_26 rfl rfl ?_
      refine A_getAv (z := some 167) T_ok d_Pairing_weigh_27 f_Pairing_18 (xi_s k0.1 sf_164) (xi_r k0.1 rff_164_2) ?_
      refine A_iload d_Pairing_weigh_30 rfl ?_
      refine A_iconst d_Pairing_weigh_32 rfl ?_
      refine A_iastorek (KR := kF FC s h) d_Pairing_weigh_33 (xi_s k0.1 sf_167) (by omega) (by omega) (kF_j k0 (by decide) (ns_b rfl) (rgf_167 _) (by omega) (by omega)) (fun h119 k120 eh119 => ?_)
      refine A_pc (pc' := 34) rfl ?_
      refine A_aload_n 0 d_Pairing_weigh_34 rfl rfl ?_
      refine A_getAv (z := some 168) T_ok d_Pairing_weigh_35 f_Pairing_21 (xi_s k120.1 sf_164) (xi_r k120.1 rff_164_3) ?_
      refine A_iload d_Pairing_weigh_38 rfl ?_
      refine A_iconst d_Pairing_weigh_40 rfl ?_
      refine A_iastorek (KR := kF FC s h) d_Pairing_weigh_41 (xi_s k120.1 sf_168) (by omega) (by omega) (kF_j k120 (by decide) (ns_b rfl) (rgf_168 _) (by omega) (by omega)) (fun h122 k123 eh122 => ?_)
      exact A_vret d_Pairing_weigh_42 (by decide) rfl ⟨rfl, k123⟩
theorem s_Pairing_isPair {G : cx_T} {s : Nat} {h : ah_T} (hx : xi s h) {a1 : Nat} {a2 : Nat} {a3 : Int} {a4 : Int} (ha1 : isV a1) (ha2 : isV a2) (la3 : 0 ≤ a3) (ua3 : a3 ≤ 79) (la4 : 0 ≤ a4) (ua4 : a4 ≤ 79) : con G 3 0 0 m_Pairing_isPair [av_R (some 164), av_R (some a1), av_R (some a2), av_I a3, av_I a4] h (fun r h' => ∃ z, r = some (av_I z) ∧ (z = 0 ∨ z = 1) ∧ h = h') := by
  refine con_of (L := [some (av_R (some 164)), some (av_R (some a1)), some (av_R (some a2)), some (av_I a3), some (av_I a4)]) (by decide +kernel) (Nat.le_of_ble_eq_true rfl) rfl ?_
  have hS : isS s := hx.2.1
  have hs0 : s = 17 ∨ s = 80 := hS
  have hs0b : 17 ≤ s ∧ s ≤ 80 := by omega
  have ga1 := lt_V ha1
  have ga2 := lt_V ha2
  refine A_aload_n 0 d_Pairing_isPair_0 rfl rfl ?_
  refine A_getAv (z := some 167) T_ok d_Pairing_isPair_1 f_Pairing_18 (xi_s hx sf_164) (xi_r hx rff_164_2) ?_
  refine A_aload_n 0 d_Pairing_isPair_4 rfl rfl ?_
  refine A_iload_n 3 d_Pairing_isPair_5 rfl rfl ?_
  refine A_iload d_Pairing_isPair_6 rfl ?_
  refine A_pc (pc' := 8) rfl ?_
  refine A_callV2 m_Pairing_slot T_ok d_Pairing_isPair_8 l_Pairing_82 k_Pairing_slot (xi_s hx sf_164) rfl (by decide +kernel) (by decide) (Nat.le_of_ble_eq_true rfl) (s_Pairing_slot hx (by omega) (by omega) (by omega) (by omega)) (fun r h2 hq => ?_)
  obtain ⟨x4, rfl, ⟨_, _⟩, rfl⟩ := hq
  refine A_ialoadf d_Pairing_isPair_11 (xi_s hx sf_167) (by omega) (by omega) (fun x5 ex5 _ _ => ?_)
  refine A_aload_n 0 d_Pairing_isPair_12 rfl rfl ?_
  refine A_aload_n 1 d_Pairing_isPair_13 rfl rfl ?_
  refine A_aload_n 2 d_Pairing_isPair_14 rfl rfl ?_
  refine A_iload_n 3 d_Pairing_isPair_15 rfl rfl ?_
  refine A_pc (pc' := 16) rfl ?_
  refine A_iload d_Pairing_isPair_16 rfl ?_
  refine A_callV4 m_Pairing_pairCost T_ok d_Pairing_isPair_18 l_Pairing_85 k_Pairing_pairCost (xi_s hx sf_164) rfl (by decide +kernel) (by decide) (Nat.le_of_ble_eq_true rfl) (s_Pairing_pairCost hx ha1 ha2 (by omega) (by omega) (by omega) (by omega)) (fun r h6 hq => ?_)
  obtain ⟨x8, rfl, ⟨_, _⟩, rfl⟩ := hq
  refine A_aload_n 0 d_Pairing_isPair_21 rfl rfl ?_
  refine A_getAv (z := some 167) T_ok d_Pairing_isPair_22 f_Pairing_18 (xi_s hx sf_164) (xi_r hx rff_164_2) ?_
  refine A_aload_n 0 d_Pairing_isPair_25 rfl rfl ?_
  refine A_iload_n 3 d_Pairing_isPair_26 rfl rfl ?_
  refine A_iconst d_Pairing_isPair_27 rfl ?_
  refine A_pc (pc' := 28) rfl ?_
  refine A_iaddv (z := (a3 + 1)) d_Pairing_isPair_28 (w32_to (by omega) (by unfold i32; omega)) ?_
  refine A_iload d_Pairing_isPair_29 rfl ?_
  refine A_iconst d_Pairing_isPair_31 rfl ?_
  refine A_iaddv (z := (a4 + 1)) d_Pairing_isPair_32 (w32_to (by omega) (by unfold i32; omega)) ?_
  refine A_callV2 m_Pairing_slot T_ok d_Pairing_isPair_33 l_Pairing_82 k_Pairing_slot (xi_s hx sf_164) rfl (by decide +kernel) (by decide) (Nat.le_of_ble_eq_true rfl) (s_Pairing_slot hx (by omega) (by omega) (by omega) (by omega)) (fun r h10 hq => ?_)
  obtain ⟨x12, rfl, ⟨_, _⟩, rfl⟩ := hq
  refine A_ialoadf d_Pairing_isPair_36 (xi_s hx sf_167) (by omega) (by omega) (fun x13 ex13 _ _ => ?_)
  refine A_iaddw d_Pairing_isPair_37 (fun x14 _ _ _ => ?_)
  refine A_icmp_ne (tgt := 45) d_Pairing_isPair_38 (by decide) (fun c15 => ?_) (fun c15 => ?_)
  · refine A_iconst d_Pairing_isPair_45 rfl ?_
    exact A_zret d_Pairing_isPair_46 (by decide) rfl (by omega) ⟨_, rfl, by omega, rfl⟩
  · refine A_iconst d_Pairing_isPair_41 rfl ?_
    refine A_goto (tgt := 46) d_Pairing_isPair_42 (by decide) ?_
    exact A_zret d_Pairing_isPair_46 (by decide) rfl (by omega) ⟨_, rfl, by omega, rfl⟩
theorem s_Pairing_isFirstAlone {G : cx_T} {s : Nat} {h : ah_T} (hx : xi s h) {a1 : Int} {a2 : Int} (la1 : 0 ≤ a1) (ua1 : a1 ≤ 79) (la2 : 0 ≤ a2) (ua2 : a2 ≤ 80) : con G 2 0 0 m_Pairing_isFirstAlone [av_R (some 164), av_I a1, av_I a2] h (fun r h' => ∃ z, r = some (av_I z) ∧ (z = 0 ∨ z = 1) ∧ h = h') := by
  refine con_of (L := [some (av_R (some 164)), some (av_I a1), some (av_I a2)]) (by decide +kernel) (Nat.le_of_ble_eq_true rfl) rfl ?_
  have hS : isS s := hx.2.1
  have hs0 : s = 17 ∨ s = 80 := hS
  have hs0b : 17 ≤ s ∧ s ≤ 80 := by omega
  refine A_aload_n 0 d_Pairing_isFirstAlone_0 rfl rfl ?_
  refine A_getAv (z := some 167) T_ok d_Pairing_isFirstAlone_1 f_Pairing_18 (xi_s hx sf_164) (xi_r hx rff_164_2) ?_
  refine A_aload_n 0 d_Pairing_isFirstAlone_4 rfl rfl ?_
  refine A_iload_n 1 d_Pairing_isFirstAlone_5 rfl rfl ?_
  refine A_iload_n 2 d_Pairing_isFirstAlone_6 rfl rfl ?_
  refine A_pc (pc' := 7) rfl ?_
  refine A_callV2 m_Pairing_slot T_ok d_Pairing_isFirstAlone_7 l_Pairing_82 k_Pairing_slot (xi_s hx sf_164) rfl (by decide +kernel) (by decide) (Nat.le_of_ble_eq_true rfl) (s_Pairing_slot hx (by omega) (by omega) (by omega) (by omega)) (fun r h2 hq => ?_)
  obtain ⟨x4, rfl, ⟨_, _⟩, rfl⟩ := hq
  refine A_ialoadf d_Pairing_isFirstAlone_10 (xi_s hx sf_167) (by omega) (by omega) (fun x5 ex5 _ _ => ?_)
  refine A_iconst d_Pairing_isFirstAlone_11 rfl ?_
  refine A_aload_n 0 d_Pairing_isFirstAlone_12 rfl rfl ?_
  refine A_getAv (z := some 167) T_ok d_Pairing_isFirstAlone_13 f_Pairing_18 (xi_s hx sf_164) (xi_r hx rff_164_2) ?_
  refine A_aload_n 0 d_Pairing_isFirstAlone_16 rfl rfl ?_
  refine A_pc (pc' := 17) rfl ?_
  refine A_iload_n 1 d_Pairing_isFirstAlone_17 rfl rfl ?_
  refine A_iconst d_Pairing_isFirstAlone_18 rfl ?_
  refine A_iaddv (z := (a1 + 1)) d_Pairing_isFirstAlone_19 (w32_to (by omega) (by unfold i32; omega)) ?_
  refine A_iload_n 2 d_Pairing_isFirstAlone_20 rfl rfl ?_
  refine A_callV2 m_Pairing_slot T_ok d_Pairing_isFirstAlone_21 l_Pairing_82 k_Pairing_slot (xi_s hx sf_164) rfl (by decide +kernel) (by decide) (Nat.le_of_ble_eq_true rfl) (s_Pairing_slot hx (by omega) (by omega) (by omega) (by omega)) (fun r h7 hq => ?_)
  obtain ⟨x9, rfl, ⟨_, _⟩, rfl⟩ := hq
  refine A_ialoadf d_Pairing_isFirstAlone_24 (xi_s hx sf_167) (by omega) (by omega) (fun x10 ex10 _ _ => ?_)
  refine A_iaddw d_Pairing_isFirstAlone_25 (fun x11 _ _ _ => ?_)
  refine A_icmp_ne (tgt := 33) d_Pairing_isFirstAlone_26 (by decide) (fun c12 => ?_) (fun c12 => ?_)
  · refine A_iconst d_Pairing_isFirstAlone_33 rfl ?_
    exact A_zret d_Pairing_isFirstAlone_34 (by decide) rfl (by omega) ⟨_, rfl, by omega, rfl⟩
  · refine A_iconst d_Pairing_isFirstAlone_29 rfl ?_
    refine A_goto (tgt := 34) d_Pairing_isFirstAlone_30 (by decide) ?_
    exact A_zret d_Pairing_isFirstAlone_34 (by decide) rfl (by omega) ⟨_, rfl, by omega, rfl⟩
theorem s_Pairing_choose {G : cx_T} {s : Nat} {h : ah_T} (hx : xi s h) {a1 : Nat} {a2 : Nat} (ha1 : isV a1) (ha2 : isV a2) : con G 4 0 0 m_Pairing_choose [av_R (some 164), av_R (some a1), av_R (some a2)] h (fun r h' => r = none ∧ kF FC s h h') := by
  refine con_of (L := [some (av_R (some 164)), some (av_R (some a1)), some (av_R (some a2)), none, none]) (by decide +kernel) (Nat.le_of_ble_eq_true rfl) rfl ?_
  have hS : isS s := hx.2.1
  have hs0 : s = 17 ∨ s = 80 := hS
  have hs0b : 17 ≤ s ∧ s ≤ 80 := by omega
  have k0 : kF FC s h h := kF_0 hx
  have ga1 := lt_V ha1
  have ga2 := lt_V ha2
  refine A_iconst d_Pairing_choose_0 rfl ?_
  refine A_istore_n 3 (L' := [some (av_R (some 164)), some (av_R (some a1)), some (av_R (some a2)), some (av_I 0), none]) d_Pairing_choose_1 rfl (Nat.le_of_ble_eq_true rfl) rfl ?_
  refine A_iconst d_Pairing_choose_2 rfl ?_
  refine A_istore (L' := [some (av_R (some 164)), some (av_R (some a1)), some (av_R (some a2)), some (av_I 0), some (av_I 0)]) d_Pairing_choose_3 (Nat.le_of_ble_eq_true rfl) rfl ?_
  have lp5 : ∀ (n : Nat) (i1 i2 : Int) (h3 : ah_T) , 0 ≤ i1 → i1 ≤ 80 → 0 ≤ i2 → i2 ≤ 80 → kF FC s h h3 → (81 - i2).toNat < n → aw G (rm_R 4 0 0) m_Pairing_choose 0 0 5 [some (av_R (some 164)), some (av_R (some a1)), some (av_R (some a2)), some (av_I i1), some (av_I i2)] [] h3 (fun r h' => r = none ∧ kF FC s h h') := by
    intro n
    induction n with
    | zero => intro i1 i2 h3 _ _ _ _ _ hm; omega
    | succ n ih5 =>
      intro i1 i2 h3 hl0 hl1 hl2 hl3 k4 hm
      refine A_iload d_Pairing_choose_5 rfl ?_
      refine A_aload_n 0 d_Pairing_choose_7 rfl rfl ?_
      refine A_getIn (lo := 0) (hi := 80) T_ok d_Pairing_choose_8 f_Pairing_27 (xi_s k4.1 sf_164) (xi_g k4.1 (by decide) rgf_164_5) (fun x5 ex5 _ _ => ?_)
      refine A_icmp_ge (tgt := 96) d_Pairing_choose_11 (by decide) (fun c6 => ?_) (fun c6 => ?_)
      · exact A_vret d_Pairing_choose_96 (by decide) rfl ⟨rfl, k4⟩
      · refine A_aload_n 0 d_Pairing_choose_14 rfl rfl ?_
        refine A_getAv (z := some 169) T_ok d_Pairing_choose_15 f_Pairing_24 (xi_s k4.1 sf_164) (xi_r k4.1 rff_164_4) ?_
        refine A_iload d_Pairing_choose_18 rfl ?_
        refine A_bipush d_Pairing_choose_20 rfl ?_
        refine A_iastorek (KR := kF FC s h) d_Pairing_choose_22 (xi_s k4.1 sf_169) (by omega) (by omega) (kF_j k4 (by decide) (ns_b rfl) (rgf_169 _) (by omega) (by omega)) (fun h8 k9 eh8 => ?_)
        have lp23 : ∀ (n : Nat) (i10 : Int) , 0 ≤ i10 → i10 ≤ 80 → (81 - i10).toNat < n → aw G (rm_R 4 0 0) m_Pairing_choose 0 0 23 [some (av_R (some 164)), some (av_R (some a1)), some (av_R (some a2)), some (av_I i10), some (av_I i2)] [] h8 (fun r h' => r = none ∧ kF FC s h h') := by
          intro n
          induction n with
          | zero => intro i10 _ _ hm; omega
          | succ n ih23 =>
            intro i10 hl0 hl1 hm
            refine A_iload_n 3 d_Pairing_choose_23 rfl rfl ?_
            refine A_aload_n 0 d_Pairing_choose_24 rfl rfl ?_
            refine A_getIn (lo := 0) (hi := 80) T_ok d_Pairing_choose_25 f_Pairing_42 (xi_s k9.1 sf_164) (xi_g k9.1 (by decide) rgf_164_6) (fun x11 ex11 _ _ => ?_)
            refine A_icmp_ge (tgt := 59) d_Pairing_choose_28 (by decide) (fun c12 => ?_) (fun c12 => ?_)
            · refine A_iload_n 3 d_Pairing_choose_59 rfl rfl ?_
              refine A_aload_n 0 d_Pairing_choose_60 rfl rfl ?_
              refine A_getIv (z := x11) T_ok d_Pairing_choose_61 f_Pairing_42 (xi_s k9.1 sf_164) ex11.symm ?_
              refine A_icmp_ge (tgt := 90) d_Pairing_choose_64 (by decide) (fun c14 => ?_) (fun c => False.elim (by omega))
              refine A_iincv (z := (i2 + 1)) (L' := [some (av_R (some 164)), some (av_R (some a1)), some (av_R (some a2)), some (av_I i10), some (av_I (i2 + 1))]) d_Pairing_choose_90 rfl (w32_to (by omega) (by unfold i32; omega)) rfl ?_
              refine A_goto (tgt := 5) d_Pairing_choose_93 (by decide) ?_
              exact ih5 i10 (i2 + 1) h8 (by omega) (by omega) (by omega) (by omega) k9 (by omega)
            · refine A_aload_n 0 d_Pairing_choose_31 rfl rfl ?_
              refine A_aload_n 1 d_Pairing_choose_32 rfl rfl ?_
              refine A_aload_n 2 d_Pairing_choose_33 rfl rfl ?_
              refine A_iload d_Pairing_choose_34 rfl ?_
              refine A_iload_n 3 d_Pairing_choose_36 rfl rfl ?_
              refine A_pc (pc' := 37) rfl ?_
              refine A_callV4 m_Pairing_isPair T_ok d_Pairing_choose_37 l_Pairing_94 k_Pairing_isPair (xi_s k9.1 sf_164) rfl (by decide +kernel) (by decide) (Nat.le_of_ble_eq_true rfl) (s_Pairing_isPair k9.1 ha1 ha2 (by omega) (by omega) (by omega) (by omega)) (fun r h15 hq => ?_)
              obtain ⟨x17, rfl, bx17, rfl⟩ := hq
              refine A_if_ne (tgt := 59) d_Pairing_choose_40 (by decide) (fun c18 => ?_) (fun c18 => ?_)
              · refine A_iload_n 3 d_Pairing_choose_59 rfl rfl ?_
                refine A_aload_n 0 d_Pairing_choose_60 rfl rfl ?_
                refine A_getIv (z := x11) T_ok d_Pairing_choose_61 f_Pairing_42 (xi_s k9.1 sf_164) ex11.symm ?_
                refine A_icmp_ge (tgt := 90) d_Pairing_choose_64 (by decide) (fun c => False.elim (by omega)) (fun c20 => ?_)
                refine A_aload_n 0 d_Pairing_choose_67 rfl rfl ?_
                refine A_aload_n 1 d_Pairing_choose_68 rfl rfl ?_
                refine A_aload_n 2 d_Pairing_choose_69 rfl rfl ?_
                refine A_iload d_Pairing_choose_70 rfl ?_
                refine A_iload_n 3 d_Pairing_choose_72 rfl rfl ?_
                refine A_pc (pc' := 73) rfl ?_
                refine A_callV4 m_Pairing_isPair T_ok d_Pairing_choose_73 l_Pairing_94 k_Pairing_isPair (xi_s k9.1 sf_164) rfl (by decide +kernel) (by decide) (Nat.le_of_ble_eq_true rfl) (s_Pairing_isPair k9.1 ha1 ha2 (by omega) (by omega) (by omega) (by omega)) (fun r h21 hq => ?_)
                obtain ⟨x23, rfl, bx23, rfl⟩ := hq
                refine A_if_eq (tgt := 90) d_Pairing_choose_76 (by decide) (fun c24 => ?_) (fun c24 => ?_)
                · refine A_iincv (z := (i2 + 1)) (L' := [some (av_R (some 164)), some (av_R (some a1)), some (av_R (some a2)), some (av_I i10), some (av_I (i2 + 1))]) d_Pairing_choose_90 rfl (w32_to (by omega) (by unfold i32; omega)) rfl ?_
                  refine A_goto (tgt := 5) d_Pairing_choose_93 (by decide) ?_
                  exact ih5 i10 (i2 + 1) h8 (by omega) (by omega) (by omega) (by omega) k9 (by omega)
                · refine A_aload_n 0 d_Pairing_choose_79 rfl rfl ?_
                  refine A_getAv (z := some 169) T_ok d_Pairing_choose_80 f_Pairing_24 (xi_s k9.1 sf_164) (xi_r k9.1 rff_164_4) ?_
                  refine A_iload d_Pairing_choose_83 rfl ?_
                  refine A_iload_n 3 d_Pairing_choose_85 rfl rfl ?_
                  refine A_iastorek (KR := kF FC s h) d_Pairing_choose_86 (xi_s k9.1 sf_169) (by omega) (by omega) (kF_j k9 (by decide) (ns_b rfl) (rgf_169 _) (by omega) (by omega)) (fun h26 k27 eh26 => ?_)
                  refine A_pc (pc' := 87) rfl ?_
                  refine A_iincv (z := (i10 + 1)) (L' := [some (av_R (some 164)), some (av_R (some a1)), some (av_R (some a2)), some (av_I (i10 + 1)), some (av_I i2)]) d_Pairing_choose_87 rfl (w32_to (by omega) (by unfold i32; omega)) rfl ?_
                  refine A_iincv (z := (i2 + 1)) (L' := [some (av_R (some 164)), some (av_R (some a1)), some (av_R (some a2)), some (av_I (i10 + 1)), some (av_I (i2 + 1))]) d_Pairing_choose_90 rfl (w32_to (by omega) (by unfold i32; omega)) rfl ?_
                  refine A_goto (tgt := 5) d_Pairing_choose_93 (by decide) ?_
                  exact ih5 (i10 + 1) (i2 + 1) h26 (by omega) (by omega) (by omega) (by omega) k27 (by omega)
              · refine A_aload_n 0 d_Pairing_choose_43 rfl rfl ?_
                refine A_iload d_Pairing_choose_44 rfl ?_
                refine A_iload_n 3 d_Pairing_choose_46 rfl rfl ?_
                refine A_callV2 m_Pairing_isFirstAlone T_ok d_Pairing_choose_47 l_Pairing_98 k_Pairing_isFirstAlone (xi_s k9.1 sf_164) rfl (by decide +kernel) (by decide) (Nat.le_of_ble_eq_true rfl) (s_Pairing_isFirstAlone k9.1 (by omega) (by omega) (by omega) (by omega)) (fun r h28 hq => ?_)
                obtain ⟨x30, rfl, bx30, rfl⟩ := hq
                refine A_if_ne (tgt := 59) d_Pairing_choose_50 (by decide) (fun c31 => ?_) (fun c31 => ?_)
                · refine A_iload_n 3 d_Pairing_choose_59 rfl rfl ?_
                  refine A_aload_n 0 d_Pairing_choose_60 rfl rfl ?_
                  refine A_getIv (z := x11) T_ok d_Pairing_choose_61 f_Pairing_42 (xi_s k9.1 sf_164) ex11.symm ?_
                  refine A_icmp_ge (tgt := 90) d_Pairing_choose_64 (by decide) (fun c => False.elim (by omega)) (fun c33 => ?_)
                  refine A_aload_n 0 d_Pairing_choose_67 rfl rfl ?_
                  refine A_aload_n 1 d_Pairing_choose_68 rfl rfl ?_
                  refine A_aload_n 2 d_Pairing_choose_69 rfl rfl ?_
                  refine A_iload d_Pairing_choose_70 rfl ?_
                  refine A_iload_n 3 d_Pairing_choose_72 rfl rfl ?_
                  refine A_pc (pc' := 73) rfl ?_
                  refine A_callV4 m_Pairing_isPair T_ok d_Pairing_choose_73 l_Pairing_94 k_Pairing_isPair (xi_s k9.1 sf_164) rfl (by decide +kernel) (by decide) (Nat.le_of_ble_eq_true rfl) (s_Pairing_isPair k9.1 ha1 ha2 (by omega) (by omega) (by omega) (by omega)) (fun r h34 hq => ?_)
                  obtain ⟨x36, rfl, bx36, rfl⟩ := hq
                  refine A_if_eq (tgt := 90) d_Pairing_choose_76 (by decide) (fun c37 => ?_) (fun c37 => ?_)
                  · refine A_iincv (z := (i2 + 1)) (L' := [some (av_R (some 164)), some (av_R (some a1)), some (av_R (some a2)), some (av_I i10), some (av_I (i2 + 1))]) d_Pairing_choose_90 rfl (w32_to (by omega) (by unfold i32; omega)) rfl ?_
                    refine A_goto (tgt := 5) d_Pairing_choose_93 (by decide) ?_
                    exact ih5 i10 (i2 + 1) h8 (by omega) (by omega) (by omega) (by omega) k9 (by omega)
                  · refine A_aload_n 0 d_Pairing_choose_79 rfl rfl ?_
                    refine A_getAv (z := some 169) T_ok d_Pairing_choose_80 f_Pairing_24 (xi_s k9.1 sf_164) (xi_r k9.1 rff_164_4) ?_
                    refine A_iload d_Pairing_choose_83 rfl ?_
                    refine A_iload_n 3 d_Pairing_choose_85 rfl rfl ?_
                    refine A_iastorek (KR := kF FC s h) d_Pairing_choose_86 (xi_s k9.1 sf_169) (by omega) (by omega) (kF_j k9 (by decide) (ns_b rfl) (rgf_169 _) (by omega) (by omega)) (fun h39 k40 eh39 => ?_)
                    refine A_pc (pc' := 87) rfl ?_
                    refine A_iincv (z := (i10 + 1)) (L' := [some (av_R (some 164)), some (av_R (some a1)), some (av_R (some a2)), some (av_I (i10 + 1)), some (av_I i2)]) d_Pairing_choose_87 rfl (w32_to (by omega) (by unfold i32; omega)) rfl ?_
                    refine A_iincv (z := (i2 + 1)) (L' := [some (av_R (some 164)), some (av_R (some a1)), some (av_R (some a2)), some (av_I (i10 + 1)), some (av_I (i2 + 1))]) d_Pairing_choose_90 rfl (w32_to (by omega) (by unfold i32; omega)) rfl ?_
                    refine A_goto (tgt := 5) d_Pairing_choose_93 (by decide) ?_
                    exact ih5 (i10 + 1) (i2 + 1) h39 (by omega) (by omega) (by omega) (by omega) k40 (by omega)
                · refine A_iincv (z := (i10 + 1)) (L' := [some (av_R (some 164)), some (av_R (some a1)), some (av_R (some a2)), some (av_I (i10 + 1)), some (av_I i2)]) d_Pairing_choose_53 rfl (w32_to (by omega) (by unfold i32; omega)) rfl ?_
                  refine A_goto (tgt := 23) d_Pairing_choose_56 (by decide) ?_
                  exact ih23 (i10 + 1) (by omega) (by omega) (by omega)
        exact lp23 _ i1 (by omega) (by omega) (Nat.lt_succ_self _)
  exact lp5 _ 0 0 h (by omega) (by omega) (by omega) (by omega) k0 (Nat.lt_succ_self _)
theorem s_Pairing_find {G : cx_T} {s : Nat} {h : ah_T} (hx : xi s h) {a1 : Nat} {a2 : Nat} (ha1 : isV a1) (ha2 : isV a2) : con G 5 0 0 m_Pairing_find [av_R (some 164), av_R (some a1), av_R (some a2)] h (fun r h' => ∃ z, r = some (av_I z) ∧ ((-2147483648) ≤ z ∧ z ≤ 2147483647) ∧ kF FC s h h') := by
  refine con_of (L := [some (av_R (some 164)), some (av_R (some a1)), some (av_R (some a2)), none, none]) (by decide +kernel) (Nat.le_of_ble_eq_true rfl) rfl ?_
  have hS : isS s := hx.2.1
  have hs0 : s = 17 ∨ s = 80 := hS
  have hs0b : 17 ≤ s ∧ s ≤ 80 := by omega
  have k0 : kF FC s h h := kF_0 hx
  have ga1 := lt_V ha1
  have ga2 := lt_V ha2
  refine A_aload_n 1 d_Pairing_find_0 rfl rfl ?_
  refine A_callS1 m_Pairing_soundsOf d_Pairing_find_1 l_Pairing_34 k_Pairing_soundsOf (by decide +kernel) (by decide) (Nat.le_of_ble_eq_true rfl) (s_Pairing_soundsOf k0.1 ha1) (fun r h1 hq => ?_)
  obtain ⟨x3, rfl, ⟨_, _⟩, rfl⟩ := hq
  refine A_aload_n 2 d_Pairing_find_4 rfl rfl ?_
  refine A_callS1 m_Pairing_soundsOf d_Pairing_find_5 l_Pairing_34 k_Pairing_soundsOf (by decide +kernel) (by decide) (Nat.le_of_ble_eq_true rfl) (s_Pairing_soundsOf k0.1 ha2) (fun r h4 hq => ?_)
  obtain ⟨x6, rfl, ⟨_, _⟩, rfl⟩ := hq
  refine A_iaddw d_Pairing_find_8 (fun x7 _ _ _ => ?_)
  refine A_bipush d_Pairing_find_9 rfl ?_
  refine A_icmp_le (tgt := 17) d_Pairing_find_11 (by decide) (fun c8 => ?_) (fun c8 => ?_)
  · refine A_aload_n 0 d_Pairing_find_17 rfl rfl ?_
    refine A_aload_n 1 d_Pairing_find_18 rfl rfl ?_
    refine A_aload_n 0 d_Pairing_find_19 rfl rfl ?_
    refine A_getAv (z := some 165) T_ok d_Pairing_find_20 f_Pairing_11 (xi_s k0.1 sf_164) (xi_r k0.1 rff_164_0) ?_
    refine A_callS2 m_Pairing_gather d_Pairing_find_23 l_Pairing_38 k_Pairing_gather (by decide +kernel) (by decide) (Nat.le_of_ble_eq_true rfl) (s_Pairing_gather_a k0.1 ha1) (fun r h10 hq => ?_)
    obtain ⟨x12, rfl, ⟨_, _⟩, k11⟩ := hq
    have k13 := kF_t k0 k11 (fun _ q => q)
    refine A_putIk (KR := kF FC s h) T_ok d_Pairing_find_26 f_Pairing_27 (xi_s k13.1 sf_164) fin_f (kF_j k13 (by decide) (ns_b rfl) rgf_164_5 (by omega) (by omega)) (fun h14 k15 eh14 => ?_)
    refine A_aload_n 0 d_Pairing_find_29 rfl rfl ?_
    refine A_aload_n 2 d_Pairing_find_30 rfl rfl ?_
    refine A_aload_n 0 d_Pairing_find_31 rfl rfl ?_
    refine A_getAv (z := some 166) T_ok d_Pairing_find_32 f_Pairing_15 (xi_s k15.1 sf_164) (xi_r k15.1 rff_164_1) ?_
    refine A_pc (pc' := 35) rfl ?_
    refine A_callS2 m_Pairing_gather d_Pairing_find_35 l_Pairing_38 k_Pairing_gather (by decide +kernel) (by decide) (Nat.le_of_ble_eq_true rfl) (s_Pairing_gather_b k15.1 ha2) (fun r h17 hq => ?_)
    obtain ⟨x19, rfl, ⟨_, _⟩, k18⟩ := hq
    have k20 := kF_t k15 k18 (fun _ q => q)
    refine A_putIk (KR := kF FC s h) T_ok d_Pairing_find_38 f_Pairing_42 (xi_s k20.1 sf_164) fin_f (kF_j k20 (by decide) (ns_b rfl) rgf_164_6 (by omega) (by omega)) (fun h21 k22 eh21 => ?_)
    refine A_aload_n 0 d_Pairing_find_41 rfl rfl ?_
    refine A_getIn (lo := 0) (hi := 80) T_ok d_Pairing_find_42 f_Pairing_27 (xi_s k22.1 sf_164) (xi_g k22.1 (by decide) rgf_164_5) (fun x23 ex23 _ _ => ?_)
    refine A_istore_n 3 (L' := [some (av_R (some 164)), some (av_R (some a1)), some (av_R (some a2)), some (av_I x23), none]) d_Pairing_find_45 rfl (Nat.le_of_ble_eq_true rfl) rfl ?_
    have lp46 : ∀ (n : Nat) (i24 : Int) (h25 : ah_T) , (-1) ≤ i24 → i24 ≤ 80 → kF FC s h h25 → (i24 + 2).toNat < n → aw G (rm_R 5 0 0) m_Pairing_find 0 0 46 [some (av_R (some 164)), some (av_R (some a1)), some (av_R (some a2)), some (av_I i24), none] [] h25 (fun r h' => ∃ z, r = some (av_I z) ∧ ((-2147483648) ≤ z ∧ z ≤ 2147483647) ∧ kF FC s h h') := by
      intro n
      induction n with
      | zero => intro i24 h25 _ _ _ hm; omega
      | succ n ih46 =>
        intro i24 h25 hl0 hl1 k26 hm
        refine A_iload_n 3 d_Pairing_find_46 rfl rfl ?_
        refine A_if_lt (tgt := 82) d_Pairing_find_47 (by decide) (fun c27 => ?_) (fun c27 => ?_)
        · refine A_aload_n 0 d_Pairing_find_82 rfl rfl ?_
          refine A_aload_n 1 d_Pairing_find_83 rfl rfl ?_
          refine A_aload_n 2 d_Pairing_find_84 rfl rfl ?_
          refine A_callV2 m_Pairing_choose T_ok d_Pairing_find_85 l_Pairing_49 k_Pairing_choose (xi_s k26.1 sf_164) rfl (by decide +kernel) (by decide) (Nat.le_of_ble_eq_true rfl) (s_Pairing_choose k26.1 ha1 ha2) (fun r h28 hq => ?_)
          obtain ⟨rfl, k29⟩ := hq
          have k30 := kF_t k26 k29 (fun _ q => q)
          refine A_aload_n 0 d_Pairing_find_88 rfl rfl ?_
          refine A_aload_n 0 d_Pairing_find_89 rfl rfl ?_
          refine A_getAv (z := some 168) T_ok d_Pairing_find_90 f_Pairing_21 (xi_s k30.1 sf_164) (xi_r k30.1 rff_164_3) ?_
          refine A_iconst d_Pairing_find_93 rfl ?_
          refine A_ialoadf d_Pairing_find_94 (xi_s k30.1 sf_168) (by decide) (by decide) (fun x32 ex32 _ _ => ?_)
          refine A_pc (pc' := 95) rfl ?_
          refine A_putIk (KR := kF FC s h) T_ok d_Pairing_find_95 f_Pairing_31 (xi_s k30.1 sf_164) fin_f (kF_j k30 (by decide) (ns_b rfl) rgf_164_7 (by omega) (by omega)) (fun h33 k34 eh33 => ?_)
          refine A_aload_n 0 d_Pairing_find_98 rfl rfl ?_
          refine A_getAv (z := some 167) T_ok d_Pairing_find_99 f_Pairing_18 (xi_s k34.1 sf_164) (xi_r k34.1 rff_164_2) ?_
          refine A_iconst d_Pairing_find_102 rfl ?_
          refine A_ialoadf d_Pairing_find_103 (xi_s k34.1 sf_167) (by decide) (by decide) (fun x36 ex36 _ _ => ?_)
          exact A_iret d_Pairing_find_104 (by decide) rfl ⟨_, rfl, ⟨by omega, by omega⟩, k34⟩
        · refine A_aload_n 0 d_Pairing_find_50 rfl rfl ?_
          refine A_getIn (lo := 0) (hi := 80) T_ok d_Pairing_find_51 f_Pairing_42 (xi_s k26.1 sf_164) (xi_g k26.1 (by decide) rgf_164_6) (fun x37 ex37 _ _ => ?_)
          refine A_istore (L' := [some (av_R (some 164)), some (av_R (some a1)), some (av_R (some a2)), some (av_I i24), some (av_I x37)]) d_Pairing_find_54 (Nat.le_of_ble_eq_true rfl) rfl ?_
          have lp56 : ∀ (n : Nat) (i38 : Int) (h39 : ah_T) , (-1) ≤ i38 → i38 ≤ 80 → kF FC s h h39 → (i38 + 2).toNat < n → aw G (rm_R 5 0 0) m_Pairing_find 0 0 56 [some (av_R (some 164)), some (av_R (some a1)), some (av_R (some a2)), some (av_I i24), some (av_I i38)] [] h39 (fun r h' => ∃ z, r = some (av_I z) ∧ ((-2147483648) ≤ z ∧ z ≤ 2147483647) ∧ kF FC s h h') := by
            intro n
            induction n with
            | zero => intro i38 h39 _ _ _ hm; omega
            | succ n ih56 =>
              intro i38 h39 hl0 hl1 k40 hm
              refine A_iload d_Pairing_find_56 rfl ?_
              refine A_if_lt (tgt := 76) d_Pairing_find_58 (by decide) (fun c41 => ?_) (fun c41 => ?_)
              · refine A_iincv (z := (i24 - 1)) (L' := [some (av_R (some 164)), some (av_R (some a1)), some (av_R (some a2)), some (av_I (i24 - 1)), some (av_I i38)]) d_Pairing_find_76 rfl (w32_to (by omega) (by unfold i32; omega)) rfl ?_
                refine A_goto (tgt := 46) d_Pairing_find_79 (by decide) ?_
                refine A_free (L' := [some (av_R (some 164)), some (av_R (some a1)), some (av_R (some a2)), some (av_I (i24 - 1)), none]) (And.intro rfl (And.intro rfl (And.intro rfl (And.intro rfl trivial)))) ?_
                exact ih46 (i24 - 1) h39 (by omega) (by omega) k40 (by omega)
              · refine A_aload_n 0 d_Pairing_find_61 rfl rfl ?_
                refine A_aload_n 1 d_Pairing_find_62 rfl rfl ?_
                refine A_aload_n 2 d_Pairing_find_63 rfl rfl ?_
                refine A_iload_n 3 d_Pairing_find_64 rfl rfl ?_
                refine A_iload d_Pairing_find_65 rfl ?_
                refine A_pc (pc' := 67) rfl ?_
                refine A_callV4 m_Pairing_weigh T_ok d_Pairing_find_67 l_Pairing_45 k_Pairing_weigh (xi_s k40.1 sf_164) rfl (by decide +kernel) (by decide) (Nat.le_of_ble_eq_true rfl) (s_Pairing_weigh k40.1 ha1 ha2 (by omega) (by omega) (by omega) (by omega)) (fun r h42 hq => ?_)
                obtain ⟨rfl, k43⟩ := hq
                have k44 := kF_t k40 k43 (fun _ q => q)
                refine A_iincv (z := (i38 - 1)) (L' := [some (av_R (some 164)), some (av_R (some a1)), some (av_R (some a2)), some (av_I i24), some (av_I (i38 - 1))]) d_Pairing_find_70 rfl (w32_to (by omega) (by unfold i32; omega)) rfl ?_
                refine A_goto (tgt := 56) d_Pairing_find_73 (by decide) ?_
                exact ih56 (i38 - 1) h42 (by omega) (by omega) k44 (by omega)
          exact lp56 _ x37 h25 (by omega) (by omega) k26 (Nat.lt_succ_self _)
    exact lp46 _ x23 h21 (by omega) (by omega) k22 (Nat.lt_succ_self _)
  · refine A_bipush d_Pairing_find_14 rfl ?_
    exact A_iret d_Pairing_find_16 (by decide) rfl ⟨_, rfl, ⟨by omega, by omega⟩, k0⟩
