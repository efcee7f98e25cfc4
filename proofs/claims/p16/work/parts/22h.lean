/-! ===== the class's methods, 22h ===== -/
def m_Beams_forget : mr_T := (⟨"PlainMusic$Beams", "forget", "()V"⟩, prog_2_method_2_code, 1, none)
theorem d_Beams_forget_0 : decode prog_2_method_2_code 0 = .ok (.aload_n 0, 1) := by decide +kernel
theorem d_Beams_forget_1 : decode prog_2_method_2_code 1 = .ok (.iconst 0, 1) := by decide +kernel
theorem d_Beams_forget_2 : decode prog_2_method_2_code 2 = .ok (.putfield 21, 3) := by decide +kernel
theorem f_Beams_21 : fl_OK "PlainMusic$Beams" 21 0 1 .int false := ⟨_, rfl, by decide, (gw_in 463 (by decide +kernel) (by decide +kernel)), rfl, rfl⟩
theorem sf_146 : sh_L[146]? = some (0 + 4, 4) := by decide +kernel
theorem rgf_146_1 : rg 146 1 = (0, 14) := by decide +kernel
theorem d_Beams_forget_5 : decode prog_2_method_2_code 5 = .ok (.return_, 1) := by decide +kernel
def m_Beams_eventsIn : mr_T := (⟨"PlainMusic$Beams", "eventsIn", "(I)I"⟩, prog_2_method_3_code, 2, some .int)
theorem d_Beams_eventsIn_0 : decode prog_2_method_3_code 0 = .ok (.iload_n 1, 1) := by decide +kernel
theorem d_Beams_eventsIn_1 : decode prog_2_method_3_code 1 = .ok (.ifCond .lt 29, 3) := by decide +kernel
theorem d_Beams_eventsIn_30 : decode prog_2_method_3_code 30 = .ok (.iconst 0, 1) := by decide +kernel
theorem d_Beams_eventsIn_31 : decode prog_2_method_3_code 31 = .ok (.ireturn, 1) := by decide +kernel
theorem d_Beams_eventsIn_4 : decode prog_2_method_3_code 4 = .ok (.iload_n 1, 1) := by decide +kernel
theorem d_Beams_eventsIn_5 : decode prog_2_method_3_code 5 = .ok (.aload_n 0, 1) := by decide +kernel
theorem d_Beams_eventsIn_6 : decode prog_2_method_3_code 6 = .ok (.getfield 21, 3) := by decide +kernel
theorem d_Beams_eventsIn_9 : decode prog_2_method_3_code 9 = .ok (.if_icmp .ge 21, 3) := by decide +kernel
theorem d_Beams_eventsIn_12 : decode prog_2_method_3_code 12 = .ok (.iload_n 1, 1) := by decide +kernel
theorem d_Beams_eventsIn_13 : decode prog_2_method_3_code 13 = .ok (.aload_n 0, 1) := by decide +kernel
theorem d_Beams_eventsIn_14 : decode prog_2_method_3_code 14 = .ok (.getfield 11, 3) := by decide +kernel
theorem rff_146_0 : (146, 0, 147) ∈ rf_L := by decide +kernel
theorem d_Beams_eventsIn_17 : decode prog_2_method_3_code 17 = .ok (.arraylength, 1) := by decide +kernel
theorem sf_147 : sh_L[147]? = some (0, 14) := by decide +kernel
theorem d_Beams_eventsIn_18 : decode prog_2_method_3_code 18 = .ok (.if_icmp .ge 12, 3) := by decide +kernel
theorem d_Beams_eventsIn_21 : decode prog_2_method_3_code 21 = .ok (.aload_n 0, 1) := by decide +kernel
theorem d_Beams_eventsIn_22 : decode prog_2_method_3_code 22 = .ok (.getfield 11, 3) := by decide +kernel
theorem d_Beams_eventsIn_25 : decode prog_2_method_3_code 25 = .ok (.iload_n 1, 1) := by decide +kernel
theorem d_Beams_eventsIn_26 : decode prog_2_method_3_code 26 = .ok (.iaload, 1) := by decide +kernel
theorem rgf_147 (k : Nat) : rg 147 k = ((-2147483648), 2147483647) := rfl
theorem d_Beams_eventsIn_27 : decode prog_2_method_3_code 27 = .ok (.goto 4, 3) := by decide +kernel
def m_Beams_shortOnes : mr_T := (⟨"PlainMusic$Beams", "shortOnes", "(LPlainMusic$Voice;II)I"⟩, prog_2_method_5_code, 5, some .int)
theorem d_Beams_shortOnes_0 : decode prog_2_method_5_code 0 = .ok (.iconst 0, 1) := by decide +kernel
theorem d_Beams_shortOnes_1 : decode prog_2_method_5_code 1 = .ok (.istore_n 3, 1) := by decide +kernel
theorem d_Beams_shortOnes_2 : decode prog_2_method_5_code 2 = .ok (.iload_n 1, 1) := by decide +kernel
theorem d_Beams_shortOnes_3 : decode prog_2_method_5_code 3 = .ok (.istore 4, 2) := by decide +kernel
theorem d_Beams_shortOnes_5 : decode prog_2_method_5_code 5 = .ok (.iload 4, 2) := by decide +kernel
theorem d_Beams_shortOnes_7 : decode prog_2_method_5_code 7 = .ok (.iload_n 2, 1) := by decide +kernel
theorem d_Beams_shortOnes_8 : decode prog_2_method_5_code 8 = .ok (.if_icmp .ge 26, 3) := by decide +kernel
theorem d_Beams_shortOnes_34 : decode prog_2_method_5_code 34 = .ok (.iload_n 3, 1) := by decide +kernel
theorem d_Beams_shortOnes_35 : decode prog_2_method_5_code 35 = .ok (.ireturn, 1) := by decide +kernel
theorem d_Beams_shortOnes_11 : decode prog_2_method_5_code 11 = .ok (.iload_n 3, 1) := by decide +kernel
theorem d_Beams_shortOnes_12 : decode prog_2_method_5_code 12 = .ok (.aload_n 0, 1) := by decide +kernel
theorem d_Beams_shortOnes_13 : decode prog_2_method_5_code 13 = .ok (.iload 4, 2) := by decide +kernel
theorem d_Beams_shortOnes_15 : decode prog_2_method_5_code 15 = .ok (.invokevirtual 34, 3) := by decide +kernel
theorem k_Voice_isShort : mt_OK m_Voice_isShort 1 1 := ⟨(gw_in 1181 (by decide +kernel) (by decide +kernel)), (gw_in 139 (by decide +kernel) (by decide +kernel)), ⟨by decide +kernel, by decide +kernel, by decide +kernel⟩, fun h => absurd h (by decide), fun _ => ⟨(gw_in 1179 (by decide +kernel) (by decide +kernel)), (gw_in 1180 (by decide +kernel) (by decide +kernel))⟩, fun h => absurd h (by decide)⟩
theorem l_Beams_34 : ml_OK "PlainMusic$Beams" 34 ⟨"PlainMusic$Voice", "isShort", "(I)Z"⟩ := Or.inl (gw_in 1178 (by decide +kernel) (by decide +kernel))
theorem d_Beams_shortOnes_18 : decode prog_2_method_5_code 18 = .ok (.ifCond .eq 7, 3) := by decide +kernel
theorem d_Beams_shortOnes_25 : decode prog_2_method_5_code 25 = .ok (.iconst 0, 1) := by decide +kernel
theorem d_Beams_shortOnes_26 : decode prog_2_method_5_code 26 = .ok (.iadd, 1) := by decide +kernel
theorem d_Beams_shortOnes_27 : decode prog_2_method_5_code 27 = .ok (.istore_n 3, 1) := by decide +kernel
theorem d_Beams_shortOnes_28 : decode prog_2_method_5_code 28 = .ok (.iinc 4 1, 3) := by decide +kernel
theorem d_Beams_shortOnes_31 : decode prog_2_method_5_code 31 = .ok (.goto (-26), 3) := by decide +kernel
theorem d_Beams_shortOnes_21 : decode prog_2_method_5_code 21 = .ok (.iconst 1, 1) := by decide +kernel
theorem d_Beams_shortOnes_22 : decode prog_2_method_5_code 22 = .ok (.goto 4, 3) := by decide +kernel
def m_Beams_joinCost : mr_T := (⟨"PlainMusic$Beams", "joinCost", "(LPlainMusic$Voice;III)I"⟩, prog_2_method_7_code, 8, some .int)
theorem d_Beams_joinCost_0 : decode prog_2_method_7_code 0 = .ok (.iconst 0, 1) := by decide +kernel
theorem d_Beams_joinCost_1 : decode prog_2_method_7_code 1 = .ok (.istore 4, 2) := by decide +kernel
theorem d_Beams_joinCost_3 : decode prog_2_method_7_code 3 = .ok (.aload_n 0, 1) := by decide +kernel
theorem d_Beams_joinCost_4 : decode prog_2_method_7_code 4 = .ok (.iload_n 1, 1) := by decide +kernel
theorem d_Beams_joinCost_5 : decode prog_2_method_7_code 5 = .ok (.iload_n 2, 1) := by decide +kernel
theorem d_Beams_joinCost_6 : decode prog_2_method_7_code 6 = .ok (.invokevirtual 52, 3) := by decide +kernel
theorem l_Beams_52 : ml_OK "PlainMusic$Beams" 52 ⟨"PlainMusic$Voice", "sinceBarBottom", "(II)J"⟩ := Or.inl (gw_in 1191 (by decide +kernel) (by decide +kernel))
theorem d_Beams_joinCost_9 : decode prog_2_method_7_code 9 = .ok (.lstore 5, 2) := by decide +kernel
theorem d_Beams_joinCost_11 : decode prog_2_method_7_code 11 = .ok (.lload 5, 2) := by decide +kernel
theorem d_Beams_joinCost_13 : decode prog_2_method_7_code 13 = .ok (.lconst 0, 1) := by decide +kernel
theorem d_Beams_joinCost_14 : decode prog_2_method_7_code 14 = .ok (.lcmp, 1) := by decide +kernel
theorem d_Beams_joinCost_15 : decode prog_2_method_7_code 15 = .ok (.ifCond .le 23, 3) := by decide +kernel
theorem d_Beams_joinCost_18 : decode prog_2_method_7_code 18 = .ok (.aload_n 0, 1) := by decide +kernel
theorem d_Beams_joinCost_19 : decode prog_2_method_7_code 19 = .ok (.iload_n 1, 1) := by decide +kernel
theorem d_Beams_joinCost_20 : decode prog_2_method_7_code 20 = .ok (.iload_n 2, 1) := by decide +kernel
theorem d_Beams_joinCost_21 : decode prog_2_method_7_code 21 = .ok (.invokevirtual 56, 3) := by decide +kernel
theorem l_Beams_56 : ml_OK "PlainMusic$Beams" 56 ⟨"PlainMusic$Voice", "sinceBarTop", "(II)J"⟩ := Or.inl (gw_in 1192 (by decide +kernel) (by decide +kernel))
theorem d_Beams_joinCost_24 : decode prog_2_method_7_code 24 = .ok (.iload_n 3, 1) := by decide +kernel
theorem d_Beams_joinCost_25 : decode prog_2_method_7_code 25 = .ok (.i2l, 1) := by decide +kernel
theorem d_Beams_joinCost_26 : decode prog_2_method_7_code 26 = .ok (.lmul, 1) := by decide +kernel
theorem d_Beams_joinCost_27 : decode prog_2_method_7_code 27 = .ok (.lload 5, 2) := by decide +kernel
theorem d_Beams_joinCost_29 : decode prog_2_method_7_code 29 = .ok (.lrem, 1) := by decide +kernel
theorem d_Beams_joinCost_30 : decode prog_2_method_7_code 30 = .ok (.lconst 0, 1) := by decide +kernel
theorem d_Beams_joinCost_31 : decode prog_2_method_7_code 31 = .ok (.lcmp, 1) := by decide +kernel
theorem d_Beams_joinCost_32 : decode prog_2_method_7_code 32 = .ok (.ifCond .ne 6, 3) := by decide +kernel
theorem d_Beams_joinCost_35 : decode prog_2_method_7_code 35 = .ok (.iinc 4 2, 3) := by decide +kernel
theorem d_Beams_joinCost_38 : decode prog_2_method_7_code 38 = .ok (.aload_n 0, 1) := by decide +kernel
theorem d_Beams_joinCost_39 : decode prog_2_method_7_code 39 = .ok (.iload_n 2, 1) := by decide +kernel
theorem d_Beams_joinCost_40 : decode prog_2_method_7_code 40 = .ok (.invokevirtual 59, 3) := by decide +kernel
theorem l_Beams_59 : ml_OK "PlainMusic$Beams" 59 ⟨"PlainMusic$Voice", "numberOf", "(I)I"⟩ := Or.inl (gw_in 1193 (by decide +kernel) (by decide +kernel))
theorem d_Beams_joinCost_43 : decode prog_2_method_7_code 43 = .ok (.aload_n 0, 1) := by decide +kernel
theorem d_Beams_joinCost_44 : decode prog_2_method_7_code 44 = .ok (.iload_n 2, 1) := by decide +kernel
theorem d_Beams_joinCost_45 : decode prog_2_method_7_code 45 = .ok (.iconst 1, 1) := by decide +kernel
theorem d_Beams_joinCost_46 : decode prog_2_method_7_code 46 = .ok (.isub, 1) := by decide +kernel
theorem d_Beams_joinCost_47 : decode prog_2_method_7_code 47 = .ok (.invokevirtual 59, 3) := by decide +kernel
theorem d_Beams_joinCost_50 : decode prog_2_method_7_code 50 = .ok (.if_icmp .eq 6, 3) := by decide +kernel
theorem d_Beams_joinCost_53 : decode prog_2_method_7_code 53 = .ok (.iinc 4 1, 3) := by decide +kernel
theorem d_Beams_joinCost_56 : decode prog_2_method_7_code 56 = .ok (.aload_n 0, 1) := by decide +kernel
theorem d_Beams_joinCost_57 : decode prog_2_method_7_code 57 = .ok (.iload_n 2, 1) := by decide +kernel
theorem d_Beams_joinCost_58 : decode prog_2_method_7_code 58 = .ok (.iconst 0, 1) := by decide +kernel
theorem d_Beams_joinCost_59 : decode prog_2_method_7_code 59 = .ok (.invokevirtual 63, 3) := by decide +kernel
theorem l_Beams_63 : ml_OK "PlainMusic$Beams" 63 ⟨"PlainMusic$Voice", "stepOf", "(II)I"⟩ := Or.inl (gw_in 1194 (by decide +kernel) (by decide +kernel))
theorem d_Beams_joinCost_62 : decode prog_2_method_7_code 62 = .ok (.aload_n 0, 1) := by decide +kernel
theorem d_Beams_joinCost_63 : decode prog_2_method_7_code 63 = .ok (.iload_n 2, 1) := by decide +kernel
theorem d_Beams_joinCost_64 : decode prog_2_method_7_code 64 = .ok (.iconst 1, 1) := by decide +kernel
theorem d_Beams_joinCost_65 : decode prog_2_method_7_code 65 = .ok (.isub, 1) := by decide +kernel
theorem d_Beams_joinCost_66 : decode prog_2_method_7_code 66 = .ok (.iconst 0, 1) := by decide +kernel
theorem d_Beams_joinCost_67 : decode prog_2_method_7_code 67 = .ok (.invokevirtual 63, 3) := by decide +kernel
theorem d_Beams_joinCost_70 : decode prog_2_method_7_code 70 = .ok (.isub, 1) := by decide +kernel
theorem d_Beams_joinCost_71 : decode prog_2_method_7_code 71 = .ok (.invokestatic 66, 3) := by decide +kernel
theorem lm_Beams_66 : Cond.methodLink "PlainMusic$Beams" 66 Lib.Math.abs.name ∈ gw := (gw_in 1195 (by decide +kernel) (by decide +kernel))
theorem d_Beams_joinCost_74 : decode prog_2_method_7_code 74 = .ok (.istore 7, 2) := by decide +kernel
theorem d_Beams_joinCost_76 : decode prog_2_method_7_code 76 = .ok (.iload 4, 2) := by decide +kernel
theorem d_Beams_joinCost_78 : decode prog_2_method_7_code 78 = .ok (.iconst 0, 1) := by decide +kernel
theorem d_Beams_joinCost_79 : decode prog_2_method_7_code 79 = .ok (.iload 7, 2) := by decide +kernel
theorem d_Beams_joinCost_81 : decode prog_2_method_7_code 81 = .ok (.iconst 4, 1) := by decide +kernel
theorem d_Beams_joinCost_82 : decode prog_2_method_7_code 82 = .ok (.isub, 1) := by decide +kernel
theorem d_Beams_joinCost_83 : decode prog_2_method_7_code 83 = .ok (.invokestatic 69, 3) := by decide +kernel
theorem lm_Beams_69 : Cond.methodLink "PlainMusic$Beams" 69 Lib.Math.max.name ∈ gw := (gw_in 1196 (by decide +kernel) (by decide +kernel))
theorem d_Beams_joinCost_86 : decode prog_2_method_7_code 86 = .ok (.iadd, 1) := by decide +kernel
theorem d_Beams_joinCost_87 : decode prog_2_method_7_code 87 = .ok (.ireturn, 1) := by decide +kernel
def m_Beams_cutRun : mr_T := (⟨"PlainMusic$Beams", "cutRun", "(LPlainMusic$Voice;IIII)I"⟩, prog_2_method_6_code, 10, some .int)
theorem d_Beams_cutRun_0 : decode prog_2_method_6_code 0 = .ok (.iload 4, 2) := by decide +kernel
theorem d_Beams_cutRun_2 : decode prog_2_method_6_code 2 = .ok (.iload_n 3, 1) := by decide +kernel
theorem d_Beams_cutRun_3 : decode prog_2_method_6_code 3 = .ok (.isub, 1) := by decide +kernel
theorem d_Beams_cutRun_4 : decode prog_2_method_6_code 4 = .ok (.bipush 14, 2) := by decide +kernel
theorem d_Beams_cutRun_6 : decode prog_2_method_6_code 6 = .ok (.invokestatic 42, 3) := by decide +kernel
theorem lm_Beams_42 : Cond.methodLink "PlainMusic$Beams" 42 Lib.Math.min.name ∈ gw := (gw_in 1187 (by decide +kernel) (by decide +kernel))
theorem d_Beams_cutRun_9 : decode prog_2_method_6_code 9 = .ok (.istore 6, 2) := by decide +kernel
theorem d_Beams_cutRun_11 : decode prog_2_method_6_code 11 = .ok (.iload 6, 2) := by decide +kernel
theorem d_Beams_cutRun_13 : decode prog_2_method_6_code 13 = .ok (.ifCond .gt 5, 3) := by decide +kernel
theorem d_Beams_cutRun_18 : decode prog_2_method_6_code 18 = .ok (.aload_n 0, 1) := by decide +kernel
theorem d_Beams_cutRun_19 : decode prog_2_method_6_code 19 = .ok (.getfield 15, 3) := by decide +kernel
theorem rff_146_2 : (146, 2, 148) ∈ rf_L := by decide +kernel
theorem d_Beams_cutRun_22 : decode prog_2_method_6_code 22 = .ok (.iload 6, 2) := by decide +kernel
theorem d_Beams_cutRun_24 : decode prog_2_method_6_code 24 = .ok (.iconst 0, 1) := by decide +kernel
theorem d_Beams_cutRun_25 : decode prog_2_method_6_code 25 = .ok (.iastore, 1) := by decide +kernel
theorem sf_148 : sh_L[148]? = some (0, 15) := by decide +kernel
theorem rgf_148 (k : Nat) : rg 148 k = ((-2147483648), 2147483647) := rfl
theorem d_Beams_cutRun_26 : decode prog_2_method_6_code 26 = .ok (.iload 6, 2) := by decide +kernel
theorem d_Beams_cutRun_28 : decode prog_2_method_6_code 28 = .ok (.iconst 1, 1) := by decide +kernel
theorem d_Beams_cutRun_29 : decode prog_2_method_6_code 29 = .ok (.isub, 1) := by decide +kernel
theorem d_Beams_cutRun_30 : decode prog_2_method_6_code 30 = .ok (.istore 7, 2) := by decide +kernel
theorem d_Beams_cutRun_32 : decode prog_2_method_6_code 32 = .ok (.iload 7, 2) := by decide +kernel
theorem d_Beams_cutRun_34 : decode prog_2_method_6_code 34 = .ok (.ifCond .lt 137, 3) := by decide +kernel
theorem d_Beams_cutRun_37 : decode prog_2_method_6_code 37 = .ok (.aload_n 0, 1) := by decide +kernel
theorem d_Beams_cutRun_38 : decode prog_2_method_6_code 38 = .ok (.getfield 18, 3) := by decide +kernel
theorem rff_146_3 : (146, 3, 149) ∈ rf_L := by decide +kernel
theorem d_Beams_cutRun_41 : decode prog_2_method_6_code 41 = .ok (.iload 7, 2) := by decide +kernel
theorem d_Beams_cutRun_43 : decode prog_2_method_6_code 43 = .ok (.iconst 1, 1) := by decide +kernel
theorem d_Beams_cutRun_44 : decode prog_2_method_6_code 44 = .ok (.iastore, 1) := by decide +kernel
theorem sf_149 : sh_L[149]? = some (0, 15) := by decide +kernel
theorem rgf_149 (k : Nat) : rg 149 k = (0, 6) := rfl
theorem d_Beams_cutRun_45 : decode prog_2_method_6_code 45 = .ok (.aload_n 0, 1) := by decide +kernel
theorem d_Beams_cutRun_46 : decode prog_2_method_6_code 46 = .ok (.getfield 15, 3) := by decide +kernel
theorem d_Beams_cutRun_49 : decode prog_2_method_6_code 49 = .ok (.iload 7, 2) := by decide +kernel
theorem d_Beams_cutRun_51 : decode prog_2_method_6_code 51 = .ok (.iconst 3, 1) := by decide +kernel
theorem d_Beams_cutRun_52 : decode prog_2_method_6_code 52 = .ok (.aload_n 0, 1) := by decide +kernel
theorem d_Beams_cutRun_53 : decode prog_2_method_6_code 53 = .ok (.getfield 15, 3) := by decide +kernel
theorem d_Beams_cutRun_56 : decode prog_2_method_6_code 56 = .ok (.iload 7, 2) := by decide +kernel
theorem d_Beams_cutRun_58 : decode prog_2_method_6_code 58 = .ok (.iconst 1, 1) := by decide +kernel
theorem d_Beams_cutRun_59 : decode prog_2_method_6_code 59 = .ok (.iadd, 1) := by decide +kernel
theorem d_Beams_cutRun_60 : decode prog_2_method_6_code 60 = .ok (.iaload, 1) := by decide +kernel
theorem d_Beams_cutRun_61 : decode prog_2_method_6_code 61 = .ok (.iadd, 1) := by decide +kernel
theorem d_Beams_cutRun_62 : decode prog_2_method_6_code 62 = .ok (.iastore, 1) := by decide +kernel
theorem d_Beams_cutRun_63 : decode prog_2_method_6_code 63 = .ok (.iconst 1, 1) := by decide +kernel
theorem d_Beams_cutRun_64 : decode prog_2_method_6_code 64 = .ok (.istore 8, 2) := by decide +kernel
theorem d_Beams_cutRun_66 : decode prog_2_method_6_code 66 = .ok (.iconst 2, 1) := by decide +kernel
theorem d_Beams_cutRun_67 : decode prog_2_method_6_code 67 = .ok (.istore 9, 2) := by decide +kernel
theorem d_Beams_cutRun_69 : decode prog_2_method_6_code 69 = .ok (.iload 9, 2) := by decide +kernel
theorem d_Beams_cutRun_71 : decode prog_2_method_6_code 71 = .ok (.bipush 6, 2) := by decide +kernel
theorem d_Beams_cutRun_73 : decode prog_2_method_6_code 73 = .ok (.if_icmp .gt 92, 3) := by decide +kernel
theorem d_Beams_cutRun_76 : decode prog_2_method_6_code 76 = .ok (.iload 7, 2) := by decide +kernel
theorem d_Beams_cutRun_78 : decode prog_2_method_6_code 78 = .ok (.iload 9, 2) := by decide +kernel
theorem d_Beams_cutRun_80 : decode prog_2_method_6_code 80 = .ok (.iadd, 1) := by decide +kernel
theorem d_Beams_cutRun_81 : decode prog_2_method_6_code 81 = .ok (.iload 6, 2) := by decide +kernel
theorem d_Beams_cutRun_83 : decode prog_2_method_6_code 83 = .ok (.if_icmp .gt 82, 3) := by decide +kernel
theorem d_Beams_cutRun_165 : decode prog_2_method_6_code 165 = .ok (.iinc 7 (-1), 3) := by decide +kernel
theorem d_Beams_cutRun_168 : decode prog_2_method_6_code 168 = .ok (.goto (-136), 3) := by decide +kernel
theorem d_Beams_cutRun_86 : decode prog_2_method_6_code 86 = .ok (.iload 8, 2) := by decide +kernel
theorem d_Beams_cutRun_88 : decode prog_2_method_6_code 88 = .ok (.aload_n 1, 1) := by decide +kernel
theorem d_Beams_cutRun_89 : decode prog_2_method_6_code 89 = .ok (.iload_n 2, 1) := by decide +kernel
theorem d_Beams_cutRun_90 : decode prog_2_method_6_code 90 = .ok (.iload_n 3, 1) := by decide +kernel
theorem d_Beams_cutRun_91 : decode prog_2_method_6_code 91 = .ok (.iload 7, 2) := by decide +kernel
theorem d_Beams_cutRun_93 : decode prog_2_method_6_code 93 = .ok (.iadd, 1) := by decide +kernel
theorem d_Beams_cutRun_94 : decode prog_2_method_6_code 94 = .ok (.iload 9, 2) := by decide +kernel
theorem d_Beams_cutRun_96 : decode prog_2_method_6_code 96 = .ok (.iadd, 1) := by decide +kernel
theorem d_Beams_cutRun_97 : decode prog_2_method_6_code 97 = .ok (.iconst 1, 1) := by decide +kernel
theorem d_Beams_cutRun_98 : decode prog_2_method_6_code 98 = .ok (.isub, 1) := by decide +kernel
theorem d_Beams_cutRun_99 : decode prog_2_method_6_code 99 = .ok (.iload 5, 2) := by decide +kernel
theorem d_Beams_cutRun_101 : decode prog_2_method_6_code 101 = .ok (.invokestatic 48, 3) := by decide +kernel
theorem k_Beams_joinCost : mt_OK m_Beams_joinCost 4 0 := ⟨(gw_in 1190 (by decide +kernel) (by decide +kernel)), (gw_in 141 (by decide +kernel) (by decide +kernel)), ⟨by decide +kernel, by decide +kernel, by decide +kernel⟩, fun _ => (gw_in 1189 (by decide +kernel) (by decide +kernel)), fun h => absurd h (by decide), fun h => absurd h (by decide)⟩
theorem l_Beams_48 : ml_OK "PlainMusic$Beams" 48 ⟨"PlainMusic$Beams", "joinCost", "(LPlainMusic$Voice;III)I"⟩ := Or.inl (gw_in 1188 (by decide +kernel) (by decide +kernel))
theorem d_Beams_cutRun_104 : decode prog_2_method_6_code 104 = .ok (.iadd, 1) := by decide +kernel
theorem d_Beams_cutRun_105 : decode prog_2_method_6_code 105 = .ok (.istore 8, 2) := by decide +kernel
theorem d_Beams_cutRun_107 : decode prog_2_method_6_code 107 = .ok (.iload 8, 2) := by decide +kernel
theorem d_Beams_cutRun_109 : decode prog_2_method_6_code 109 = .ok (.aload_n 0, 1) := by decide +kernel
theorem d_Beams_cutRun_110 : decode prog_2_method_6_code 110 = .ok (.getfield 15, 3) := by decide +kernel
theorem d_Beams_cutRun_113 : decode prog_2_method_6_code 113 = .ok (.iload 7, 2) := by decide +kernel
theorem d_Beams_cutRun_115 : decode prog_2_method_6_code 115 = .ok (.iload 9, 2) := by decide +kernel
theorem d_Beams_cutRun_117 : decode prog_2_method_6_code 117 = .ok (.iadd, 1) := by decide +kernel
theorem d_Beams_cutRun_118 : decode prog_2_method_6_code 118 = .ok (.iaload, 1) := by decide +kernel
theorem d_Beams_cutRun_119 : decode prog_2_method_6_code 119 = .ok (.iadd, 1) := by decide +kernel
theorem d_Beams_cutRun_120 : decode prog_2_method_6_code 120 = .ok (.aload_n 0, 1) := by decide +kernel
theorem d_Beams_cutRun_121 : decode prog_2_method_6_code 121 = .ok (.getfield 15, 3) := by decide +kernel
theorem d_Beams_cutRun_124 : decode prog_2_method_6_code 124 = .ok (.iload 7, 2) := by decide +kernel
theorem d_Beams_cutRun_126 : decode prog_2_method_6_code 126 = .ok (.iaload, 1) := by decide +kernel
theorem d_Beams_cutRun_127 : decode prog_2_method_6_code 127 = .ok (.if_icmp .gt 32, 3) := by decide +kernel
theorem d_Beams_cutRun_159 : decode prog_2_method_6_code 159 = .ok (.iinc 9 1, 3) := by decide +kernel
theorem d_Beams_cutRun_162 : decode prog_2_method_6_code 162 = .ok (.goto (-93), 3) := by decide +kernel
theorem d_Beams_cutRun_130 : decode prog_2_method_6_code 130 = .ok (.aload_n 0, 1) := by decide +kernel
theorem d_Beams_cutRun_131 : decode prog_2_method_6_code 131 = .ok (.getfield 18, 3) := by decide +kernel
theorem d_Beams_cutRun_134 : decode prog_2_method_6_code 134 = .ok (.iload 7, 2) := by decide +kernel
theorem d_Beams_cutRun_136 : decode prog_2_method_6_code 136 = .ok (.iload 9, 2) := by decide +kernel
theorem d_Beams_cutRun_138 : decode prog_2_method_6_code 138 = .ok (.iastore, 1) := by decide +kernel
theorem d_Beams_cutRun_139 : decode prog_2_method_6_code 139 = .ok (.aload_n 0, 1) := by decide +kernel
theorem d_Beams_cutRun_140 : decode prog_2_method_6_code 140 = .ok (.getfield 15, 3) := by decide +kernel
theorem d_Beams_cutRun_143 : decode prog_2_method_6_code 143 = .ok (.iload 7, 2) := by decide +kernel
theorem d_Beams_cutRun_145 : decode prog_2_method_6_code 145 = .ok (.iload 8, 2) := by decide +kernel
theorem d_Beams_cutRun_147 : decode prog_2_method_6_code 147 = .ok (.aload_n 0, 1) := by decide +kernel
theorem d_Beams_cutRun_148 : decode prog_2_method_6_code 148 = .ok (.getfield 15, 3) := by decide +kernel
theorem d_Beams_cutRun_151 : decode prog_2_method_6_code 151 = .ok (.iload 7, 2) := by decide +kernel
theorem d_Beams_cutRun_153 : decode prog_2_method_6_code 153 = .ok (.iload 9, 2) := by decide +kernel
theorem d_Beams_cutRun_155 : decode prog_2_method_6_code 155 = .ok (.iadd, 1) := by decide +kernel
theorem d_Beams_cutRun_156 : decode prog_2_method_6_code 156 = .ok (.iaload, 1) := by decide +kernel
theorem d_Beams_cutRun_157 : decode prog_2_method_6_code 157 = .ok (.iadd, 1) := by decide +kernel
theorem d_Beams_cutRun_158 : decode prog_2_method_6_code 158 = .ok (.iastore, 1) := by decide +kernel
theorem d_Beams_cutRun_171 : decode prog_2_method_6_code 171 = .ok (.iconst 0, 1) := by decide +kernel
theorem d_Beams_cutRun_172 : decode prog_2_method_6_code 172 = .ok (.istore 7, 2) := by decide +kernel
theorem d_Beams_cutRun_174 : decode prog_2_method_6_code 174 = .ok (.iload 7, 2) := by decide +kernel
theorem d_Beams_cutRun_176 : decode prog_2_method_6_code 176 = .ok (.iload 6, 2) := by decide +kernel
theorem d_Beams_cutRun_178 : decode prog_2_method_6_code 178 = .ok (.if_icmp .ge 56, 3) := by decide +kernel
theorem d_Beams_cutRun_181 : decode prog_2_method_6_code 181 = .ok (.aload_n 0, 1) := by decide +kernel
theorem d_Beams_cutRun_182 : decode prog_2_method_6_code 182 = .ok (.getfield 21, 3) := by decide +kernel
theorem d_Beams_cutRun_185 : decode prog_2_method_6_code 185 = .ok (.aload_n 0, 1) := by decide +kernel
theorem d_Beams_cutRun_186 : decode prog_2_method_6_code 186 = .ok (.getfield 11, 3) := by decide +kernel
theorem d_Beams_cutRun_189 : decode prog_2_method_6_code 189 = .ok (.arraylength, 1) := by decide +kernel
theorem d_Beams_cutRun_190 : decode prog_2_method_6_code 190 = .ok (.if_icmp .ge 44, 3) := by decide +kernel
theorem d_Beams_cutRun_234 : decode prog_2_method_6_code 234 = .ok (.aload_n 0, 1) := by decide +kernel
theorem d_Beams_cutRun_235 : decode prog_2_method_6_code 235 = .ok (.getfield 15, 3) := by decide +kernel
theorem d_Beams_cutRun_238 : decode prog_2_method_6_code 238 = .ok (.iconst 0, 1) := by decide +kernel
theorem d_Beams_cutRun_239 : decode prog_2_method_6_code 239 = .ok (.iaload, 1) := by decide +kernel
theorem d_Beams_cutRun_240 : decode prog_2_method_6_code 240 = .ok (.ireturn, 1) := by decide +kernel
theorem d_Beams_cutRun_193 : decode prog_2_method_6_code 193 = .ok (.aload_n 0, 1) := by decide +kernel
theorem d_Beams_cutRun_194 : decode prog_2_method_6_code 194 = .ok (.getfield 11, 3) := by decide +kernel
theorem d_Beams_cutRun_197 : decode prog_2_method_6_code 197 = .ok (.aload_n 0, 1) := by decide +kernel
theorem d_Beams_cutRun_198 : decode prog_2_method_6_code 198 = .ok (.getfield 21, 3) := by decide +kernel
theorem d_Beams_cutRun_201 : decode prog_2_method_6_code 201 = .ok (.aload_n 0, 1) := by decide +kernel
theorem d_Beams_cutRun_202 : decode prog_2_method_6_code 202 = .ok (.getfield 18, 3) := by decide +kernel
theorem d_Beams_cutRun_205 : decode prog_2_method_6_code 205 = .ok (.iload 7, 2) := by decide +kernel
theorem d_Beams_cutRun_207 : decode prog_2_method_6_code 207 = .ok (.iaload, 1) := by decide +kernel
theorem d_Beams_cutRun_208 : decode prog_2_method_6_code 208 = .ok (.iastore, 1) := by decide +kernel
theorem d_Beams_cutRun_209 : decode prog_2_method_6_code 209 = .ok (.aload_n 0, 1) := by decide +kernel
theorem d_Beams_cutRun_210 : decode prog_2_method_6_code 210 = .ok (.dup, 1) := by decide +kernel
theorem d_Beams_cutRun_211 : decode prog_2_method_6_code 211 = .ok (.getfield 21, 3) := by decide +kernel
theorem d_Beams_cutRun_214 : decode prog_2_method_6_code 214 = .ok (.iconst 1, 1) := by decide +kernel
theorem d_Beams_cutRun_215 : decode prog_2_method_6_code 215 = .ok (.iadd, 1) := by decide +kernel
theorem d_Beams_cutRun_216 : decode prog_2_method_6_code 216 = .ok (.putfield 21, 3) := by decide +kernel
theorem d_Beams_cutRun_219 : decode prog_2_method_6_code 219 = .ok (.iload 7, 2) := by decide +kernel
theorem d_Beams_cutRun_221 : decode prog_2_method_6_code 221 = .ok (.aload_n 0, 1) := by decide +kernel
theorem d_Beams_cutRun_222 : decode prog_2_method_6_code 222 = .ok (.getfield 18, 3) := by decide +kernel
theorem d_Beams_cutRun_225 : decode prog_2_method_6_code 225 = .ok (.iload 7, 2) := by decide +kernel
theorem d_Beams_cutRun_227 : decode prog_2_method_6_code 227 = .ok (.iaload, 1) := by decide +kernel
theorem d_Beams_cutRun_228 : decode prog_2_method_6_code 228 = .ok (.iadd, 1) := by decide +kernel
theorem d_Beams_cutRun_229 : decode prog_2_method_6_code 229 = .ok (.istore 7, 2) := by decide +kernel
theorem d_Beams_cutRun_231 : decode prog_2_method_6_code 231 = .ok (.goto (-57), 3) := by decide +kernel
theorem d_Beams_cutRun_16 : decode prog_2_method_6_code 16 = .ok (.iconst 0, 1) := by decide +kernel
theorem d_Beams_cutRun_17 : decode prog_2_method_6_code 17 = .ok (.ireturn, 1) := by decide +kernel
def m_Beams_find : mr_T := (⟨"PlainMusic$Beams", "find", "(LPlainMusic$Voice;II)I"⟩, prog_2_method_4_code, 9, some .int)
theorem d_Beams_find_0 : decode prog_2_method_4_code 0 = .ok (.aload_n 1, 1) := by decide +kernel
theorem d_Beams_find_1 : decode prog_2_method_4_code 1 = .ok (.getfield 25, 3) := by decide +kernel
theorem f_Beams_25 : fl_OK "PlainMusic$Beams" 25 10 15 (.array .int) true := ⟨_, rfl, by decide, (gw_in 306 (by decide +kernel) (by decide +kernel)), rfl, rfl⟩
theorem d_Beams_find_4 : decode prog_2_method_4_code 4 = .ok (.iload_n 2, 1) := by decide +kernel
theorem d_Beams_find_5 : decode prog_2_method_4_code 5 = .ok (.iaload, 1) := by decide +kernel
theorem d_Beams_find_6 : decode prog_2_method_4_code 6 = .ok (.istore 4, 2) := by decide +kernel
theorem d_Beams_find_8 : decode prog_2_method_4_code 8 = .ok (.aload_n 1, 1) := by decide +kernel
theorem d_Beams_find_9 : decode prog_2_method_4_code 9 = .ok (.getfield 25, 3) := by decide +kernel
theorem d_Beams_find_12 : decode prog_2_method_4_code 12 = .ok (.iload_n 2, 1) := by decide +kernel
theorem d_Beams_find_13 : decode prog_2_method_4_code 13 = .ok (.iconst 1, 1) := by decide +kernel
theorem d_Beams_find_14 : decode prog_2_method_4_code 14 = .ok (.iadd, 1) := by decide +kernel
theorem d_Beams_find_15 : decode prog_2_method_4_code 15 = .ok (.iaload, 1) := by decide +kernel
theorem d_Beams_find_16 : decode prog_2_method_4_code 16 = .ok (.istore 5, 2) := by decide +kernel
theorem d_Beams_find_18 : decode prog_2_method_4_code 18 = .ok (.aload_n 1, 1) := by decide +kernel
theorem d_Beams_find_19 : decode prog_2_method_4_code 19 = .ok (.iload 4, 2) := by decide +kernel
theorem d_Beams_find_21 : decode prog_2_method_4_code 21 = .ok (.iload 5, 2) := by decide +kernel
theorem d_Beams_find_23 : decode prog_2_method_4_code 23 = .ok (.invokestatic 30, 3) := by decide +kernel
theorem k_Beams_shortOnes : mt_OK m_Beams_shortOnes 3 0 := ⟨(gw_in 1177 (by decide +kernel) (by decide +kernel)), (gw_in 141 (by decide +kernel) (by decide +kernel)), ⟨by decide +kernel, by decide +kernel, by decide +kernel⟩, fun _ => (gw_in 1176 (by decide +kernel) (by decide +kernel)), fun h => absurd h (by decide), fun h => absurd h (by decide)⟩
theorem l_Beams_30 : ml_OK "PlainMusic$Beams" 30 ⟨"PlainMusic$Beams", "shortOnes", "(LPlainMusic$Voice;II)I"⟩ := Or.inl (gw_in 1175 (by decide +kernel) (by decide +kernel))
theorem d_Beams_find_26 : decode prog_2_method_4_code 26 = .ok (.bipush 14, 2) := by decide +kernel
theorem d_Beams_find_28 : decode prog_2_method_4_code 28 = .ok (.if_icmp .le 6, 3) := by decide +kernel
theorem d_Beams_find_34 : decode prog_2_method_4_code 34 = .ok (.aload_n 0, 1) := by decide +kernel
theorem d_Beams_find_35 : decode prog_2_method_4_code 35 = .ok (.iconst 0, 1) := by decide +kernel
theorem d_Beams_find_36 : decode prog_2_method_4_code 36 = .ok (.putfield 21, 3) := by decide +kernel
theorem d_Beams_find_39 : decode prog_2_method_4_code 39 = .ok (.iconst 0, 1) := by decide +kernel
theorem d_Beams_find_40 : decode prog_2_method_4_code 40 = .ok (.istore 6, 2) := by decide +kernel
theorem d_Beams_find_42 : decode prog_2_method_4_code 42 = .ok (.iload 4, 2) := by decide +kernel
theorem d_Beams_find_44 : decode prog_2_method_4_code 44 = .ok (.istore 7, 2) := by decide +kernel
theorem d_Beams_find_46 : decode prog_2_method_4_code 46 = .ok (.iload 4, 2) := by decide +kernel
theorem d_Beams_find_48 : decode prog_2_method_4_code 48 = .ok (.istore 8, 2) := by decide +kernel
theorem d_Beams_find_50 : decode prog_2_method_4_code 50 = .ok (.iload 8, 2) := by decide +kernel
theorem d_Beams_find_52 : decode prog_2_method_4_code 52 = .ok (.iload 5, 2) := by decide +kernel
theorem d_Beams_find_54 : decode prog_2_method_4_code 54 = .ok (.if_icmp .gt 47, 3) := by decide +kernel
theorem d_Beams_find_101 : decode prog_2_method_4_code 101 = .ok (.iload 6, 2) := by decide +kernel
theorem d_Beams_find_103 : decode prog_2_method_4_code 103 = .ok (.ireturn, 1) := by decide +kernel
theorem d_Beams_find_57 : decode prog_2_method_4_code 57 = .ok (.iload 8, 2) := by decide +kernel
theorem d_Beams_find_59 : decode prog_2_method_4_code 59 = .ok (.iload 5, 2) := by decide +kernel
theorem d_Beams_find_61 : decode prog_2_method_4_code 61 = .ok (.if_icmp .eq 12, 3) := by decide +kernel
theorem d_Beams_find_73 : decode prog_2_method_4_code 73 = .ok (.iload 6, 2) := by decide +kernel
theorem d_Beams_find_75 : decode prog_2_method_4_code 75 = .ok (.aload_n 0, 1) := by decide +kernel
theorem d_Beams_find_76 : decode prog_2_method_4_code 76 = .ok (.aload_n 1, 1) := by decide +kernel
theorem d_Beams_find_77 : decode prog_2_method_4_code 77 = .ok (.iload_n 2, 1) := by decide +kernel
theorem d_Beams_find_78 : decode prog_2_method_4_code 78 = .ok (.iload 7, 2) := by decide +kernel
theorem d_Beams_find_80 : decode prog_2_method_4_code 80 = .ok (.iload 8, 2) := by decide +kernel
theorem d_Beams_find_82 : decode prog_2_method_4_code 82 = .ok (.iload_n 3, 1) := by decide +kernel
theorem d_Beams_find_83 : decode prog_2_method_4_code 83 = .ok (.invokevirtual 38, 3) := by decide +kernel
theorem k_Beams_cutRun : mt_OK m_Beams_cutRun 5 1 := ⟨(gw_in 1186 (by decide +kernel) (by decide +kernel)), (gw_in 141 (by decide +kernel) (by decide +kernel)), ⟨by decide +kernel, by decide +kernel, by decide +kernel⟩, fun h => absurd h (by decide), fun _ => ⟨(gw_in 1185 (by decide +kernel) (by decide +kernel)), (gw_in 33 (by decide +kernel) (by decide +kernel))⟩, fun h => absurd h (by decide)⟩
theorem l_Beams_38 : ml_OK "PlainMusic$Beams" 38 ⟨"PlainMusic$Beams", "cutRun", "(LPlainMusic$Voice;IIII)I"⟩ := Or.inl (gw_in 1183 (by decide +kernel) (by decide +kernel))
theorem d_Beams_find_86 : decode prog_2_method_4_code 86 = .ok (.iadd, 1) := by decide +kernel
theorem d_Beams_find_87 : decode prog_2_method_4_code 87 = .ok (.istore 6, 2) := by decide +kernel
theorem d_Beams_find_89 : decode prog_2_method_4_code 89 = .ok (.iload 8, 2) := by decide +kernel
theorem d_Beams_find_91 : decode prog_2_method_4_code 91 = .ok (.iconst 1, 1) := by decide +kernel
theorem d_Beams_find_92 : decode prog_2_method_4_code 92 = .ok (.iadd, 1) := by decide +kernel
theorem d_Beams_find_93 : decode prog_2_method_4_code 93 = .ok (.istore 7, 2) := by decide +kernel
theorem d_Beams_find_95 : decode prog_2_method_4_code 95 = .ok (.iinc 8 1, 3) := by decide +kernel
theorem d_Beams_find_98 : decode prog_2_method_4_code 98 = .ok (.goto (-48), 3) := by decide +kernel
theorem d_Beams_find_64 : decode prog_2_method_4_code 64 = .ok (.aload_n 1, 1) := by decide +kernel
theorem d_Beams_find_65 : decode prog_2_method_4_code 65 = .ok (.iload 8, 2) := by decide +kernel
theorem d_Beams_find_67 : decode prog_2_method_4_code 67 = .ok (.invokevirtual 34, 3) := by decide +kernel
theorem d_Beams_find_70 : decode prog_2_method_4_code 70 = .ok (.ifCond .ne 25, 3) := by decide +kernel
theorem d_Beams_find_31 : decode prog_2_method_4_code 31 = .ok (.bipush (-4), 2) := by decide +kernel
theorem d_Beams_find_33 : decode prog_2_method_4_code 33 = .ok (.ireturn, 1) := by decide +kernel
theorem s_Beams_forget {G : cx_T} {s : Nat} {h : ah_T} (hx : xi s h)   : con G 0 0 0 m_Beams_forget [av_R (some 146)] h (fun r h' => r = none ∧ kF FC s h h') := by
  refine con_of (L := [some (av_R (some 146))]) (by decide +kernel) (Nat.le_of_ble_eq_true rfl) rfl ?_
  have hS : isS s := hx.2.1
  have hs0 : s = 17 ∨ s = 80 := hS
  have k0 : kF FC s h h := kF_0 hx
  refine A_aload_n 0 d_Beams_forget_0 rfl rfl ?_
  refine A_iconst d_Beams_forget_1 rfl ?_
  refine A_putIk (KR := kF FC s h) T_ok d_Beams_forget_2 f_Beams_21 (xi_s k0.1 sf_146) fin_f (kF_j k0 (by decide) (ns_b rfl) rgf_146_1 (by omega) (by omega)) (fun h1 k2 eh1 => ?_)
  exact A_vret d_Beams_forget_5 (by decide) rfl ⟨rfl, k2⟩
theorem s_Beams_eventsIn {G : cx_T} {s : Nat} {h : ah_T} (hx : xi s h) {a1 : Int}  : con G 0 0 0 m_Beams_eventsIn [av_R (some 146), av_I a1] h (fun r h' => ∃ z, r = some (av_I z) ∧ ((-2147483648) ≤ z ∧ z ≤ 2147483647) ∧ h = h') := by
  refine con_of (L := [some (av_R (some 146)), some (av_I a1)]) (by decide +kernel) (Nat.le_of_ble_eq_true rfl) rfl ?_
  have hS : isS s := hx.2.1
  have hs0 : s = 17 ∨ s = 80 := hS
  refine A_locI 1 rfl (fun ra => ?_)
  obtain ⟨_, _⟩ := ra
  refine A_iload_n 1 d_Beams_eventsIn_0 rfl rfl ?_
  refine A_if_lt (tgt := 30) d_Beams_eventsIn_1 (by decide) (fun c1 => ?_) (fun c1 => ?_)
  · refine A_iconst d_Beams_eventsIn_30 rfl ?_
    exact A_iret d_Beams_eventsIn_31 (by decide) rfl ⟨_, rfl, ⟨by omega, by omega⟩, rfl⟩
  · refine A_iload_n 1 d_Beams_eventsIn_4 rfl rfl ?_
    refine A_aload_n 0 d_Beams_eventsIn_5 rfl rfl ?_
    refine A_getIn (lo := 0) (hi := 14) T_ok d_Beams_eventsIn_6 f_Beams_21 (xi_s hx sf_146) (xi_g hx (by decide) rgf_146_1) (fun x2 ex2 _ _ => ?_)
    refine A_icmp_ge (tgt := 30) d_Beams_eventsIn_9 (by decide) (fun c3 => ?_) (fun c3 => ?_)
    · refine A_iconst d_Beams_eventsIn_30 rfl ?_
      exact A_iret d_Beams_eventsIn_31 (by decide) rfl ⟨_, rfl, ⟨by omega, by omega⟩, rfl⟩
    · refine A_iload_n 1 d_Beams_eventsIn_12 rfl rfl ?_
      refine A_aload_n 0 d_Beams_eventsIn_13 rfl rfl ?_
      refine A_getAv (z := some 147) T_ok d_Beams_eventsIn_14 f_Beams_11 (xi_s hx sf_146) (xi_r hx rff_146_0) ?_
      refine A_alenN d_Beams_eventsIn_17 (xi_s hx sf_147) (by decide) (by decide) ?_
      refine A_icmp_ge (tgt := 30) d_Beams_eventsIn_18 (by decide) (fun c => False.elim (by omega)) (fun c5 => ?_)
      refine A_aload_n 0 d_Beams_eventsIn_21 rfl rfl ?_
      refine A_getAv (z := some 147) T_ok d_Beams_eventsIn_22 f_Beams_11 (xi_s hx sf_146) (xi_r hx rff_146_0) ?_
      refine A_iload_n 1 d_Beams_eventsIn_25 rfl rfl ?_
      refine A_ialoadf d_Beams_eventsIn_26 (xi_s hx sf_147) (by omega) (by omega) (fun x7 ex7 _ _ => ?_)
      refine A_goto (tgt := 31) d_Beams_eventsIn_27 (by decide) ?_
      exact A_iret d_Beams_eventsIn_31 (by decide) rfl ⟨_, rfl, ⟨by omega, by omega⟩, rfl⟩
theorem s_Beams_shortOnes {G : cx_T} {s : Nat} {h : ah_T} (hx : xi s h) {a0 : Nat} {a1 : Int} {a2 : Int} (ha0 : isV a0) (la1 : 0 ≤ a1) (ua1 : a1 ≤ 300) (la2 : 0 ≤ a2) (ua2 : a2 ≤ 300) : con G 3 0 0 m_Beams_shortOnes [av_R (some a0), av_I a1, av_I a2] h (fun r h' => ∃ z, r = some (av_I z) ∧ ((-2147483648) ≤ z ∧ z ≤ 2147483647) ∧ h = h') := by
  refine con_of (L := [some (av_R (some a0)), some (av_I a1), some (av_I a2), none, none]) (by decide +kernel) (Nat.le_of_ble_eq_true rfl) rfl ?_
  have hS : isS s := hx.2.1
  have hs0 : s = 17 ∨ s = 80 := hS
  have ga0 := lt_V ha0
  refine A_iconst d_Beams_shortOnes_0 rfl ?_
  refine A_istore_n 3 (L' := [some (av_R (some a0)), some (av_I a1), some (av_I a2), some (av_I 0), none]) d_Beams_shortOnes_1 rfl (Nat.le_of_ble_eq_true rfl) rfl ?_
  refine A_iload_n 1 d_Beams_shortOnes_2 rfl rfl ?_
  refine A_istore (L' := [some (av_R (some a0)), some (av_I a1), some (av_I a2), some (av_I 0), some (av_I a1)]) d_Beams_shortOnes_3 (Nat.le_of_ble_eq_true rfl) rfl ?_
  have lp5 : ∀ (n : Nat) (i1 i2 : Int) , (-2147483648) ≤ i1 → i1 ≤ 2147483647 → 0 ≤ i2 → i2 ≤ 300 → (301 - i2).toNat < n → aw G (rm_R 3 0 0) m_Beams_shortOnes 0 0 5 [some (av_R (some a0)), some (av_I a1), some (av_I a2), some (av_I i1), some (av_I i2)] [] h (fun r h' => ∃ z, r = some (av_I z) ∧ ((-2147483648) ≤ z ∧ z ≤ 2147483647) ∧ h = h') := by
    intro n
    induction n with
    | zero => intro i1 i2 _ _ _ _ hm; omega
    | succ n ih5 =>
      intro i1 i2 hl0 hl1 hl2 hl3 hm
      refine A_iload d_Beams_shortOnes_5 rfl ?_
      refine A_iload_n 2 d_Beams_shortOnes_7 rfl rfl ?_
      refine A_icmp_ge (tgt := 34) d_Beams_shortOnes_8 (by decide) (fun c3 => ?_) (fun c3 => ?_)
      · refine A_iload_n 3 d_Beams_shortOnes_34 rfl rfl ?_
        exact A_iret d_Beams_shortOnes_35 (by decide) rfl ⟨_, rfl, ⟨by omega, by omega⟩, rfl⟩
      · refine A_iload_n 3 d_Beams_shortOnes_11 rfl rfl ?_
        refine A_aload_n 0 d_Beams_shortOnes_12 rfl rfl ?_
        refine A_iload d_Beams_shortOnes_13 rfl ?_
        refine A_callV1 m_Voice_isShort T_ok d_Beams_shortOnes_15 l_Beams_34 k_Voice_isShort (xs_V hx ha0) rfl (by decide +kernel) (by decide) (Nat.le_of_ble_eq_true rfl) (s_Voice_isShort hx ha0 (by omega) (by omega)) (fun r h4 hq => ?_)
        obtain ⟨x6, rfl, bx6, rfl⟩ := hq
        refine A_if_eq (tgt := 25) d_Beams_shortOnes_18 (by decide) (fun c7 => ?_) (fun c7 => ?_)
        · refine A_iconst d_Beams_shortOnes_25 rfl ?_
          refine A_iaddv (z := i1) d_Beams_shortOnes_26 (w32_to (by omega) (by unfold i32; omega)) ?_
          refine A_istore_n 3 (L' := [some (av_R (some a0)), some (av_I a1), some (av_I a2), some (av_I i1), some (av_I i2)]) d_Beams_shortOnes_27 rfl (Nat.le_of_ble_eq_true rfl) rfl ?_
          refine A_iincv (z := (i2 + 1)) (L' := [some (av_R (some a0)), some (av_I a1), some (av_I a2), some (av_I i1), some (av_I (i2 + 1))]) d_Beams_shortOnes_28 rfl (w32_to (by omega) (by unfold i32; omega)) rfl ?_
          refine A_goto (tgt := 5) d_Beams_shortOnes_31 (by decide) ?_
          exact ih5 i1 (i2 + 1) (by omega) (by omega) (by omega) (by omega) (by omega)
        · refine A_iconst d_Beams_shortOnes_21 rfl ?_
          refine A_goto (tgt := 26) d_Beams_shortOnes_22 (by decide) ?_
          refine A_iaddw d_Beams_shortOnes_26 (fun x8 _ _ _ => ?_)
          refine A_istore_n 3 (L' := [some (av_R (some a0)), some (av_I a1), some (av_I a2), some (av_I x8), some (av_I i2)]) d_Beams_shortOnes_27 rfl (Nat.le_of_ble_eq_true rfl) rfl ?_
          refine A_iincv (z := (i2 + 1)) (L' := [some (av_R (some a0)), some (av_I a1), some (av_I a2), some (av_I x8), some (av_I (i2 + 1))]) d_Beams_shortOnes_28 rfl (w32_to (by omega) (by unfold i32; omega)) rfl ?_
          refine A_goto (tgt := 5) d_Beams_shortOnes_31 (by decide) ?_
          exact ih5 x8 (i2 + 1) (by omega) (by omega) (by omega) (by omega) (by omega)
  exact lp5 _ 0 a1 (by omega) (by omega) (by omega) (by omega) (Nat.lt_succ_self _)
theorem s_Beams_joinCost {G : cx_T} {s : Nat} {h : ah_T} (hx : xi s h) {a0 : Nat} {a1 : Int} {a2 : Int} {a3 : Int} (ha0 : isV a0) (la1 : 0 ≤ a1) (ua1 : a1 ≤ 100) (la2 : 1 ≤ a2) (ua2 : a2 ≤ 299) : con G 1 0 0 m_Beams_joinCost [av_R (some a0), av_I a1, av_I a2, av_I a3] h (fun r h' => ∃ z, r = some (av_I z) ∧ ((-2147483648) ≤ z ∧ z ≤ 2147483647) ∧ h = h') := by
  refine con_of (L := [some (av_R (some a0)), some (av_I a1), some (av_I a2), some (av_I a3), none, none, none, none]) (by decide +kernel) (Nat.le_of_ble_eq_true rfl) rfl ?_
  have hS : isS s := hx.2.1
  have hs0 : s = 17 ∨ s = 80 := hS
  have ga0 := lt_V ha0
  refine A_locI 3 rfl (fun ra => ?_)
  obtain ⟨_, _⟩ := ra
  refine A_iconst d_Beams_joinCost_0 rfl ?_
  refine A_istore (L' := [some (av_R (some a0)), some (av_I a1), some (av_I a2), some (av_I a3), some (av_I 0), none, none, none]) d_Beams_joinCost_1 (Nat.le_of_ble_eq_true rfl) rfl ?_
  refine A_aload_n 0 d_Beams_joinCost_3 rfl rfl ?_
  refine A_iload_n 1 d_Beams_joinCost_4 rfl rfl ?_
  refine A_iload_n 2 d_Beams_joinCost_5 rfl rfl ?_
  refine A_pc (pc' := 6) rfl ?_
  refine A_callV2 m_Voice_sinceBarBottom T_ok d_Beams_joinCost_6 l_Beams_52 k_Voice_sinceBarBottom (xs_V hx ha0) rfl (by decide +kernel) (by decide) (Nat.le_of_ble_eq_true rfl) (s_Voice_sinceBarBottom hx ha0 (by omega) (by omega) (by omega) (by omega)) (fun r h1 hq => ?_)
  obtain ⟨x3, rfl, ⟨_, _⟩, rfl⟩ := hq
  refine A_lstore (L' := [some (av_R (some a0)), some (av_I a1), some (av_I a2), some (av_I a3), some (av_I 0), some (av_L x3), none, none]) d_Beams_joinCost_9 (Nat.le_of_ble_eq_true rfl) rfl ?_
  refine A_lload d_Beams_joinCost_11 rfl ?_
  refine A_lconst_0 d_Beams_joinCost_13 ?_
  refine A_lcmpn d_Beams_joinCost_14 (fun x4 lx4 ex4 gx4 _ _ => ?_)
  have jp38 : ∀ (j5 : Int) , 0 ≤ j5 → j5 ≤ 2 → aw G (rm_R 1 0 0) m_Beams_joinCost 0 0 38 [some (av_R (some a0)), some (av_I a1), some (av_I a2), some (av_I a3), some (av_I j5), some (av_L x3), none, none] [] h (fun r h' => ∃ z, r = some (av_I z) ∧ ((-2147483648) ≤ z ∧ z ≤ 2147483647) ∧ h = h') := by
    intro j5  _ _ 
    refine A_aload_n 0 d_Beams_joinCost_38 rfl rfl ?_
    refine A_iload_n 2 d_Beams_joinCost_39 rfl rfl ?_
    refine A_callV1 m_Voice_numberOf T_ok d_Beams_joinCost_40 l_Beams_59 k_Voice_numberOf (xs_V hx ha0) rfl (by decide +kernel) (by decide) (Nat.le_of_ble_eq_true rfl) (s_Voice_numberOf hx ha0 (by omega) (by omega)) (fun r h6 hq => ?_)
    obtain ⟨x8, rfl, ⟨_, _⟩, rfl⟩ := hq
    refine A_aload_n 0 d_Beams_joinCost_43 rfl rfl ?_
    refine A_iload_n 2 d_Beams_joinCost_44 rfl rfl ?_
    refine A_iconst d_Beams_joinCost_45 rfl ?_
    refine A_isubv (z := (a2 - 1)) d_Beams_joinCost_46 (w32_to (by omega) (by unfold i32; omega)) ?_
    refine A_callV1 m_Voice_numberOf T_ok d_Beams_joinCost_47 l_Beams_59 k_Voice_numberOf (xs_V hx ha0) rfl (by decide +kernel) (by decide) (Nat.le_of_ble_eq_true rfl) (s_Voice_numberOf hx ha0 (by omega) (by omega)) (fun r h9 hq => ?_)
    obtain ⟨x11, rfl, ⟨_, _⟩, rfl⟩ := hq
    have jp56 : ∀ (j12 : Int) , 0 ≤ j12 → j12 ≤ 3 → aw G (rm_R 1 0 0) m_Beams_joinCost 0 0 56 [some (av_R (some a0)), some (av_I a1), some (av_I a2), some (av_I a3), some (av_I j12), some (av_L x3), none, none] [] h (fun r h' => ∃ z, r = some (av_I z) ∧ ((-2147483648) ≤ z ∧ z ≤ 2147483647) ∧ h = h') := by
      intro j12  _ _ 
      refine A_aload_n 0 d_Beams_joinCost_56 rfl rfl ?_
      refine A_iload_n 2 d_Beams_joinCost_57 rfl rfl ?_
      refine A_iconst d_Beams_joinCost_58 rfl ?_
      refine A_callV2 m_Voice_stepOf T_ok d_Beams_joinCost_59 l_Beams_63 k_Voice_stepOf (xs_V hx ha0) rfl (by decide +kernel) (by decide) (Nat.le_of_ble_eq_true rfl) (s_Voice_stepOf hx ha0 (by omega) (by omega)) (fun r h13 hq => ?_)
      obtain ⟨x15, rfl, ⟨_, _⟩, rfl⟩ := hq
      refine A_aload_n 0 d_Beams_joinCost_62 rfl rfl ?_
      refine A_iload_n 2 d_Beams_joinCost_63 rfl rfl ?_
      refine A_iconst d_Beams_joinCost_64 rfl ?_
      refine A_isubv (z := (a2 - 1)) d_Beams_joinCost_65 (w32_to (by omega) (by unfold i32; omega)) ?_
      refine A_iconst d_Beams_joinCost_66 rfl ?_
      refine A_pc (pc' := 67) rfl ?_
      refine A_callV2 m_Voice_stepOf T_ok d_Beams_joinCost_67 l_Beams_63 k_Voice_stepOf (xs_V hx ha0) rfl (by decide +kernel) (by decide) (Nat.le_of_ble_eq_true rfl) (s_Voice_stepOf hx ha0 (by omega) (by omega)) (fun r h16 hq => ?_)
      obtain ⟨x18, rfl, ⟨_, _⟩, rfl⟩ := hq
      refine A_isubw d_Beams_joinCost_70 (fun x19 _ _ _ => ?_)
      refine A_mabs d_Beams_joinCost_71 lm_Beams_66 ma_abs (by decide) (by decide) (Nat.le_of_ble_eq_true rfl) rfl ?_
      refine A_nrI (fun x20 ex20 _ _ => ?_)
      refine A_istore (L' := [some (av_R (some a0)), some (av_I a1), some (av_I a2), some (av_I a3), some (av_I j12), some (av_L x3), none, some (av_I x20)]) d_Beams_joinCost_74 (Nat.le_of_ble_eq_true rfl) rfl ?_
      refine A_iload d_Beams_joinCost_76 rfl ?_
      refine A_iconst d_Beams_joinCost_78 rfl ?_
      refine A_pc (pc' := 79) rfl ?_
      refine A_iload d_Beams_joinCost_79 rfl ?_
      refine A_iconst d_Beams_joinCost_81 rfl ?_
      refine A_isubw d_Beams_joinCost_82 (fun x21 _ _ _ => ?_)
      refine A_mmax d_Beams_joinCost_83 lm_Beams_69 ma_max (by decide) (by decide) (Nat.le_of_ble_eq_true rfl) rfl ?_
      refine A_nrI (fun x22 ex22 _ _ => ?_)
      have bx22 := mmax_r ex22
      refine A_iaddw d_Beams_joinCost_86 (fun x23 _ _ _ => ?_)
      exact A_iret d_Beams_joinCost_87 (by decide) rfl ⟨_, rfl, ⟨by omega, by omega⟩, rfl⟩
    refine A_icmp_eq (tgt := 56) d_Beams_joinCost_50 (by decide) (fun c24 => ?_) (fun c24 => ?_)
    · refine A_pc (pc' := 56) rfl ?_
      exact jp56 j5 (by omega) (by omega)
    · refine A_iincv (z := (j5 + 1)) (L' := [some (av_R (some a0)), some (av_I a1), some (av_I a2), some (av_I a3), some (av_I (j5 + 1)), some (av_L x3), none, none]) d_Beams_joinCost_53 rfl (w32_to (by omega) (by unfold i32; omega)) rfl ?_
      refine A_pc (pc' := 56) rfl ?_
      exact jp56 (j5 + 1) (by omega) (by omega)
  refine A_if_le (tgt := 38) d_Beams_joinCost_15 (by decide) (fun c25 => ?_) (fun c25 => ?_)
  · have mc25 : x3 ≤ 0 := by omega
    refine A_pc (pc' := 38) rfl ?_
    exact jp38 0 (by omega) (by omega)
  · have mc25 : x3 > 0 := by omega
    refine A_aload_n 0 d_Beams_joinCost_18 rfl rfl ?_
    refine A_iload_n 1 d_Beams_joinCost_19 rfl rfl ?_
    refine A_iload_n 2 d_Beams_joinCost_20 rfl rfl ?_
    refine A_callV2 m_Voice_sinceBarTop T_ok d_Beams_joinCost_21 l_Beams_56 k_Voice_sinceBarTop (xs_V hx ha0) rfl (by decide +kernel) (by decide) (Nat.le_of_ble_eq_true rfl) (s_Voice_sinceBarTop hx ha0 (by omega) (by omega) (by omega) (by omega)) (fun r h26 hq => ?_)
    obtain ⟨x28, rfl, ⟨_, _⟩, rfl⟩ := hq
    refine A_iload_n 3 d_Beams_joinCost_24 rfl rfl ?_
    refine A_i2l d_Beams_joinCost_25 ?_
    refine A_lmulw d_Beams_joinCost_26 (fun x29 _ _ _ => ?_)
    refine A_lload d_Beams_joinCost_27 rfl ?_
    refine A_lremc d_Beams_joinCost_29 (by omega) (fun x30 ex30 _ _ => ?_)
    refine A_pc (pc' := 30) rfl ?_
    refine A_lconst_0 d_Beams_joinCost_30 ?_
    refine A_lcmpn d_Beams_joinCost_31 (fun x31 lx31 ex31 gx31 _ _ => ?_)
    refine A_if_ne (tgt := 38) d_Beams_joinCost_32 (by decide) (fun c32 => ?_) (fun c32 => ?_)
    · have mc32 : x30 ≠ 0 := by omega
      refine A_pc (pc' := 38) rfl ?_
      exact jp38 0 (by omega) (by omega)
    · have mc32 : x30 = 0 := by omega
      refine A_iincv (z := 2) (L' := [some (av_R (some a0)), some (av_I a1), some (av_I a2), some (av_I a3), some (av_I 2), some (av_L x3), none, none]) d_Beams_joinCost_35 rfl (w32_to (by omega) (by unfold i32; omega)) rfl ?_
      refine A_pc (pc' := 38) rfl ?_
      exact jp38 2 (by omega) (by omega)
theorem s_Beams_cutRun {G : cx_T} {s : Nat} {h : ah_T} (hx : xi s h) {a1 : Nat} {a2 : Int} {a3 : Int} {a4 : Int} {a5 : Int} (ha1 : isV a1) (la2 : 0 ≤ a2) (ua2 : a2 ≤ 100) (la3 : 0 ≤ a3) (ua3 : a3 ≤ 301) (la4 : 0 ≤ a4) (ua4 : a4 ≤ 300) : con G 2 0 0 m_Beams_cutRun [av_R (some 146), av_R (some a1), av_I a2, av_I a3, av_I a4, av_I a5] h (fun r h' => ∃ z, r = some (av_I z) ∧ ((-2147483648) ≤ z ∧ z ≤ 2147483647) ∧ kF FC s h h') := by
  refine con_of (L := [some (av_R (some 146)), some (av_R (some a1)), some (av_I a2), some (av_I a3), some (av_I a4), some (av_I a5), none, none, none, none]) (by decide +kernel) (Nat.le_of_ble_eq_true rfl) rfl ?_
  have hS : isS s := hx.2.1
  have hs0 : s = 17 ∨ s = 80 := hS
  have k0 : kF FC s h h := kF_0 hx
  have ga1 := lt_V ha1
  refine A_locI 5 rfl (fun ra => ?_)
  obtain ⟨_, _⟩ := ra
  refine A_iload d_Beams_cutRun_0 rfl ?_
  refine A_iload_n 3 d_Beams_cutRun_2 rfl rfl ?_
  refine A_isubv (z := (a4 - a3)) d_Beams_cutRun_3 (w32_to (by omega) (by unfold i32; omega)) ?_
  refine A_bipush d_Beams_cutRun_4 rfl ?_
  refine A_mmin d_Beams_cutRun_6 lm_Beams_42 ma_min (by decide) (by decide) (Nat.le_of_ble_eq_true rfl) rfl ?_
  refine A_nrI (fun x1 ex1 _ _ => ?_)
  have bx1 := mmin_r ex1
  refine A_pc (pc' := 9) rfl ?_
  refine A_istore (L' := [some (av_R (some 146)), some (av_R (some a1)), some (av_I a2), some (av_I a3), some (av_I a4), some (av_I a5), some (av_I x1), none, none, none]) d_Beams_cutRun_9 (Nat.le_of_ble_eq_true rfl) rfl ?_
  refine A_iload d_Beams_cutRun_11 rfl ?_
  refine A_if_gt (tgt := 18) d_Beams_cutRun_13 (by decide) (fun c2 => ?_) (fun c2 => ?_)
  · refine A_aload_n 0 d_Beams_cutRun_18 rfl rfl ?_
    refine A_getAv (z := some 148) T_ok d_Beams_cutRun_19 f_Beams_15 (xi_s k0.1 sf_146) (xi_r k0.1 rff_146_2) ?_
    refine A_iload d_Beams_cutRun_22 rfl ?_
    refine A_iconst d_Beams_cutRun_24 rfl ?_
    refine A_iastorek (KR := kF FC s h) d_Beams_cutRun_25 (xi_s k0.1 sf_148) (by omega) (by omega) (kF_j k0 (by decide) (ns_b rfl) (rgf_148 _) (by omega) (by omega)) (fun h4 k5 eh4 => ?_)
    refine A_pc (pc' := 26) rfl ?_
    refine A_iload d_Beams_cutRun_26 rfl ?_
    refine A_iconst d_Beams_cutRun_28 rfl ?_
    refine A_isubv (z := (x1 - 1)) d_Beams_cutRun_29 (w32_to (by omega) (by unfold i32; omega)) ?_
    refine A_istore (L' := [some (av_R (some 146)), some (av_R (some a1)), some (av_I a2), some (av_I a3), some (av_I a4), some (av_I a5), some (av_I x1), some (av_I (x1 - 1)), none, none]) d_Beams_cutRun_30 (Nat.le_of_ble_eq_true rfl) rfl ?_
    have lp32 : ∀ (n : Nat) (i6 : Int) (h7 : ah_T) , (-1) ≤ i6 → i6 ≤ 13 → kF FC s h h7 → (i6 + 2).toNat < n → aw G (rm_R 2 0 0) m_Beams_cutRun 0 0 32 [some (av_R (some 146)), some (av_R (some a1)), some (av_I a2), some (av_I a3), some (av_I a4), some (av_I a5), some (av_I x1), some (av_I i6), none, none] [] h7 (fun r h' => ∃ z, r = some (av_I z) ∧ ((-2147483648) ≤ z ∧ z ≤ 2147483647) ∧ kF FC s h h') := by
      intro n
      induction n with
      | zero => intro i6 h7 _ _ _ hm; omega
      | succ n ih32 =>
        intro i6 h7 hl0 hl1 k8 hm
        refine A_iload d_Beams_cutRun_32 rfl ?_
        refine A_if_lt (tgt := 171) d_Beams_cutRun_34 (by decide) (fun c9 => ?_) (fun c9 => ?_)
        · refine A_iconst d_Beams_cutRun_171 rfl ?_
          refine A_istore (L' := [some (av_R (some 146)), some (av_R (some a1)), some (av_I a2), some (av_I a3), some (av_I a4), some (av_I a5), some (av_I x1), some (av_I 0), none, none]) d_Beams_cutRun_172 (Nat.le_of_ble_eq_true rfl) rfl ?_
          have lp174 : ∀ (n : Nat) (i10 : Int) (h11 : ah_T) , 0 ≤ i10 → i10 ≤ 19 → kF FC s h h11 → (14 - h11.2.1 146 1).toNat < n → aw G (rm_R 2 0 0) m_Beams_cutRun 0 0 174 [some (av_R (some 146)), some (av_R (some a1)), some (av_I a2), some (av_I a3), some (av_I a4), some (av_I a5), some (av_I x1), some (av_I i10), none, none] [] h11 (fun r h' => ∃ z, r = some (av_I z) ∧ ((-2147483648) ≤ z ∧ z ≤ 2147483647) ∧ kF FC s h h') := by
            intro n
            induction n with
            | zero => intro i10 h11 _ _ _ hm; omega
            | succ n ih174 =>
              intro i10 h11 hl0 hl1 k12 hm
              refine A_iload d_Beams_cutRun_174 rfl ?_
              refine A_iload d_Beams_cutRun_176 rfl ?_
              refine A_icmp_ge (tgt := 234) d_Beams_cutRun_178 (by decide) (fun c13 => ?_) (fun c13 => ?_)
              · refine A_aload_n 0 d_Beams_cutRun_234 rfl rfl ?_
                refine A_getAv (z := some 148) T_ok d_Beams_cutRun_235 f_Beams_15 (xi_s k12.1 sf_146) (xi_r k12.1 rff_146_2) ?_
                refine A_iconst d_Beams_cutRun_238 rfl ?_
                refine A_ialoadf d_Beams_cutRun_239 (xi_s k12.1 sf_148) (by decide) (by decide) (fun x15 ex15 _ _ => ?_)
                exact A_iret d_Beams_cutRun_240 (by decide) rfl ⟨_, rfl, ⟨by omega, by omega⟩, k12⟩
              · refine A_aload_n 0 d_Beams_cutRun_181 rfl rfl ?_
                refine A_getIn (lo := 0) (hi := 14) T_ok d_Beams_cutRun_182 f_Beams_21 (xi_s k12.1 sf_146) (xi_g k12.1 (by decide) rgf_146_1) (fun x16 ex16 _ _ => ?_)
                refine A_aload_n 0 d_Beams_cutRun_185 rfl rfl ?_
                refine A_getAv (z := some 147) T_ok d_Beams_cutRun_186 f_Beams_11 (xi_s k12.1 sf_146) (xi_r k12.1 rff_146_0) ?_
                refine A_alenN d_Beams_cutRun_189 (xi_s k12.1 sf_147) (by decide) (by decide) ?_
                refine A_pc (pc' := 190) rfl ?_
                refine A_icmp_ge (tgt := 234) d_Beams_cutRun_190 (by decide) (fun c18 => ?_) (fun c18 => ?_)
                · refine A_aload_n 0 d_Beams_cutRun_234 rfl rfl ?_
                  refine A_getAv (z := some 148) T_ok d_Beams_cutRun_235 f_Beams_15 (xi_s k12.1 sf_146) (xi_r k12.1 rff_146_2) ?_
                  refine A_iconst d_Beams_cutRun_238 rfl ?_
                  refine A_ialoadf d_Beams_cutRun_239 (xi_s k12.1 sf_148) (by decide) (by decide) (fun x20 ex20 _ _ => ?_)
                  exact A_iret d_Beams_cutRun_240 (by decide) rfl ⟨_, rfl, ⟨by omega, by omega⟩, k12⟩
                · refine A_aload_n 0 d_Beams_cutRun_193 rfl rfl ?_
                  refine A_getAv (z := some 147) T_ok d_Beams_cutRun_194 f_Beams_11 (xi_s k12.1 sf_146) (xi_r k12.1 rff_146_0) ?_
                  refine A_aload_n 0 d_Beams_cutRun_197 rfl rfl ?_
                  refine A_getIv (z := x16) T_ok d_Beams_cutRun_198 f_Beams_21 (xi_s k12.1 sf_146) ex16.symm ?_
                  refine A_aload_n 0 d_Beams_cutRun_201 rfl rfl ?_
                  refine A_pc (pc' := 202) rfl ?_
                  refine A_getAv (z := some 149) T_ok d_Beams_cutRun_202 f_Beams_18 (xi_s k12.1 sf_146) (xi_r k12.1 rff_146_3) ?_
                  refine A_iload d_Beams_cutRun_205 rfl ?_
                  refine A_ialoadn (lo := 0) (hi := 6) d_Beams_cutRun_207 (xi_s k12.1 sf_149) (by omega) (by omega) (xi_g k12.1 (by decide) (rgf_149 _)) (fun x24 ex24 _ _ => ?_)
                  refine A_iastorek (KR := kF FC s h) d_Beams_cutRun_208 (xi_s k12.1 sf_147) (by omega) (by omega) (kF_j k12 (by decide) (ns_b rfl) (rgf_147 _) (by omega) (by omega)) (fun h25 k26 eh25 => ?_)
                  refine A_aload_n 0 d_Beams_cutRun_209 rfl rfl ?_
                  refine A_dupR d_Beams_cutRun_210 ?_
                  refine A_pc (pc' := 211) rfl ?_
                  refine A_getIv (z := x16) T_ok d_Beams_cutRun_211 f_Beams_21 (xi_s k26.1 sf_146) ((eh25.1 _ _ (fun q => absurd q (by decide))).trans ex16.symm) ?_
                  refine A_iconst d_Beams_cutRun_214 rfl ?_
                  refine A_iaddv (z := (x16 + 1)) d_Beams_cutRun_215 (w32_to (by omega) (by unfold i32; omega)) ?_
                  refine A_putIk (KR := kF FC s h) T_ok d_Beams_cutRun_216 f_Beams_21 (xi_s k26.1 sf_146) fin_f (kF_j k26 (by decide) (ns_b rfl) rgf_146_1 (by omega) (by omega)) (fun h28 k29 eh28 => ?_)
                  refine A_iload d_Beams_cutRun_219 rfl ?_
                  refine A_aload_n 0 d_Beams_cutRun_221 rfl rfl ?_
                  refine A_pc (pc' := 222) rfl ?_
                  refine A_getAv (z := some 149) T_ok d_Beams_cutRun_222 f_Beams_18 (xi_s k29.1 sf_146) (xi_r k29.1 rff_146_3) ?_
                  refine A_iload d_Beams_cutRun_225 rfl ?_
                  refine A_ialoadv (z := x24) d_Beams_cutRun_227 (xi_s k29.1 sf_149) (by omega) (by omega) ((eh28.1 _ _ (fun q => absurd q (by decide))).trans ((eh25.1 _ _ (fun q => absurd q (by decide))).trans ex24.symm)) ?_
                  refine A_iaddv (z := (i10 + x24)) d_Beams_cutRun_228 (w32_to (by omega) (by unfold i32; omega)) ?_
                  refine A_istore (L' := [some (av_R (some 146)), some (av_R (some a1)), some (av_I a2), some (av_I a3), some (av_I a4), some (av_I a5), some (av_I x1), some (av_I (i10 + x24)), none, none]) d_Beams_cutRun_229 (Nat.le_of_ble_eq_true rfl) rfl ?_
                  refine A_goto (tgt := 174) d_Beams_cutRun_231 (by decide) ?_
                  exact ih174 (i10 + x24) h28 (by omega) (by omega) k29 (by have qq0 := eh28.2.1; omega)
          exact lp174 _ 0 h7 (by omega) (by omega) k8 (Nat.lt_succ_self _)
        · refine A_aload_n 0 d_Beams_cutRun_37 rfl rfl ?_
          refine A_getAv (z := some 149) T_ok d_Beams_cutRun_38 f_Beams_18 (xi_s k8.1 sf_146) (xi_r k8.1 rff_146_3) ?_
          refine A_iload d_Beams_cutRun_41 rfl ?_
          refine A_iconst d_Beams_cutRun_43 rfl ?_
          refine A_iastorek (KR := kF FC s h) d_Beams_cutRun_44 (xi_s k8.1 sf_149) (by omega) (by omega) (kF_j k8 (by decide) (ns_b rfl) (rgf_149 _) (by omega) (by omega)) (fun h33 k34 eh33 => ?_)
          refine A_pc (pc' := 45) rfl ?_
          refine A_aload_n 0 d_Beams_cutRun_45 rfl rfl ?_
          refine A_getAv (z := some 148) T_ok d_Beams_cutRun_46 f_Beams_15 (xi_s k34.1 sf_146) (xi_r k34.1 rff_146_2) ?_
          refine A_iload d_Beams_cutRun_49 rfl ?_
          refine A_iconst d_Beams_cutRun_51 rfl ?_
          refine A_aload_n 0 d_Beams_cutRun_52 rfl rfl ?_
          refine A_getAv (z := some 148) T_ok d_Beams_cutRun_53 f_Beams_15 (xi_s k34.1 sf_146) (xi_r k34.1 rff_146_2) ?_
          refine A_pc (pc' := 56) rfl ?_
          refine A_iload d_Beams_cutRun_56 rfl ?_
          refine A_iconst d_Beams_cutRun_58 rfl ?_
          refine A_iaddv (z := (i6 + 1)) d_Beams_cutRun_59 (w32_to (by omega) (by unfold i32; omega)) ?_
          refine A_ialoadf d_Beams_cutRun_60 (xi_s k34.1 sf_148) (by omega) (by omega) (fun x37 ex37 _ _ => ?_)
          refine A_iaddw d_Beams_cutRun_61 (fun x38 _ _ _ => ?_)
          refine A_iastorek (KR := kF FC s h) d_Beams_cutRun_62 (xi_s k34.1 sf_148) (by omega) (by omega) (kF_j k34 (by decide) (ns_b rfl) (rgf_148 _) (by omega) (by omega)) (fun h39 k40 eh39 => ?_)
          refine A_pc (pc' := 63) rfl ?_
          refine A_iconst d_Beams_cutRun_63 rfl ?_
          refine A_istore (L' := [some (av_R (some 146)), some (av_R (some a1)), some (av_I a2), some (av_I a3), some (av_I a4), some (av_I a5), some (av_I x1), some (av_I i6), some (av_I 1), none]) d_Beams_cutRun_64 (Nat.le_of_ble_eq_true rfl) rfl ?_
          refine A_iconst d_Beams_cutRun_66 rfl ?_
          refine A_istore (L' := [some (av_R (some 146)), some (av_R (some a1)), some (av_I a2), some (av_I a3), some (av_I a4), some (av_I a5), some (av_I x1), some (av_I i6), some (av_I 1), some (av_I 2)]) d_Beams_cutRun_67 (Nat.le_of_ble_eq_true rfl) rfl ?_
          have lp69 : ∀ (n : Nat) (i41 i42 : Int) (h43 : ah_T) , (-2147483648) ≤ i41 → i41 ≤ 2147483647 → 2 ≤ i42 → i42 ≤ 7 → kF FC s h h43 → (8 - i42).toNat < n → aw G (rm_R 2 0 0) m_Beams_cutRun 0 0 69 [some (av_R (some 146)), some (av_R (some a1)), some (av_I a2), some (av_I a3), some (av_I a4), some (av_I a5), some (av_I x1), some (av_I i6), some (av_I i41), some (av_I i42)] [] h43 (fun r h' => ∃ z, r = some (av_I z) ∧ ((-2147483648) ≤ z ∧ z ≤ 2147483647) ∧ kF FC s h h') := by
            intro n
            induction n with
            | zero => intro i41 i42 h43 _ _ _ _ _ hm; omega
            | succ n ih69 =>
              intro i41 i42 h43 hl0 hl1 hl2 hl3 k44 hm
              refine A_iload d_Beams_cutRun_69 rfl ?_
              refine A_bipush d_Beams_cutRun_71 rfl ?_
              refine A_icmp_gt (tgt := 165) d_Beams_cutRun_73 (by decide) (fun c45 => ?_) (fun c45 => ?_)
              · refine A_iincv (z := (i6 - 1)) (L' := [some (av_R (some 146)), some (av_R (some a1)), some (av_I a2), some (av_I a3), some (av_I a4), some (av_I a5), some (av_I x1), some (av_I (i6 - 1)), some (av_I i41), some (av_I i42)]) d_Beams_cutRun_165 rfl (w32_to (by omega) (by unfold i32; omega)) rfl ?_
                refine A_goto (tgt := 32) d_Beams_cutRun_168 (by decide) ?_
                refine A_free (L' := [some (av_R (some 146)), some (av_R (some a1)), some (av_I a2), some (av_I a3), some (av_I a4), some (av_I a5), some (av_I x1), some (av_I (i6 - 1)), none, none]) (And.intro rfl (And.intro rfl (And.intro rfl (And.intro rfl (And.intro rfl (And.intro rfl (And.intro rfl (And.intro rfl trivial)))))))) ?_
                exact ih32 (i6 - 1) h43 (by omega) (by omega) k44 (by omega)
              · refine A_iload d_Beams_cutRun_76 rfl ?_
                refine A_iload d_Beams_cutRun_78 rfl ?_
                refine A_iaddv (z := (i6 + i42)) d_Beams_cutRun_80 (w32_to (by omega) (by unfold i32; omega)) ?_
                refine A_iload d_Beams_cutRun_81 rfl ?_
                refine A_icmp_gt (tgt := 165) d_Beams_cutRun_83 (by decide) (fun c46 => ?_) (fun c46 => ?_)
                · refine A_iincv (z := (i6 - 1)) (L' := [some (av_R (some 146)), some (av_R (some a1)), some (av_I a2), some (av_I a3), some (av_I a4), some (av_I a5), some (av_I x1), some (av_I (i6 - 1)), some (av_I i41), some (av_I i42)]) d_Beams_cutRun_165 rfl (w32_to (by omega) (by unfold i32; omega)) rfl ?_
                  refine A_goto (tgt := 32) d_Beams_cutRun_168 (by decide) ?_
                  refine A_free (L' := [some (av_R (some 146)), some (av_R (some a1)), some (av_I a2), some (av_I a3), some (av_I a4), some (av_I a5), some (av_I x1), some (av_I (i6 - 1)), none, none]) (And.intro rfl (And.intro rfl (And.intro rfl (And.intro rfl (And.intro rfl (And.intro rfl (And.intro rfl (And.intro rfl trivial)))))))) ?_
                  exact ih32 (i6 - 1) h43 (by omega) (by omega) k44 (by omega)
                · refine A_iload d_Beams_cutRun_86 rfl ?_
                  refine A_aload_n 1 d_Beams_cutRun_88 rfl rfl ?_
                  refine A_iload_n 2 d_Beams_cutRun_89 rfl rfl ?_
                  refine A_iload_n 3 d_Beams_cutRun_90 rfl rfl ?_
                  refine A_iload d_Beams_cutRun_91 rfl ?_
                  refine A_pc (pc' := 93) rfl ?_
                  refine A_iaddv (z := (a3 + i6)) d_Beams_cutRun_93 (w32_to (by omega) (by unfold i32; omega)) ?_
                  refine A_iload d_Beams_cutRun_94 rfl ?_
                  refine A_iaddv (z := (a3 + i6 + i42)) d_Beams_cutRun_96 (w32_to (by omega) (by unfold i32; omega)) ?_
                  refine A_iconst d_Beams_cutRun_97 rfl ?_
                  refine A_isubv (z := (a3 + i6 + i42 - 1)) d_Beams_cutRun_98 (w32_to (by omega) (by unfold i32; omega)) ?_
                  refine A_iload d_Beams_cutRun_99 rfl ?_
                  refine A_pc (pc' := 101) rfl ?_
                  refine A_callS4 m_Beams_joinCost d_Beams_cutRun_101 l_Beams_48 k_Beams_joinCost (by decide +kernel) (by decide) (Nat.le_of_ble_eq_true rfl) (s_Beams_joinCost k44.1 ha1 (by omega) (by omega) (by omega) (by omega)) (fun r h47 hq => ?_)
                  obtain ⟨x49, rfl, ⟨_, _⟩, rfl⟩ := hq
                  refine A_iaddw d_Beams_cutRun_104 (fun x50 _ _ _ => ?_)
                  refine A_istore (L' := [some (av_R (some 146)), some (av_R (some a1)), some (av_I a2), some (av_I a3), some (av_I a4), some (av_I a5), some (av_I x1), some (av_I i6), some (av_I x50), some (av_I i42)]) d_Beams_cutRun_105 (Nat.le_of_ble_eq_true rfl) rfl ?_
                  refine A_iload d_Beams_cutRun_107 rfl ?_
                  refine A_aload_n 0 d_Beams_cutRun_109 rfl rfl ?_
                  refine A_getAv (z := some 148) T_ok d_Beams_cutRun_110 f_Beams_15 (xi_s k44.1 sf_146) (xi_r k44.1 rff_146_2) ?_
                  refine A_pc (pc' := 113) rfl ?_
                  refine A_iload d_Beams_cutRun_113 rfl ?_
                  refine A_iload d_Beams_cutRun_115 rfl ?_
                  refine A_iaddv (z := (i6 + i42)) d_Beams_cutRun_117 (w32_to (by omega) (by unfold i32; omega)) ?_
                  refine A_ialoadf d_Beams_cutRun_118 (xi_s k44.1 sf_148) (by omega) (by omega) (fun x52 ex52 _ _ => ?_)
                  refine A_iaddw d_Beams_cutRun_119 (fun x53 _ _ _ => ?_)
                  refine A_aload_n 0 d_Beams_cutRun_120 rfl rfl ?_
                  refine A_pc (pc' := 121) rfl ?_
                  refine A_getAv (z := some 148) T_ok d_Beams_cutRun_121 f_Beams_15 (xi_s k44.1 sf_146) (xi_r k44.1 rff_146_2) ?_
                  refine A_iload d_Beams_cutRun_124 rfl ?_
                  refine A_ialoadf d_Beams_cutRun_126 (xi_s k44.1 sf_148) (by omega) (by omega) (fun x55 ex55 _ _ => ?_)
                  refine A_icmp_gt (tgt := 159) d_Beams_cutRun_127 (by decide) (fun c56 => ?_) (fun c56 => ?_)
                  · refine A_iincv (z := (i42 + 1)) (L' := [some (av_R (some 146)), some (av_R (some a1)), some (av_I a2), some (av_I a3), some (av_I a4), some (av_I a5), some (av_I x1), some (av_I i6), some (av_I x50), some (av_I (i42 + 1))]) d_Beams_cutRun_159 rfl (w32_to (by omega) (by unfold i32; omega)) rfl ?_
                    refine A_goto (tgt := 69) d_Beams_cutRun_162 (by decide) ?_
                    exact ih69 x50 (i42 + 1) h43 (by omega) (by omega) (by omega) (by omega) k44 (by omega)
                  · refine A_aload_n 0 d_Beams_cutRun_130 rfl rfl ?_
                    refine A_getAv (z := some 149) T_ok d_Beams_cutRun_131 f_Beams_18 (xi_s k44.1 sf_146) (xi_r k44.1 rff_146_3) ?_
                    refine A_iload d_Beams_cutRun_134 rfl ?_
                    refine A_iload d_Beams_cutRun_136 rfl ?_
                    refine A_iastorek (KR := kF FC s h) d_Beams_cutRun_138 (xi_s k44.1 sf_149) (by omega) (by omega) (kF_j k44 (by decide) (ns_b rfl) (rgf_149 _) (by omega) (by omega)) (fun h58 k59 eh58 => ?_)
                    refine A_pc (pc' := 139) rfl ?_
                    refine A_aload_n 0 d_Beams_cutRun_139 rfl rfl ?_
                    refine A_getAv (z := some 148) T_ok d_Beams_cutRun_140 f_Beams_15 (xi_s k59.1 sf_146) (xi_r k59.1 rff_146_2) ?_
                    refine A_iload d_Beams_cutRun_143 rfl ?_
                    refine A_iload d_Beams_cutRun_145 rfl ?_
                    refine A_aload_n 0 d_Beams_cutRun_147 rfl rfl ?_
                    refine A_getAv (z := some 148) T_ok d_Beams_cutRun_148 f_Beams_15 (xi_s k59.1 sf_146) (xi_r k59.1 rff_146_2) ?_
                    refine A_pc (pc' := 151) rfl ?_
                    refine A_iload d_Beams_cutRun_151 rfl ?_
                    refine A_iload d_Beams_cutRun_153 rfl ?_
                    refine A_iaddv (z := (i6 + i42)) d_Beams_cutRun_155 (w32_to (by omega) (by unfold i32; omega)) ?_
                    refine A_ialoadv (z := x52) d_Beams_cutRun_156 (xi_s k59.1 sf_148) (by omega) (by omega) ((eh58.1 _ _ (fun q => absurd q (by decide))).trans ex52.symm) ?_
                    refine A_iaddw d_Beams_cutRun_157 (fun x63 _ _ _ => ?_)
                    refine A_iastorek (KR := kF FC s h) d_Beams_cutRun_158 (xi_s k59.1 sf_148) (by omega) (by omega) (kF_j k59 (by decide) (ns_b rfl) (rgf_148 _) (by omega) (by omega)) (fun h64 k65 eh64 => ?_)
                    refine A_pc (pc' := 159) rfl ?_
                    refine A_iincv (z := (i42 + 1)) (L' := [some (av_R (some 146)), some (av_R (some a1)), some (av_I a2), some (av_I a3), some (av_I a4), some (av_I a5), some (av_I x1), some (av_I i6), some (av_I x50), some (av_I (i42 + 1))]) d_Beams_cutRun_159 rfl (w32_to (by omega) (by unfold i32; omega)) rfl ?_
                    refine A_goto (tgt := 69) d_Beams_cutRun_162 (by decide) ?_
                    exact ih69 x50 (i42 + 1) h64 (by omega) (by omega) (by omega) (by omega) k65 (by omega)
          exact lp69 _ 1 2 h39 (by omega) (by omega) (by omega) (by omega) k40 (Nat.lt_succ_self _)
    exact lp32 _ (x1 - 1) h4 (by omega) (by omega) k5 (Nat.lt_succ_self _)
  · refine A_iconst d_Beams_cutRun_16 rfl ?_
    exact A_iret d_Beams_cutRun_17 (by decide) rfl ⟨_, rfl, ⟨by omega, by omega⟩, k0⟩
theorem s_Beams_find {G : cx_T} {s : Nat} {h : ah_T} (hx : xi s h) {a1 : Nat} {a2 : Int} {a3 : Int} (ha1 : isV a1) (la2 : 0 ≤ a2) (ua2 : a2 ≤ 100) : con G 4 0 0 m_Beams_find [av_R (some 146), av_R (some a1), av_I a2, av_I a3] h (fun r h' => ∃ z, r = some (av_I z) ∧ ((-2147483648) ≤ z ∧ z ≤ 2147483647) ∧ kF FC s h h') := by
  refine con_of (L := [some (av_R (some 146)), some (av_R (some a1)), some (av_I a2), some (av_I a3), none, none, none, none, none]) (by decide +kernel) (Nat.le_of_ble_eq_true rfl) rfl ?_
  have hS : isS s := hx.2.1
  have hs0 : s = 17 ∨ s = 80 := hS
  have k0 : kF FC s h h := kF_0 hx
  have ga1 := lt_V ha1
  refine A_locI 3 rfl (fun ra => ?_)
  obtain ⟨_, _⟩ := ra
  refine A_aload_n 1 d_Beams_find_0 rfl rfl ?_
  refine A_getAv (z := some (a1 + 13)) T_ok d_Beams_find_1 f_Beams_25 (xs_V k0.1 ha1) (xr_V_15 k0.1 ha1) ?_
  refine A_iload_n 2 d_Beams_find_4 rfl rfl ?_
  refine A_ialoadn (lo := 0) (hi := 300) d_Beams_find_5 (xs_V_15 k0.1 ha1) (by omega) (by omega) (xi_g k0.1 (lt2_V ha1 (by decide)) (rg_V_15 ha1 _)) (fun x2 ex2 _ _ => ?_)
  refine A_istore (L' := [some (av_R (some 146)), some (av_R (some a1)), some (av_I a2), some (av_I a3), some (av_I x2), none, none, none, none]) d_Beams_find_6 (Nat.le_of_ble_eq_true rfl) rfl ?_
  refine A_pc (pc' := 8) rfl ?_
  refine A_aload_n 1 d_Beams_find_8 rfl rfl ?_
  refine A_getAv (z := some (a1 + 13)) T_ok d_Beams_find_9 f_Beams_25 (xs_V k0.1 ha1) (xr_V_15 k0.1 ha1) ?_
  refine A_iload_n 2 d_Beams_find_12 rfl rfl ?_
  refine A_iconst d_Beams_find_13 rfl ?_
  refine A_iaddv (z := (a2 + 1)) d_Beams_find_14 (w32_to (by omega) (by unfold i32; omega)) ?_
  refine A_ialoadn (lo := 0) (hi := 300) d_Beams_find_15 (xs_V_15 k0.1 ha1) (by omega) (by omega) (xi_g k0.1 (lt2_V ha1 (by decide)) (rg_V_15 ha1 _)) (fun x4 ex4 _ _ => ?_)
  refine A_pc (pc' := 16) rfl ?_
  refine A_istore (L' := [some (av_R (some 146)), some (av_R (some a1)), some (av_I a2), some (av_I a3), some (av_I x2), some (av_I x4), none, none, none]) d_Beams_find_16 (Nat.le_of_ble_eq_true rfl) rfl ?_
  refine A_aload_n 1 d_Beams_find_18 rfl rfl ?_
  refine A_iload d_Beams_find_19 rfl ?_
  refine A_iload d_Beams_find_21 rfl ?_
  refine A_callS3 m_Beams_shortOnes d_Beams_find_23 l_Beams_30 k_Beams_shortOnes (by decide +kernel) (by decide) (Nat.le_of_ble_eq_true rfl) (s_Beams_shortOnes k0.1 ha1 (by omega) (by omega) (by omega) (by omega)) (fun r h5 hq => ?_)
  obtain ⟨x7, rfl, ⟨_, _⟩, rfl⟩ := hq
  refine A_bipush d_Beams_find_26 rfl ?_
  refine A_icmp_le (tgt := 34) d_Beams_find_28 (by decide) (fun c8 => ?_) (fun c8 => ?_)
  · refine A_aload_n 0 d_Beams_find_34 rfl rfl ?_
    refine A_iconst d_Beams_find_35 rfl ?_
    refine A_putIk (KR := kF FC s h) T_ok d_Beams_find_36 f_Beams_21 (xi_s k0.1 sf_146) fin_f (kF_j k0 (by decide) (ns_b rfl) rgf_146_1 (by omega) (by omega)) (fun h9 k10 eh9 => ?_)
    refine A_iconst d_Beams_find_39 rfl ?_
    refine A_istore (L' := [some (av_R (some 146)), some (av_R (some a1)), some (av_I a2), some (av_I a3), some (av_I x2), some (av_I x4), some (av_I 0), none, none]) d_Beams_find_40 (Nat.le_of_ble_eq_true rfl) rfl ?_
    refine A_pc (pc' := 42) rfl ?_
    refine A_iload d_Beams_find_42 rfl ?_
    refine A_istore (L' := [some (av_R (some 146)), some (av_R (some a1)), some (av_I a2), some (av_I a3), some (av_I x2), some (av_I x4), some (av_I 0), some (av_I x2), none]) d_Beams_find_44 (Nat.le_of_ble_eq_true rfl) rfl ?_
    refine A_iload d_Beams_find_46 rfl ?_
    refine A_istore (L' := [some (av_R (some 146)), some (av_R (some a1)), some (av_I a2), some (av_I a3), some (av_I x2), some (av_I x4), some (av_I 0), some (av_I x2), some (av_I x2)]) d_Beams_find_48 (Nat.le_of_ble_eq_true rfl) rfl ?_
    have lp50 : ∀ (n : Nat) (i11 i12 i13 : Int) (h14 : ah_T) , (-2147483648) ≤ i11 → i11 ≤ 2147483647 → 0 ≤ i12 → i12 ≤ 301 → 0 ≤ i13 → i13 ≤ 301 → kF FC s h h14 → (302 - i13).toNat < n → aw G (rm_R 4 0 0) m_Beams_find 0 0 50 [some (av_R (some 146)), some (av_R (some a1)), some (av_I a2), some (av_I a3), some (av_I x2), some (av_I x4), some (av_I i11), some (av_I i12), some (av_I i13)] [] h14 (fun r h' => ∃ z, r = some (av_I z) ∧ ((-2147483648) ≤ z ∧ z ≤ 2147483647) ∧ kF FC s h h') := by
      intro n
      induction n with
      | zero => intro i11 i12 i13 h14 _ _ _ _ _ _ _ hm; omega
      | succ n ih50 =>
        intro i11 i12 i13 h14 hl0 hl1 hl2 hl3 hl4 hl5 k15 hm
        refine A_iload d_Beams_find_50 rfl ?_
        refine A_iload d_Beams_find_52 rfl ?_
        refine A_icmp_gt (tgt := 101) d_Beams_find_54 (by decide) (fun c16 => ?_) (fun c16 => ?_)
        · refine A_iload d_Beams_find_101 rfl ?_
          exact A_iret d_Beams_find_103 (by decide) rfl ⟨_, rfl, ⟨by omega, by omega⟩, k15⟩
        · refine A_iload d_Beams_find_57 rfl ?_
          refine A_iload d_Beams_find_59 rfl ?_
          refine A_icmp_eq (tgt := 73) d_Beams_find_61 (by decide) (fun c17 => ?_) (fun c17 => ?_)
          · refine A_iload d_Beams_find_73 rfl ?_
            refine A_aload_n 0 d_Beams_find_75 rfl rfl ?_
            refine A_aload_n 1 d_Beams_find_76 rfl rfl ?_
            refine A_iload_n 2 d_Beams_find_77 rfl rfl ?_
            refine A_iload d_Beams_find_78 rfl ?_
            refine A_pc (pc' := 80) rfl ?_
            refine A_iload d_Beams_find_80 rfl ?_
            refine A_iload_n 3 d_Beams_find_82 rfl rfl ?_
            refine A_callV5 m_Beams_cutRun T_ok d_Beams_find_83 l_Beams_38 k_Beams_cutRun (xi_s k15.1 sf_146) rfl (by decide +kernel) (by decide) (Nat.le_of_ble_eq_true rfl) (s_Beams_cutRun k15.1 ha1 (by omega) (by omega) (by omega) (by omega) (by omega) (by omega)) (fun r h18 hq => ?_)
            obtain ⟨x20, rfl, ⟨_, _⟩, k19⟩ := hq
            have k21 := kF_t k15 k19 (fun _ q => q)
            refine A_iaddw d_Beams_find_86 (fun x22 _ _ _ => ?_)
            refine A_istore (L' := [some (av_R (some 146)), some (av_R (some a1)), some (av_I a2), some (av_I a3), some (av_I x2), some (av_I x4), some (av_I x22), some (av_I i12), some (av_I i13)]) d_Beams_find_87 (Nat.le_of_ble_eq_true rfl) rfl ?_
            refine A_iload d_Beams_find_89 rfl ?_
            refine A_iconst d_Beams_find_91 rfl ?_
            refine A_iaddv (z := (i13 + 1)) d_Beams_find_92 (w32_to (by omega) (by unfold i32; omega)) ?_
            refine A_pc (pc' := 93) rfl ?_
            refine A_istore (L' := [some (av_R (some 146)), some (av_R (some a1)), some (av_I a2), some (av_I a3), some (av_I x2), some (av_I x4), some (av_I x22), some (av_I (i13 + 1)), some (av_I i13)]) d_Beams_find_93 (Nat.le_of_ble_eq_true rfl) rfl ?_
            refine A_iincv (z := (i13 + 1)) (L' := [some (av_R (some 146)), some (av_R (some a1)), some (av_I a2), some (av_I a3), some (av_I x2), some (av_I x4), some (av_I x22), some (av_I (i13 + 1)), some (av_I (i13 + 1))]) d_Beams_find_95 rfl (w32_to (by omega) (by unfold i32; omega)) rfl ?_
            refine A_goto (tgt := 50) d_Beams_find_98 (by decide) ?_
            exact ih50 x22 (i13 + 1) (i13 + 1) h18 (by omega) (by omega) (by omega) (by omega) (by omega) (by omega) k21 (by omega)
          · refine A_aload_n 1 d_Beams_find_64 rfl rfl ?_
            refine A_iload d_Beams_find_65 rfl ?_
            refine A_callV1 m_Voice_isShort T_ok d_Beams_find_67 l_Beams_34 k_Voice_isShort (xs_V k15.1 ha1) rfl (by decide +kernel) (by decide) (Nat.le_of_ble_eq_true rfl) (s_Voice_isShort k15.1 ha1 (by omega) (by omega)) (fun r h23 hq => ?_)
            obtain ⟨x25, rfl, bx25, rfl⟩ := hq
            refine A_if_ne (tgt := 95) d_Beams_find_70 (by decide) (fun c26 => ?_) (fun c26 => ?_)
            · refine A_iincv (z := (i13 + 1)) (L' := [some (av_R (some 146)), some (av_R (some a1)), some (av_I a2), some (av_I a3), some (av_I x2), some (av_I x4), some (av_I i11), some (av_I i12), some (av_I (i13 + 1))]) d_Beams_find_95 rfl (w32_to (by omega) (by unfold i32; omega)) rfl ?_
              refine A_goto (tgt := 50) d_Beams_find_98 (by decide) ?_
              exact ih50 i11 i12 (i13 + 1) h14 (by omega) (by omega) (by omega) (by omega) (by omega) (by omega) k15 (by omega)
            · refine A_iload d_Beams_find_73 rfl ?_
              refine A_aload_n 0 d_Beams_find_75 rfl rfl ?_
              refine A_aload_n 1 d_Beams_find_76 rfl rfl ?_
              refine A_iload_n 2 d_Beams_find_77 rfl rfl ?_
              refine A_iload d_Beams_find_78 rfl ?_
              refine A_pc (pc' := 80) rfl ?_
              refine A_iload d_Beams_find_80 rfl ?_
              refine A_iload_n 3 d_Beams_find_82 rfl rfl ?_
              refine A_callV5 m_Beams_cutRun T_ok d_Beams_find_83 l_Beams_38 k_Beams_cutRun (xi_s k15.1 sf_146) rfl (by decide +kernel) (by decide) (Nat.le_of_ble_eq_true rfl) (s_Beams_cutRun k15.1 ha1 (by omega) (by omega) (by omega) (by omega) (by omega) (by omega)) (fun r h27 hq => ?_)
              obtain ⟨x29, rfl, ⟨_, _⟩, k28⟩ := hq
              have k30 := kF_t k15 k28 (fun _ q => q)
              refine A_iaddw d_Beams_find_86 (fun x31 _ _ _ => ?_)
              refine A_istore (L' := [some (av_R (some 146)), some (av_R (some a1)), some (av_I a2), some (av_I a3), some (av_I x2), some (av_I x4), some (av_I x31), some (av_I i12), some (av_I i13)]) d_Beams_find_87 (Nat.le_of_ble_eq_true rfl) rfl ?_
              refine A_iload d_Beams_find_89 rfl ?_
              refine A_iconst d_Beams_find_91 rfl ?_
              refine A_iaddv (z := (i13 + 1)) d_Beams_find_92 (w32_to (by omega) (by unfold i32; omega)) ?_
              refine A_pc (pc' := 93) rfl ?_
              refine A_istore (L' := [some (av_R (some 146)), some (av_R (some a1)), some (av_I a2), some (av_I a3), some (av_I x2), some (av_I x4), some (av_I x31), some (av_I (i13 + 1)), some (av_I i13)]) d_Beams_find_93 (Nat.le_of_ble_eq_true rfl) rfl ?_
              refine A_iincv (z := (i13 + 1)) (L' := [some (av_R (some 146)), some (av_R (some a1)), some (av_I a2), some (av_I a3), some (av_I x2), some (av_I x4), some (av_I x31), some (av_I (i13 + 1)), some (av_I (i13 + 1))]) d_Beams_find_95 rfl (w32_to (by omega) (by unfold i32; omega)) rfl ?_
              refine A_goto (tgt := 50) d_Beams_find_98 (by decide) ?_
              exact ih50 x31 (i13 + 1) (i13 + 1) h27 (by omega) (by omega) (by omega) (by omega) (by omega) (by omega) k30 (by omega)
    exact lp50 _ 0 x2 x2 h9 (by omega) (by omega) (by omega) (by omega) (by omega) (by omega) k10 (Nat.lt_succ_self _)
  · refine A_bipush d_Beams_find_31 rfl ?_
    exact A_iret d_Beams_find_33 (by decide) rfl ⟨_, rfl, ⟨by omega, by omega⟩, k0⟩
