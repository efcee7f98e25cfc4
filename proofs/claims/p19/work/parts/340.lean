/-! ===== the reference's methods, 340 ===== -/
def m_MD_isShort : mr_T := (⟨"PlainMusicModel", "isShort", "(I)Z"⟩, prog_14_method_67_code, 2, some .boolean)
theorem d_MD_isShort_0 : decode prog_14_method_67_code 0 = .ok (.aload_n 0, 1) := by decide +kernel
theorem d_MD_isShort_1 : decode prog_14_method_67_code 1 = .ok (.getfield 75, 3) := by decide +kernel
theorem d_MD_isShort_4 : decode prog_14_method_67_code 4 = .ok (.iload_n 1, 1) := by decide +kernel
theorem d_MD_isShort_5 : decode prog_14_method_67_code 5 = .ok (.iaload, 1) := by decide +kernel
theorem d_MD_isShort_6 : decode prog_14_method_67_code 6 = .ok (.ifCond .le 18, 3) := by decide +kernel
theorem d_MD_isShort_24 : decode prog_14_method_67_code 24 = .ok (.iconst 0, 1) := by decide +kernel
theorem d_MD_isShort_25 : decode prog_14_method_67_code 25 = .ok (.ireturn, 1) := by decide +kernel
theorem d_MD_isShort_9 : decode prog_14_method_67_code 9 = .ok (.aload_n 0, 1) := by decide +kernel
theorem d_MD_isShort_10 : decode prog_14_method_67_code 10 = .ok (.getfield 94, 3) := by decide +kernel
theorem d_MD_isShort_13 : decode prog_14_method_67_code 13 = .ok (.iload_n 1, 1) := by decide +kernel
theorem d_MD_isShort_14 : decode prog_14_method_67_code 14 = .ok (.iaload, 1) := by decide +kernel
theorem d_MD_isShort_15 : decode prog_14_method_67_code 15 = .ok (.bipush 8, 2) := by decide +kernel
theorem d_MD_isShort_17 : decode prog_14_method_67_code 17 = .ok (.if_icmp .lt 7, 3) := by decide +kernel
theorem d_MD_isShort_20 : decode prog_14_method_67_code 20 = .ok (.iconst 1, 1) := by decide +kernel
theorem d_MD_isShort_21 : decode prog_14_method_67_code 21 = .ok (.goto 4, 3) := by decide +kernel
def m_MD_group : mr_T := (⟨"PlainMusicModel", "group", "(I)I"⟩, prog_14_method_71_code, 2, some .int)
theorem d_MD_group_0 : decode prog_14_method_71_code 0 = .ok (.iload_n 1, 1) := by decide +kernel
theorem d_MD_group_1 : decode prog_14_method_71_code 1 = .ok (.ifCond .lt 20, 3) := by decide +kernel
theorem d_MD_group_21 : decode prog_14_method_71_code 21 = .ok (.iconst 0, 1) := by decide +kernel
theorem d_MD_group_22 : decode prog_14_method_71_code 22 = .ok (.ireturn, 1) := by decide +kernel
theorem d_MD_group_4 : decode prog_14_method_71_code 4 = .ok (.iload_n 1, 1) := by decide +kernel
theorem d_MD_group_5 : decode prog_14_method_71_code 5 = .ok (.aload_n 0, 1) := by decide +kernel
theorem d_MD_group_6 : decode prog_14_method_71_code 6 = .ok (.getfield 474, 3) := by decide +kernel
theorem d_MD_group_9 : decode prog_14_method_71_code 9 = .ok (.if_icmp .ge 12, 3) := by decide +kernel
theorem d_MD_group_12 : decode prog_14_method_71_code 12 = .ok (.aload_n 0, 1) := by decide +kernel
theorem d_MD_group_13 : decode prog_14_method_71_code 13 = .ok (.getfield 178, 3) := by decide +kernel
theorem rfm_86 : (86, 225) ∈ mf_L := by decide +kernel
theorem d_MD_group_16 : decode prog_14_method_71_code 16 = .ok (.iload_n 1, 1) := by decide +kernel
theorem d_MD_group_17 : decode prog_14_method_71_code 17 = .ok (.iaload, 1) := by decide +kernel
theorem sf_225 : sh_L[225]? = some (0, 16) := by decide +kernel
theorem mr_225 (k : Nat) : mr 225 k = ((-2147483648), 2147483647) := rfl
theorem d_MD_group_18 : decode prog_14_method_71_code 18 = .ok (.goto 4, 3) := by decide +kernel
def m_MD_line : mr_T := (⟨"PlainMusicModel", "line", "(I)I"⟩, prog_14_method_75_code, 2, some .int)
theorem d_MD_line_0 : decode prog_14_method_75_code 0 = .ok (.iload_n 1, 1) := by decide +kernel
theorem d_MD_line_1 : decode prog_14_method_75_code 1 = .ok (.ifCond .lt 20, 3) := by decide +kernel
theorem d_MD_line_21 : decode prog_14_method_75_code 21 = .ok (.iconst 0, 1) := by decide +kernel
theorem d_MD_line_22 : decode prog_14_method_75_code 22 = .ok (.ireturn, 1) := by decide +kernel
theorem d_MD_line_4 : decode prog_14_method_75_code 4 = .ok (.iload_n 1, 1) := by decide +kernel
theorem d_MD_line_5 : decode prog_14_method_75_code 5 = .ok (.aload_n 0, 1) := by decide +kernel
theorem d_MD_line_6 : decode prog_14_method_75_code 6 = .ok (.getfield 477, 3) := by decide +kernel
theorem d_MD_line_9 : decode prog_14_method_75_code 9 = .ok (.if_icmp .ge 12, 3) := by decide +kernel
theorem d_MD_line_12 : decode prog_14_method_75_code 12 = .ok (.aload_n 0, 1) := by decide +kernel
theorem d_MD_line_13 : decode prog_14_method_75_code 13 = .ok (.getfield 187, 3) := by decide +kernel
theorem rfm_90 : (90, 228) ∈ mf_L := by decide +kernel
theorem d_MD_line_16 : decode prog_14_method_75_code 16 = .ok (.iload_n 1, 1) := by decide +kernel
theorem d_MD_line_17 : decode prog_14_method_75_code 17 = .ok (.iaload, 1) := by decide +kernel
theorem sf_228 : sh_L[228]? = some (0, 16) := by decide +kernel
theorem mr_228 (k : Nat) : mr 228 k = ((-2147483648), 2147483647) := rfl
theorem d_MD_line_18 : decode prog_14_method_75_code 18 = .ok (.goto 4, 3) := by decide +kernel
def m_MD_isRule : mr_T := (⟨"PlainMusicModel", "isRule", "(I)Z"⟩, prog_14_method_76_code, 2, some .boolean)
theorem d_MD_isRule_0 : decode prog_14_method_76_code 0 = .ok (.aload_n 0, 1) := by decide +kernel
theorem d_MD_isRule_1 : decode prog_14_method_76_code 1 = .ok (.getfield 555, 3) := by decide +kernel
theorem f_MD_555 : fl_OK "PlainMusicModel" 555 12 96 .int false := ⟨_, rfl, by decide, gwi_1578, rfl, rfl⟩
theorem mr_170_96 : mr 170 96 = ((-2147483648), 2147483647) := by decide +kernel
theorem d_MD_isRule_4 : decode prog_14_method_76_code 4 = .ok (.iload_n 1, 1) := by decide +kernel
theorem d_MD_isRule_5 : decode prog_14_method_76_code 5 = .ok (.iand, 1) := by decide +kernel
theorem d_MD_isRule_6 : decode prog_14_method_76_code 6 = .ok (.ifCond .eq 7, 3) := by decide +kernel
theorem d_MD_isRule_13 : decode prog_14_method_76_code 13 = .ok (.iconst 0, 1) := by decide +kernel
theorem d_MD_isRule_14 : decode prog_14_method_76_code 14 = .ok (.ireturn, 1) := by decide +kernel
theorem d_MD_isRule_9 : decode prog_14_method_76_code 9 = .ok (.iconst 1, 1) := by decide +kernel
theorem d_MD_isRule_10 : decode prog_14_method_76_code 10 = .ok (.goto 4, 3) := by decide +kernel
def m_MD_isWhite : mr_T := (⟨"PlainMusicModel", "isWhite", "(I)Z"⟩, prog_14_method_77_code, 2, some .boolean)
theorem d_MD_isWhite_0 : decode prog_14_method_77_code 0 = .ok (.iload_n 1, 1) := by decide +kernel
theorem d_MD_isWhite_1 : decode prog_14_method_77_code 1 = .ok (.ifCond .eq 36, 3) := by decide +kernel
theorem d_MD_isWhite_37 : decode prog_14_method_77_code 37 = .ok (.iconst 1, 1) := by decide +kernel
theorem d_MD_isWhite_38 : decode prog_14_method_77_code 38 = .ok (.goto 4, 3) := by decide +kernel
theorem d_MD_isWhite_42 : decode prog_14_method_77_code 42 = .ok (.ireturn, 1) := by decide +kernel
theorem d_MD_isWhite_4 : decode prog_14_method_77_code 4 = .ok (.iload_n 1, 1) := by decide +kernel
theorem d_MD_isWhite_5 : decode prog_14_method_77_code 5 = .ok (.iconst 2, 1) := by decide +kernel
theorem d_MD_isWhite_6 : decode prog_14_method_77_code 6 = .ok (.if_icmp .eq 31, 3) := by decide +kernel
theorem d_MD_isWhite_9 : decode prog_14_method_77_code 9 = .ok (.iload_n 1, 1) := by decide +kernel
theorem d_MD_isWhite_10 : decode prog_14_method_77_code 10 = .ok (.iconst 4, 1) := by decide +kernel
theorem d_MD_isWhite_11 : decode prog_14_method_77_code 11 = .ok (.if_icmp .eq 26, 3) := by decide +kernel
theorem d_MD_isWhite_14 : decode prog_14_method_77_code 14 = .ok (.iload_n 1, 1) := by decide +kernel
theorem d_MD_isWhite_15 : decode prog_14_method_77_code 15 = .ok (.iconst 5, 1) := by decide +kernel
theorem d_MD_isWhite_16 : decode prog_14_method_77_code 16 = .ok (.if_icmp .eq 21, 3) := by decide +kernel
theorem d_MD_isWhite_19 : decode prog_14_method_77_code 19 = .ok (.iload_n 1, 1) := by decide +kernel
theorem d_MD_isWhite_20 : decode prog_14_method_77_code 20 = .ok (.bipush 7, 2) := by decide +kernel
theorem d_MD_isWhite_22 : decode prog_14_method_77_code 22 = .ok (.if_icmp .eq 15, 3) := by decide +kernel
theorem d_MD_isWhite_25 : decode prog_14_method_77_code 25 = .ok (.iload_n 1, 1) := by decide +kernel
theorem d_MD_isWhite_26 : decode prog_14_method_77_code 26 = .ok (.bipush 9, 2) := by decide +kernel
theorem d_MD_isWhite_28 : decode prog_14_method_77_code 28 = .ok (.if_icmp .eq 9, 3) := by decide +kernel
theorem d_MD_isWhite_31 : decode prog_14_method_77_code 31 = .ok (.iload_n 1, 1) := by decide +kernel
theorem d_MD_isWhite_32 : decode prog_14_method_77_code 32 = .ok (.bipush 11, 2) := by decide +kernel
theorem d_MD_isWhite_34 : decode prog_14_method_77_code 34 = .ok (.if_icmp .ne 7, 3) := by decide +kernel
theorem d_MD_isWhite_41 : decode prog_14_method_77_code 41 = .ok (.iconst 0, 1) := by decide +kernel
def m_MD_treeAt : mr_T := (⟨"PlainMusicModel", "treeAt", "(III)I"⟩, prog_14_method_82_code, 4, some .int)
theorem d_MD_treeAt_0 : decode prog_14_method_82_code 0 = .ok (.iload_n 1, 1) := by decide +kernel
theorem d_MD_treeAt_1 : decode prog_14_method_82_code 1 = .ok (.bipush 13, 2) := by decide +kernel
theorem d_MD_treeAt_3 : decode prog_14_method_82_code 3 = .ok (.imul, 1) := by decide +kernel
theorem d_MD_treeAt_4 : decode prog_14_method_82_code 4 = .ok (.iload_n 2, 1) := by decide +kernel
theorem d_MD_treeAt_5 : decode prog_14_method_82_code 5 = .ok (.iadd, 1) := by decide +kernel
theorem d_MD_treeAt_6 : decode prog_14_method_82_code 6 = .ok (.bipush 13, 2) := by decide +kernel
theorem d_MD_treeAt_8 : decode prog_14_method_82_code 8 = .ok (.imul, 1) := by decide +kernel
theorem d_MD_treeAt_9 : decode prog_14_method_82_code 9 = .ok (.iload_n 3, 1) := by decide +kernel
theorem d_MD_treeAt_10 : decode prog_14_method_82_code 10 = .ok (.iadd, 1) := by decide +kernel
theorem d_MD_treeAt_11 : decode prog_14_method_82_code 11 = .ok (.ireturn, 1) := by decide +kernel
def m_MD_capped : mr_T := (⟨"PlainMusicModel", "capped", "(J)J"⟩, prog_14_method_83_code, 3, some .long)
theorem d_MD_capped_0 : decode prog_14_method_83_code 0 = .ok (.lload_n 1, 1) := by decide +kernel
theorem d_MD_capped_1 : decode prog_14_method_83_code 1 = .ok (.ldc2_w 581, 3) := by decide +kernel
theorem cst_MD_581 : Cond.constantLong "PlainMusicModel" 581 (Int64.ofInt 1000001) ∈ gw := gwi_2164
theorem d_MD_capped_4 : decode prog_14_method_83_code 4 = .ok (.lcmp, 1) := by decide +kernel
theorem d_MD_capped_5 : decode prog_14_method_83_code 5 = .ok (.ifCond .le 9, 3) := by decide +kernel
theorem d_MD_capped_14 : decode prog_14_method_83_code 14 = .ok (.lload_n 1, 1) := by decide +kernel
theorem d_MD_capped_15 : decode prog_14_method_83_code 15 = .ok (.lreturn, 1) := by decide +kernel
theorem d_MD_capped_8 : decode prog_14_method_83_code 8 = .ok (.ldc2_w 581, 3) := by decide +kernel
theorem d_MD_capped_11 : decode prog_14_method_83_code 11 = .ok (.goto 4, 3) := by decide +kernel
def m_MD_partner : mr_T := (⟨"PlainMusicModel", "partner", "(I)I"⟩, prog_14_method_91_code, 2, some .int)
theorem d_MD_partner_0 : decode prog_14_method_91_code 0 = .ok (.iload_n 1, 1) := by decide +kernel
theorem d_MD_partner_1 : decode prog_14_method_91_code 1 = .ok (.ifCond .lt 20, 3) := by decide +kernel
theorem d_MD_partner_21 : decode prog_14_method_91_code 21 = .ok (.iconst (-1), 1) := by decide +kernel
theorem d_MD_partner_22 : decode prog_14_method_91_code 22 = .ok (.ireturn, 1) := by decide +kernel
theorem d_MD_partner_4 : decode prog_14_method_91_code 4 = .ok (.iload_n 1, 1) := by decide +kernel
theorem d_MD_partner_5 : decode prog_14_method_91_code 5 = .ok (.aload_n 0, 1) := by decide +kernel
theorem d_MD_partner_6 : decode prog_14_method_91_code 6 = .ok (.getfield 486, 3) := by decide +kernel
theorem d_MD_partner_9 : decode prog_14_method_91_code 9 = .ok (.if_icmp .ge 12, 3) := by decide +kernel
theorem d_MD_partner_12 : decode prog_14_method_91_code 12 = .ok (.aload_n 0, 1) := by decide +kernel
theorem d_MD_partner_13 : decode prog_14_method_91_code 13 = .ok (.getfield 211, 3) := by decide +kernel
theorem rfm_106 : (106, 236) ∈ mf_L := by decide +kernel
theorem d_MD_partner_16 : decode prog_14_method_91_code 16 = .ok (.iload_n 1, 1) := by decide +kernel
theorem d_MD_partner_17 : decode prog_14_method_91_code 17 = .ok (.iaload, 1) := by decide +kernel
theorem sf_236 : sh_L[236]? = some (0, 80) := by decide +kernel
theorem mr_236 (k : Nat) : mr 236 k = ((-2147483648), 2147483647) := rfl
theorem d_MD_partner_18 : decode prog_14_method_91_code 18 = .ok (.goto 4, 3) := by decide +kernel
def m_MD_ways : mr_T := (⟨"PlainMusicModel", "ways", "()I"⟩, prog_14_method_92_code, 1, some .int)
theorem d_MD_ways_0 : decode prog_14_method_92_code 0 = .ok (.aload_n 0, 1) := by decide +kernel
theorem d_MD_ways_1 : decode prog_14_method_92_code 1 = .ok (.getfield 489, 3) := by decide +kernel
theorem d_MD_ways_4 : decode prog_14_method_92_code 4 = .ok (.ireturn, 1) := by decide +kernel
def m_MD_pairCost : mr_T := (⟨"PlainMusicModel", "pairCost", "(II)I"⟩, prog_14_method_88_code, 4, some .int)
theorem d_MD_pairCost_0 : decode prog_14_method_88_code 0 = .ok (.aload_n 0, 1) := by decide +kernel
theorem d_MD_pairCost_1 : decode prog_14_method_88_code 1 = .ok (.iload_n 1, 1) := by decide +kernel
theorem d_MD_pairCost_2 : decode prog_14_method_88_code 2 = .ok (.invokevirtual 520, 3) := by decide +kernel
theorem k_MD_lowest : mt_OK m_MD_lowest 1 1 := ⟨gwi_2061, gwi_146, ⟨by decide +kernel, by decide +kernel, by decide +kernel⟩, fun h => absurd h (by decide), fun _ => ⟨gwi_2060, gwi_109⟩, fun h => absurd h (by decide)⟩
theorem l_MD_520 : ml_OK "PlainMusicModel" 520 ⟨"PlainMusicModel", "lowest", "(I)I"⟩ := Or.inl gwi_2058
theorem d_MD_pairCost_5 : decode prog_14_method_88_code 5 = .ok (.aload_n 0, 1) := by decide +kernel
theorem d_MD_pairCost_6 : decode prog_14_method_88_code 6 = .ok (.iload_n 2, 1) := by decide +kernel
theorem d_MD_pairCost_7 : decode prog_14_method_88_code 7 = .ok (.invokevirtual 520, 3) := by decide +kernel
theorem d_MD_pairCost_10 : decode prog_14_method_88_code 10 = .ok (.isub, 1) := by decide +kernel
theorem d_MD_pairCost_11 : decode prog_14_method_88_code 11 = .ok (.istore_n 3, 1) := by decide +kernel
theorem d_MD_pairCost_12 : decode prog_14_method_88_code 12 = .ok (.iload_n 3, 1) := by decide +kernel
theorem d_MD_pairCost_13 : decode prog_14_method_88_code 13 = .ok (.ifCond .ge 8, 3) := by decide +kernel
theorem d_MD_pairCost_21 : decode prog_14_method_88_code 21 = .ok (.iload_n 3, 1) := by decide +kernel
theorem d_MD_pairCost_22 : decode prog_14_method_88_code 22 = .ok (.istore_n 3, 1) := by decide +kernel
theorem d_MD_pairCost_23 : decode prog_14_method_88_code 23 = .ok (.iload_n 3, 1) := by decide +kernel
theorem d_MD_pairCost_24 : decode prog_14_method_88_code 24 = .ok (.bipush 12, 2) := by decide +kernel
theorem d_MD_pairCost_26 : decode prog_14_method_88_code 26 = .ok (.if_icmp .le 8, 3) := by decide +kernel
theorem d_MD_pairCost_34 : decode prog_14_method_88_code 34 = .ok (.iload_n 3, 1) := by decide +kernel
theorem d_MD_pairCost_35 : decode prog_14_method_88_code 35 = .ok (.istore_n 3, 1) := by decide +kernel
theorem d_MD_pairCost_36 : decode prog_14_method_88_code 36 = .ok (.iload_n 3, 1) := by decide +kernel
theorem d_MD_pairCost_37 : decode prog_14_method_88_code 37 = .ok (.aload_n 0, 1) := by decide +kernel
theorem d_MD_pairCost_38 : decode prog_14_method_88_code 38 = .ok (.getfield 69, 3) := by decide +kernel
theorem d_MD_pairCost_41 : decode prog_14_method_88_code 41 = .ok (.iload_n 1, 1) := by decide +kernel
theorem d_MD_pairCost_42 : decode prog_14_method_88_code 42 = .ok (.laload, 1) := by decide +kernel
theorem d_MD_pairCost_43 : decode prog_14_method_88_code 43 = .ok (.aload_n 0, 1) := by decide +kernel
theorem d_MD_pairCost_44 : decode prog_14_method_88_code 44 = .ok (.getfield 69, 3) := by decide +kernel
theorem d_MD_pairCost_47 : decode prog_14_method_88_code 47 = .ok (.iload_n 2, 1) := by decide +kernel
theorem d_MD_pairCost_48 : decode prog_14_method_88_code 48 = .ok (.laload, 1) := by decide +kernel
theorem d_MD_pairCost_49 : decode prog_14_method_88_code 49 = .ok (.lcmp, 1) := by decide +kernel
theorem d_MD_pairCost_50 : decode prog_14_method_88_code 50 = .ok (.ifCond .ne 23, 3) := by decide +kernel
theorem d_MD_pairCost_73 : decode prog_14_method_88_code 73 = .ok (.iconst 1, 1) := by decide +kernel
theorem d_MD_pairCost_74 : decode prog_14_method_88_code 74 = .ok (.iadd, 1) := by decide +kernel
theorem d_MD_pairCost_75 : decode prog_14_method_88_code 75 = .ok (.ireturn, 1) := by decide +kernel
theorem d_MD_pairCost_53 : decode prog_14_method_88_code 53 = .ok (.aload_n 0, 1) := by decide +kernel
theorem d_MD_pairCost_54 : decode prog_14_method_88_code 54 = .ok (.getfield 72, 3) := by decide +kernel
theorem d_MD_pairCost_57 : decode prog_14_method_88_code 57 = .ok (.iload_n 1, 1) := by decide +kernel
theorem d_MD_pairCost_58 : decode prog_14_method_88_code 58 = .ok (.laload, 1) := by decide +kernel
theorem d_MD_pairCost_59 : decode prog_14_method_88_code 59 = .ok (.aload_n 0, 1) := by decide +kernel
theorem d_MD_pairCost_60 : decode prog_14_method_88_code 60 = .ok (.getfield 72, 3) := by decide +kernel
theorem d_MD_pairCost_63 : decode prog_14_method_88_code 63 = .ok (.iload_n 2, 1) := by decide +kernel
theorem d_MD_pairCost_64 : decode prog_14_method_88_code 64 = .ok (.laload, 1) := by decide +kernel
theorem d_MD_pairCost_65 : decode prog_14_method_88_code 65 = .ok (.lcmp, 1) := by decide +kernel
theorem d_MD_pairCost_66 : decode prog_14_method_88_code 66 = .ok (.ifCond .ne 7, 3) := by decide +kernel
theorem d_MD_pairCost_69 : decode prog_14_method_88_code 69 = .ok (.iconst 0, 1) := by decide +kernel
theorem d_MD_pairCost_70 : decode prog_14_method_88_code 70 = .ok (.goto 4, 3) := by decide +kernel
theorem d_MD_pairCost_29 : decode prog_14_method_88_code 29 = .ok (.bipush 12, 2) := by decide +kernel
theorem d_MD_pairCost_31 : decode prog_14_method_88_code 31 = .ok (.goto 4, 3) := by decide +kernel
theorem d_MD_pairCost_16 : decode prog_14_method_88_code 16 = .ok (.iload_n 3, 1) := by decide +kernel
theorem d_MD_pairCost_17 : decode prog_14_method_88_code 17 = .ok (.ineg, 1) := by decide +kernel
theorem d_MD_pairCost_18 : decode prog_14_method_88_code 18 = .ok (.goto 4, 3) := by decide +kernel
def m_MD_ratioTop : mr_T := (⟨"PlainMusicModel", "ratioTop", "(I)I"⟩, prog_14_method_93_code, 2, some .int)
theorem d_MD_ratioTop_0 : decode prog_14_method_93_code 0 = .ok (.iload_n 1, 1) := by decide +kernel
theorem d_MD_ratioTop_1 : decode prog_14_method_93_code 1 = .ok (.tableswitch 88 1 11 #[59, 62, 65, 68, 70, 72, 75, 77, 80, 82, 85], 59) := by decide +kernel
theorem d_MD_ratioTop_89 : decode prog_14_method_93_code 89 = .ok (.iconst 1, 1) := by decide +kernel
theorem d_MD_ratioTop_90 : decode prog_14_method_93_code 90 = .ok (.ireturn, 1) := by decide +kernel
theorem d_MD_ratioTop_60 : decode prog_14_method_93_code 60 = .ok (.bipush 16, 2) := by decide +kernel
theorem d_MD_ratioTop_62 : decode prog_14_method_93_code 62 = .ok (.ireturn, 1) := by decide +kernel
theorem d_MD_ratioTop_63 : decode prog_14_method_93_code 63 = .ok (.bipush 9, 2) := by decide +kernel
theorem d_MD_ratioTop_65 : decode prog_14_method_93_code 65 = .ok (.ireturn, 1) := by decide +kernel
theorem d_MD_ratioTop_66 : decode prog_14_method_93_code 66 = .ok (.bipush 6, 2) := by decide +kernel
theorem d_MD_ratioTop_68 : decode prog_14_method_93_code 68 = .ok (.ireturn, 1) := by decide +kernel
theorem d_MD_ratioTop_69 : decode prog_14_method_93_code 69 = .ok (.iconst 5, 1) := by decide +kernel
theorem d_MD_ratioTop_70 : decode prog_14_method_93_code 70 = .ok (.ireturn, 1) := by decide +kernel
theorem d_MD_ratioTop_71 : decode prog_14_method_93_code 71 = .ok (.iconst 4, 1) := by decide +kernel
theorem d_MD_ratioTop_72 : decode prog_14_method_93_code 72 = .ok (.ireturn, 1) := by decide +kernel
theorem d_MD_ratioTop_73 : decode prog_14_method_93_code 73 = .ok (.bipush 45, 2) := by decide +kernel
theorem d_MD_ratioTop_75 : decode prog_14_method_93_code 75 = .ok (.ireturn, 1) := by decide +kernel
theorem d_MD_ratioTop_76 : decode prog_14_method_93_code 76 = .ok (.iconst 3, 1) := by decide +kernel
theorem d_MD_ratioTop_77 : decode prog_14_method_93_code 77 = .ok (.ireturn, 1) := by decide +kernel
theorem d_MD_ratioTop_78 : decode prog_14_method_93_code 78 = .ok (.bipush 8, 2) := by decide +kernel
theorem d_MD_ratioTop_80 : decode prog_14_method_93_code 80 = .ok (.ireturn, 1) := by decide +kernel
theorem d_MD_ratioTop_81 : decode prog_14_method_93_code 81 = .ok (.iconst 5, 1) := by decide +kernel
theorem d_MD_ratioTop_82 : decode prog_14_method_93_code 82 = .ok (.ireturn, 1) := by decide +kernel
theorem d_MD_ratioTop_83 : decode prog_14_method_93_code 83 = .ok (.bipush 9, 2) := by decide +kernel
theorem d_MD_ratioTop_85 : decode prog_14_method_93_code 85 = .ok (.ireturn, 1) := by decide +kernel
theorem d_MD_ratioTop_86 : decode prog_14_method_93_code 86 = .ok (.bipush 15, 2) := by decide +kernel
theorem d_MD_ratioTop_88 : decode prog_14_method_93_code 88 = .ok (.ireturn, 1) := by decide +kernel
def m_MD_ratioLow : mr_T := (⟨"PlainMusicModel", "ratioLow", "(I)I"⟩, prog_14_method_94_code, 2, some .int)
theorem d_MD_ratioLow_0 : decode prog_14_method_94_code 0 = .ok (.iload_n 1, 1) := by decide +kernel
theorem d_MD_ratioLow_1 : decode prog_14_method_94_code 1 = .ok (.tableswitch 85 1 11 #[59, 62, 65, 67, 69, 71, 74, 76, 78, 80, 82], 59) := by decide +kernel
theorem d_MD_ratioLow_86 : decode prog_14_method_94_code 86 = .ok (.iconst 1, 1) := by decide +kernel
theorem d_MD_ratioLow_87 : decode prog_14_method_94_code 87 = .ok (.ireturn, 1) := by decide +kernel
theorem d_MD_ratioLow_60 : decode prog_14_method_94_code 60 = .ok (.bipush 15, 2) := by decide +kernel
theorem d_MD_ratioLow_62 : decode prog_14_method_94_code 62 = .ok (.ireturn, 1) := by decide +kernel
theorem d_MD_ratioLow_63 : decode prog_14_method_94_code 63 = .ok (.bipush 8, 2) := by decide +kernel
theorem d_MD_ratioLow_65 : decode prog_14_method_94_code 65 = .ok (.ireturn, 1) := by decide +kernel
theorem d_MD_ratioLow_66 : decode prog_14_method_94_code 66 = .ok (.iconst 5, 1) := by decide +kernel
theorem d_MD_ratioLow_67 : decode prog_14_method_94_code 67 = .ok (.ireturn, 1) := by decide +kernel
theorem d_MD_ratioLow_68 : decode prog_14_method_94_code 68 = .ok (.iconst 4, 1) := by decide +kernel
theorem d_MD_ratioLow_69 : decode prog_14_method_94_code 69 = .ok (.ireturn, 1) := by decide +kernel
theorem d_MD_ratioLow_70 : decode prog_14_method_94_code 70 = .ok (.iconst 3, 1) := by decide +kernel
theorem d_MD_ratioLow_71 : decode prog_14_method_94_code 71 = .ok (.ireturn, 1) := by decide +kernel
theorem d_MD_ratioLow_72 : decode prog_14_method_94_code 72 = .ok (.bipush 32, 2) := by decide +kernel
theorem d_MD_ratioLow_74 : decode prog_14_method_94_code 74 = .ok (.ireturn, 1) := by decide +kernel
theorem d_MD_ratioLow_75 : decode prog_14_method_94_code 75 = .ok (.iconst 2, 1) := by decide +kernel
theorem d_MD_ratioLow_76 : decode prog_14_method_94_code 76 = .ok (.ireturn, 1) := by decide +kernel
theorem d_MD_ratioLow_77 : decode prog_14_method_94_code 77 = .ok (.iconst 5, 1) := by decide +kernel
theorem d_MD_ratioLow_78 : decode prog_14_method_94_code 78 = .ok (.ireturn, 1) := by decide +kernel
theorem d_MD_ratioLow_79 : decode prog_14_method_94_code 79 = .ok (.iconst 3, 1) := by decide +kernel
theorem d_MD_ratioLow_80 : decode prog_14_method_94_code 80 = .ok (.ireturn, 1) := by decide +kernel
theorem d_MD_ratioLow_81 : decode prog_14_method_94_code 81 = .ok (.iconst 5, 1) := by decide +kernel
theorem d_MD_ratioLow_82 : decode prog_14_method_94_code 82 = .ok (.ireturn, 1) := by decide +kernel
theorem d_MD_ratioLow_83 : decode prog_14_method_94_code 83 = .ok (.bipush 8, 2) := by decide +kernel
theorem d_MD_ratioLow_85 : decode prog_14_method_94_code 85 = .ok (.ireturn, 1) := by decide +kernel
theorem s_MD_isShort {G : cx_T} {h : ah_T} (hx : mi h) {a1 : Int} (la1 : 0 ≤ a1) (ua1 : a1 ≤ 1199) : con G 0 0 0 m_MD_isShort [av_R (some 170), av_I a1] h (fun r h' => ∃ z, r = some (av_I z) ∧ (z = 0 ∨ z = 1) ∧ (z = SHq h a1.toNat) ∧ h = h') := by
  refine con_of (L := [some (av_R (some 170)), some (av_I a1)]) (by decide +kernel) (Nat.le_of_ble_eq_true rfl) rfl ?_
  refine A_aload_n 0 d_MD_isShort_0 rfl rfl ?_
  refine A_getAv (z := some 191) T_ok d_MD_isShort_1 f_MD_75 (mi_s hx sf_170) (mi_r hx rfm_33) ?_
  refine A_iload_n 1 d_MD_isShort_4 rfl rfl ?_
  refine A_ialoadn (lo := 0) (hi := 4) d_MD_isShort_5 (mi_s hx sf_191) (by omega) (by omega) (mi_g hx (by decide) (mr_191 _)) (fun x2 ex2 _ _ => ?_)
  refine A_if_le (tgt := 24) d_MD_isShort_6 (by decide) (fun c3 => ?_) (fun c3 => ?_)
  · refine A_iconst d_MD_isShort_24 rfl ?_
    exact A_zret d_MD_isShort_25 (by decide) rfl (by omega) ⟨_, rfl, by omega, (if_neg (by omega) : SHq h a1.toNat = _).symm, rfl⟩
  · refine A_aload_n 0 d_MD_isShort_9 rfl rfl ?_
    refine A_getAv (z := some 197) T_ok d_MD_isShort_10 f_MD_94 (mi_s hx sf_170) (mi_r hx rfm_39) ?_
    refine A_iload_n 1 d_MD_isShort_13 rfl rfl ?_
    refine A_ialoadn (lo := 0) (hi := 64) d_MD_isShort_14 (mi_s hx sf_197) (by omega) (by omega) (mi_g hx (by decide) (mr_197 _)) (fun x5 ex5 _ _ => ?_)
    refine A_bipush d_MD_isShort_15 rfl ?_
    refine A_pc (pc' := 17) rfl ?_
    refine A_icmp_lt (tgt := 24) d_MD_isShort_17 (by decide) (fun c6 => ?_) (fun c6 => ?_)
    · refine A_iconst d_MD_isShort_24 rfl ?_
      exact A_zret d_MD_isShort_25 (by decide) rfl (by omega) ⟨_, rfl, by omega, (if_neg (by omega) : SHq h a1.toNat = _).symm, rfl⟩
    · refine A_iconst d_MD_isShort_20 rfl ?_
      refine A_goto (tgt := 25) d_MD_isShort_21 (by decide) ?_
      exact A_zret d_MD_isShort_25 (by decide) rfl (by omega) ⟨_, rfl, by omega, (if_pos ⟨by omega, by omega⟩ : SHq h a1.toNat = _).symm, rfl⟩
theorem s_MD_group {G : cx_T} {h : ah_T} (hx : mi h) {a1 : Int}  : con G 0 0 0 m_MD_group [av_R (some 170), av_I a1] h (fun r h' => ∃ z, r = some (av_I z) ∧ ((-2147483648) ≤ z ∧ z ≤ 2147483647) ∧ h = h') := by
  refine con_of (L := [some (av_R (some 170)), some (av_I a1)]) (by decide +kernel) (Nat.le_of_ble_eq_true rfl) rfl ?_
  refine A_locI 1 rfl (fun ra => ?_)
  obtain ⟨_, _⟩ := ra
  refine A_iload_n 1 d_MD_group_0 rfl rfl ?_
  refine A_if_lt (tgt := 21) d_MD_group_1 (by decide) (fun c1 => ?_) (fun c1 => ?_)
  · refine A_iconst d_MD_group_21 rfl ?_
    exact A_iret d_MD_group_22 (by decide) rfl ⟨_, rfl, ⟨by omega, by omega⟩, rfl⟩
  · refine A_iload_n 1 d_MD_group_4 rfl rfl ?_
    refine A_aload_n 0 d_MD_group_5 rfl rfl ?_
    refine A_getIn (lo := 0) (hi := 16) T_ok d_MD_group_6 f_MD_474 (mi_s hx sf_170) (mi_g hx (by decide) mr_170_85) (fun x2 ex2 _ _ => ?_)
    refine A_icmp_ge (tgt := 21) d_MD_group_9 (by decide) (fun c3 => ?_) (fun c3 => ?_)
    · refine A_iconst d_MD_group_21 rfl ?_
      exact A_iret d_MD_group_22 (by decide) rfl ⟨_, rfl, ⟨by omega, by omega⟩, rfl⟩
    · refine A_aload_n 0 d_MD_group_12 rfl rfl ?_
      refine A_getAv (z := some 225) T_ok d_MD_group_13 f_MD_178 (mi_s hx sf_170) (mi_r hx rfm_86) ?_
      refine A_iload_n 1 d_MD_group_16 rfl rfl ?_
      refine A_ialoadf d_MD_group_17 (mi_s hx sf_225) (by omega) (by omega) (fun x5 ex5 _ _ => ?_)
      refine A_goto (tgt := 22) d_MD_group_18 (by decide) ?_
      exact A_iret d_MD_group_22 (by decide) rfl ⟨_, rfl, ⟨by omega, by omega⟩, rfl⟩
theorem s_MD_line {G : cx_T} {h : ah_T} (hx : mi h) {a1 : Int}  : con G 0 0 0 m_MD_line [av_R (some 170), av_I a1] h (fun r h' => ∃ z, r = some (av_I z) ∧ ((-2147483648) ≤ z ∧ z ≤ 2147483647) ∧ h = h') := by
  refine con_of (L := [some (av_R (some 170)), some (av_I a1)]) (by decide +kernel) (Nat.le_of_ble_eq_true rfl) rfl ?_
  refine A_locI 1 rfl (fun ra => ?_)
  obtain ⟨_, _⟩ := ra
  refine A_iload_n 1 d_MD_line_0 rfl rfl ?_
  refine A_if_lt (tgt := 21) d_MD_line_1 (by decide) (fun c1 => ?_) (fun c1 => ?_)
  · refine A_iconst d_MD_line_21 rfl ?_
    exact A_iret d_MD_line_22 (by decide) rfl ⟨_, rfl, ⟨by omega, by omega⟩, rfl⟩
  · refine A_iload_n 1 d_MD_line_4 rfl rfl ?_
    refine A_aload_n 0 d_MD_line_5 rfl rfl ?_
    refine A_getIn (lo := 0) (hi := 16) T_ok d_MD_line_6 f_MD_477 (mi_s hx sf_170) (mi_g hx (by decide) mr_170_89) (fun x2 ex2 _ _ => ?_)
    refine A_icmp_ge (tgt := 21) d_MD_line_9 (by decide) (fun c3 => ?_) (fun c3 => ?_)
    · refine A_iconst d_MD_line_21 rfl ?_
      exact A_iret d_MD_line_22 (by decide) rfl ⟨_, rfl, ⟨by omega, by omega⟩, rfl⟩
    · refine A_aload_n 0 d_MD_line_12 rfl rfl ?_
      refine A_getAv (z := some 228) T_ok d_MD_line_13 f_MD_187 (mi_s hx sf_170) (mi_r hx rfm_90) ?_
      refine A_iload_n 1 d_MD_line_16 rfl rfl ?_
      refine A_ialoadf d_MD_line_17 (mi_s hx sf_228) (by omega) (by omega) (fun x5 ex5 _ _ => ?_)
      refine A_goto (tgt := 22) d_MD_line_18 (by decide) ?_
      exact A_iret d_MD_line_22 (by decide) rfl ⟨_, rfl, ⟨by omega, by omega⟩, rfl⟩
theorem s_MD_isRule {G : cx_T} {h : ah_T} (hx : mi h) {a1 : Int}  : con G 0 0 0 m_MD_isRule [av_R (some 170), av_I a1] h (fun r h' => ∃ z, r = some (av_I z) ∧ (z = 0 ∨ z = 1) ∧ h = h') := by
  refine con_of (L := [some (av_R (some 170)), some (av_I a1)]) (by decide +kernel) (Nat.le_of_ble_eq_true rfl) rfl ?_
  refine A_locI 1 rfl (fun ra => ?_)
  obtain ⟨_, _⟩ := ra
  refine A_aload_n 0 d_MD_isRule_0 rfl rfl ?_
  refine A_getIf T_ok d_MD_isRule_1 f_MD_555 (mi_s hx sf_170) (fun x1 ex1 _ _ => ?_)
  refine A_iload_n 1 d_MD_isRule_4 rfl rfl ?_
  refine A_iand d_MD_isRule_5 ?_
  refine A_nrI (fun x2 ex2 _ _ => ?_)
  refine A_if_eq (tgt := 13) d_MD_isRule_6 (by decide) (fun c3 => ?_) (fun c3 => ?_)
  · refine A_iconst d_MD_isRule_13 rfl ?_
    exact A_zret d_MD_isRule_14 (by decide) rfl (by omega) ⟨_, rfl, by omega, rfl⟩
  · refine A_iconst d_MD_isRule_9 rfl ?_
    refine A_goto (tgt := 14) d_MD_isRule_10 (by decide) ?_
    exact A_zret d_MD_isRule_14 (by decide) rfl (by omega) ⟨_, rfl, by omega, rfl⟩
theorem s_MD_isWhite {G : cx_T} {h : ah_T} {a1 : Int}  : con G 0 0 0 m_MD_isWhite [av_R (some 170), av_I a1] h (fun r h' => ∃ z, r = some (av_I z) ∧ (z = 0 ∨ z = 1) ∧ h = h') := by
  refine con_of (L := [some (av_R (some 170)), some (av_I a1)]) (by decide +kernel) (Nat.le_of_ble_eq_true rfl) rfl ?_
  refine A_locI 1 rfl (fun ra => ?_)
  obtain ⟨_, _⟩ := ra
  refine A_iload_n 1 d_MD_isWhite_0 rfl rfl ?_
  refine A_if_eq (tgt := 37) d_MD_isWhite_1 (by decide) (fun c1 => ?_) (fun c1 => ?_)
  · refine A_iconst d_MD_isWhite_37 rfl ?_
    refine A_goto (tgt := 42) d_MD_isWhite_38 (by decide) ?_
    exact A_zret d_MD_isWhite_42 (by decide) rfl (by omega) ⟨_, rfl, by omega, rfl⟩
  · refine A_iload_n 1 d_MD_isWhite_4 rfl rfl ?_
    refine A_iconst d_MD_isWhite_5 rfl ?_
    refine A_icmp_eq (tgt := 37) d_MD_isWhite_6 (by decide) (fun c2 => ?_) (fun c2 => ?_)
    · refine A_iconst d_MD_isWhite_37 rfl ?_
      refine A_goto (tgt := 42) d_MD_isWhite_38 (by decide) ?_
      exact A_zret d_MD_isWhite_42 (by decide) rfl (by omega) ⟨_, rfl, by omega, rfl⟩
    · refine A_iload_n 1 d_MD_isWhite_9 rfl rfl ?_
      refine A_iconst d_MD_isWhite_10 rfl ?_
      refine A_icmp_eq (tgt := 37) d_MD_isWhite_11 (by decide) (fun c3 => ?_) (fun c3 => ?_)
      · refine A_iconst d_MD_isWhite_37 rfl ?_
        refine A_goto (tgt := 42) d_MD_isWhite_38 (by decide) ?_
        exact A_zret d_MD_isWhite_42 (by decide) rfl (by omega) ⟨_, rfl, by omega, rfl⟩
      · refine A_iload_n 1 d_MD_isWhite_14 rfl rfl ?_
        refine A_iconst d_MD_isWhite_15 rfl ?_
        refine A_icmp_eq (tgt := 37) d_MD_isWhite_16 (by decide) (fun c4 => ?_) (fun c4 => ?_)
        · refine A_iconst d_MD_isWhite_37 rfl ?_
          refine A_goto (tgt := 42) d_MD_isWhite_38 (by decide) ?_
          exact A_zret d_MD_isWhite_42 (by decide) rfl (by omega) ⟨_, rfl, by omega, rfl⟩
        · refine A_iload_n 1 d_MD_isWhite_19 rfl rfl ?_
          refine A_bipush d_MD_isWhite_20 rfl ?_
          refine A_icmp_eq (tgt := 37) d_MD_isWhite_22 (by decide) (fun c5 => ?_) (fun c5 => ?_)
          · refine A_iconst d_MD_isWhite_37 rfl ?_
            refine A_goto (tgt := 42) d_MD_isWhite_38 (by decide) ?_
            exact A_zret d_MD_isWhite_42 (by decide) rfl (by omega) ⟨_, rfl, by omega, rfl⟩
          · refine A_iload_n 1 d_MD_isWhite_25 rfl rfl ?_
            refine A_bipush d_MD_isWhite_26 rfl ?_
            refine A_icmp_eq (tgt := 37) d_MD_isWhite_28 (by decide) (fun c6 => ?_) (fun c6 => ?_)
            · refine A_iconst d_MD_isWhite_37 rfl ?_
              refine A_goto (tgt := 42) d_MD_isWhite_38 (by decide) ?_
              exact A_zret d_MD_isWhite_42 (by decide) rfl (by omega) ⟨_, rfl, by omega, rfl⟩
            · refine A_iload_n 1 d_MD_isWhite_31 rfl rfl ?_
              refine A_bipush d_MD_isWhite_32 rfl ?_
              refine A_icmp_ne (tgt := 41) d_MD_isWhite_34 (by decide) (fun c7 => ?_) (fun c7 => ?_)
              · refine A_iconst d_MD_isWhite_41 rfl ?_
                exact A_zret d_MD_isWhite_42 (by decide) rfl (by omega) ⟨_, rfl, by omega, rfl⟩
              · refine A_iconst d_MD_isWhite_37 rfl ?_
                refine A_goto (tgt := 42) d_MD_isWhite_38 (by decide) ?_
                exact A_zret d_MD_isWhite_42 (by decide) rfl (by omega) ⟨_, rfl, by omega, rfl⟩
theorem s_MD_treeAt {G : cx_T} {h : ah_T} {a1 : Int} {a2 : Int} {a3 : Int} (la1 : 0 ≤ a1) (ua1 : a1 ≤ 15) (la2 : 0 ≤ a2) (ua2 : a2 ≤ 12) (la3 : 0 ≤ a3) (ua3 : a3 ≤ 12) : con G 0 0 0 m_MD_treeAt [av_R (some 170), av_I a1, av_I a2, av_I a3] h (fun r h' => ∃ z, r = some (av_I z) ∧ (0 ≤ z ∧ z ≤ 2703) ∧ (z = (a1 * 13 + a2) * 13 + a3) ∧ h = h') := by
  refine con_of (L := [some (av_R (some 170)), some (av_I a1), some (av_I a2), some (av_I a3)]) (by decide +kernel) (Nat.le_of_ble_eq_true rfl) rfl ?_
  refine A_iload_n 1 d_MD_treeAt_0 rfl rfl ?_
  refine A_bipush d_MD_treeAt_1 rfl ?_
  refine A_imulv (z := (13 * a1)) d_MD_treeAt_3 (w32_to (by omega) (by unfold i32; omega)) ?_
  refine A_iload_n 2 d_MD_treeAt_4 rfl rfl ?_
  refine A_iaddv (z := (13 * a1 + a2)) d_MD_treeAt_5 (w32_to (by omega) (by unfold i32; omega)) ?_
  refine A_pc (pc' := 6) rfl ?_
  refine A_bipush d_MD_treeAt_6 rfl ?_
  refine A_imulv (z := (169 * a1 + 13 * a2)) d_MD_treeAt_8 (w32_to (by omega) (by unfold i32; omega)) ?_
  refine A_iload_n 3 d_MD_treeAt_9 rfl rfl ?_
  refine A_iaddv (z := (169 * a1 + 13 * a2 + a3)) d_MD_treeAt_10 (w32_to (by omega) (by unfold i32; omega)) ?_
  exact A_iret d_MD_treeAt_11 (by decide) rfl ⟨_, rfl, ⟨by omega, by omega⟩, (by omega), rfl⟩
theorem s_MD_capped {G : cx_T} {h : ah_T} {a1 : Int} (la1 : 0 ≤ a1) (ua1 : a1 ≤ 4611686018427387904) : con G 0 0 0 m_MD_capped [av_R (some 170), av_L a1] h (fun r h' => ∃ z, r = some (av_L z) ∧ (0 ≤ z ∧ z ≤ 1000001) ∧ (z = cap a1) ∧ h = h') := by
  refine con_of (L := [some (av_R (some 170)), some (av_L a1), none]) (by decide +kernel) (Nat.le_of_ble_eq_true rfl) rfl ?_
  refine A_lload_n 1 d_MD_capped_0 rfl rfl ?_
  refine A_ldc2 (z := 1000001) d_MD_capped_1 cst_MD_581 rfl ?_
  refine A_lcmpn d_MD_capped_4 (fun x1 lx1 ex1 gx1 _ _ => ?_)
  refine A_if_le (tgt := 14) d_MD_capped_5 (by decide) (fun c2 => ?_) (fun c2 => ?_)
  · have mc2 : (a1 - 1000001) ≤ 0 := by omega
    refine A_lload_n 1 d_MD_capped_14 rfl rfl ?_
    exact A_lret d_MD_capped_15 (by decide) rfl ⟨_, rfl, ⟨by omega, by omega⟩, (if_neg (by omega) : cap a1 = _).symm, rfl⟩
  · have mc2 : (a1 - 1000001) > 0 := by omega
    refine A_ldc2 (z := 1000001) d_MD_capped_8 cst_MD_581 rfl ?_
    refine A_goto (tgt := 15) d_MD_capped_11 (by decide) ?_
    exact A_lret d_MD_capped_15 (by decide) rfl ⟨_, rfl, ⟨by omega, by omega⟩, (if_pos (by omega) : cap a1 = _).symm, rfl⟩
theorem s_MD_partner {G : cx_T} {h : ah_T} (hx : mi h) {a1 : Int}  : con G 0 0 0 m_MD_partner [av_R (some 170), av_I a1] h (fun r h' => ∃ z, r = some (av_I z) ∧ ((-2147483648) ≤ z ∧ z ≤ 2147483647) ∧ h = h') := by
  refine con_of (L := [some (av_R (some 170)), some (av_I a1)]) (by decide +kernel) (Nat.le_of_ble_eq_true rfl) rfl ?_
  refine A_locI 1 rfl (fun ra => ?_)
  obtain ⟨_, _⟩ := ra
  refine A_iload_n 1 d_MD_partner_0 rfl rfl ?_
  refine A_if_lt (tgt := 21) d_MD_partner_1 (by decide) (fun c1 => ?_) (fun c1 => ?_)
  · refine A_iconst d_MD_partner_21 rfl ?_
    exact A_iret d_MD_partner_22 (by decide) rfl ⟨_, rfl, ⟨by omega, by omega⟩, rfl⟩
  · refine A_iload_n 1 d_MD_partner_4 rfl rfl ?_
    refine A_aload_n 0 d_MD_partner_5 rfl rfl ?_
    refine A_getIn (lo := 0) (hi := 80) T_ok d_MD_partner_6 f_MD_486 (mi_s hx sf_170) (mi_g hx (by decide) mr_170_104) (fun x2 ex2 _ _ => ?_)
    refine A_icmp_ge (tgt := 21) d_MD_partner_9 (by decide) (fun c3 => ?_) (fun c3 => ?_)
    · refine A_iconst d_MD_partner_21 rfl ?_
      exact A_iret d_MD_partner_22 (by decide) rfl ⟨_, rfl, ⟨by omega, by omega⟩, rfl⟩
    · refine A_aload_n 0 d_MD_partner_12 rfl rfl ?_
      refine A_getAv (z := some 236) T_ok d_MD_partner_13 f_MD_211 (mi_s hx sf_170) (mi_r hx rfm_106) ?_
      refine A_iload_n 1 d_MD_partner_16 rfl rfl ?_
      refine A_ialoadf d_MD_partner_17 (mi_s hx sf_236) (by omega) (by omega) (fun x5 ex5 _ _ => ?_)
      refine A_goto (tgt := 22) d_MD_partner_18 (by decide) ?_
      exact A_iret d_MD_partner_22 (by decide) rfl ⟨_, rfl, ⟨by omega, by omega⟩, rfl⟩
theorem s_MD_ways {G : cx_T} {h : ah_T} (hx : mi h)   : con G 0 0 0 m_MD_ways [av_R (some 170)] h (fun r h' => ∃ z, r = some (av_I z) ∧ ((-2147483648) ≤ z ∧ z ≤ 2147483647) ∧ h = h') := by
  refine con_of (L := [some (av_R (some 170))]) (by decide +kernel) (Nat.le_of_ble_eq_true rfl) rfl ?_
  refine A_aload_n 0 d_MD_ways_0 rfl rfl ?_
  refine A_getIf T_ok d_MD_ways_1 f_MD_489 (mi_s hx sf_170) (fun x1 ex1 _ _ => ?_)
  exact A_iret d_MD_ways_4 (by decide) rfl ⟨_, rfl, ⟨by omega, by omega⟩, rfl⟩
theorem s_MD_pairCost {G : cx_T} {h : ah_T} (hx : mi h) {a1 : Int} {a2 : Int} (la1 : 0 ≤ a1) (ua1 : a1 ≤ 1199) (la2 : 0 ≤ a2) (ua2 : a2 ≤ 1199) : con G 1 0 0 m_MD_pairCost [av_R (some 170), av_I a1, av_I a2] h (fun r h' => ∃ z, r = some (av_I z) ∧ (0 ≤ z ∧ z ≤ 13) ∧ h = h') := by
  refine con_of (L := [some (av_R (some 170)), some (av_I a1), some (av_I a2), none]) (by decide +kernel) (Nat.le_of_ble_eq_true rfl) rfl ?_
  refine A_aload_n 0 d_MD_pairCost_0 rfl rfl ?_
  refine A_iload_n 1 d_MD_pairCost_1 rfl rfl ?_
  refine A_callV1 m_MD_lowest T_ok d_MD_pairCost_2 l_MD_520 k_MD_lowest (mi_s hx sf_170) rfl (by decide +kernel) (by decide) (Nat.le_of_ble_eq_true rfl) (s_MD_lowest hx (by omega) (by omega)) (fun r h1 hq => ?_)
  obtain ⟨x3, rfl, ⟨_, _⟩, rfl⟩ := hq
  refine A_aload_n 0 d_MD_pairCost_5 rfl rfl ?_
  refine A_iload_n 2 d_MD_pairCost_6 rfl rfl ?_
  refine A_callV1 m_MD_lowest T_ok d_MD_pairCost_7 l_MD_520 k_MD_lowest (mi_s hx sf_170) rfl (by decide +kernel) (by decide) (Nat.le_of_ble_eq_true rfl) (s_MD_lowest hx (by omega) (by omega)) (fun r h4 hq => ?_)
  obtain ⟨x6, rfl, ⟨_, _⟩, rfl⟩ := hq
  refine A_isubv (z := (x3 - x6)) d_MD_pairCost_10 (w32_to (by omega) (by unfold i32; omega)) ?_
  refine A_istore_n 3 (L' := [some (av_R (some 170)), some (av_I a1), some (av_I a2), some (av_I (x3 - x6))]) d_MD_pairCost_11 rfl (Nat.le_of_ble_eq_true rfl) rfl ?_
  refine A_iload_n 3 d_MD_pairCost_12 rfl rfl ?_
  refine A_if_ge (tgt := 21) d_MD_pairCost_13 (by decide) (fun c7 => ?_) (fun c7 => ?_)
  · refine A_iload_n 3 d_MD_pairCost_21 rfl rfl ?_
    refine A_istore_n 3 (L' := [some (av_R (some 170)), some (av_I a1), some (av_I a2), some (av_I (x3 - x6))]) d_MD_pairCost_22 rfl (Nat.le_of_ble_eq_true rfl) rfl ?_
    refine A_iload_n 3 d_MD_pairCost_23 rfl rfl ?_
    refine A_bipush d_MD_pairCost_24 rfl ?_
    refine A_icmp_le (tgt := 34) d_MD_pairCost_26 (by decide) (fun c8 => ?_) (fun c8 => ?_)
    · refine A_iload_n 3 d_MD_pairCost_34 rfl rfl ?_
      refine A_istore_n 3 (L' := [some (av_R (some 170)), some (av_I a1), some (av_I a2), some (av_I (x3 - x6))]) d_MD_pairCost_35 rfl (Nat.le_of_ble_eq_true rfl) rfl ?_
      refine A_iload_n 3 d_MD_pairCost_36 rfl rfl ?_
      refine A_aload_n 0 d_MD_pairCost_37 rfl rfl ?_
      refine A_getAv (z := some 189) T_ok d_MD_pairCost_38 f_MD_69 (mi_s hx sf_170) (mi_r hx rfm_31) ?_
      refine A_pc (pc' := 41) rfl ?_
      refine A_iload_n 1 d_MD_pairCost_41 rfl rfl ?_
      refine A_laloadn (lo := 0) (hi := 4294967296) d_MD_pairCost_42 (mi_s hx sf_189) (by omega) (by omega) (mi_l hx (by decide) (mq_189 _)) (fun x10 ex10 _ _ => ?_)
      refine A_aload_n 0 d_MD_pairCost_43 rfl rfl ?_
      refine A_getAv (z := some 189) T_ok d_MD_pairCost_44 f_MD_69 (mi_s hx sf_170) (mi_r hx rfm_31) ?_
      refine A_iload_n 2 d_MD_pairCost_47 rfl rfl ?_
      refine A_laloadn (lo := 0) (hi := 4294967296) d_MD_pairCost_48 (mi_s hx sf_189) (by omega) (by omega) (mi_l hx (by decide) (mq_189 _)) (fun x12 ex12 _ _ => ?_)
      refine A_pc (pc' := 49) rfl ?_
      refine A_lcmpn d_MD_pairCost_49 (fun x13 lx13 ex13 gx13 _ _ => ?_)
      refine A_if_ne (tgt := 73) d_MD_pairCost_50 (by decide) (fun c14 => ?_) (fun c14 => ?_)
      · have mc14 : (x10 - x12) ≠ 0 := by omega
        refine A_iconst d_MD_pairCost_73 rfl ?_
        refine A_iaddv (z := (x3 - x6 + 1)) d_MD_pairCost_74 (w32_to (by omega) (by unfold i32; omega)) ?_
        exact A_iret d_MD_pairCost_75 (by decide) rfl ⟨_, rfl, ⟨by omega, by omega⟩, rfl⟩
      · have mc14 : (x10 - x12) = 0 := by omega
        refine A_aload_n 0 d_MD_pairCost_53 rfl rfl ?_
        refine A_getAv (z := some 190) T_ok d_MD_pairCost_54 f_MD_72 (mi_s hx sf_170) (mi_r hx rfm_32) ?_
        refine A_iload_n 1 d_MD_pairCost_57 rfl rfl ?_
        refine A_laloadn (lo := 0) (hi := 137438953472) d_MD_pairCost_58 (mi_s hx sf_190) (by omega) (by omega) (mi_l hx (by decide) (mq_190 _)) (fun x16 ex16 _ _ => ?_)
        refine A_aload_n 0 d_MD_pairCost_59 rfl rfl ?_
        refine A_pc (pc' := 60) rfl ?_
        refine A_getAv (z := some 190) T_ok d_MD_pairCost_60 f_MD_72 (mi_s hx sf_170) (mi_r hx rfm_32) ?_
        refine A_iload_n 2 d_MD_pairCost_63 rfl rfl ?_
        refine A_laloadn (lo := 0) (hi := 137438953472) d_MD_pairCost_64 (mi_s hx sf_190) (by omega) (by omega) (mi_l hx (by decide) (mq_190 _)) (fun x18 ex18 _ _ => ?_)
        refine A_lcmpn d_MD_pairCost_65 (fun x19 lx19 ex19 gx19 _ _ => ?_)
        refine A_if_ne (tgt := 73) d_MD_pairCost_66 (by decide) (fun c20 => ?_) (fun c20 => ?_)
        · have mc20 : (x16 - x18) ≠ 0 := by omega
          refine A_iconst d_MD_pairCost_73 rfl ?_
          refine A_iaddv (z := (x3 - x6 + 1)) d_MD_pairCost_74 (w32_to (by omega) (by unfold i32; omega)) ?_
          exact A_iret d_MD_pairCost_75 (by decide) rfl ⟨_, rfl, ⟨by omega, by omega⟩, rfl⟩
        · have mc20 : (x16 - x18) = 0 := by omega
          refine A_iconst d_MD_pairCost_69 rfl ?_
          refine A_goto (tgt := 74) d_MD_pairCost_70 (by decide) ?_
          refine A_iaddv (z := (x3 - x6)) d_MD_pairCost_74 (w32_to (by omega) (by unfold i32; omega)) ?_
          exact A_iret d_MD_pairCost_75 (by decide) rfl ⟨_, rfl, ⟨by omega, by omega⟩, rfl⟩
    · refine A_bipush d_MD_pairCost_29 rfl ?_
      refine A_goto (tgt := 35) d_MD_pairCost_31 (by decide) ?_
      refine A_istore_n 3 (L' := [some (av_R (some 170)), some (av_I a1), some (av_I a2), some (av_I 12)]) d_MD_pairCost_35 rfl (Nat.le_of_ble_eq_true rfl) rfl ?_
      refine A_iload_n 3 d_MD_pairCost_36 rfl rfl ?_
      refine A_aload_n 0 d_MD_pairCost_37 rfl rfl ?_
      refine A_getAv (z := some 189) T_ok d_MD_pairCost_38 f_MD_69 (mi_s hx sf_170) (mi_r hx rfm_31) ?_
      refine A_iload_n 1 d_MD_pairCost_41 rfl rfl ?_
      refine A_pc (pc' := 42) rfl ?_
      refine A_laloadn (lo := 0) (hi := 4294967296) d_MD_pairCost_42 (mi_s hx sf_189) (by omega) (by omega) (mi_l hx (by decide) (mq_189 _)) (fun x22 ex22 _ _ => ?_)
      refine A_aload_n 0 d_MD_pairCost_43 rfl rfl ?_
      refine A_getAv (z := some 189) T_ok d_MD_pairCost_44 f_MD_69 (mi_s hx sf_170) (mi_r hx rfm_31) ?_
      refine A_iload_n 2 d_MD_pairCost_47 rfl rfl ?_
      refine A_laloadn (lo := 0) (hi := 4294967296) d_MD_pairCost_48 (mi_s hx sf_189) (by omega) (by omega) (mi_l hx (by decide) (mq_189 _)) (fun x24 ex24 _ _ => ?_)
      refine A_lcmpn d_MD_pairCost_49 (fun x25 lx25 ex25 gx25 _ _ => ?_)
      refine A_pc (pc' := 50) rfl ?_
      refine A_if_ne (tgt := 73) d_MD_pairCost_50 (by decide) (fun c26 => ?_) (fun c26 => ?_)
      · have mc26 : (x22 - x24) ≠ 0 := by omega
        refine A_iconst d_MD_pairCost_73 rfl ?_
        refine A_iaddv (z := 13) d_MD_pairCost_74 (by decide +kernel) ?_
        exact A_iret d_MD_pairCost_75 (by decide) rfl ⟨_, rfl, ⟨by omega, by omega⟩, rfl⟩
      · have mc26 : (x22 - x24) = 0 := by omega
        refine A_aload_n 0 d_MD_pairCost_53 rfl rfl ?_
        refine A_getAv (z := some 190) T_ok d_MD_pairCost_54 f_MD_72 (mi_s hx sf_170) (mi_r hx rfm_32) ?_
        refine A_iload_n 1 d_MD_pairCost_57 rfl rfl ?_
        refine A_laloadn (lo := 0) (hi := 137438953472) d_MD_pairCost_58 (mi_s hx sf_190) (by omega) (by omega) (mi_l hx (by decide) (mq_190 _)) (fun x28 ex28 _ _ => ?_)
        refine A_aload_n 0 d_MD_pairCost_59 rfl rfl ?_
        refine A_pc (pc' := 60) rfl ?_
        refine A_getAv (z := some 190) T_ok d_MD_pairCost_60 f_MD_72 (mi_s hx sf_170) (mi_r hx rfm_32) ?_
        refine A_iload_n 2 d_MD_pairCost_63 rfl rfl ?_
        refine A_laloadn (lo := 0) (hi := 137438953472) d_MD_pairCost_64 (mi_s hx sf_190) (by omega) (by omega) (mi_l hx (by decide) (mq_190 _)) (fun x30 ex30 _ _ => ?_)
        refine A_lcmpn d_MD_pairCost_65 (fun x31 lx31 ex31 gx31 _ _ => ?_)
        refine A_if_ne (tgt := 73) d_MD_pairCost_66 (by decide) (fun c32 => ?_) (fun c32 => ?_)
        · have mc32 : (x28 - x30) ≠ 0 := by omega
          refine A_iconst d_MD_pairCost_73 rfl ?_
          refine A_iaddv (z := 13) d_MD_pairCost_74 (by decide +kernel) ?_
          exact A_iret d_MD_pairCost_75 (by decide) rfl ⟨_, rfl, ⟨by omega, by omega⟩, rfl⟩
        · have mc32 : (x28 - x30) = 0 := by omega
          refine A_iconst d_MD_pairCost_69 rfl ?_
          refine A_goto (tgt := 74) d_MD_pairCost_70 (by decide) ?_
          refine A_iaddv (z := 12) d_MD_pairCost_74 (by decide +kernel) ?_
          exact A_iret d_MD_pairCost_75 (by decide) rfl ⟨_, rfl, ⟨by omega, by omega⟩, rfl⟩
  · refine A_iload_n 3 d_MD_pairCost_16 rfl rfl ?_
    refine A_inegv (z := (-x3 + x6)) d_MD_pairCost_17 (w32_to (by omega) (by unfold i32; omega)) ?_
    refine A_goto (tgt := 22) d_MD_pairCost_18 (by decide) ?_
    refine A_istore_n 3 (L' := [some (av_R (some 170)), some (av_I a1), some (av_I a2), some (av_I (-x3 + x6))]) d_MD_pairCost_22 rfl (Nat.le_of_ble_eq_true rfl) rfl ?_
    refine A_iload_n 3 d_MD_pairCost_23 rfl rfl ?_
    refine A_bipush d_MD_pairCost_24 rfl ?_
    refine A_icmp_le (tgt := 34) d_MD_pairCost_26 (by decide) (fun c33 => ?_) (fun c33 => ?_)
    · refine A_iload_n 3 d_MD_pairCost_34 rfl rfl ?_
      refine A_istore_n 3 (L' := [some (av_R (some 170)), some (av_I a1), some (av_I a2), some (av_I (-x3 + x6))]) d_MD_pairCost_35 rfl (Nat.le_of_ble_eq_true rfl) rfl ?_
      refine A_iload_n 3 d_MD_pairCost_36 rfl rfl ?_
      refine A_aload_n 0 d_MD_pairCost_37 rfl rfl ?_
      refine A_getAv (z := some 189) T_ok d_MD_pairCost_38 f_MD_69 (mi_s hx sf_170) (mi_r hx rfm_31) ?_
      refine A_pc (pc' := 41) rfl ?_
      refine A_iload_n 1 d_MD_pairCost_41 rfl rfl ?_
      refine A_laloadn (lo := 0) (hi := 4294967296) d_MD_pairCost_42 (mi_s hx sf_189) (by omega) (by omega) (mi_l hx (by decide) (mq_189 _)) (fun x35 ex35 _ _ => ?_)
      refine A_aload_n 0 d_MD_pairCost_43 rfl rfl ?_
      refine A_getAv (z := some 189) T_ok d_MD_pairCost_44 f_MD_69 (mi_s hx sf_170) (mi_r hx rfm_31) ?_
      refine A_iload_n 2 d_MD_pairCost_47 rfl rfl ?_
      refine A_laloadn (lo := 0) (hi := 4294967296) d_MD_pairCost_48 (mi_s hx sf_189) (by omega) (by omega) (mi_l hx (by decide) (mq_189 _)) (fun x37 ex37 _ _ => ?_)
      refine A_pc (pc' := 49) rfl ?_
      refine A_lcmpn d_MD_pairCost_49 (fun x38 lx38 ex38 gx38 _ _ => ?_)
      refine A_if_ne (tgt := 73) d_MD_pairCost_50 (by decide) (fun c39 => ?_) (fun c39 => ?_)
      · have mc39 : (x35 - x37) ≠ 0 := by omega
        refine A_iconst d_MD_pairCost_73 rfl ?_
        refine A_iaddv (z := (-x3 + x6 + 1)) d_MD_pairCost_74 (w32_to (by omega) (by unfold i32; omega)) ?_
        exact A_iret d_MD_pairCost_75 (by decide) rfl ⟨_, rfl, ⟨by omega, by omega⟩, rfl⟩
      · have mc39 : (x35 - x37) = 0 := by omega
        refine A_aload_n 0 d_MD_pairCost_53 rfl rfl ?_
        refine A_getAv (z := some 190) T_ok d_MD_pairCost_54 f_MD_72 (mi_s hx sf_170) (mi_r hx rfm_32) ?_
        refine A_iload_n 1 d_MD_pairCost_57 rfl rfl ?_
        refine A_laloadn (lo := 0) (hi := 137438953472) d_MD_pairCost_58 (mi_s hx sf_190) (by omega) (by omega) (mi_l hx (by decide) (mq_190 _)) (fun x41 ex41 _ _ => ?_)
        refine A_aload_n 0 d_MD_pairCost_59 rfl rfl ?_
        refine A_pc (pc' := 60) rfl ?_
        refine A_getAv (z := some 190) T_ok d_MD_pairCost_60 f_MD_72 (mi_s hx sf_170) (mi_r hx rfm_32) ?_
        refine A_iload_n 2 d_MD_pairCost_63 rfl rfl ?_
        refine A_laloadn (lo := 0) (hi := 137438953472) d_MD_pairCost_64 (mi_s hx sf_190) (by omega) (by omega) (mi_l hx (by decide) (mq_190 _)) (fun x43 ex43 _ _ => ?_)
        refine A_lcmpn d_MD_pairCost_65 (fun x44 lx44 ex44 gx44 _ _ => ?_)
        refine A_if_ne (tgt := 73) d_MD_pairCost_66 (by decide) (fun c45 => ?_) (fun c45 => ?_)
        · have mc45 : (x41 - x43) ≠ 0 := by omega
          refine A_iconst d_MD_pairCost_73 rfl ?_
          refine A_iaddv (z := (-x3 + x6 + 1)) d_MD_pairCost_74 (w32_to (by omega) (by unfold i32; omega)) ?_
          exact A_iret d_MD_pairCost_75 (by decide) rfl ⟨_, rfl, ⟨by omega, by omega⟩, rfl⟩
        · have mc45 : (x41 - x43) = 0 := by omega
          refine A_iconst d_MD_pairCost_69 rfl ?_
          refine A_goto (tgt := 74) d_MD_pairCost_70 (by decide) ?_
          refine A_iaddv (z := (-x3 + x6)) d_MD_pairCost_74 (w32_to (by omega) (by unfold i32; omega)) ?_
          exact A_iret d_MD_pairCost_75 (by decide) rfl ⟨_, rfl, ⟨by omega, by omega⟩, rfl⟩
    · refine A_bipush d_MD_pairCost_29 rfl ?_
      refine A_goto (tgt := 35) d_MD_pairCost_31 (by decide) ?_
      refine A_istore_n 3 (L' := [some (av_R (some 170)), some (av_I a1), some (av_I a2), some (av_I 12)]) d_MD_pairCost_35 rfl (Nat.le_of_ble_eq_true rfl) rfl ?_
      refine A_iload_n 3 d_MD_pairCost_36 rfl rfl ?_
      refine A_aload_n 0 d_MD_pairCost_37 rfl rfl ?_
      refine A_getAv (z := some 189) T_ok d_MD_pairCost_38 f_MD_69 (mi_s hx sf_170) (mi_r hx rfm_31) ?_
      refine A_iload_n 1 d_MD_pairCost_41 rfl rfl ?_
      refine A_pc (pc' := 42) rfl ?_
      refine A_laloadn (lo := 0) (hi := 4294967296) d_MD_pairCost_42 (mi_s hx sf_189) (by omega) (by omega) (mi_l hx (by decide) (mq_189 _)) (fun x47 ex47 _ _ => ?_)
      refine A_aload_n 0 d_MD_pairCost_43 rfl rfl ?_
      refine A_getAv (z := some 189) T_ok d_MD_pairCost_44 f_MD_69 (mi_s hx sf_170) (mi_r hx rfm_31) ?_
      refine A_iload_n 2 d_MD_pairCost_47 rfl rfl ?_
      refine A_laloadn (lo := 0) (hi := 4294967296) d_MD_pairCost_48 (mi_s hx sf_189) (by omega) (by omega) (mi_l hx (by decide) (mq_189 _)) (fun x49 ex49 _ _ => ?_)
      refine A_lcmpn d_MD_pairCost_49 (fun x50 lx50 ex50 gx50 _ _ => ?_)
      refine A_pc (pc' := 50) rfl ?_
      refine A_if_ne (tgt := 73) d_MD_pairCost_50 (by decide) (fun c51 => ?_) (fun c51 => ?_)
      · have mc51 : (x47 - x49) ≠ 0 := by omega
        refine A_iconst d_MD_pairCost_73 rfl ?_
        refine A_iaddv (z := 13) d_MD_pairCost_74 (by decide +kernel) ?_
        exact A_iret d_MD_pairCost_75 (by decide) rfl ⟨_, rfl, ⟨by omega, by omega⟩, rfl⟩
      · have mc51 : (x47 - x49) = 0 := by omega
        refine A_aload_n 0 d_MD_pairCost_53 rfl rfl ?_
        refine A_getAv (z := some 190) T_ok d_MD_pairCost_54 f_MD_72 (mi_s hx sf_170) (mi_r hx rfm_32) ?_
        refine A_iload_n 1 d_MD_pairCost_57 rfl rfl ?_
        refine A_laloadn (lo := 0) (hi := 137438953472) d_MD_pairCost_58 (mi_s hx sf_190) (by omega) (by omega) (mi_l hx (by decide) (mq_190 _)) (fun x53 ex53 _ _ => ?_)
        refine A_aload_n 0 d_MD_pairCost_59 rfl rfl ?_
        refine A_pc (pc' := 60) rfl ?_
        refine A_getAv (z := some 190) T_ok d_MD_pairCost_60 f_MD_72 (mi_s hx sf_170) (mi_r hx rfm_32) ?_
        refine A_iload_n 2 d_MD_pairCost_63 rfl rfl ?_
        refine A_laloadn (lo := 0) (hi := 137438953472) d_MD_pairCost_64 (mi_s hx sf_190) (by omega) (by omega) (mi_l hx (by decide) (mq_190 _)) (fun x55 ex55 _ _ => ?_)
        refine A_lcmpn d_MD_pairCost_65 (fun x56 lx56 ex56 gx56 _ _ => ?_)
        refine A_if_ne (tgt := 73) d_MD_pairCost_66 (by decide) (fun c57 => ?_) (fun c57 => ?_)
        · have mc57 : (x53 - x55) ≠ 0 := by omega
          refine A_iconst d_MD_pairCost_73 rfl ?_
          refine A_iaddv (z := 13) d_MD_pairCost_74 (by decide +kernel) ?_
          exact A_iret d_MD_pairCost_75 (by decide) rfl ⟨_, rfl, ⟨by omega, by omega⟩, rfl⟩
        · have mc57 : (x53 - x55) = 0 := by omega
          refine A_iconst d_MD_pairCost_69 rfl ?_
          refine A_goto (tgt := 74) d_MD_pairCost_70 (by decide) ?_
          refine A_iaddv (z := 12) d_MD_pairCost_74 (by decide +kernel) ?_
          exact A_iret d_MD_pairCost_75 (by decide) rfl ⟨_, rfl, ⟨by omega, by omega⟩, rfl⟩
theorem s_MD_ratioTop {G : cx_T} {h : ah_T} {a1 : Int}  : con G 0 0 0 m_MD_ratioTop [av_R (some 170), av_I a1] h (fun r h' => ∃ z, r = some (av_I z) ∧ (1 ≤ z ∧ z ≤ 45) ∧ h = h') := by
  refine con_of (L := [some (av_R (some 170)), some (av_I a1)]) (by decide +kernel) (Nat.le_of_ble_eq_true rfl) rfl ?_
  refine A_locI 1 rfl (fun ra => ?_)
  obtain ⟨_, _⟩ := ra
  refine A_iload_n 1 d_MD_ratioTop_0 rfl rfl ?_
  rcases (by omega : a1 < 1 ∨ a1 = 1 ∨ a1 = 2 ∨ a1 = 3 ∨ a1 = 4 ∨ a1 = 5 ∨ a1 = 6 ∨ a1 = 7 ∨ a1 = 8 ∨ a1 = 9 ∨ a1 = 10 ∨ a1 = 11 ∨ 11 < a1) with c1 | c1 | c1 | c1 | c1 | c1 | c1 | c1 | c1 | c1 | c1 | c1 | c1
  · refine A_tabOut (tgt := 89) d_MD_ratioTop_1 (by omega) (by decide) ?_
    refine A_iconst d_MD_ratioTop_89 rfl ?_
    exact A_iret d_MD_ratioTop_90 (by decide) rfl ⟨_, rfl, ⟨by omega, by omega⟩, rfl⟩
  · refine A_tabIn (tgt := 60) d_MD_ratioTop_1 (by omega) (by omega) (by rw [c1]; rfl) (by decide) ?_
    refine A_bipush d_MD_ratioTop_60 rfl ?_
    exact A_iret d_MD_ratioTop_62 (by decide) rfl ⟨_, rfl, ⟨by omega, by omega⟩, rfl⟩
  · refine A_tabIn (tgt := 63) d_MD_ratioTop_1 (by omega) (by omega) (by rw [c1]; rfl) (by decide) ?_
    refine A_bipush d_MD_ratioTop_63 rfl ?_
    exact A_iret d_MD_ratioTop_65 (by decide) rfl ⟨_, rfl, ⟨by omega, by omega⟩, rfl⟩
  · refine A_tabIn (tgt := 66) d_MD_ratioTop_1 (by omega) (by omega) (by rw [c1]; rfl) (by decide) ?_
    refine A_bipush d_MD_ratioTop_66 rfl ?_
    exact A_iret d_MD_ratioTop_68 (by decide) rfl ⟨_, rfl, ⟨by omega, by omega⟩, rfl⟩
  · refine A_tabIn (tgt := 69) d_MD_ratioTop_1 (by omega) (by omega) (by rw [c1]; rfl) (by decide) ?_
    refine A_iconst d_MD_ratioTop_69 rfl ?_
    exact A_iret d_MD_ratioTop_70 (by decide) rfl ⟨_, rfl, ⟨by omega, by omega⟩, rfl⟩
  · refine A_tabIn (tgt := 71) d_MD_ratioTop_1 (by omega) (by omega) (by rw [c1]; rfl) (by decide) ?_
    refine A_iconst d_MD_ratioTop_71 rfl ?_
    exact A_iret d_MD_ratioTop_72 (by decide) rfl ⟨_, rfl, ⟨by omega, by omega⟩, rfl⟩
  · refine A_tabIn (tgt := 73) d_MD_ratioTop_1 (by omega) (by omega) (by rw [c1]; rfl) (by decide) ?_
    refine A_bipush d_MD_ratioTop_73 rfl ?_
    exact A_iret d_MD_ratioTop_75 (by decide) rfl ⟨_, rfl, ⟨by omega, by omega⟩, rfl⟩
  · refine A_tabIn (tgt := 76) d_MD_ratioTop_1 (by omega) (by omega) (by rw [c1]; rfl) (by decide) ?_
    refine A_iconst d_MD_ratioTop_76 rfl ?_
    exact A_iret d_MD_ratioTop_77 (by decide) rfl ⟨_, rfl, ⟨by omega, by omega⟩, rfl⟩
  · refine A_tabIn (tgt := 78) d_MD_ratioTop_1 (by omega) (by omega) (by rw [c1]; rfl) (by decide) ?_
    refine A_bipush d_MD_ratioTop_78 rfl ?_
    exact A_iret d_MD_ratioTop_80 (by decide) rfl ⟨_, rfl, ⟨by omega, by omega⟩, rfl⟩
  · refine A_tabIn (tgt := 81) d_MD_ratioTop_1 (by omega) (by omega) (by rw [c1]; rfl) (by decide) ?_
    refine A_iconst d_MD_ratioTop_81 rfl ?_
    exact A_iret d_MD_ratioTop_82 (by decide) rfl ⟨_, rfl, ⟨by omega, by omega⟩, rfl⟩
  · refine A_tabIn (tgt := 83) d_MD_ratioTop_1 (by omega) (by omega) (by rw [c1]; rfl) (by decide) ?_
    refine A_bipush d_MD_ratioTop_83 rfl ?_
    exact A_iret d_MD_ratioTop_85 (by decide) rfl ⟨_, rfl, ⟨by omega, by omega⟩, rfl⟩
  · refine A_tabIn (tgt := 86) d_MD_ratioTop_1 (by omega) (by omega) (by rw [c1]; rfl) (by decide) ?_
    refine A_bipush d_MD_ratioTop_86 rfl ?_
    exact A_iret d_MD_ratioTop_88 (by decide) rfl ⟨_, rfl, ⟨by omega, by omega⟩, rfl⟩
  · refine A_tabOut (tgt := 89) d_MD_ratioTop_1 (by omega) (by decide) ?_
    refine A_iconst d_MD_ratioTop_89 rfl ?_
    exact A_iret d_MD_ratioTop_90 (by decide) rfl ⟨_, rfl, ⟨by omega, by omega⟩, rfl⟩
theorem s_MD_ratioLow {G : cx_T} {h : ah_T} {a1 : Int}  : con G 0 0 0 m_MD_ratioLow [av_R (some 170), av_I a1] h (fun r h' => ∃ z, r = some (av_I z) ∧ (1 ≤ z ∧ z ≤ 32) ∧ h = h') := by
  refine con_of (L := [some (av_R (some 170)), some (av_I a1)]) (by decide +kernel) (Nat.le_of_ble_eq_true rfl) rfl ?_
  refine A_locI 1 rfl (fun ra => ?_)
  obtain ⟨_, _⟩ := ra
  refine A_iload_n 1 d_MD_ratioLow_0 rfl rfl ?_
  rcases (by omega : a1 < 1 ∨ a1 = 1 ∨ a1 = 2 ∨ a1 = 3 ∨ a1 = 4 ∨ a1 = 5 ∨ a1 = 6 ∨ a1 = 7 ∨ a1 = 8 ∨ a1 = 9 ∨ a1 = 10 ∨ a1 = 11 ∨ 11 < a1) with c1 | c1 | c1 | c1 | c1 | c1 | c1 | c1 | c1 | c1 | c1 | c1 | c1
  · refine A_tabOut (tgt := 86) d_MD_ratioLow_1 (by omega) (by decide) ?_
    refine A_iconst d_MD_ratioLow_86 rfl ?_
    exact A_iret d_MD_ratioLow_87 (by decide) rfl ⟨_, rfl, ⟨by omega, by omega⟩, rfl⟩
  · refine A_tabIn (tgt := 60) d_MD_ratioLow_1 (by omega) (by omega) (by rw [c1]; rfl) (by decide) ?_
    refine A_bipush d_MD_ratioLow_60 rfl ?_
    exact A_iret d_MD_ratioLow_62 (by decide) rfl ⟨_, rfl, ⟨by omega, by omega⟩, rfl⟩
  · refine A_tabIn (tgt := 63) d_MD_ratioLow_1 (by omega) (by omega) (by rw [c1]; rfl) (by decide) ?_
    refine A_bipush d_MD_ratioLow_63 rfl ?_
    exact A_iret d_MD_ratioLow_65 (by decide) rfl ⟨_, rfl, ⟨by omega, by omega⟩, rfl⟩
  · refine A_tabIn (tgt := 66) d_MD_ratioLow_1 (by omega) (by omega) (by rw [c1]; rfl) (by decide) ?_
    refine A_iconst d_MD_ratioLow_66 rfl ?_
    exact A_iret d_MD_ratioLow_67 (by decide) rfl ⟨_, rfl, ⟨by omega, by omega⟩, rfl⟩
  · refine A_tabIn (tgt := 68) d_MD_ratioLow_1 (by omega) (by omega) (by rw [c1]; rfl) (by decide) ?_
    refine A_iconst d_MD_ratioLow_68 rfl ?_
    exact A_iret d_MD_ratioLow_69 (by decide) rfl ⟨_, rfl, ⟨by omega, by omega⟩, rfl⟩
  · refine A_tabIn (tgt := 70) d_MD_ratioLow_1 (by omega) (by omega) (by rw [c1]; rfl) (by decide) ?_
    refine A_iconst d_MD_ratioLow_70 rfl ?_
    exact A_iret d_MD_ratioLow_71 (by decide) rfl ⟨_, rfl, ⟨by omega, by omega⟩, rfl⟩
  · refine A_tabIn (tgt := 72) d_MD_ratioLow_1 (by omega) (by omega) (by rw [c1]; rfl) (by decide) ?_
    refine A_bipush d_MD_ratioLow_72 rfl ?_
    exact A_iret d_MD_ratioLow_74 (by decide) rfl ⟨_, rfl, ⟨by omega, by omega⟩, rfl⟩
  · refine A_tabIn (tgt := 75) d_MD_ratioLow_1 (by omega) (by omega) (by rw [c1]; rfl) (by decide) ?_
    refine A_iconst d_MD_ratioLow_75 rfl ?_
    exact A_iret d_MD_ratioLow_76 (by decide) rfl ⟨_, rfl, ⟨by omega, by omega⟩, rfl⟩
  · refine A_tabIn (tgt := 77) d_MD_ratioLow_1 (by omega) (by omega) (by rw [c1]; rfl) (by decide) ?_
    refine A_iconst d_MD_ratioLow_77 rfl ?_
    exact A_iret d_MD_ratioLow_78 (by decide) rfl ⟨_, rfl, ⟨by omega, by omega⟩, rfl⟩
  · refine A_tabIn (tgt := 79) d_MD_ratioLow_1 (by omega) (by omega) (by rw [c1]; rfl) (by decide) ?_
    refine A_iconst d_MD_ratioLow_79 rfl ?_
    exact A_iret d_MD_ratioLow_80 (by decide) rfl ⟨_, rfl, ⟨by omega, by omega⟩, rfl⟩
  · refine A_tabIn (tgt := 81) d_MD_ratioLow_1 (by omega) (by omega) (by rw [c1]; rfl) (by decide) ?_
    refine A_iconst d_MD_ratioLow_81 rfl ?_
    exact A_iret d_MD_ratioLow_82 (by decide) rfl ⟨_, rfl, ⟨by omega, by omega⟩, rfl⟩
  · refine A_tabIn (tgt := 83) d_MD_ratioLow_1 (by omega) (by omega) (by rw [c1]; rfl) (by decide) ?_
    refine A_bipush d_MD_ratioLow_83 rfl ?_
    exact A_iret d_MD_ratioLow_85 (by decide) rfl ⟨_, rfl, ⟨by omega, by omega⟩, rfl⟩
  · refine A_tabOut (tgt := 86) d_MD_ratioLow_1 (by omega) (by decide) ?_
    refine A_iconst d_MD_ratioLow_86 rfl ?_
    exact A_iret d_MD_ratioLow_87 (by decide) rfl ⟨_, rfl, ⟨by omega, by omega⟩, rfl⟩
