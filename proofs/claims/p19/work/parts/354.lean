/-! ===== the reference's methods, 354 ===== -/
def m_MD_through : mr_T := (⟨"PlainMusicModel", "through", "(I)I"⟩, prog_14_method_79_code, 4, some .int)
theorem mr_170_94 : mr 170 94 = (0, 120) := by decide +kernel
theorem mr_170_95 : mr 170 95 = (0, 120) := by decide +kernel
theorem d_MD_through_0 : decode prog_14_method_79_code 0 = .ok (.iconst 0, 1) := by decide +kernel
theorem d_MD_through_1 : decode prog_14_method_79_code 1 = .ok (.istore_n 2, 1) := by decide +kernel
theorem d_MD_through_2 : decode prog_14_method_79_code 2 = .ok (.iconst 0, 1) := by decide +kernel
theorem d_MD_through_3 : decode prog_14_method_79_code 3 = .ok (.istore_n 3, 1) := by decide +kernel
theorem d_MD_through_4 : decode prog_14_method_79_code 4 = .ok (.aload_n 0, 1) := by decide +kernel
theorem d_MD_through_5 : decode prog_14_method_79_code 5 = .ok (.getfield 193, 3) := by decide +kernel
theorem d_MD_through_8 : decode prog_14_method_79_code 8 = .ok (.iconst 0, 1) := by decide +kernel
theorem d_MD_through_9 : decode prog_14_method_79_code 9 = .ok (.aload_n 0, 1) := by decide +kernel
theorem d_MD_through_10 : decode prog_14_method_79_code 10 = .ok (.getfield 567, 3) := by decide +kernel
theorem f_MD_567 : fl_OK "PlainMusicModel" 567 12 94 .int false := ⟨_, rfl, by decide, gwi_1576, rfl, rfl⟩
theorem d_MD_through_13 : decode prog_14_method_79_code 13 = .ok (.iconst 1, 1) := by decide +kernel
theorem d_MD_through_14 : decode prog_14_method_79_code 14 = .ok (.isub, 1) := by decide +kernel
theorem d_MD_through_15 : decode prog_14_method_79_code 15 = .ok (.iastore, 1) := by decide +kernel
theorem d_MD_through_16 : decode prog_14_method_79_code 16 = .ok (.iload_n 3, 1) := by decide +kernel
theorem d_MD_through_17 : decode prog_14_method_79_code 17 = .ok (.ifCond .lt 81, 3) := by decide +kernel
theorem d_MD_through_98 : decode prog_14_method_79_code 98 = .ok (.iload_n 2, 1) := by decide +kernel
theorem d_MD_through_99 : decode prog_14_method_79_code 99 = .ok (.ireturn, 1) := by decide +kernel
theorem d_MD_through_20 : decode prog_14_method_79_code 20 = .ok (.aload_n 0, 1) := by decide +kernel
theorem d_MD_through_21 : decode prog_14_method_79_code 21 = .ok (.getfield 193, 3) := by decide +kernel
theorem d_MD_through_24 : decode prog_14_method_79_code 24 = .ok (.iload_n 3, 1) := by decide +kernel
theorem d_MD_through_25 : decode prog_14_method_79_code 25 = .ok (.dup2, 1) := by decide +kernel
theorem d_MD_through_26 : decode prog_14_method_79_code 26 = .ok (.iaload, 1) := by decide +kernel
theorem d_MD_through_27 : decode prog_14_method_79_code 27 = .ok (.iconst 1, 1) := by decide +kernel
theorem d_MD_through_28 : decode prog_14_method_79_code 28 = .ok (.iadd, 1) := by decide +kernel
theorem d_MD_through_29 : decode prog_14_method_79_code 29 = .ok (.iastore, 1) := by decide +kernel
theorem d_MD_through_30 : decode prog_14_method_79_code 30 = .ok (.aload_n 0, 1) := by decide +kernel
theorem d_MD_through_31 : decode prog_14_method_79_code 31 = .ok (.getfield 193, 3) := by decide +kernel
theorem d_MD_through_34 : decode prog_14_method_79_code 34 = .ok (.iload_n 3, 1) := by decide +kernel
theorem d_MD_through_35 : decode prog_14_method_79_code 35 = .ok (.iaload, 1) := by decide +kernel
theorem d_MD_through_36 : decode prog_14_method_79_code 36 = .ok (.aload_n 0, 1) := by decide +kernel
theorem d_MD_through_37 : decode prog_14_method_79_code 37 = .ok (.getfield 570, 3) := by decide +kernel
theorem f_MD_570 : fl_OK "PlainMusicModel" 570 12 95 .int false := ⟨_, rfl, by decide, gwi_1577, rfl, rfl⟩
theorem d_MD_through_40 : decode prog_14_method_79_code 40 = .ok (.if_icmp .le 9, 3) := by decide +kernel
theorem d_MD_through_49 : decode prog_14_method_79_code 49 = .ok (.aload_n 0, 1) := by decide +kernel
theorem d_MD_through_50 : decode prog_14_method_79_code 50 = .ok (.iload_n 3, 1) := by decide +kernel
theorem d_MD_through_51 : decode prog_14_method_79_code 51 = .ok (.invokevirtual 573, 3) := by decide +kernel
theorem k_MD_goes : mt_OK m_MD_goes 1 1 := ⟨gwi_2135, gwi_146, ⟨by decide +kernel, by decide +kernel, by decide +kernel⟩, fun h => absurd h (by decide), fun _ => ⟨gwi_2134, gwi_120⟩, fun h => absurd h (by decide)⟩
theorem l_MD_573 : ml_OK "PlainMusicModel" 573 ⟨"PlainMusicModel", "goes", "(I)Z"⟩ := Or.inl gwi_2132
theorem d_MD_through_54 : decode prog_14_method_79_code 54 = .ok (.ifCond .eq (-38), 3) := by decide +kernel
theorem d_MD_through_57 : decode prog_14_method_79_code 57 = .ok (.iload_n 3, 1) := by decide +kernel
theorem d_MD_through_58 : decode prog_14_method_79_code 58 = .ok (.aload_n 0, 1) := by decide +kernel
theorem d_MD_through_59 : decode prog_14_method_79_code 59 = .ok (.getfield 561, 3) := by decide +kernel
theorem d_MD_through_62 : decode prog_14_method_79_code 62 = .ok (.iconst 1, 1) := by decide +kernel
theorem d_MD_through_63 : decode prog_14_method_79_code 63 = .ok (.isub, 1) := by decide +kernel
theorem d_MD_through_64 : decode prog_14_method_79_code 64 = .ok (.if_icmp .ne 16, 3) := by decide +kernel
theorem d_MD_through_80 : decode prog_14_method_79_code 80 = .ok (.iinc 3 1, 3) := by decide +kernel
theorem d_MD_through_83 : decode prog_14_method_79_code 83 = .ok (.aload_n 0, 1) := by decide +kernel
theorem d_MD_through_84 : decode prog_14_method_79_code 84 = .ok (.getfield 193, 3) := by decide +kernel
theorem d_MD_through_87 : decode prog_14_method_79_code 87 = .ok (.iload_n 3, 1) := by decide +kernel
theorem d_MD_through_88 : decode prog_14_method_79_code 88 = .ok (.aload_n 0, 1) := by decide +kernel
theorem d_MD_through_89 : decode prog_14_method_79_code 89 = .ok (.getfield 567, 3) := by decide +kernel
theorem d_MD_through_92 : decode prog_14_method_79_code 92 = .ok (.iconst 1, 1) := by decide +kernel
theorem d_MD_through_93 : decode prog_14_method_79_code 93 = .ok (.isub, 1) := by decide +kernel
theorem d_MD_through_94 : decode prog_14_method_79_code 94 = .ok (.iastore, 1) := by decide +kernel
theorem d_MD_through_95 : decode prog_14_method_79_code 95 = .ok (.goto (-79), 3) := by decide +kernel
theorem d_MD_through_67 : decode prog_14_method_79_code 67 = .ok (.iload_n 2, 1) := by decide +kernel
theorem d_MD_through_68 : decode prog_14_method_79_code 68 = .ok (.iload_n 1, 1) := by decide +kernel
theorem d_MD_through_69 : decode prog_14_method_79_code 69 = .ok (.if_icmp .ne 5, 3) := by decide +kernel
theorem d_MD_through_74 : decode prog_14_method_79_code 74 = .ok (.iinc 2 1, 3) := by decide +kernel
theorem d_MD_through_77 : decode prog_14_method_79_code 77 = .ok (.goto (-61), 3) := by decide +kernel
theorem d_MD_through_72 : decode prog_14_method_79_code 72 = .ok (.iload_n 2, 1) := by decide +kernel
theorem d_MD_through_73 : decode prog_14_method_79_code 73 = .ok (.ireturn, 1) := by decide +kernel
theorem d_MD_through_43 : decode prog_14_method_79_code 43 = .ok (.iinc 3 (-1), 3) := by decide +kernel
theorem d_MD_through_46 : decode prog_14_method_79_code 46 = .ok (.goto (-30), 3) := by decide +kernel
def m_MD_lines : mr_T := (⟨"PlainMusicModel", "lines", "(III)I"⟩, prog_14_method_80_code, 7, some .int)
theorem d_MD_lines_0 : decode prog_14_method_80_code 0 = .ok (.iload_n 1, 1) := by decide +kernel
theorem d_MD_lines_1 : decode prog_14_method_80_code 1 = .ok (.ifCond .lt 25, 3) := by decide +kernel
theorem d_MD_lines_26 : decode prog_14_method_80_code 26 = .ok (.iconst (-1), 1) := by decide +kernel
theorem d_MD_lines_27 : decode prog_14_method_80_code 27 = .ok (.ireturn, 1) := by decide +kernel
theorem d_MD_lines_4 : decode prog_14_method_80_code 4 = .ok (.iload_n 2, 1) := by decide +kernel
theorem d_MD_lines_5 : decode prog_14_method_80_code 5 = .ok (.bipush 120, 2) := by decide +kernel
theorem d_MD_lines_7 : decode prog_14_method_80_code 7 = .ok (.if_icmp .gt 19, 3) := by decide +kernel
theorem d_MD_lines_10 : decode prog_14_method_80_code 10 = .ok (.iload_n 1, 1) := by decide +kernel
theorem d_MD_lines_11 : decode prog_14_method_80_code 11 = .ok (.iload_n 2, 1) := by decide +kernel
theorem d_MD_lines_12 : decode prog_14_method_80_code 12 = .ok (.if_icmp .gt 14, 3) := by decide +kernel
theorem d_MD_lines_15 : decode prog_14_method_80_code 15 = .ok (.iload_n 3, 1) := by decide +kernel
theorem d_MD_lines_16 : decode prog_14_method_80_code 16 = .ok (.ifCond .lt 10, 3) := by decide +kernel
theorem d_MD_lines_19 : decode prog_14_method_80_code 19 = .ok (.iload_n 3, 1) := by decide +kernel
theorem d_MD_lines_20 : decode prog_14_method_80_code 20 = .ok (.sipush 511, 3) := by decide +kernel
theorem d_MD_lines_23 : decode prog_14_method_80_code 23 = .ok (.if_icmp .le 5, 3) := by decide +kernel
theorem d_MD_lines_28 : decode prog_14_method_80_code 28 = .ok (.aload_n 0, 1) := by decide +kernel
theorem d_MD_lines_29 : decode prog_14_method_80_code 29 = .ok (.getfield 26, 3) := by decide +kernel
theorem d_MD_lines_32 : decode prog_14_method_80_code 32 = .ok (.iconst 0, 1) := by decide +kernel
theorem d_MD_lines_33 : decode prog_14_method_80_code 33 = .ok (.iaload, 1) := by decide +kernel
theorem d_MD_lines_34 : decode prog_14_method_80_code 34 = .ok (.ifCond .ne 6, 3) := by decide +kernel
theorem d_MD_lines_40 : decode prog_14_method_80_code 40 = .ok (.lconst 1, 1) := by decide +kernel
theorem d_MD_lines_41 : decode prog_14_method_80_code 41 = .ok (.lstore 4, 2) := by decide +kernel
theorem d_MD_lines_43 : decode prog_14_method_80_code 43 = .ok (.iconst 0, 1) := by decide +kernel
theorem d_MD_lines_44 : decode prog_14_method_80_code 44 = .ok (.istore 6, 2) := by decide +kernel
theorem d_MD_lines_46 : decode prog_14_method_80_code 46 = .ok (.iload 6, 2) := by decide +kernel
theorem d_MD_lines_48 : decode prog_14_method_80_code 48 = .ok (.aload_n 0, 1) := by decide +kernel
theorem d_MD_lines_49 : decode prog_14_method_80_code 49 = .ok (.getfield 26, 3) := by decide +kernel
theorem d_MD_lines_52 : decode prog_14_method_80_code 52 = .ok (.iconst 0, 1) := by decide +kernel
theorem d_MD_lines_53 : decode prog_14_method_80_code 53 = .ok (.iaload, 1) := by decide +kernel
theorem d_MD_lines_54 : decode prog_14_method_80_code 54 = .ok (.if_icmp .ge 32, 3) := by decide +kernel
theorem d_MD_lines_86 : decode prog_14_method_80_code 86 = .ok (.aload_n 0, 1) := by decide +kernel
theorem d_MD_lines_87 : decode prog_14_method_80_code 87 = .ok (.iload_n 1, 1) := by decide +kernel
theorem d_MD_lines_88 : decode prog_14_method_80_code 88 = .ok (.putfield 567, 3) := by decide +kernel
theorem d_MD_lines_91 : decode prog_14_method_80_code 91 = .ok (.aload_n 0, 1) := by decide +kernel
theorem d_MD_lines_92 : decode prog_14_method_80_code 92 = .ok (.iload_n 2, 1) := by decide +kernel
theorem d_MD_lines_93 : decode prog_14_method_80_code 93 = .ok (.putfield 570, 3) := by decide +kernel
theorem d_MD_lines_96 : decode prog_14_method_80_code 96 = .ok (.aload_n 0, 1) := by decide +kernel
theorem d_MD_lines_97 : decode prog_14_method_80_code 97 = .ok (.iload_n 3, 1) := by decide +kernel
theorem d_MD_lines_98 : decode prog_14_method_80_code 98 = .ok (.putfield 555, 3) := by decide +kernel
theorem d_MD_lines_101 : decode prog_14_method_80_code 101 = .ok (.aload_n 0, 1) := by decide +kernel
theorem d_MD_lines_102 : decode prog_14_method_80_code 102 = .ok (.aload_n 0, 1) := by decide +kernel
theorem d_MD_lines_103 : decode prog_14_method_80_code 103 = .ok (.getfield 26, 3) := by decide +kernel
theorem d_MD_lines_106 : decode prog_14_method_80_code 106 = .ok (.iconst 0, 1) := by decide +kernel
theorem d_MD_lines_107 : decode prog_14_method_80_code 107 = .ok (.iaload, 1) := by decide +kernel
theorem d_MD_lines_108 : decode prog_14_method_80_code 108 = .ok (.putfield 561, 3) := by decide +kernel
theorem d_MD_lines_111 : decode prog_14_method_80_code 111 = .ok (.iconst 0, 1) := by decide +kernel
theorem d_MD_lines_112 : decode prog_14_method_80_code 112 = .ok (.istore 6, 2) := by decide +kernel
theorem d_MD_lines_114 : decode prog_14_method_80_code 114 = .ok (.iload 6, 2) := by decide +kernel
theorem d_MD_lines_116 : decode prog_14_method_80_code 116 = .ok (.bipush 8, 2) := by decide +kernel
theorem d_MD_lines_118 : decode prog_14_method_80_code 118 = .ok (.if_icmp .ge 23, 3) := by decide +kernel
theorem d_MD_lines_141 : decode prog_14_method_80_code 141 = .ok (.aload_n 0, 1) := by decide +kernel
theorem d_MD_lines_142 : decode prog_14_method_80_code 142 = .ok (.aload_n 0, 1) := by decide +kernel
theorem d_MD_lines_143 : decode prog_14_method_80_code 143 = .ok (.bipush (-2), 2) := by decide +kernel
theorem d_MD_lines_145 : decode prog_14_method_80_code 145 = .ok (.invokevirtual 578, 3) := by decide +kernel
theorem k_MD_through : mt_OK m_MD_through 1 1 := ⟨gwi_2131, gwi_146, ⟨by decide +kernel, by decide +kernel, by decide +kernel⟩, fun h => absurd h (by decide), fun _ => ⟨gwi_2130, gwi_119⟩, fun h => absurd h (by decide)⟩
theorem l_MD_578 : ml_OK "PlainMusicModel" 578 ⟨"PlainMusicModel", "through", "(I)I"⟩ := Or.inl gwi_2128
theorem d_MD_lines_148 : decode prog_14_method_80_code 148 = .ok (.putfield 480, 3) := by decide +kernel
theorem d_MD_lines_151 : decode prog_14_method_80_code 151 = .ok (.aload_n 0, 1) := by decide +kernel
theorem d_MD_lines_152 : decode prog_14_method_80_code 152 = .ok (.getfield 480, 3) := by decide +kernel
theorem d_MD_lines_155 : decode prog_14_method_80_code 155 = .ok (.ireturn, 1) := by decide +kernel
theorem d_MD_lines_121 : decode prog_14_method_80_code 121 = .ok (.aload_n 0, 1) := by decide +kernel
theorem d_MD_lines_122 : decode prog_14_method_80_code 122 = .ok (.getfield 190, 3) := by decide +kernel
theorem d_MD_lines_125 : decode prog_14_method_80_code 125 = .ok (.iload 6, 2) := by decide +kernel
theorem d_MD_lines_127 : decode prog_14_method_80_code 127 = .ok (.aload_n 0, 1) := by decide +kernel
theorem d_MD_lines_128 : decode prog_14_method_80_code 128 = .ok (.getfield 29, 3) := by decide +kernel
theorem d_MD_lines_131 : decode prog_14_method_80_code 131 = .ok (.iload 6, 2) := by decide +kernel
theorem d_MD_lines_133 : decode prog_14_method_80_code 133 = .ok (.iaload, 1) := by decide +kernel
theorem d_MD_lines_134 : decode prog_14_method_80_code 134 = .ok (.iastore, 1) := by decide +kernel
theorem d_MD_lines_135 : decode prog_14_method_80_code 135 = .ok (.iinc 6 1, 3) := by decide +kernel
theorem d_MD_lines_138 : decode prog_14_method_80_code 138 = .ok (.goto (-24), 3) := by decide +kernel
theorem d_MD_lines_57 : decode prog_14_method_80_code 57 = .ok (.lload 4, 2) := by decide +kernel
theorem d_MD_lines_59 : decode prog_14_method_80_code 59 = .ok (.iload_n 2, 1) := by decide +kernel
theorem d_MD_lines_60 : decode prog_14_method_80_code 60 = .ok (.iload_n 1, 1) := by decide +kernel
theorem d_MD_lines_61 : decode prog_14_method_80_code 61 = .ok (.isub, 1) := by decide +kernel
theorem d_MD_lines_62 : decode prog_14_method_80_code 62 = .ok (.iconst 1, 1) := by decide +kernel
theorem d_MD_lines_63 : decode prog_14_method_80_code 63 = .ok (.iadd, 1) := by decide +kernel
theorem d_MD_lines_64 : decode prog_14_method_80_code 64 = .ok (.i2l, 1) := by decide +kernel
theorem d_MD_lines_65 : decode prog_14_method_80_code 65 = .ok (.lmul, 1) := by decide +kernel
theorem d_MD_lines_66 : decode prog_14_method_80_code 66 = .ok (.lstore 4, 2) := by decide +kernel
theorem d_MD_lines_68 : decode prog_14_method_80_code 68 = .ok (.lload 4, 2) := by decide +kernel
theorem d_MD_lines_70 : decode prog_14_method_80_code 70 = .ok (.ldc2_w 576, 3) := by decide +kernel
theorem cst_MD_576 : Cond.constantLong "PlainMusicModel" 576 (Int64.ofInt 100000) ∈ gw := gwi_2127
theorem d_MD_lines_73 : decode prog_14_method_80_code 73 = .ok (.lcmp, 1) := by decide +kernel
theorem d_MD_lines_74 : decode prog_14_method_80_code 74 = .ok (.ifCond .le 6, 3) := by decide +kernel
theorem d_MD_lines_80 : decode prog_14_method_80_code 80 = .ok (.iinc 6 1, 3) := by decide +kernel
theorem d_MD_lines_83 : decode prog_14_method_80_code 83 = .ok (.goto (-37), 3) := by decide +kernel
theorem d_MD_lines_77 : decode prog_14_method_80_code 77 = .ok (.bipush (-4), 2) := by decide +kernel
theorem d_MD_lines_79 : decode prog_14_method_80_code 79 = .ok (.ireturn, 1) := by decide +kernel
theorem d_MD_lines_37 : decode prog_14_method_80_code 37 = .ok (.bipush (-2), 2) := by decide +kernel
theorem d_MD_lines_39 : decode prog_14_method_80_code 39 = .ok (.ireturn, 1) := by decide +kernel
def m_MD_second : mr_T := (⟨"PlainMusicModel", "second", "(II)I"⟩, prog_14_method_81_code, 4, some .int)
theorem d_MD_second_0 : decode prog_14_method_81_code 0 = .ok (.iload_n 1, 1) := by decide +kernel
theorem d_MD_second_1 : decode prog_14_method_81_code 1 = .ok (.ifCond .lt 23, 3) := by decide +kernel
theorem d_MD_second_24 : decode prog_14_method_81_code 24 = .ok (.iconst (-1), 1) := by decide +kernel
theorem d_MD_second_25 : decode prog_14_method_81_code 25 = .ok (.ireturn, 1) := by decide +kernel
theorem d_MD_second_4 : decode prog_14_method_81_code 4 = .ok (.iload_n 1, 1) := by decide +kernel
theorem d_MD_second_5 : decode prog_14_method_81_code 5 = .ok (.aload_n 0, 1) := by decide +kernel
theorem d_MD_second_6 : decode prog_14_method_81_code 6 = .ok (.getfield 480, 3) := by decide +kernel
theorem d_MD_second_9 : decode prog_14_method_81_code 9 = .ok (.if_icmp .ge 15, 3) := by decide +kernel
theorem d_MD_second_12 : decode prog_14_method_81_code 12 = .ok (.iload_n 2, 1) := by decide +kernel
theorem d_MD_second_13 : decode prog_14_method_81_code 13 = .ok (.ifCond .lt 11, 3) := by decide +kernel
theorem d_MD_second_16 : decode prog_14_method_81_code 16 = .ok (.iload_n 2, 1) := by decide +kernel
theorem d_MD_second_17 : decode prog_14_method_81_code 17 = .ok (.aload_n 0, 1) := by decide +kernel
theorem d_MD_second_18 : decode prog_14_method_81_code 18 = .ok (.getfield 561, 3) := by decide +kernel
theorem d_MD_second_21 : decode prog_14_method_81_code 21 = .ok (.if_icmp .lt 5, 3) := by decide +kernel
theorem d_MD_second_26 : decode prog_14_method_81_code 26 = .ok (.aload_n 0, 1) := by decide +kernel
theorem d_MD_second_27 : decode prog_14_method_81_code 27 = .ok (.iload_n 1, 1) := by decide +kernel
theorem d_MD_second_28 : decode prog_14_method_81_code 28 = .ok (.invokevirtual 578, 3) := by decide +kernel
theorem d_MD_second_31 : decode prog_14_method_81_code 31 = .ok (.istore_n 3, 1) := by decide +kernel
theorem d_MD_second_32 : decode prog_14_method_81_code 32 = .ok (.aload_n 0, 1) := by decide +kernel
theorem d_MD_second_33 : decode prog_14_method_81_code 33 = .ok (.getfield 193, 3) := by decide +kernel
theorem d_MD_second_36 : decode prog_14_method_81_code 36 = .ok (.iload_n 2, 1) := by decide +kernel
theorem d_MD_second_37 : decode prog_14_method_81_code 37 = .ok (.iaload, 1) := by decide +kernel
theorem d_MD_second_38 : decode prog_14_method_81_code 38 = .ok (.ireturn, 1) := by decide +kernel
theorem s_MD_through {G : cx_T} {h : ah_T} (hx : mi h) {a1 : Int} (ham : 1 ≤ h.2.1 170 93) : con G 2 0 0 m_MD_through [av_R (some 170), av_I a1] h (fun r h' => ∃ z, r = some (av_I z) ∧ ((-2147483648) ≤ z ∧ z ≤ 2147483647) ∧ kM (pm [] [230]) h h') := by
  refine con_of (L := [some (av_R (some 170)), some (av_I a1), none, none]) (by decide +kernel) (Nat.le_of_ble_eq_true rfl) rfl ?_
  have k0 : kM (pm [] [230]) h h := kM_0 hx
  obtain ⟨sd1, esd1⟩ : ∃ x, x = h.2.1 170 93 := ⟨_, rfl⟩
  have rsd1 : 0 ≤ sd1 ∧ sd1 ≤ 8 := (by rw [esd1]; exact mi_g k0.1 (by decide) mr_170_93)
  obtain ⟨sd2, esd2⟩ : ∃ x, x = h.2.1 170 94 := ⟨_, rfl⟩
  have rsd2 : 0 ≤ sd2 ∧ sd2 ≤ 120 := (by rw [esd2]; exact mi_g k0.1 (by decide) mr_170_94)
  obtain ⟨sd3, esd3⟩ : ∃ x, x = h.2.1 170 95 := ⟨_, rfl⟩
  have rsd3 : 0 ≤ sd3 ∧ sd3 ≤ 120 := (by rw [esd3]; exact mi_g k0.1 (by decide) mr_170_95)
  refine A_locI 1 rfl (fun ra => ?_)
  obtain ⟨_, _⟩ := ra
  have yl := mi_g hx (by decide) (rfl : mr 170 94 = (0, 120))
  have yh := mi_g hx (by decide) (rfl : mr 170 95 = (0, 120))
  have yz := mi_g hx (by decide) (rfl : mr 170 93 = (0, 8))
  refine A_iconst d_MD_through_0 rfl ?_
  refine A_istore_n 2 (L' := [some (av_R (some 170)), some (av_I a1), some (av_I 0), none]) d_MD_through_1 rfl (Nat.le_of_ble_eq_true rfl) rfl ?_
  refine A_iconst d_MD_through_2 rfl ?_
  refine A_istore_n 3 (L' := [some (av_R (some 170)), some (av_I a1), some (av_I 0), some (av_I 0)]) d_MD_through_3 rfl (Nat.le_of_ble_eq_true rfl) rfl ?_
  refine A_aload_n 0 d_MD_through_4 rfl rfl ?_
  refine A_pc (pc' := 5) rfl ?_
  refine A_getAv (z := some 230) T_ok d_MD_through_5 f_MD_193 (mi_s k0.1 sf_170) (mi_r k0.1 rfm_97) ?_
  refine A_iconst d_MD_through_8 rfl ?_
  refine A_aload_n 0 d_MD_through_9 rfl rfl ?_
  refine A_getIv (z := sd2) T_ok d_MD_through_10 f_MD_567 (mi_s k0.1 sf_170) esd2.symm ?_
  refine A_iconst d_MD_through_13 rfl ?_
  refine A_isubv (z := (sd2 - 1)) d_MD_through_14 (w32_to (by omega) (by unfold i32; omega)) ?_
  refine A_pc (pc' := 15) rfl ?_
  refine A_iastorek (KR := kM (pm [] [230]) h) d_MD_through_15 (mi_s k0.1 sf_230) (by decide) (by decide) (kM_i k0 (by decide) rfl (mr_230 _) (by omega) (by omega)) (fun h6 k7 eh6 => ?_)
  have lp16 : ∀ (n : Nat) (i8 i9 : Int) (h10 : ah_T) , (-1) ≤ i8 → i8 ≤ 7 → (-2147483648) ≤ i9 → i9 ≤ 2147483647 → TSt (h10.2.1 230) (h.2.1 170 94) (h.2.1 170 95) (h.2.1 170 93) i8 → kM (pm [] [230]) h h10 → (TM (h10.2.1 230) (h.2.1 170 95) i8).toNat < n → aw G (rm_R 2 0 0) m_MD_through 0 0 16 [some (av_R (some 170)), some (av_I a1), some (av_I i9), some (av_I i8)] [] h10 (fun r h' => ∃ z, r = some (av_I z) ∧ ((-2147483648) ≤ z ∧ z ≤ 2147483647) ∧ kM (pm [] [230]) h h') := by
    intro n
    induction n with
    | zero => intro i8 i9 h10 _ _ _ _ _ _ hm; omega
    | succ n ih16 =>
      intro i8 i9 h10 hl0 hl1 hl2 hl3 hinv k11 hm
      refine A_iload_n 3 d_MD_through_16 rfl rfl ?_
      refine A_if_lt (tgt := 98) d_MD_through_17 (by decide) (fun c12 => ?_) (fun c12 => ?_)
      · refine A_iload_n 2 d_MD_through_98 rfl rfl ?_
        exact A_iret d_MD_through_99 (by decide) rfl ⟨_, rfl, ⟨by omega, by omega⟩, k11⟩
      · have yi : i8 ≤ 7 := (by have q1 := hinv.2.1; omega)
        have yi2 : i8 ≤ h.2.1 170 93 - 1 := hinv.2.1
        refine A_aload_n 0 d_MD_through_20 rfl rfl ?_
        refine A_getAv (z := some 230) T_ok d_MD_through_21 f_MD_193 (mi_s k11.1 sf_170) (mi_r k11.1 rfm_97) ?_
        refine A_iload_n 3 d_MD_through_24 rfl rfl ?_
        refine A_dup2RI d_MD_through_25 ?_
        refine A_ialoadf d_MD_through_26 (mi_s k11.1 sf_230) (by omega) (by omega) (fun x14 ex14 _ _ => ?_)
        have yx14 : h.2.1 170 94 - 1 ≤ x14 ∧ x14 ≤ 120 := (by have q1 := hinv.2.2.2 (by omega); omega)
        refine A_pc (pc' := 27) rfl ?_
        refine A_iconst d_MD_through_27 rfl ?_
        refine A_iaddv (z := (x14 + 1)) d_MD_through_28 (w32_to (by omega) (by unfold i32; omega)) ?_
        refine A_iastorek (KR := kM (pm [] [230]) h) d_MD_through_29 (mi_s k11.1 sf_230) (by omega) (by omega) (kM_i k11 (by decide) rfl (mr_230 _) (by omega) (by omega)) (fun h15 k16 eh15 => ?_)
        refine A_aload_n 0 d_MD_through_30 rfl rfl ?_
        refine A_getAv (z := some 230) T_ok d_MD_through_31 f_MD_193 (mi_s k16.1 sf_170) (mi_r k16.1 rfm_97) ?_
        refine A_iload_n 3 d_MD_through_34 rfl rfl ?_
        refine A_pc (pc' := 35) rfl ?_
        refine A_ialoadv (z := (x14 + 1)) d_MD_through_35 (mi_s k16.1 sf_230) (by omega) (by omega) eh15.2.1 ?_
        refine A_aload_n 0 d_MD_through_36 rfl rfl ?_
        refine A_getIv (z := sd3) T_ok d_MD_through_37 f_MD_570 (mi_s k16.1 sf_170) ((eh15.1 _ _ (fun q => absurd q (by decide))).trans ((k11.2.2.1 _ _ rfl).trans esd3.symm)) ?_
        refine A_icmp_le (tgt := 49) d_MD_through_40 (by decide) (fun c20 => ?_) (fun c20 => ?_)
        · refine A_aload_n 0 d_MD_through_49 rfl rfl ?_
          refine A_iload_n 3 d_MD_through_50 rfl rfl ?_
          have yT := TS_st (x := (x14 + 1)) hinv yl.1 yh.2 yz.2 (by omega) (fun k hk => (eh15.1 230 k (fun _ => hk))) eh15.2.1 (by omega) (by omega)
          have yT1 := yT.1
          have yT0 := TM_0 yT1 yl.1 yh.2
          have yT2 := yT.2
          refine A_callV1 m_MD_goes T_ok d_MD_through_51 l_MD_573 k_MD_goes (mi_s k16.1 sf_170) rfl (by decide +kernel) (by decide) (Nat.le_of_ble_eq_true rfl) (s_MD_goes k16.1 (by omega) (by omega)) (fun r h21 hq => ?_)
          obtain ⟨x23, rfl, bx23, rfl⟩ := hq
          refine A_if_eq (tgt := 16) d_MD_through_54 (by decide) (fun c24 => ?_) (fun c24 => ?_)
          · exact ih16 i8 i9 h15 (by omega) (by omega) (by omega) (by omega) yT1 k16 (by omega)
          · refine A_iload_n 3 d_MD_through_57 rfl rfl ?_
            refine A_aload_n 0 d_MD_through_58 rfl rfl ?_
            refine A_getIv (z := sd1) T_ok d_MD_through_59 f_MD_561 (mi_s k16.1 sf_170) ((eh15.1 _ _ (fun q => absurd q (by decide))).trans ((k11.2.2.1 _ _ rfl).trans esd1.symm)) ?_
            refine A_iconst d_MD_through_62 rfl ?_
            refine A_isubv (z := (sd1 - 1)) d_MD_through_63 (w32_to (by omega) (by unfold i32; omega)) ?_
            refine A_pc (pc' := 64) rfl ?_
            refine A_icmp_ne (tgt := 80) d_MD_through_64 (by decide) (fun c26 => ?_) (fun c26 => ?_)
            · refine A_iincv (z := (i8 + 1)) (L' := [some (av_R (some 170)), some (av_I a1), some (av_I i9), some (av_I (i8 + 1))]) d_MD_through_80 rfl (w32_to (by omega) (by unfold i32; omega)) rfl ?_
              refine A_aload_n 0 d_MD_through_83 rfl rfl ?_
              refine A_getAv (z := some 230) T_ok d_MD_through_84 f_MD_193 (mi_s k16.1 sf_170) (mi_r k16.1 rfm_97) ?_
              refine A_iload_n 3 d_MD_through_87 rfl rfl ?_
              refine A_aload_n 0 d_MD_through_88 rfl rfl ?_
              refine A_pc (pc' := 89) rfl ?_
              refine A_getIv (z := sd2) T_ok d_MD_through_89 f_MD_567 (mi_s k16.1 sf_170) ((eh15.1 _ _ (fun q => absurd q (by decide))).trans ((k11.2.2.1 _ _ rfl).trans esd2.symm)) ?_
              refine A_iconst d_MD_through_92 rfl ?_
              refine A_isubv (z := (sd2 - 1)) d_MD_through_93 (w32_to (by omega) (by unfold i32; omega)) ?_
              refine A_iastorek (KR := kM (pm [] [230]) h) d_MD_through_94 (mi_s k16.1 sf_230) (by omega) (by omega) (kM_i k16 (by decide) rfl (mr_230 _) (by omega) (by omega)) (fun h29 k30 eh29 => ?_)
              have yT := TS_up (x := (x14 + 1)) hinv yl.1 yh.2 yz.2 (by omega) (by omega) (fun j hk hk2 => ((eh29.1 230 j (fun _ => hk2)).trans (eh15.1 230 j (fun _ => hk)))) ((eh29.1 _ _ (fun _ => by omega)).trans eh15.2.1) (by omega) (by omega) (by have q1 := eh29.2.1; omega)
              have yT1 := yT.1
              have yT0 := TM_0 yT1 yl.1 yh.2
              have yT2 := yT.2
              refine A_goto (tgt := 16) d_MD_through_95 (by decide) ?_
              exact ih16 (i8 + 1) i9 h29 (by omega) (by omega) (by omega) (by omega) yT1 k30 (by omega)
            · refine A_iload_n 2 d_MD_through_67 rfl rfl ?_
              refine A_iload_n 1 d_MD_through_68 rfl rfl ?_
              refine A_icmp_ne (tgt := 74) d_MD_through_69 (by decide) (fun c31 => ?_) (fun c31 => ?_)
              · refine A_iincw d_MD_through_74 rfl (fun x32 _ _ _ => ?_)
                refine A_lL (L' := [some (av_R (some 170)), some (av_I a1), some (av_I x32), some (av_I i8)]) rfl ?_
                refine A_goto (tgt := 16) d_MD_through_77 (by decide) ?_
                exact ih16 i8 x32 h15 (by omega) (by omega) (by omega) (by omega) yT1 k16 (by omega)
              · refine A_iload_n 2 d_MD_through_72 rfl rfl ?_
                exact A_iret d_MD_through_73 (by decide) rfl ⟨_, rfl, ⟨by omega, by omega⟩, k16⟩
        · refine A_iincv (z := (i8 - 1)) (L' := [some (av_R (some 170)), some (av_I a1), some (av_I i9), some (av_I (i8 - 1))]) d_MD_through_43 rfl (w32_to (by omega) (by unfold i32; omega)) rfl ?_
          have yT := TS_dn hinv yl.1 yh.2 yz.2 (by omega) (fun k hk => (eh15.1 230 k (fun _ => hk)))
          have yT1 := yT.1
          have yT0 := TM_0 yT1 yl.1 yh.2
          have yT2 := yT.2
          refine A_goto (tgt := 16) d_MD_through_46 (by decide) ?_
          exact ih16 (i8 - 1) i9 h15 (by omega) (by omega) (by omega) (by omega) yT1 k16 (by omega)
  exact lp16 _ 0 0 h6 (by omega) (by omega) (by omega) (by omega) (TS_0 (by have q1 : h6.2.1 230 0 = _ := eh6.2.1; omega) (by omega)) k7 (Nat.lt_succ_self _)
theorem s_MD_lines {G : cx_T} {h : ah_T} (hx : mi h) {a1 : Int} {a2 : Int} {a3 : Int}  : con G 3 0 0 m_MD_lines [av_R (some 170), av_I a1, av_I a2, av_I a3] h (fun r h' => ∃ z, r = some (av_I z) ∧ ((-2147483648) ≤ z ∧ z ≤ 2147483647) ∧ kM (pm [91, 93, 94, 95, 96] [229, 230]) h h') := by
  refine con_of (L := [some (av_R (some 170)), some (av_I a1), some (av_I a2), some (av_I a3), none, none, none]) (by decide +kernel) (Nat.le_of_ble_eq_true rfl) rfl ?_
  have k0 : kM (pm [91, 93, 94, 95, 96] [229, 230]) h h := kM_0 hx
  obtain ⟨sd1, esd1⟩ : ∃ x, x = h.2.1 170 93 := ⟨_, rfl⟩
  have rsd1 : 0 ≤ sd1 ∧ sd1 ≤ 8 := (by rw [esd1]; exact mi_g k0.1 (by decide) mr_170_93)
  refine A_locI 1 rfl (fun ra => ?_)
  obtain ⟨_, _⟩ := ra
  refine A_locI 2 rfl (fun ra => ?_)
  obtain ⟨_, _⟩ := ra
  refine A_locI 3 rfl (fun ra => ?_)
  obtain ⟨_, _⟩ := ra
  refine A_iload_n 1 d_MD_lines_0 rfl rfl ?_
  refine A_if_lt (tgt := 26) d_MD_lines_1 (by decide) (fun c2 => ?_) (fun c2 => ?_)
  · refine A_iconst d_MD_lines_26 rfl ?_
    exact A_iret d_MD_lines_27 (by decide) rfl ⟨_, rfl, ⟨by omega, by omega⟩, k0⟩
  · refine A_iload_n 2 d_MD_lines_4 rfl rfl ?_
    refine A_bipush d_MD_lines_5 rfl ?_
    refine A_icmp_gt (tgt := 26) d_MD_lines_7 (by decide) (fun c3 => ?_) (fun c3 => ?_)
    · refine A_iconst d_MD_lines_26 rfl ?_
      exact A_iret d_MD_lines_27 (by decide) rfl ⟨_, rfl, ⟨by omega, by omega⟩, k0⟩
    · refine A_iload_n 1 d_MD_lines_10 rfl rfl ?_
      refine A_iload_n 2 d_MD_lines_11 rfl rfl ?_
      refine A_icmp_gt (tgt := 26) d_MD_lines_12 (by decide) (fun c4 => ?_) (fun c4 => ?_)
      · refine A_iconst d_MD_lines_26 rfl ?_
        exact A_iret d_MD_lines_27 (by decide) rfl ⟨_, rfl, ⟨by omega, by omega⟩, k0⟩
      · refine A_iload_n 3 d_MD_lines_15 rfl rfl ?_
        refine A_if_lt (tgt := 26) d_MD_lines_16 (by decide) (fun c5 => ?_) (fun c5 => ?_)
        · refine A_iconst d_MD_lines_26 rfl ?_
          exact A_iret d_MD_lines_27 (by decide) rfl ⟨_, rfl, ⟨by omega, by omega⟩, k0⟩
        · refine A_iload_n 3 d_MD_lines_19 rfl rfl ?_
          refine A_sipush d_MD_lines_20 rfl ?_
          refine A_icmp_le (tgt := 28) d_MD_lines_23 (by decide) (fun c6 => ?_) (fun c6 => ?_)
          · refine A_aload_n 0 d_MD_lines_28 rfl rfl ?_
            refine A_getAv (z := some 175) T_ok d_MD_lines_29 f_MD_26 (mi_s k0.1 sf_170) (mi_r k0.1 rfm_17) ?_
            refine A_iconst d_MD_lines_32 rfl ?_
            refine A_ialoadn (lo := 0) (hi := 8) d_MD_lines_33 (mi_s k0.1 sf_175) (by decide) (by decide) (mi_g k0.1 (by decide) (mr_175 _)) (fun x8 ex8 _ _ => ?_)
            replace ex8 : x8 = h.2.1 175 0 := ex8
            refine A_if_ne (tgt := 40) d_MD_lines_34 (by decide) (fun c9 => ?_) (fun c9 => ?_)
            · refine A_lconst_1 d_MD_lines_40 ?_
              refine A_lstore (L' := [some (av_R (some 170)), some (av_I a1), some (av_I a2), some (av_I a3), some (av_L 1), none, none]) d_MD_lines_41 (Nat.le_of_ble_eq_true rfl) rfl ?_
              refine A_iconst d_MD_lines_43 rfl ?_
              refine A_istore (L' := [some (av_R (some 170)), some (av_I a1), some (av_I a2), some (av_I a3), some (av_L 1), none, some (av_I 0)]) d_MD_lines_44 (Nat.le_of_ble_eq_true rfl) rfl ?_
              have lp46 : ∀ (n : Nat) (i10 i11 : Int) , (-9223372036854775808) ≤ i10 → i10 ≤ 9223372036854775807 → 0 ≤ i11 → i11 ≤ 8 → (9 - i11).toNat < n → aw G (rm_R 3 0 0) m_MD_lines 0 0 46 [some (av_R (some 170)), some (av_I a1), some (av_I a2), some (av_I a3), some (av_L i10), none, some (av_I i11)] [] h (fun r h' => ∃ z, r = some (av_I z) ∧ ((-2147483648) ≤ z ∧ z ≤ 2147483647) ∧ kM (pm [91, 93, 94, 95, 96] [229, 230]) h h') := by
                intro n
                induction n with
                | zero => intro i10 i11 _ _ _ _ hm; omega
                | succ n ih46 =>
                  intro i10 i11 hl0 hl1 hl2 hl3 hm
                  refine A_iload d_MD_lines_46 rfl ?_
                  refine A_aload_n 0 d_MD_lines_48 rfl rfl ?_
                  refine A_getAv (z := some 175) T_ok d_MD_lines_49 f_MD_26 (mi_s k0.1 sf_170) (mi_r k0.1 rfm_17) ?_
                  refine A_iconst d_MD_lines_52 rfl ?_
                  refine A_ialoadv (z := x8) d_MD_lines_53 (mi_s k0.1 sf_175) (by decide) (by decide) ex8.symm ?_
                  refine A_pc (pc' := 54) rfl ?_
                  refine A_icmp_ge (tgt := 86) d_MD_lines_54 (by decide) (fun c14 => ?_) (fun c14 => ?_)
                  · refine A_aload_n 0 d_MD_lines_86 rfl rfl ?_
                    refine A_iload_n 1 d_MD_lines_87 rfl rfl ?_
                    refine A_putIk (KR := kM (pm [91, 93, 94, 95, 96] [229, 230]) h) T_ok d_MD_lines_88 f_MD_567 (mi_s k0.1 sf_170) fin_f (kM_i k0 (by decide) (by decide) mr_170_94 (by omega) (by omega)) (fun h15 k16 eh15 => ?_)
                    refine A_aload_n 0 d_MD_lines_91 rfl rfl ?_
                    refine A_iload_n 2 d_MD_lines_92 rfl rfl ?_
                    refine A_pc (pc' := 93) rfl ?_
                    refine A_putIk (KR := kM (pm [91, 93, 94, 95, 96] [229, 230]) h) T_ok d_MD_lines_93 f_MD_570 (mi_s k16.1 sf_170) fin_f (kM_i k16 (by decide) (by decide) mr_170_95 (by omega) (by omega)) (fun h17 k18 eh17 => ?_)
                    refine A_aload_n 0 d_MD_lines_96 rfl rfl ?_
                    refine A_iload_n 3 d_MD_lines_97 rfl rfl ?_
                    refine A_putIk (KR := kM (pm [91, 93, 94, 95, 96] [229, 230]) h) T_ok d_MD_lines_98 f_MD_555 (mi_s k18.1 sf_170) fin_f (kM_i k18 (by decide) (by decide) mr_170_96 (by omega) (by omega)) (fun h19 k20 eh19 => ?_)
                    refine A_aload_n 0 d_MD_lines_101 rfl rfl ?_
                    refine A_aload_n 0 d_MD_lines_102 rfl rfl ?_
                    refine A_pc (pc' := 103) rfl ?_
                    refine A_getAv (z := some 175) T_ok d_MD_lines_103 f_MD_26 (mi_s k20.1 sf_170) (mi_r k20.1 rfm_17) ?_
                    refine A_iconst d_MD_lines_106 rfl ?_
                    refine A_ialoadv (z := x8) d_MD_lines_107 (mi_s k20.1 sf_175) (by decide) (by decide) ((eh19.1 _ _ (fun q => absurd q (by decide))).trans ((eh17.1 _ _ (fun q => absurd q (by decide))).trans ((eh15.1 _ _ (fun q => absurd q (by decide))).trans ex8.symm))) ?_
                    refine A_putIk (KR := kM (pm [91, 93, 94, 95, 96] [229, 230]) h) T_ok d_MD_lines_108 f_MD_561 (mi_s k20.1 sf_170) fin_f (kM_i k20 (by decide) (by decide) mr_170_93 (by omega) (by omega)) (fun h23 k24 eh23 => ?_)
                    refine A_iconst d_MD_lines_111 rfl ?_
                    refine A_istore (L' := [some (av_R (some 170)), some (av_I a1), some (av_I a2), some (av_I a3), some (av_L i10), none, some (av_I 0)]) d_MD_lines_112 (Nat.le_of_ble_eq_true rfl) rfl ?_
                    have lp114 : ∀ (n : Nat) (i25 : Int) (h26 : ah_T) , 0 ≤ i25 → i25 ≤ 8 → (1 ≤ h26.2.1 170 93) → kM (pm [91, 93, 94, 95, 96] [229, 230]) h h26 → (9 - i25).toNat < n → aw G (rm_R 3 0 0) m_MD_lines 0 0 114 [some (av_R (some 170)), some (av_I a1), some (av_I a2), some (av_I a3), some (av_L i10), none, some (av_I i25)] [] h26 (fun r h' => ∃ z, r = some (av_I z) ∧ ((-2147483648) ≤ z ∧ z ≤ 2147483647) ∧ kM (pm [91, 93, 94, 95, 96] [229, 230]) h h') := by
                      intro n
                      induction n with
                      | zero => intro i25 h26 _ _ _ _ hm; omega
                      | succ n ih114 =>
                        intro i25 h26 hl0 hl1 hinv k27 hm
                        obtain ⟨sd28, esd28⟩ : ∃ x, x = h26.2.1 170 93 := ⟨_, rfl⟩
                        have rsd28 : 0 ≤ sd28 ∧ sd28 ≤ 8 := (by rw [esd28]; exact mi_g k27.1 (by decide) mr_170_93)
                        refine A_iload d_MD_lines_114 rfl ?_
                        refine A_bipush d_MD_lines_116 rfl ?_
                        refine A_icmp_ge (tgt := 141) d_MD_lines_118 (by decide) (fun c29 => ?_) (fun c29 => ?_)
                        · refine A_aload_n 0 d_MD_lines_141 rfl rfl ?_
                          refine A_aload_n 0 d_MD_lines_142 rfl rfl ?_
                          refine A_bipush d_MD_lines_143 rfl ?_
                          have zf31 := esd28.symm
                          refine A_callV1 m_MD_through T_ok d_MD_lines_145 l_MD_578 k_MD_through (mi_s k27.1 sf_170) rfl (by decide +kernel) (by decide) (Nat.le_of_ble_eq_true rfl) (s_MD_through k27.1 (by have qq0 := esd28.symm; omega)) (fun r h30 hq => ?_)
                          obtain ⟨x33, rfl, ⟨_, _⟩, k32⟩ := hq
                          have k34 := kM_t k27 k32 (pm_s (by decide) (by decide))
                          refine A_putIk (KR := kM (pm [91, 93, 94, 95, 96] [229, 230]) h) T_ok d_MD_lines_148 f_MD_480 (mi_s k34.1 sf_170) fin_f (kM_i k34 (by decide) (by decide) mr_170_91 (by omega) (by omega)) (fun h35 k36 eh35 => ?_)
                          refine A_aload_n 0 d_MD_lines_151 rfl rfl ?_
                          refine A_getIv (z := x33) T_ok d_MD_lines_152 f_MD_480 (mi_s k36.1 sf_170) eh35.2.1 ?_
                          exact A_iret d_MD_lines_155 (by decide) rfl ⟨_, rfl, ⟨by omega, by omega⟩, k36⟩
                        · refine A_aload_n 0 d_MD_lines_121 rfl rfl ?_
                          refine A_getAv (z := some 229) T_ok d_MD_lines_122 f_MD_190 (mi_s k27.1 sf_170) (mi_r k27.1 rfm_92) ?_
                          refine A_iload d_MD_lines_125 rfl ?_
                          refine A_aload_n 0 d_MD_lines_127 rfl rfl ?_
                          refine A_getAv (z := some 176) T_ok d_MD_lines_128 f_MD_29 (mi_s k27.1 sf_170) (mi_r k27.1 rfm_18) ?_
                          refine A_pc (pc' := 131) rfl ?_
                          refine A_iload d_MD_lines_131 rfl ?_
                          refine A_ialoadn (lo := (-2)) (hi := 109) d_MD_lines_133 (mi_s k27.1 sf_176) (by omega) (by omega) (mi_g k27.1 (by decide) (mr_176 _)) (fun x40 ex40 _ _ => ?_)
                          refine A_iastorek (KR := kM (pm [91, 93, 94, 95, 96] [229, 230]) h) d_MD_lines_134 (mi_s k27.1 sf_229) (by omega) (by omega) (kM_i k27 (by decide) rfl (mr_229 _) (by omega) (by omega)) (fun h41 k42 eh41 => ?_)
                          refine A_iincv (z := (i25 + 1)) (L' := [some (av_R (some 170)), some (av_I a1), some (av_I a2), some (av_I a3), some (av_L i10), none, some (av_I (i25 + 1))]) d_MD_lines_135 rfl (w32_to (by omega) (by unfold i32; omega)) rfl ?_
                          refine A_goto (tgt := 114) d_MD_lines_138 (by decide) ?_
                          exact ih114 (i25 + 1) h41 (by omega) (by omega) (by have qq0 := ((eh41.1 _ _ (fun q => absurd q (by decide))).trans esd28.symm); omega) k42 (by omega)
                    exact lp114 _ 0 h23 (by omega) (by omega) (by have qq0 := eh23.2.1; omega) k24 (Nat.lt_succ_self _)
                  · refine A_lload d_MD_lines_57 rfl ?_
                    refine A_iload_n 2 d_MD_lines_59 rfl rfl ?_
                    refine A_iload_n 1 d_MD_lines_60 rfl rfl ?_
                    refine A_isubv (z := (a2 - a1)) d_MD_lines_61 (w32_to (by omega) (by unfold i32; omega)) ?_
                    refine A_iconst d_MD_lines_62 rfl ?_
                    refine A_pc (pc' := 63) rfl ?_
                    refine A_iaddv (z := (a2 - a1 + 1)) d_MD_lines_63 (w32_to (by omega) (by unfold i32; omega)) ?_
                    refine A_i2l d_MD_lines_64 ?_
                    refine A_lmulw d_MD_lines_65 (fun x43 _ _ _ => ?_)
                    refine A_lstore (L' := [some (av_R (some 170)), some (av_I a1), some (av_I a2), some (av_I a3), some (av_L x43), none, some (av_I i11)]) d_MD_lines_66 (Nat.le_of_ble_eq_true rfl) rfl ?_
                    refine A_lload d_MD_lines_68 rfl ?_
                    refine A_ldc2 (z := 100000) d_MD_lines_70 cst_MD_576 rfl ?_
                    refine A_pc (pc' := 73) rfl ?_
                    refine A_lcmpn d_MD_lines_73 (fun x44 lx44 ex44 gx44 _ _ => ?_)
                    refine A_if_le (tgt := 80) d_MD_lines_74 (by decide) (fun c45 => ?_) (fun c45 => ?_)
                    · have mc45 : (x43 - 100000) ≤ 0 := by omega
                      refine A_iincv (z := (i11 + 1)) (L' := [some (av_R (some 170)), some (av_I a1), some (av_I a2), some (av_I a3), some (av_L x43), none, some (av_I (i11 + 1))]) d_MD_lines_80 rfl (w32_to (by omega) (by unfold i32; omega)) rfl ?_
                      refine A_goto (tgt := 46) d_MD_lines_83 (by decide) ?_
                      exact ih46 x43 (i11 + 1) (by omega) (by omega) (by omega) (by omega) (by omega)
                    · have mc45 : (x43 - 100000) > 0 := by omega
                      refine A_bipush d_MD_lines_77 rfl ?_
                      exact A_iret d_MD_lines_79 (by decide) rfl ⟨_, rfl, ⟨by omega, by omega⟩, k0⟩
              exact lp46 _ 1 0 (by omega) (by omega) (by omega) (by omega) (Nat.lt_succ_self _)
            · refine A_bipush d_MD_lines_37 rfl ?_
              exact A_iret d_MD_lines_39 (by decide) rfl ⟨_, rfl, ⟨by omega, by omega⟩, k0⟩
          · refine A_iconst d_MD_lines_26 rfl ?_
            exact A_iret d_MD_lines_27 (by decide) rfl ⟨_, rfl, ⟨by omega, by omega⟩, k0⟩
theorem s_MD_second {G : cx_T} {h : ah_T} (hx : mi h) {a1 : Int} {a2 : Int}  : con G 3 0 0 m_MD_second [av_R (some 170), av_I a1, av_I a2] h (fun r h' => ∃ z, r = some (av_I z) ∧ ((-2147483648) ≤ z ∧ z ≤ 2147483647) ∧ kM (pm [] [230]) h h') := by
  refine con_of (L := [some (av_R (some 170)), some (av_I a1), some (av_I a2), none]) (by decide +kernel) (Nat.le_of_ble_eq_true rfl) rfl ?_
  have k0 : kM (pm [] [230]) h h := kM_0 hx
  obtain ⟨sd1, esd1⟩ : ∃ x, x = h.2.1 170 93 := ⟨_, rfl⟩
  have rsd1 : 0 ≤ sd1 ∧ sd1 ≤ 8 := (by rw [esd1]; exact mi_g k0.1 (by decide) mr_170_93)
  refine A_locI 1 rfl (fun ra => ?_)
  obtain ⟨_, _⟩ := ra
  refine A_locI 2 rfl (fun ra => ?_)
  obtain ⟨_, _⟩ := ra
  refine A_iload_n 1 d_MD_second_0 rfl rfl ?_
  refine A_if_lt (tgt := 24) d_MD_second_1 (by decide) (fun c2 => ?_) (fun c2 => ?_)
  · refine A_iconst d_MD_second_24 rfl ?_
    exact A_iret d_MD_second_25 (by decide) rfl ⟨_, rfl, ⟨by omega, by omega⟩, k0⟩
  · refine A_iload_n 1 d_MD_second_4 rfl rfl ?_
    refine A_aload_n 0 d_MD_second_5 rfl rfl ?_
    refine A_getIf T_ok d_MD_second_6 f_MD_480 (mi_s k0.1 sf_170) (fun x3 ex3 _ _ => ?_)
    refine A_icmp_ge (tgt := 24) d_MD_second_9 (by decide) (fun c4 => ?_) (fun c4 => ?_)
    · refine A_iconst d_MD_second_24 rfl ?_
      exact A_iret d_MD_second_25 (by decide) rfl ⟨_, rfl, ⟨by omega, by omega⟩, k0⟩
    · refine A_iload_n 2 d_MD_second_12 rfl rfl ?_
      refine A_if_lt (tgt := 24) d_MD_second_13 (by decide) (fun c5 => ?_) (fun c5 => ?_)
      · refine A_iconst d_MD_second_24 rfl ?_
        exact A_iret d_MD_second_25 (by decide) rfl ⟨_, rfl, ⟨by omega, by omega⟩, k0⟩
      · refine A_iload_n 2 d_MD_second_16 rfl rfl ?_
        refine A_aload_n 0 d_MD_second_17 rfl rfl ?_
        refine A_getIv (z := sd1) T_ok d_MD_second_18 f_MD_561 (mi_s k0.1 sf_170) esd1.symm ?_
        refine A_icmp_lt (tgt := 26) d_MD_second_21 (by decide) (fun c7 => ?_) (fun c7 => ?_)
        · refine A_aload_n 0 d_MD_second_26 rfl rfl ?_
          refine A_iload_n 1 d_MD_second_27 rfl rfl ?_
          have zf9 := esd1.symm
          refine A_callV1 m_MD_through T_ok d_MD_second_28 l_MD_578 k_MD_through (mi_s k0.1 sf_170) rfl (by decide +kernel) (by decide) (Nat.le_of_ble_eq_true rfl) (s_MD_through k0.1 (by have qq0 := esd1.symm; omega)) (fun r h8 hq => ?_)
          obtain ⟨x11, rfl, ⟨_, _⟩, k10⟩ := hq
          have k12 := kM_t k0 k10 (pm_s (by decide) (by decide))
          refine A_istore_n 3 (L' := [some (av_R (some 170)), some (av_I a1), some (av_I a2), some (av_I x11)]) d_MD_second_31 rfl (Nat.le_of_ble_eq_true rfl) rfl ?_
          refine A_aload_n 0 d_MD_second_32 rfl rfl ?_
          refine A_getAv (z := some 230) T_ok d_MD_second_33 f_MD_193 (mi_s k12.1 sf_170) (mi_r k12.1 rfm_97) ?_
          refine A_iload_n 2 d_MD_second_36 rfl rfl ?_
          refine A_ialoadf d_MD_second_37 (mi_s k12.1 sf_230) (by omega) (by omega) (fun x14 ex14 _ _ => ?_)
          refine A_pc (pc' := 38) rfl ?_
          exact A_iret d_MD_second_38 (by decide) rfl ⟨_, rfl, ⟨by omega, by omega⟩, k12⟩
        · refine A_iconst d_MD_second_24 rfl ?_
          exact A_iret d_MD_second_25 (by decide) rfl ⟨_, rfl, ⟨by omega, by omega⟩, k0⟩
