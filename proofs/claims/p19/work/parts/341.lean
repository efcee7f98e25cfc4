/-! ===== the reference's methods, 341 ===== -/
def m_MD_soundsOf : mr_T := (⟨"PlainMusicModel", "soundsOf", "(IZ)I"⟩, prog_14_method_87_code, 6, some .int)
theorem d_MD_soundsOf_0 : decode prog_14_method_87_code 0 = .ok (.iconst 0, 1) := by decide +kernel
theorem d_MD_soundsOf_1 : decode prog_14_method_87_code 1 = .ok (.istore_n 3, 1) := by decide +kernel
theorem d_MD_soundsOf_2 : decode prog_14_method_87_code 2 = .ok (.iconst 0, 1) := by decide +kernel
theorem d_MD_soundsOf_3 : decode prog_14_method_87_code 3 = .ok (.istore 4, 2) := by decide +kernel
theorem d_MD_soundsOf_5 : decode prog_14_method_87_code 5 = .ok (.iload 4, 2) := by decide +kernel
theorem d_MD_soundsOf_7 : decode prog_14_method_87_code 7 = .ok (.aload_n 0, 1) := by decide +kernel
theorem d_MD_soundsOf_8 : decode prog_14_method_87_code 8 = .ok (.getfield 57, 3) := by decide +kernel
theorem d_MD_soundsOf_11 : decode prog_14_method_87_code 11 = .ok (.iload_n 1, 1) := by decide +kernel
theorem d_MD_soundsOf_12 : decode prog_14_method_87_code 12 = .ok (.iaload, 1) := by decide +kernel
theorem d_MD_soundsOf_13 : decode prog_14_method_87_code 13 = .ok (.if_icmp .ge 71, 3) := by decide +kernel
theorem d_MD_soundsOf_84 : decode prog_14_method_87_code 84 = .ok (.iload_n 3, 1) := by decide +kernel
theorem d_MD_soundsOf_85 : decode prog_14_method_87_code 85 = .ok (.ireturn, 1) := by decide +kernel
theorem d_MD_soundsOf_16 : decode prog_14_method_87_code 16 = .ok (.sipush 300, 3) := by decide +kernel
theorem d_MD_soundsOf_19 : decode prog_14_method_87_code 19 = .ok (.iload_n 1, 1) := by decide +kernel
theorem d_MD_soundsOf_20 : decode prog_14_method_87_code 20 = .ok (.imul, 1) := by decide +kernel
theorem d_MD_soundsOf_21 : decode prog_14_method_87_code 21 = .ok (.iload 4, 2) := by decide +kernel
theorem d_MD_soundsOf_23 : decode prog_14_method_87_code 23 = .ok (.iadd, 1) := by decide +kernel
theorem d_MD_soundsOf_24 : decode prog_14_method_87_code 24 = .ok (.istore 5, 2) := by decide +kernel
theorem d_MD_soundsOf_26 : decode prog_14_method_87_code 26 = .ok (.aload_n 0, 1) := by decide +kernel
theorem d_MD_soundsOf_27 : decode prog_14_method_87_code 27 = .ok (.getfield 75, 3) := by decide +kernel
theorem d_MD_soundsOf_30 : decode prog_14_method_87_code 30 = .ok (.iload 5, 2) := by decide +kernel
theorem d_MD_soundsOf_32 : decode prog_14_method_87_code 32 = .ok (.iaload, 1) := by decide +kernel
theorem d_MD_soundsOf_33 : decode prog_14_method_87_code 33 = .ok (.ifCond .ne 6, 3) := by decide +kernel
theorem d_MD_soundsOf_39 : decode prog_14_method_87_code 39 = .ok (.iload_n 3, 1) := by decide +kernel
theorem d_MD_soundsOf_40 : decode prog_14_method_87_code 40 = .ok (.bipush 80, 2) := by decide +kernel
theorem d_MD_soundsOf_42 : decode prog_14_method_87_code 42 = .ok (.if_icmp .ge 15, 3) := by decide +kernel
theorem d_MD_soundsOf_57 : decode prog_14_method_87_code 57 = .ok (.iload_n 3, 1) := by decide +kernel
theorem d_MD_soundsOf_58 : decode prog_14_method_87_code 58 = .ok (.bipush 80, 2) := by decide +kernel
theorem d_MD_soundsOf_60 : decode prog_14_method_87_code 60 = .ok (.if_icmp .ge 15, 3) := by decide +kernel
theorem d_MD_soundsOf_75 : decode prog_14_method_87_code 75 = .ok (.iinc 3 1, 3) := by decide +kernel
theorem d_MD_soundsOf_78 : decode prog_14_method_87_code 78 = .ok (.iinc 4 1, 3) := by decide +kernel
theorem d_MD_soundsOf_81 : decode prog_14_method_87_code 81 = .ok (.goto (-76), 3) := by decide +kernel
theorem d_MD_soundsOf_45 : decode prog_14_method_87_code 45 = .ok (.iload_n 2, 1) := by decide +kernel
theorem d_MD_soundsOf_46 : decode prog_14_method_87_code 46 = .ok (.ifCond .eq 11, 3) := by decide +kernel
theorem d_MD_soundsOf_63 : decode prog_14_method_87_code 63 = .ok (.iload_n 2, 1) := by decide +kernel
theorem d_MD_soundsOf_64 : decode prog_14_method_87_code 64 = .ok (.ifCond .ne 11, 3) := by decide +kernel
theorem d_MD_soundsOf_67 : decode prog_14_method_87_code 67 = .ok (.aload_n 0, 1) := by decide +kernel
theorem d_MD_soundsOf_68 : decode prog_14_method_87_code 68 = .ok (.getfield 217, 3) := by decide +kernel
theorem rfm_108 : (108, 238) ∈ mf_L := by decide +kernel
theorem d_MD_soundsOf_71 : decode prog_14_method_87_code 71 = .ok (.iload_n 3, 1) := by decide +kernel
theorem d_MD_soundsOf_72 : decode prog_14_method_87_code 72 = .ok (.iload 5, 2) := by decide +kernel
theorem d_MD_soundsOf_74 : decode prog_14_method_87_code 74 = .ok (.iastore, 1) := by decide +kernel
theorem sf_238 : sh_L[238]? = some (0, 80) := by decide +kernel
theorem mr_238 (k : Nat) : mr 238 k = (0, 1199) := rfl
theorem d_MD_soundsOf_49 : decode prog_14_method_87_code 49 = .ok (.aload_n 0, 1) := by decide +kernel
theorem d_MD_soundsOf_50 : decode prog_14_method_87_code 50 = .ok (.getfield 214, 3) := by decide +kernel
theorem rfm_107 : (107, 237) ∈ mf_L := by decide +kernel
theorem d_MD_soundsOf_53 : decode prog_14_method_87_code 53 = .ok (.iload_n 3, 1) := by decide +kernel
theorem d_MD_soundsOf_54 : decode prog_14_method_87_code 54 = .ok (.iload 5, 2) := by decide +kernel
theorem d_MD_soundsOf_56 : decode prog_14_method_87_code 56 = .ok (.iastore, 1) := by decide +kernel
theorem sf_237 : sh_L[237]? = some (0, 80) := by decide +kernel
theorem mr_237 (k : Nat) : mr 237 k = (0, 1199) := rfl
theorem d_MD_soundsOf_36 : decode prog_14_method_87_code 36 = .ok (.goto 42, 3) := by decide +kernel
def m_MD_goesOn : mr_T := (⟨"PlainMusicModel", "goesOn", "(II)Z"⟩, prog_14_method_61_code, 8, some .boolean)
theorem d_MD_goesOn_0 : decode prog_14_method_61_code 0 = .ok (.iload_n 2, 1) := by decide +kernel
theorem d_MD_goesOn_1 : decode prog_14_method_61_code 1 = .ok (.iconst 1, 1) := by decide +kernel
theorem d_MD_goesOn_2 : decode prog_14_method_61_code 2 = .ok (.iadd, 1) := by decide +kernel
theorem d_MD_goesOn_3 : decode prog_14_method_61_code 3 = .ok (.aload_n 0, 1) := by decide +kernel
theorem d_MD_goesOn_4 : decode prog_14_method_61_code 4 = .ok (.getfield 57, 3) := by decide +kernel
theorem d_MD_goesOn_7 : decode prog_14_method_61_code 7 = .ok (.iload_n 1, 1) := by decide +kernel
theorem d_MD_goesOn_8 : decode prog_14_method_61_code 8 = .ok (.iaload, 1) := by decide +kernel
theorem d_MD_goesOn_9 : decode prog_14_method_61_code 9 = .ok (.if_icmp .ne 5, 3) := by decide +kernel
theorem d_MD_goesOn_14 : decode prog_14_method_61_code 14 = .ok (.sipush 300, 3) := by decide +kernel
theorem d_MD_goesOn_17 : decode prog_14_method_61_code 17 = .ok (.iload_n 1, 1) := by decide +kernel
theorem d_MD_goesOn_18 : decode prog_14_method_61_code 18 = .ok (.imul, 1) := by decide +kernel
theorem d_MD_goesOn_19 : decode prog_14_method_61_code 19 = .ok (.iload_n 2, 1) := by decide +kernel
theorem d_MD_goesOn_20 : decode prog_14_method_61_code 20 = .ok (.iadd, 1) := by decide +kernel
theorem d_MD_goesOn_21 : decode prog_14_method_61_code 21 = .ok (.istore_n 3, 1) := by decide +kernel
theorem d_MD_goesOn_22 : decode prog_14_method_61_code 22 = .ok (.iconst 1, 1) := by decide +kernel
theorem d_MD_goesOn_23 : decode prog_14_method_61_code 23 = .ok (.istore 4, 2) := by decide +kernel
theorem d_MD_goesOn_25 : decode prog_14_method_61_code 25 = .ok (.iconst 0, 1) := by decide +kernel
theorem d_MD_goesOn_26 : decode prog_14_method_61_code 26 = .ok (.istore 5, 2) := by decide +kernel
theorem d_MD_goesOn_28 : decode prog_14_method_61_code 28 = .ok (.iload 5, 2) := by decide +kernel
theorem d_MD_goesOn_30 : decode prog_14_method_61_code 30 = .ok (.aload_n 0, 1) := by decide +kernel
theorem d_MD_goesOn_31 : decode prog_14_method_61_code 31 = .ok (.getfield 75, 3) := by decide +kernel
theorem d_MD_goesOn_34 : decode prog_14_method_61_code 34 = .ok (.iload_n 3, 1) := by decide +kernel
theorem d_MD_goesOn_35 : decode prog_14_method_61_code 35 = .ok (.iaload, 1) := by decide +kernel
theorem d_MD_goesOn_36 : decode prog_14_method_61_code 36 = .ok (.if_icmp .ge 90, 3) := by decide +kernel
theorem d_MD_goesOn_126 : decode prog_14_method_61_code 126 = .ok (.iload 4, 2) := by decide +kernel
theorem d_MD_goesOn_128 : decode prog_14_method_61_code 128 = .ok (.ireturn, 1) := by decide +kernel
theorem d_MD_goesOn_39 : decode prog_14_method_61_code 39 = .ok (.iconst 0, 1) := by decide +kernel
theorem d_MD_goesOn_40 : decode prog_14_method_61_code 40 = .ok (.istore 6, 2) := by decide +kernel
theorem d_MD_goesOn_42 : decode prog_14_method_61_code 42 = .ok (.iconst 0, 1) := by decide +kernel
theorem d_MD_goesOn_43 : decode prog_14_method_61_code 43 = .ok (.istore 7, 2) := by decide +kernel
theorem d_MD_goesOn_45 : decode prog_14_method_61_code 45 = .ok (.iload 7, 2) := by decide +kernel
theorem d_MD_goesOn_47 : decode prog_14_method_61_code 47 = .ok (.aload_n 0, 1) := by decide +kernel
theorem d_MD_goesOn_48 : decode prog_14_method_61_code 48 = .ok (.getfield 75, 3) := by decide +kernel
theorem d_MD_goesOn_51 : decode prog_14_method_61_code 51 = .ok (.iload_n 3, 1) := by decide +kernel
theorem d_MD_goesOn_52 : decode prog_14_method_61_code 52 = .ok (.iconst 1, 1) := by decide +kernel
theorem d_MD_goesOn_53 : decode prog_14_method_61_code 53 = .ok (.iadd, 1) := by decide +kernel
theorem d_MD_goesOn_54 : decode prog_14_method_61_code 54 = .ok (.iaload, 1) := by decide +kernel
theorem d_MD_goesOn_55 : decode prog_14_method_61_code 55 = .ok (.if_icmp .ge 48, 3) := by decide +kernel
theorem d_MD_goesOn_103 : decode prog_14_method_61_code 103 = .ok (.iload 4, 2) := by decide +kernel
theorem d_MD_goesOn_105 : decode prog_14_method_61_code 105 = .ok (.ifCond .eq 12, 3) := by decide +kernel
theorem d_MD_goesOn_108 : decode prog_14_method_61_code 108 = .ok (.iload 6, 2) := by decide +kernel
theorem d_MD_goesOn_110 : decode prog_14_method_61_code 110 = .ok (.ifCond .eq 7, 3) := by decide +kernel
theorem d_MD_goesOn_117 : decode prog_14_method_61_code 117 = .ok (.iconst 0, 1) := by decide +kernel
theorem d_MD_goesOn_118 : decode prog_14_method_61_code 118 = .ok (.istore 4, 2) := by decide +kernel
theorem d_MD_goesOn_120 : decode prog_14_method_61_code 120 = .ok (.iinc 5 1, 3) := by decide +kernel
theorem d_MD_goesOn_123 : decode prog_14_method_61_code 123 = .ok (.goto (-95), 3) := by decide +kernel
theorem d_MD_goesOn_58 : decode prog_14_method_61_code 58 = .ok (.iload 6, 2) := by decide +kernel
theorem d_MD_goesOn_60 : decode prog_14_method_61_code 60 = .ok (.ifCond .ne 30, 3) := by decide +kernel
theorem d_MD_goesOn_63 : decode prog_14_method_61_code 63 = .ok (.aload_n 0, 1) := by decide +kernel
theorem d_MD_goesOn_64 : decode prog_14_method_61_code 64 = .ok (.getfield 78, 3) := by decide +kernel
theorem d_MD_goesOn_67 : decode prog_14_method_61_code 67 = .ok (.iconst 4, 1) := by decide +kernel
theorem d_MD_goesOn_68 : decode prog_14_method_61_code 68 = .ok (.iload_n 3, 1) := by decide +kernel
theorem d_MD_goesOn_69 : decode prog_14_method_61_code 69 = .ok (.imul, 1) := by decide +kernel
theorem d_MD_goesOn_70 : decode prog_14_method_61_code 70 = .ok (.iconst 4, 1) := by decide +kernel
theorem d_MD_goesOn_71 : decode prog_14_method_61_code 71 = .ok (.iadd, 1) := by decide +kernel
theorem d_MD_goesOn_72 : decode prog_14_method_61_code 72 = .ok (.iload 7, 2) := by decide +kernel
theorem d_MD_goesOn_74 : decode prog_14_method_61_code 74 = .ok (.iadd, 1) := by decide +kernel
theorem d_MD_goesOn_75 : decode prog_14_method_61_code 75 = .ok (.iaload, 1) := by decide +kernel
theorem d_MD_goesOn_76 : decode prog_14_method_61_code 76 = .ok (.aload_n 0, 1) := by decide +kernel
theorem d_MD_goesOn_77 : decode prog_14_method_61_code 77 = .ok (.getfield 78, 3) := by decide +kernel
theorem d_MD_goesOn_80 : decode prog_14_method_61_code 80 = .ok (.iconst 4, 1) := by decide +kernel
theorem d_MD_goesOn_81 : decode prog_14_method_61_code 81 = .ok (.iload_n 3, 1) := by decide +kernel
theorem d_MD_goesOn_82 : decode prog_14_method_61_code 82 = .ok (.imul, 1) := by decide +kernel
theorem d_MD_goesOn_83 : decode prog_14_method_61_code 83 = .ok (.iload 5, 2) := by decide +kernel
theorem d_MD_goesOn_85 : decode prog_14_method_61_code 85 = .ok (.iadd, 1) := by decide +kernel
theorem d_MD_goesOn_86 : decode prog_14_method_61_code 86 = .ok (.iaload, 1) := by decide +kernel
theorem d_MD_goesOn_87 : decode prog_14_method_61_code 87 = .ok (.if_icmp .ne 7, 3) := by decide +kernel
theorem d_MD_goesOn_94 : decode prog_14_method_61_code 94 = .ok (.iconst 0, 1) := by decide +kernel
theorem d_MD_goesOn_95 : decode prog_14_method_61_code 95 = .ok (.istore 6, 2) := by decide +kernel
theorem d_MD_goesOn_97 : decode prog_14_method_61_code 97 = .ok (.iinc 7 1, 3) := by decide +kernel
theorem d_MD_goesOn_100 : decode prog_14_method_61_code 100 = .ok (.goto (-55), 3) := by decide +kernel
theorem d_MD_goesOn_90 : decode prog_14_method_61_code 90 = .ok (.iconst 1, 1) := by decide +kernel
theorem d_MD_goesOn_91 : decode prog_14_method_61_code 91 = .ok (.goto 4, 3) := by decide +kernel
theorem d_MD_goesOn_113 : decode prog_14_method_61_code 113 = .ok (.iconst 1, 1) := by decide +kernel
theorem d_MD_goesOn_114 : decode prog_14_method_61_code 114 = .ok (.goto 4, 3) := by decide +kernel
theorem d_MD_goesOn_12 : decode prog_14_method_61_code 12 = .ok (.iconst 0, 1) := by decide +kernel
theorem d_MD_goesOn_13 : decode prog_14_method_61_code 13 = .ok (.ireturn, 1) := by decide +kernel
def m_MD_goesAlong : mr_T := (⟨"PlainMusicModel", "goesAlong", "(II)Z"⟩, prog_14_method_65_code, 8, some .boolean)
theorem d_MD_goesAlong_0 : decode prog_14_method_65_code 0 = .ok (.iconst 1, 1) := by decide +kernel
theorem d_MD_goesAlong_1 : decode prog_14_method_65_code 1 = .ok (.istore_n 3, 1) := by decide +kernel
theorem d_MD_goesAlong_2 : decode prog_14_method_65_code 2 = .ok (.iload_n 3, 1) := by decide +kernel
theorem d_MD_goesAlong_3 : decode prog_14_method_65_code 3 = .ok (.aload_n 0, 1) := by decide +kernel
theorem d_MD_goesAlong_4 : decode prog_14_method_65_code 4 = .ok (.getfield 57, 3) := by decide +kernel
theorem d_MD_goesAlong_7 : decode prog_14_method_65_code 7 = .ok (.iload_n 2, 1) := by decide +kernel
theorem d_MD_goesAlong_8 : decode prog_14_method_65_code 8 = .ok (.iaload, 1) := by decide +kernel
theorem d_MD_goesAlong_9 : decode prog_14_method_65_code 9 = .ok (.if_icmp .ge 190, 3) := by decide +kernel
theorem d_MD_goesAlong_199 : decode prog_14_method_65_code 199 = .ok (.iconst 0, 1) := by decide +kernel
theorem d_MD_goesAlong_200 : decode prog_14_method_65_code 200 = .ok (.ireturn, 1) := by decide +kernel
theorem d_MD_goesAlong_12 : decode prog_14_method_65_code 12 = .ok (.sipush 300, 3) := by decide +kernel
theorem d_MD_goesAlong_15 : decode prog_14_method_65_code 15 = .ok (.iload_n 2, 1) := by decide +kernel
theorem d_MD_goesAlong_16 : decode prog_14_method_65_code 16 = .ok (.imul, 1) := by decide +kernel
theorem d_MD_goesAlong_17 : decode prog_14_method_65_code 17 = .ok (.iload_n 3, 1) := by decide +kernel
theorem d_MD_goesAlong_18 : decode prog_14_method_65_code 18 = .ok (.iadd, 1) := by decide +kernel
theorem d_MD_goesAlong_19 : decode prog_14_method_65_code 19 = .ok (.istore 4, 2) := by decide +kernel
theorem d_MD_goesAlong_21 : decode prog_14_method_65_code 21 = .ok (.aload_n 0, 1) := by decide +kernel
theorem d_MD_goesAlong_22 : decode prog_14_method_65_code 22 = .ok (.aload_n 0, 1) := by decide +kernel
theorem d_MD_goesAlong_23 : decode prog_14_method_65_code 23 = .ok (.getfield 63, 3) := by decide +kernel
theorem d_MD_goesAlong_26 : decode prog_14_method_65_code 26 = .ok (.iload 4, 2) := by decide +kernel
theorem d_MD_goesAlong_28 : decode prog_14_method_65_code 28 = .ok (.laload, 1) := by decide +kernel
theorem d_MD_goesAlong_29 : decode prog_14_method_65_code 29 = .ok (.aload_n 0, 1) := by decide +kernel
theorem d_MD_goesAlong_30 : decode prog_14_method_65_code 30 = .ok (.getfield 66, 3) := by decide +kernel
theorem d_MD_goesAlong_33 : decode prog_14_method_65_code 33 = .ok (.iload 4, 2) := by decide +kernel
theorem d_MD_goesAlong_35 : decode prog_14_method_65_code 35 = .ok (.laload, 1) := by decide +kernel
theorem d_MD_goesAlong_36 : decode prog_14_method_65_code 36 = .ok (.aload_n 0, 1) := by decide +kernel
theorem d_MD_goesAlong_37 : decode prog_14_method_65_code 37 = .ok (.getfield 63, 3) := by decide +kernel
theorem d_MD_goesAlong_40 : decode prog_14_method_65_code 40 = .ok (.iload_n 1, 1) := by decide +kernel
theorem d_MD_goesAlong_41 : decode prog_14_method_65_code 41 = .ok (.laload, 1) := by decide +kernel
theorem d_MD_goesAlong_42 : decode prog_14_method_65_code 42 = .ok (.aload_n 0, 1) := by decide +kernel
theorem d_MD_goesAlong_43 : decode prog_14_method_65_code 43 = .ok (.getfield 66, 3) := by decide +kernel
theorem d_MD_goesAlong_46 : decode prog_14_method_65_code 46 = .ok (.iload_n 1, 1) := by decide +kernel
theorem d_MD_goesAlong_47 : decode prog_14_method_65_code 47 = .ok (.laload, 1) := by decide +kernel
theorem d_MD_goesAlong_48 : decode prog_14_method_65_code 48 = .ok (.invokevirtual 500, 3) := by decide +kernel
theorem d_MD_goesAlong_51 : decode prog_14_method_65_code 51 = .ok (.ifCond .eq 6, 3) := by decide +kernel
theorem d_MD_goesAlong_57 : decode prog_14_method_65_code 57 = .ok (.aload_n 0, 1) := by decide +kernel
theorem d_MD_goesAlong_58 : decode prog_14_method_65_code 58 = .ok (.getfield 75, 3) := by decide +kernel
theorem d_MD_goesAlong_61 : decode prog_14_method_65_code 61 = .ok (.iload 4, 2) := by decide +kernel
theorem d_MD_goesAlong_63 : decode prog_14_method_65_code 63 = .ok (.iaload, 1) := by decide +kernel
theorem d_MD_goesAlong_64 : decode prog_14_method_65_code 64 = .ok (.ifCond .le 39, 3) := by decide +kernel
theorem d_MD_goesAlong_103 : decode prog_14_method_65_code 103 = .ok (.iconst 0, 1) := by decide +kernel
theorem d_MD_goesAlong_104 : decode prog_14_method_65_code 104 = .ok (.istore 5, 2) := by decide +kernel
theorem d_MD_goesAlong_106 : decode prog_14_method_65_code 106 = .ok (.iload 5, 2) := by decide +kernel
theorem d_MD_goesAlong_108 : decode prog_14_method_65_code 108 = .ok (.ifCond .ne 5, 3) := by decide +kernel
theorem d_MD_goesAlong_111 : decode prog_14_method_65_code 111 = .ok (.iconst 0, 1) := by decide +kernel
theorem d_MD_goesAlong_112 : decode prog_14_method_65_code 112 = .ok (.ireturn, 1) := by decide +kernel
theorem d_MD_goesAlong_67 : decode prog_14_method_65_code 67 = .ok (.aload_n 0, 1) := by decide +kernel
theorem d_MD_goesAlong_68 : decode prog_14_method_65_code 68 = .ok (.getfield 75, 3) := by decide +kernel
theorem d_MD_goesAlong_71 : decode prog_14_method_65_code 71 = .ok (.iload 4, 2) := by decide +kernel
theorem d_MD_goesAlong_73 : decode prog_14_method_65_code 73 = .ok (.iconst 1, 1) := by decide +kernel
theorem d_MD_goesAlong_74 : decode prog_14_method_65_code 74 = .ok (.isub, 1) := by decide +kernel
theorem d_MD_goesAlong_75 : decode prog_14_method_65_code 75 = .ok (.iaload, 1) := by decide +kernel
theorem d_MD_goesAlong_76 : decode prog_14_method_65_code 76 = .ok (.ifCond .le 27, 3) := by decide +kernel
theorem d_MD_goesAlong_79 : decode prog_14_method_65_code 79 = .ok (.aload_n 0, 1) := by decide +kernel
theorem d_MD_goesAlong_80 : decode prog_14_method_65_code 80 = .ok (.getfield 75, 3) := by decide +kernel
theorem d_MD_goesAlong_83 : decode prog_14_method_65_code 83 = .ok (.iload_n 1, 1) := by decide +kernel
theorem d_MD_goesAlong_84 : decode prog_14_method_65_code 84 = .ok (.iaload, 1) := by decide +kernel
theorem d_MD_goesAlong_85 : decode prog_14_method_65_code 85 = .ok (.ifCond .le 18, 3) := by decide +kernel
theorem d_MD_goesAlong_88 : decode prog_14_method_65_code 88 = .ok (.aload_n 0, 1) := by decide +kernel
theorem d_MD_goesAlong_89 : decode prog_14_method_65_code 89 = .ok (.getfield 75, 3) := by decide +kernel
theorem d_MD_goesAlong_92 : decode prog_14_method_65_code 92 = .ok (.iload_n 1, 1) := by decide +kernel
theorem d_MD_goesAlong_93 : decode prog_14_method_65_code 93 = .ok (.iconst 1, 1) := by decide +kernel
theorem d_MD_goesAlong_94 : decode prog_14_method_65_code 94 = .ok (.isub, 1) := by decide +kernel
theorem d_MD_goesAlong_95 : decode prog_14_method_65_code 95 = .ok (.iaload, 1) := by decide +kernel
theorem d_MD_goesAlong_96 : decode prog_14_method_65_code 96 = .ok (.ifCond .le 7, 3) := by decide +kernel
theorem d_MD_goesAlong_99 : decode prog_14_method_65_code 99 = .ok (.iconst 1, 1) := by decide +kernel
theorem d_MD_goesAlong_100 : decode prog_14_method_65_code 100 = .ok (.goto 4, 3) := by decide +kernel
theorem d_MD_goesAlong_113 : decode prog_14_method_65_code 113 = .ok (.aload_n 0, 1) := by decide +kernel
theorem d_MD_goesAlong_114 : decode prog_14_method_65_code 114 = .ok (.aload_n 0, 1) := by decide +kernel
theorem d_MD_goesAlong_115 : decode prog_14_method_65_code 115 = .ok (.iload 4, 2) := by decide +kernel
theorem d_MD_goesAlong_117 : decode prog_14_method_65_code 117 = .ok (.invokevirtual 520, 3) := by decide +kernel
theorem d_MD_goesAlong_120 : decode prog_14_method_65_code 120 = .ok (.aload_n 0, 1) := by decide +kernel
theorem d_MD_goesAlong_121 : decode prog_14_method_65_code 121 = .ok (.iload_n 1, 1) := by decide +kernel
theorem d_MD_goesAlong_122 : decode prog_14_method_65_code 122 = .ok (.invokevirtual 520, 3) := by decide +kernel
theorem d_MD_goesAlong_125 : decode prog_14_method_65_code 125 = .ok (.isub, 1) := by decide +kernel
theorem d_MD_goesAlong_126 : decode prog_14_method_65_code 126 = .ok (.invokevirtual 535, 3) := by decide +kernel
theorem k_MD_modulo : mt_OK m_MD_modulo 1 1 := ⟨gwi_2081, gwi_146, ⟨by decide +kernel, by decide +kernel, by decide +kernel⟩, fun h => absurd h (by decide), fun _ => ⟨gwi_2080, gwi_114⟩, fun h => absurd h (by decide)⟩
theorem l_MD_535 : ml_OK "PlainMusicModel" 535 ⟨"PlainMusicModel", "modulo", "(I)I"⟩ := Or.inl gwi_2078
theorem d_MD_goesAlong_129 : decode prog_14_method_65_code 129 = .ok (.istore 6, 2) := by decide +kernel
theorem d_MD_goesAlong_131 : decode prog_14_method_65_code 131 = .ok (.aload_n 0, 1) := by decide +kernel
theorem d_MD_goesAlong_132 : decode prog_14_method_65_code 132 = .ok (.aload_n 0, 1) := by decide +kernel
theorem d_MD_goesAlong_133 : decode prog_14_method_65_code 133 = .ok (.iload 4, 2) := by decide +kernel
theorem d_MD_goesAlong_135 : decode prog_14_method_65_code 135 = .ok (.iconst 1, 1) := by decide +kernel
theorem d_MD_goesAlong_136 : decode prog_14_method_65_code 136 = .ok (.isub, 1) := by decide +kernel
theorem d_MD_goesAlong_137 : decode prog_14_method_65_code 137 = .ok (.invokevirtual 520, 3) := by decide +kernel
theorem d_MD_goesAlong_140 : decode prog_14_method_65_code 140 = .ok (.aload_n 0, 1) := by decide +kernel
theorem d_MD_goesAlong_141 : decode prog_14_method_65_code 141 = .ok (.iload_n 1, 1) := by decide +kernel
theorem d_MD_goesAlong_142 : decode prog_14_method_65_code 142 = .ok (.iconst 1, 1) := by decide +kernel
theorem d_MD_goesAlong_143 : decode prog_14_method_65_code 143 = .ok (.isub, 1) := by decide +kernel
theorem d_MD_goesAlong_144 : decode prog_14_method_65_code 144 = .ok (.invokevirtual 520, 3) := by decide +kernel
theorem d_MD_goesAlong_147 : decode prog_14_method_65_code 147 = .ok (.isub, 1) := by decide +kernel
theorem d_MD_goesAlong_148 : decode prog_14_method_65_code 148 = .ok (.invokevirtual 535, 3) := by decide +kernel
theorem d_MD_goesAlong_151 : decode prog_14_method_65_code 151 = .ok (.istore 7, 2) := by decide +kernel
theorem d_MD_goesAlong_153 : decode prog_14_method_65_code 153 = .ok (.iload 6, 2) := by decide +kernel
theorem d_MD_goesAlong_155 : decode prog_14_method_65_code 155 = .ok (.iload 7, 2) := by decide +kernel
theorem d_MD_goesAlong_157 : decode prog_14_method_65_code 157 = .ok (.if_icmp .ne 34, 3) := by decide +kernel
theorem d_MD_goesAlong_191 : decode prog_14_method_65_code 191 = .ok (.iconst 0, 1) := by decide +kernel
theorem d_MD_goesAlong_192 : decode prog_14_method_65_code 192 = .ok (.ireturn, 1) := by decide +kernel
theorem d_MD_goesAlong_160 : decode prog_14_method_65_code 160 = .ok (.iload 6, 2) := by decide +kernel
theorem d_MD_goesAlong_162 : decode prog_14_method_65_code 162 = .ok (.ifCond .eq 10, 3) := by decide +kernel
theorem d_MD_goesAlong_172 : decode prog_14_method_65_code 172 = .ok (.aload_n 0, 1) := by decide +kernel
theorem d_MD_goesAlong_173 : decode prog_14_method_65_code 173 = .ok (.iload_n 1, 1) := by decide +kernel
theorem d_MD_goesAlong_174 : decode prog_14_method_65_code 174 = .ok (.invokevirtual 520, 3) := by decide +kernel
theorem d_MD_goesAlong_177 : decode prog_14_method_65_code 177 = .ok (.aload_n 0, 1) := by decide +kernel
theorem d_MD_goesAlong_178 : decode prog_14_method_65_code 178 = .ok (.iload_n 1, 1) := by decide +kernel
theorem d_MD_goesAlong_179 : decode prog_14_method_65_code 179 = .ok (.iconst 1, 1) := by decide +kernel
theorem d_MD_goesAlong_180 : decode prog_14_method_65_code 180 = .ok (.isub, 1) := by decide +kernel
theorem d_MD_goesAlong_181 : decode prog_14_method_65_code 181 = .ok (.invokevirtual 520, 3) := by decide +kernel
theorem d_MD_goesAlong_184 : decode prog_14_method_65_code 184 = .ok (.if_icmp .eq 7, 3) := by decide +kernel
theorem d_MD_goesAlong_187 : decode prog_14_method_65_code 187 = .ok (.iconst 1, 1) := by decide +kernel
theorem d_MD_goesAlong_188 : decode prog_14_method_65_code 188 = .ok (.goto 4, 3) := by decide +kernel
theorem d_MD_goesAlong_165 : decode prog_14_method_65_code 165 = .ok (.iload 6, 2) := by decide +kernel
theorem d_MD_goesAlong_167 : decode prog_14_method_65_code 167 = .ok (.bipush 7, 2) := by decide +kernel
theorem d_MD_goesAlong_169 : decode prog_14_method_65_code 169 = .ok (.if_icmp .ne 22, 3) := by decide +kernel
theorem d_MD_goesAlong_54 : decode prog_14_method_65_code 54 = .ok (.goto 139, 3) := by decide +kernel
theorem d_MD_goesAlong_193 : decode prog_14_method_65_code 193 = .ok (.iinc 3 1, 3) := by decide +kernel
theorem d_MD_goesAlong_196 : decode prog_14_method_65_code 196 = .ok (.goto (-194), 3) := by decide +kernel
def m_MD_crosses : mr_T := (⟨"PlainMusicModel", "crosses", "(II)Z"⟩, prog_14_method_63_code, 5, some .boolean)
theorem d_MD_crosses_0 : decode prog_14_method_63_code 0 = .ok (.iconst 0, 1) := by decide +kernel
theorem d_MD_crosses_1 : decode prog_14_method_63_code 1 = .ok (.istore_n 3, 1) := by decide +kernel
theorem d_MD_crosses_2 : decode prog_14_method_63_code 2 = .ok (.iload_n 3, 1) := by decide +kernel
theorem d_MD_crosses_3 : decode prog_14_method_63_code 3 = .ok (.aload_n 0, 1) := by decide +kernel
theorem d_MD_crosses_4 : decode prog_14_method_63_code 4 = .ok (.getfield 57, 3) := by decide +kernel
theorem d_MD_crosses_7 : decode prog_14_method_63_code 7 = .ok (.iload_n 2, 1) := by decide +kernel
theorem d_MD_crosses_8 : decode prog_14_method_63_code 8 = .ok (.iaload, 1) := by decide +kernel
theorem d_MD_crosses_9 : decode prog_14_method_63_code 9 = .ok (.if_icmp .ge 64, 3) := by decide +kernel
theorem d_MD_crosses_73 : decode prog_14_method_63_code 73 = .ok (.iconst 0, 1) := by decide +kernel
theorem d_MD_crosses_74 : decode prog_14_method_63_code 74 = .ok (.ireturn, 1) := by decide +kernel
theorem d_MD_crosses_12 : decode prog_14_method_63_code 12 = .ok (.sipush 300, 3) := by decide +kernel
theorem d_MD_crosses_15 : decode prog_14_method_63_code 15 = .ok (.iload_n 2, 1) := by decide +kernel
theorem d_MD_crosses_16 : decode prog_14_method_63_code 16 = .ok (.imul, 1) := by decide +kernel
theorem d_MD_crosses_17 : decode prog_14_method_63_code 17 = .ok (.iload_n 3, 1) := by decide +kernel
theorem d_MD_crosses_18 : decode prog_14_method_63_code 18 = .ok (.iadd, 1) := by decide +kernel
theorem d_MD_crosses_19 : decode prog_14_method_63_code 19 = .ok (.istore 4, 2) := by decide +kernel
theorem d_MD_crosses_21 : decode prog_14_method_63_code 21 = .ok (.aload_n 0, 1) := by decide +kernel
theorem d_MD_crosses_22 : decode prog_14_method_63_code 22 = .ok (.getfield 75, 3) := by decide +kernel
theorem d_MD_crosses_25 : decode prog_14_method_63_code 25 = .ok (.iload 4, 2) := by decide +kernel
theorem d_MD_crosses_27 : decode prog_14_method_63_code 27 = .ok (.iaload, 1) := by decide +kernel
theorem d_MD_crosses_28 : decode prog_14_method_63_code 28 = .ok (.ifCond .le 39, 3) := by decide +kernel
theorem d_MD_crosses_67 : decode prog_14_method_63_code 67 = .ok (.iinc 3 1, 3) := by decide +kernel
theorem d_MD_crosses_70 : decode prog_14_method_63_code 70 = .ok (.goto (-68), 3) := by decide +kernel
theorem d_MD_crosses_31 : decode prog_14_method_63_code 31 = .ok (.aload_n 0, 1) := by decide +kernel
theorem d_MD_crosses_32 : decode prog_14_method_63_code 32 = .ok (.iload_n 1, 1) := by decide +kernel
theorem d_MD_crosses_33 : decode prog_14_method_63_code 33 = .ok (.iload 4, 2) := by decide +kernel
theorem d_MD_crosses_35 : decode prog_14_method_63_code 35 = .ok (.invokevirtual 529, 3) := by decide +kernel
theorem k_MD_isAhead : mt_OK m_MD_isAhead 2 1 := ⟨gwi_2069, gwi_146, ⟨by decide +kernel, by decide +kernel, by decide +kernel⟩, fun h => absurd h (by decide), fun _ => ⟨gwi_2068, gwi_111⟩, fun h => absurd h (by decide)⟩
theorem l_MD_529 : ml_OK "PlainMusicModel" 529 ⟨"PlainMusicModel", "isAhead", "(II)Z"⟩ := Or.inl gwi_2066
theorem d_MD_crosses_38 : decode prog_14_method_63_code 38 = .ok (.ifCond .ne 29, 3) := by decide +kernel
theorem d_MD_crosses_41 : decode prog_14_method_63_code 41 = .ok (.aload_n 0, 1) := by decide +kernel
theorem d_MD_crosses_42 : decode prog_14_method_63_code 42 = .ok (.iload 4, 2) := by decide +kernel
theorem d_MD_crosses_44 : decode prog_14_method_63_code 44 = .ok (.iload_n 1, 1) := by decide +kernel
theorem d_MD_crosses_45 : decode prog_14_method_63_code 45 = .ok (.invokevirtual 529, 3) := by decide +kernel
theorem d_MD_crosses_48 : decode prog_14_method_63_code 48 = .ok (.ifCond .ne 19, 3) := by decide +kernel
theorem d_MD_crosses_51 : decode prog_14_method_63_code 51 = .ok (.aload_n 0, 1) := by decide +kernel
theorem d_MD_crosses_52 : decode prog_14_method_63_code 52 = .ok (.iload 4, 2) := by decide +kernel
theorem d_MD_crosses_54 : decode prog_14_method_63_code 54 = .ok (.invokevirtual 520, 3) := by decide +kernel
theorem d_MD_crosses_57 : decode prog_14_method_63_code 57 = .ok (.aload_n 0, 1) := by decide +kernel
theorem d_MD_crosses_58 : decode prog_14_method_63_code 58 = .ok (.iload_n 1, 1) := by decide +kernel
theorem d_MD_crosses_59 : decode prog_14_method_63_code 59 = .ok (.invokevirtual 532, 3) := by decide +kernel
theorem k_MD_highest : mt_OK m_MD_highest 1 1 := ⟨gwi_2073, gwi_146, ⟨by decide +kernel, by decide +kernel, by decide +kernel⟩, fun h => absurd h (by decide), fun _ => ⟨gwi_2072, gwi_112⟩, fun h => absurd h (by decide)⟩
theorem l_MD_532 : ml_OK "PlainMusicModel" 532 ⟨"PlainMusicModel", "highest", "(I)I"⟩ := Or.inl gwi_2070
theorem d_MD_crosses_62 : decode prog_14_method_63_code 62 = .ok (.if_icmp .ge 5, 3) := by decide +kernel
theorem d_MD_crosses_65 : decode prog_14_method_63_code 65 = .ok (.iconst 1, 1) := by decide +kernel
theorem d_MD_crosses_66 : decode prog_14_method_63_code 66 = .ok (.ireturn, 1) := by decide +kernel
theorem s_MD_soundsOf {G : cx_T} {h : ah_T} (hx : mi h) {a1 : Int} {a2 : Int} (la1 : 0 ≤ a1) (ua1 : a1 ≤ 3) (ba2 : a2 = 0 ∨ a2 = 1) : con G 0 0 0 m_MD_soundsOf [av_R (some 170), av_I a1, av_I a2] h (fun r h' => ∃ z, r = some (av_I z) ∧ (0 ≤ z ∧ z ≤ 300) ∧ kM (pm [] [237, 238]) h h') := by
  refine con_of (L := [some (av_R (some 170)), some (av_I a1), some (av_I a2), none, none, none]) (by decide +kernel) (Nat.le_of_ble_eq_true rfl) rfl ?_
  have k0 : kM (pm [] [237, 238]) h h := kM_0 hx
  refine A_iconst d_MD_soundsOf_0 rfl ?_
  refine A_istore_n 3 (L' := [some (av_R (some 170)), some (av_I a1), some (av_I a2), some (av_I 0), none, none]) d_MD_soundsOf_1 rfl (Nat.le_of_ble_eq_true rfl) rfl ?_
  refine A_iconst d_MD_soundsOf_2 rfl ?_
  refine A_istore (L' := [some (av_R (some 170)), some (av_I a1), some (av_I a2), some (av_I 0), some (av_I 0), none]) d_MD_soundsOf_3 (Nat.le_of_ble_eq_true rfl) rfl ?_
  have lp5 : ∀ (n : Nat) (i1 i2 : Int) (h3 : ah_T) , 0 ≤ i1 → i1 ≤ 300 → 0 ≤ i2 → i2 ≤ 300 → (i1 ≤ i2) → kM (pm [] [237, 238]) h h3 → (301 - i2).toNat < n → aw G (rm_R 0 0 0) m_MD_soundsOf 0 0 5 [some (av_R (some 170)), some (av_I a1), some (av_I a2), some (av_I i1), some (av_I i2), none] [] h3 (fun r h' => ∃ z, r = some (av_I z) ∧ (0 ≤ z ∧ z ≤ 300) ∧ kM (pm [] [237, 238]) h h') := by
    intro n
    induction n with
    | zero => intro i1 i2 h3 _ _ _ _ _ _ hm; omega
    | succ n ih5 =>
      intro i1 i2 h3 hl0 hl1 hl2 hl3 hinv k4 hm
      refine A_iload d_MD_soundsOf_5 rfl ?_
      refine A_aload_n 0 d_MD_soundsOf_7 rfl rfl ?_
      refine A_getAv (z := some 185) T_ok d_MD_soundsOf_8 f_MD_57 (mi_s k4.1 sf_170) (mi_r k4.1 rfm_27) ?_
      refine A_iload_n 1 d_MD_soundsOf_11 rfl rfl ?_
      refine A_ialoadn (lo := 0) (hi := 300) d_MD_soundsOf_12 (mi_s k4.1 sf_185) (by omega) (by omega) (mi_g k4.1 (by decide) (mr_185 _)) (fun x6 ex6 _ _ => ?_)
      refine A_pc (pc' := 13) rfl ?_
      refine A_icmp_ge (tgt := 84) d_MD_soundsOf_13 (by decide) (fun c7 => ?_) (fun c7 => ?_)
      · refine A_iload_n 3 d_MD_soundsOf_84 rfl rfl ?_
        exact A_iret d_MD_soundsOf_85 (by decide) rfl ⟨_, rfl, ⟨by omega, by omega⟩, k4⟩
      · refine A_sipush d_MD_soundsOf_16 rfl ?_
        refine A_iload_n 1 d_MD_soundsOf_19 rfl rfl ?_
        refine A_imulv (z := (300 * a1)) d_MD_soundsOf_20 (w32_to (by omega) (by unfold i32; omega)) ?_
        refine A_iload d_MD_soundsOf_21 rfl ?_
        refine A_iaddv (z := (300 * a1 + i2)) d_MD_soundsOf_23 (w32_to (by omega) (by unfold i32; omega)) ?_
        refine A_pc (pc' := 24) rfl ?_
        refine A_istore (L' := [some (av_R (some 170)), some (av_I a1), some (av_I a2), some (av_I i1), some (av_I i2), some (av_I (300 * a1 + i2))]) d_MD_soundsOf_24 (Nat.le_of_ble_eq_true rfl) rfl ?_
        refine A_aload_n 0 d_MD_soundsOf_26 rfl rfl ?_
        refine A_getAv (z := some 191) T_ok d_MD_soundsOf_27 f_MD_75 (mi_s k4.1 sf_170) (mi_r k4.1 rfm_33) ?_
        refine A_iload d_MD_soundsOf_30 rfl ?_
        refine A_ialoadn (lo := 0) (hi := 4) d_MD_soundsOf_32 (mi_s k4.1 sf_191) (by omega) (by omega) (mi_g k4.1 (by decide) (mr_191 _)) (fun x9 ex9 _ _ => ?_)
        refine A_if_ne (tgt := 39) d_MD_soundsOf_33 (by decide) (fun c10 => ?_) (fun c10 => ?_)
        · refine A_iload_n 3 d_MD_soundsOf_39 rfl rfl ?_
          refine A_bipush d_MD_soundsOf_40 rfl ?_
          refine A_icmp_ge (tgt := 57) d_MD_soundsOf_42 (by decide) (fun c11 => ?_) (fun c11 => ?_)
          · refine A_iload_n 3 d_MD_soundsOf_57 rfl rfl ?_
            refine A_bipush d_MD_soundsOf_58 rfl ?_
            refine A_icmp_ge (tgt := 75) d_MD_soundsOf_60 (by decide) (fun c12 => ?_) (fun c => False.elim (by omega))
            refine A_iincv (z := (i1 + 1)) (L' := [some (av_R (some 170)), some (av_I a1), some (av_I a2), some (av_I (i1 + 1)), some (av_I i2), some (av_I (300 * a1 + i2))]) d_MD_soundsOf_75 rfl (w32_to (by omega) (by unfold i32; omega)) rfl ?_
            refine A_iincv (z := (i2 + 1)) (L' := [some (av_R (some 170)), some (av_I a1), some (av_I a2), some (av_I (i1 + 1)), some (av_I (i2 + 1)), some (av_I (300 * a1 + i2))]) d_MD_soundsOf_78 rfl (w32_to (by omega) (by unfold i32; omega)) rfl ?_
            refine A_goto (tgt := 5) d_MD_soundsOf_81 (by decide) ?_
            refine A_free (L' := [some (av_R (some 170)), some (av_I a1), some (av_I a2), some (av_I (i1 + 1)), some (av_I (i2 + 1)), none]) (And.intro rfl (And.intro rfl (And.intro rfl (And.intro rfl (And.intro rfl trivial))))) ?_
            exact ih5 (i1 + 1) (i2 + 1) h3 (by omega) (by omega) (by omega) (by omega) (by omega) k4 (by omega)
          · refine A_iload_n 2 d_MD_soundsOf_45 rfl rfl ?_
            refine A_if_eq (tgt := 57) d_MD_soundsOf_46 (by decide) (fun c13 => ?_) (fun c13 => ?_)
            · refine A_iload_n 3 d_MD_soundsOf_57 rfl rfl ?_
              refine A_bipush d_MD_soundsOf_58 rfl ?_
              refine A_icmp_ge (tgt := 75) d_MD_soundsOf_60 (by decide) (fun c => False.elim (by omega)) (fun c14 => ?_)
              refine A_iload_n 2 d_MD_soundsOf_63 rfl rfl ?_
              refine A_if_ne (tgt := 75) d_MD_soundsOf_64 (by decide) (fun c => False.elim (by omega)) (fun c15 => ?_)
              refine A_aload_n 0 d_MD_soundsOf_67 rfl rfl ?_
              refine A_getAv (z := some 238) T_ok d_MD_soundsOf_68 f_MD_217 (mi_s k4.1 sf_170) (mi_r k4.1 rfm_108) ?_
              refine A_iload_n 3 d_MD_soundsOf_71 rfl rfl ?_
              refine A_iload d_MD_soundsOf_72 rfl ?_
              refine A_iastorek (KR := kM (pm [] [237, 238]) h) d_MD_soundsOf_74 (mi_s k4.1 sf_238) (by omega) (by omega) (kM_i k4 (by decide) rfl (mr_238 _) (by omega) (by omega)) (fun h17 k18 eh17 => ?_)
              refine A_pc (pc' := 75) rfl ?_
              refine A_iincv (z := (i1 + 1)) (L' := [some (av_R (some 170)), some (av_I a1), some (av_I a2), some (av_I (i1 + 1)), some (av_I i2), some (av_I (300 * a1 + i2))]) d_MD_soundsOf_75 rfl (w32_to (by omega) (by unfold i32; omega)) rfl ?_
              refine A_iincv (z := (i2 + 1)) (L' := [some (av_R (some 170)), some (av_I a1), some (av_I a2), some (av_I (i1 + 1)), some (av_I (i2 + 1)), some (av_I (300 * a1 + i2))]) d_MD_soundsOf_78 rfl (w32_to (by omega) (by unfold i32; omega)) rfl ?_
              refine A_goto (tgt := 5) d_MD_soundsOf_81 (by decide) ?_
              refine A_free (L' := [some (av_R (some 170)), some (av_I a1), some (av_I a2), some (av_I (i1 + 1)), some (av_I (i2 + 1)), none]) (And.intro rfl (And.intro rfl (And.intro rfl (And.intro rfl (And.intro rfl trivial))))) ?_
              exact ih5 (i1 + 1) (i2 + 1) h17 (by omega) (by omega) (by omega) (by omega) (by omega) k18 (by omega)
            · refine A_aload_n 0 d_MD_soundsOf_49 rfl rfl ?_
              refine A_getAv (z := some 237) T_ok d_MD_soundsOf_50 f_MD_214 (mi_s k4.1 sf_170) (mi_r k4.1 rfm_107) ?_
              refine A_iload_n 3 d_MD_soundsOf_53 rfl rfl ?_
              refine A_iload d_MD_soundsOf_54 rfl ?_
              refine A_iastorek (KR := kM (pm [] [237, 238]) h) d_MD_soundsOf_56 (mi_s k4.1 sf_237) (by omega) (by omega) (kM_i k4 (by decide) rfl (mr_237 _) (by omega) (by omega)) (fun h20 k21 eh20 => ?_)
              refine A_pc (pc' := 57) rfl ?_
              refine A_iload_n 3 d_MD_soundsOf_57 rfl rfl ?_
              refine A_bipush d_MD_soundsOf_58 rfl ?_
              refine A_icmp_ge (tgt := 75) d_MD_soundsOf_60 (by decide) (fun c => False.elim (by omega)) (fun c22 => ?_)
              refine A_iload_n 2 d_MD_soundsOf_63 rfl rfl ?_
              refine A_if_ne (tgt := 75) d_MD_soundsOf_64 (by decide) (fun c23 => ?_) (fun c => False.elim (by omega))
              refine A_iincv (z := (i1 + 1)) (L' := [some (av_R (some 170)), some (av_I a1), some (av_I a2), some (av_I (i1 + 1)), some (av_I i2), some (av_I (300 * a1 + i2))]) d_MD_soundsOf_75 rfl (w32_to (by omega) (by unfold i32; omega)) rfl ?_
              refine A_iincv (z := (i2 + 1)) (L' := [some (av_R (some 170)), some (av_I a1), some (av_I a2), some (av_I (i1 + 1)), some (av_I (i2 + 1)), some (av_I (300 * a1 + i2))]) d_MD_soundsOf_78 rfl (w32_to (by omega) (by unfold i32; omega)) rfl ?_
              refine A_goto (tgt := 5) d_MD_soundsOf_81 (by decide) ?_
              refine A_free (L' := [some (av_R (some 170)), some (av_I a1), some (av_I a2), some (av_I (i1 + 1)), some (av_I (i2 + 1)), none]) (And.intro rfl (And.intro rfl (And.intro rfl (And.intro rfl (And.intro rfl trivial))))) ?_
              exact ih5 (i1 + 1) (i2 + 1) h20 (by omega) (by omega) (by omega) (by omega) (by omega) k21 (by omega)
        · refine A_goto (tgt := 78) d_MD_soundsOf_36 (by decide) ?_
          refine A_iincv (z := (i2 + 1)) (L' := [some (av_R (some 170)), some (av_I a1), some (av_I a2), some (av_I i1), some (av_I (i2 + 1)), some (av_I (300 * a1 + i2))]) d_MD_soundsOf_78 rfl (w32_to (by omega) (by unfold i32; omega)) rfl ?_
          refine A_goto (tgt := 5) d_MD_soundsOf_81 (by decide) ?_
          refine A_free (L' := [some (av_R (some 170)), some (av_I a1), some (av_I a2), some (av_I i1), some (av_I (i2 + 1)), none]) (And.intro rfl (And.intro rfl (And.intro rfl (And.intro rfl (And.intro rfl trivial))))) ?_
          exact ih5 i1 (i2 + 1) h3 (by omega) (by omega) (by omega) (by omega) (by omega) k4 (by omega)
  exact lp5 _ 0 0 h (by omega) (by omega) (by omega) (by omega) (by omega) k0 (Nat.lt_succ_self _)
theorem s_MD_goesOn {G : cx_T} {h : ah_T} (hx : mi h) {a1 : Int} {a2 : Int} (la1 : 0 ≤ a1) (ua1 : a1 ≤ 3) (la2 : 0 ≤ a2) (ua2 : a2 ≤ 299) : con G 0 0 0 m_MD_goesOn [av_R (some 170), av_I a1, av_I a2] h (fun r h' => ∃ z, r = some (av_I z) ∧ (z = 0 ∨ z = 1) ∧ h = h') := by
  refine con_of (L := [some (av_R (some 170)), some (av_I a1), some (av_I a2), none, none, none, none, none]) (by decide +kernel) (Nat.le_of_ble_eq_true rfl) rfl ?_
  refine A_iload_n 2 d_MD_goesOn_0 rfl rfl ?_
  refine A_iconst d_MD_goesOn_1 rfl ?_
  refine A_iaddv (z := (a2 + 1)) d_MD_goesOn_2 (w32_to (by omega) (by unfold i32; omega)) ?_
  refine A_aload_n 0 d_MD_goesOn_3 rfl rfl ?_
  refine A_getAv (z := some 185) T_ok d_MD_goesOn_4 f_MD_57 (mi_s hx sf_170) (mi_r hx rfm_27) ?_
  refine A_pc (pc' := 7) rfl ?_
  refine A_iload_n 1 d_MD_goesOn_7 rfl rfl ?_
  refine A_ialoadn (lo := 0) (hi := 300) d_MD_goesOn_8 (mi_s hx sf_185) (by omega) (by omega) (mi_g hx (by decide) (mr_185 _)) (fun x2 ex2 _ _ => ?_)
  refine A_icmp_ne (tgt := 14) d_MD_goesOn_9 (by decide) (fun c3 => ?_) (fun c3 => ?_)
  · refine A_sipush d_MD_goesOn_14 rfl ?_
    refine A_iload_n 1 d_MD_goesOn_17 rfl rfl ?_
    refine A_imulv (z := (300 * a1)) d_MD_goesOn_18 (w32_to (by omega) (by unfold i32; omega)) ?_
    refine A_iload_n 2 d_MD_goesOn_19 rfl rfl ?_
    refine A_iaddv (z := (300 * a1 + a2)) d_MD_goesOn_20 (w32_to (by omega) (by unfold i32; omega)) ?_
    refine A_pc (pc' := 21) rfl ?_
    refine A_istore_n 3 (L' := [some (av_R (some 170)), some (av_I a1), some (av_I a2), some (av_I (300 * a1 + a2)), none, none, none, none]) d_MD_goesOn_21 rfl (Nat.le_of_ble_eq_true rfl) rfl ?_
    refine A_iconst d_MD_goesOn_22 rfl ?_
    refine A_istore (L' := [some (av_R (some 170)), some (av_I a1), some (av_I a2), some (av_I (300 * a1 + a2)), some (av_I 1), none, none, none]) d_MD_goesOn_23 (Nat.le_of_ble_eq_true rfl) rfl ?_
    refine A_iconst d_MD_goesOn_25 rfl ?_
    refine A_istore (L' := [some (av_R (some 170)), some (av_I a1), some (av_I a2), some (av_I (300 * a1 + a2)), some (av_I 1), some (av_I 0), none, none]) d_MD_goesOn_26 (Nat.le_of_ble_eq_true rfl) rfl ?_
    have lp28 : ∀ (n : Nat) (i4 i5 : Int) , 0 ≤ i4 → i4 ≤ 1 → 0 ≤ i5 → i5 ≤ 4 → (5 - i5).toNat < n → aw G (rm_R 0 0 0) m_MD_goesOn 0 0 28 [some (av_R (some 170)), some (av_I a1), some (av_I a2), some (av_I (300 * a1 + a2)), some (av_I i4), some (av_I i5), none, none] [] h (fun r h' => ∃ z, r = some (av_I z) ∧ (z = 0 ∨ z = 1) ∧ h = h') := by
      intro n
      induction n with
      | zero => intro i4 i5 _ _ _ _ hm; omega
      | succ n ih28 =>
        intro i4 i5 hl0 hl1 hl2 hl3 hm
        refine A_iload d_MD_goesOn_28 rfl ?_
        refine A_aload_n 0 d_MD_goesOn_30 rfl rfl ?_
        refine A_getAv (z := some 191) T_ok d_MD_goesOn_31 f_MD_75 (mi_s hx sf_170) (mi_r hx rfm_33) ?_
        refine A_iload_n 3 d_MD_goesOn_34 rfl rfl ?_
        refine A_ialoadn (lo := 0) (hi := 4) d_MD_goesOn_35 (mi_s hx sf_191) (by omega) (by omega) (mi_g hx (by decide) (mr_191 _)) (fun x7 ex7 _ _ => ?_)
        refine A_pc (pc' := 36) rfl ?_
        refine A_icmp_ge (tgt := 126) d_MD_goesOn_36 (by decide) (fun c8 => ?_) (fun c8 => ?_)
        · refine A_iload d_MD_goesOn_126 rfl ?_
          exact A_zret d_MD_goesOn_128 (by decide) rfl (by omega) ⟨_, rfl, by omega, rfl⟩
        · refine A_iconst d_MD_goesOn_39 rfl ?_
          refine A_istore (L' := [some (av_R (some 170)), some (av_I a1), some (av_I a2), some (av_I (300 * a1 + a2)), some (av_I i4), some (av_I i5), some (av_I 0), none]) d_MD_goesOn_40 (Nat.le_of_ble_eq_true rfl) rfl ?_
          refine A_iconst d_MD_goesOn_42 rfl ?_
          refine A_istore (L' := [some (av_R (some 170)), some (av_I a1), some (av_I a2), some (av_I (300 * a1 + a2)), some (av_I i4), some (av_I i5), some (av_I 0), some (av_I 0)]) d_MD_goesOn_43 (Nat.le_of_ble_eq_true rfl) rfl ?_
          have lp45 : ∀ (n : Nat) (i9 i10 : Int) , 0 ≤ i9 → i9 ≤ 1 → 0 ≤ i10 → i10 ≤ 4 → (5 - i10).toNat < n → aw G (rm_R 0 0 0) m_MD_goesOn 0 0 45 [some (av_R (some 170)), some (av_I a1), some (av_I a2), some (av_I (300 * a1 + a2)), some (av_I i4), some (av_I i5), some (av_I i9), some (av_I i10)] [] h (fun r h' => ∃ z, r = some (av_I z) ∧ (z = 0 ∨ z = 1) ∧ h = h') := by
            intro n
            induction n with
            | zero => intro i9 i10 _ _ _ _ hm; omega
            | succ n ih45 =>
              intro i9 i10 hl0 hl1 hl2 hl3 hm
              refine A_iload d_MD_goesOn_45 rfl ?_
              refine A_aload_n 0 d_MD_goesOn_47 rfl rfl ?_
              refine A_getAv (z := some 191) T_ok d_MD_goesOn_48 f_MD_75 (mi_s hx sf_170) (mi_r hx rfm_33) ?_
              refine A_iload_n 3 d_MD_goesOn_51 rfl rfl ?_
              refine A_iconst d_MD_goesOn_52 rfl ?_
              refine A_pc (pc' := 53) rfl ?_
              refine A_iaddv (z := (300 * a1 + a2 + 1)) d_MD_goesOn_53 (w32_to (by omega) (by unfold i32; omega)) ?_
              refine A_ialoadn (lo := 0) (hi := 4) d_MD_goesOn_54 (mi_s hx sf_191) (by omega) (by omega) (mi_g hx (by decide) (mr_191 _)) (fun x12 ex12 _ _ => ?_)
              refine A_icmp_ge (tgt := 103) d_MD_goesOn_55 (by decide) (fun c13 => ?_) (fun c13 => ?_)
              · refine A_iload d_MD_goesOn_103 rfl ?_
                refine A_if_eq (tgt := 117) d_MD_goesOn_105 (by decide) (fun c14 => ?_) (fun c14 => ?_)
                · refine A_iconst d_MD_goesOn_117 rfl ?_
                  refine A_istore (L' := [some (av_R (some 170)), some (av_I a1), some (av_I a2), some (av_I (300 * a1 + a2)), some (av_I 0), some (av_I i5), some (av_I i9), some (av_I i10)]) d_MD_goesOn_118 (Nat.le_of_ble_eq_true rfl) rfl ?_
                  refine A_iincv (z := (i5 + 1)) (L' := [some (av_R (some 170)), some (av_I a1), some (av_I a2), some (av_I (300 * a1 + a2)), some (av_I 0), some (av_I (i5 + 1)), some (av_I i9), some (av_I i10)]) d_MD_goesOn_120 rfl (w32_to (by omega) (by unfold i32; omega)) rfl ?_
                  refine A_goto (tgt := 28) d_MD_goesOn_123 (by decide) ?_
                  refine A_free (L' := [some (av_R (some 170)), some (av_I a1), some (av_I a2), some (av_I (300 * a1 + a2)), some (av_I 0), some (av_I (i5 + 1)), none, none]) (And.intro rfl (And.intro rfl (And.intro rfl (And.intro rfl (And.intro rfl (And.intro rfl trivial)))))) ?_
                  exact ih28 0 (i5 + 1) (by omega) (by omega) (by omega) (by omega) (by omega)
                · refine A_iload d_MD_goesOn_108 rfl ?_
                  refine A_if_eq (tgt := 117) d_MD_goesOn_110 (by decide) (fun c15 => ?_) (fun c15 => ?_)
                  · refine A_iconst d_MD_goesOn_117 rfl ?_
                    refine A_istore (L' := [some (av_R (some 170)), some (av_I a1), some (av_I a2), some (av_I (300 * a1 + a2)), some (av_I 0), some (av_I i5), some (av_I i9), some (av_I i10)]) d_MD_goesOn_118 (Nat.le_of_ble_eq_true rfl) rfl ?_
                    refine A_iincv (z := (i5 + 1)) (L' := [some (av_R (some 170)), some (av_I a1), some (av_I a2), some (av_I (300 * a1 + a2)), some (av_I 0), some (av_I (i5 + 1)), some (av_I i9), some (av_I i10)]) d_MD_goesOn_120 rfl (w32_to (by omega) (by unfold i32; omega)) rfl ?_
                    refine A_goto (tgt := 28) d_MD_goesOn_123 (by decide) ?_
                    refine A_free (L' := [some (av_R (some 170)), some (av_I a1), some (av_I a2), some (av_I (300 * a1 + a2)), some (av_I 0), some (av_I (i5 + 1)), none, none]) (And.intro rfl (And.intro rfl (And.intro rfl (And.intro rfl (And.intro rfl (And.intro rfl trivial)))))) ?_
                    exact ih28 0 (i5 + 1) (by omega) (by omega) (by omega) (by omega) (by omega)
                  · refine A_iconst d_MD_goesOn_113 rfl ?_
                    refine A_goto (tgt := 118) d_MD_goesOn_114 (by decide) ?_
                    refine A_istore (L' := [some (av_R (some 170)), some (av_I a1), some (av_I a2), some (av_I (300 * a1 + a2)), some (av_I 1), some (av_I i5), some (av_I i9), some (av_I i10)]) d_MD_goesOn_118 (Nat.le_of_ble_eq_true rfl) rfl ?_
                    refine A_iincv (z := (i5 + 1)) (L' := [some (av_R (some 170)), some (av_I a1), some (av_I a2), some (av_I (300 * a1 + a2)), some (av_I 1), some (av_I (i5 + 1)), some (av_I i9), some (av_I i10)]) d_MD_goesOn_120 rfl (w32_to (by omega) (by unfold i32; omega)) rfl ?_
                    refine A_goto (tgt := 28) d_MD_goesOn_123 (by decide) ?_
                    refine A_free (L' := [some (av_R (some 170)), some (av_I a1), some (av_I a2), some (av_I (300 * a1 + a2)), some (av_I 1), some (av_I (i5 + 1)), none, none]) (And.intro rfl (And.intro rfl (And.intro rfl (And.intro rfl (And.intro rfl (And.intro rfl trivial)))))) ?_
                    exact ih28 1 (i5 + 1) (by omega) (by omega) (by omega) (by omega) (by omega)
              · refine A_iload d_MD_goesOn_58 rfl ?_
                refine A_if_ne (tgt := 90) d_MD_goesOn_60 (by decide) (fun c16 => ?_) (fun c16 => ?_)
                · refine A_iconst d_MD_goesOn_90 rfl ?_
                  refine A_goto (tgt := 95) d_MD_goesOn_91 (by decide) ?_
                  refine A_istore (L' := [some (av_R (some 170)), some (av_I a1), some (av_I a2), some (av_I (300 * a1 + a2)), some (av_I i4), some (av_I i5), some (av_I 1), some (av_I i10)]) d_MD_goesOn_95 (Nat.le_of_ble_eq_true rfl) rfl ?_
                  refine A_iincv (z := (i10 + 1)) (L' := [some (av_R (some 170)), some (av_I a1), some (av_I a2), some (av_I (300 * a1 + a2)), some (av_I i4), some (av_I i5), some (av_I 1), some (av_I (i10 + 1))]) d_MD_goesOn_97 rfl (w32_to (by omega) (by unfold i32; omega)) rfl ?_
                  refine A_goto (tgt := 45) d_MD_goesOn_100 (by decide) ?_
                  exact ih45 1 (i10 + 1) (by omega) (by omega) (by omega) (by omega) (by omega)
                · refine A_aload_n 0 d_MD_goesOn_63 rfl rfl ?_
                  refine A_getAv (z := some 192) T_ok d_MD_goesOn_64 f_MD_78 (mi_s hx sf_170) (mi_r hx rfm_34) ?_
                  refine A_iconst d_MD_goesOn_67 rfl ?_
                  refine A_iload_n 3 d_MD_goesOn_68 rfl rfl ?_
                  refine A_imulv (z := (1200 * a1 + 4 * a2)) d_MD_goesOn_69 (w32_to (by omega) (by unfold i32; omega)) ?_
                  refine A_pc (pc' := 70) rfl ?_
                  refine A_iconst d_MD_goesOn_70 rfl ?_
                  refine A_iaddv (z := (1200 * a1 + 4 * a2 + 4)) d_MD_goesOn_71 (w32_to (by omega) (by unfold i32; omega)) ?_
                  refine A_iload d_MD_goesOn_72 rfl ?_
                  refine A_iaddv (z := (1200 * a1 + 4 * a2 + i10 + 4)) d_MD_goesOn_74 (w32_to (by omega) (by unfold i32; omega)) ?_
                  refine A_ialoadn (lo := (-2)) (hi := 109) d_MD_goesOn_75 (mi_s hx sf_192) (by omega) (by omega) (mi_g hx (by decide) (mr_192 _)) (fun x18 ex18 _ _ => ?_)
                  refine A_aload_n 0 d_MD_goesOn_76 rfl rfl ?_
                  refine A_pc (pc' := 77) rfl ?_
                  refine A_getAv (z := some 192) T_ok d_MD_goesOn_77 f_MD_78 (mi_s hx sf_170) (mi_r hx rfm_34) ?_
                  refine A_iconst d_MD_goesOn_80 rfl ?_
                  refine A_iload_n 3 d_MD_goesOn_81 rfl rfl ?_
                  refine A_imulv (z := (1200 * a1 + 4 * a2)) d_MD_goesOn_82 (w32_to (by omega) (by unfold i32; omega)) ?_
                  refine A_iload d_MD_goesOn_83 rfl ?_
                  refine A_iaddv (z := (1200 * a1 + 4 * a2 + i5)) d_MD_goesOn_85 (w32_to (by omega) (by unfold i32; omega)) ?_
                  refine A_pc (pc' := 86) rfl ?_
                  refine A_ialoadn (lo := (-2)) (hi := 109) d_MD_goesOn_86 (mi_s hx sf_192) (by omega) (by omega) (mi_g hx (by decide) (mr_192 _)) (fun x20 ex20 _ _ => ?_)
                  refine A_icmp_ne (tgt := 94) d_MD_goesOn_87 (by decide) (fun c21 => ?_) (fun c21 => ?_)
                  · refine A_iconst d_MD_goesOn_94 rfl ?_
                    refine A_istore (L' := [some (av_R (some 170)), some (av_I a1), some (av_I a2), some (av_I (300 * a1 + a2)), some (av_I i4), some (av_I i5), some (av_I 0), some (av_I i10)]) d_MD_goesOn_95 (Nat.le_of_ble_eq_true rfl) rfl ?_
                    refine A_iincv (z := (i10 + 1)) (L' := [some (av_R (some 170)), some (av_I a1), some (av_I a2), some (av_I (300 * a1 + a2)), some (av_I i4), some (av_I i5), some (av_I 0), some (av_I (i10 + 1))]) d_MD_goesOn_97 rfl (w32_to (by omega) (by unfold i32; omega)) rfl ?_
                    refine A_goto (tgt := 45) d_MD_goesOn_100 (by decide) ?_
                    exact ih45 0 (i10 + 1) (by omega) (by omega) (by omega) (by omega) (by omega)
                  · refine A_iconst d_MD_goesOn_90 rfl ?_
                    refine A_goto (tgt := 95) d_MD_goesOn_91 (by decide) ?_
                    refine A_istore (L' := [some (av_R (some 170)), some (av_I a1), some (av_I a2), some (av_I (300 * a1 + a2)), some (av_I i4), some (av_I i5), some (av_I 1), some (av_I i10)]) d_MD_goesOn_95 (Nat.le_of_ble_eq_true rfl) rfl ?_
                    refine A_iincv (z := (i10 + 1)) (L' := [some (av_R (some 170)), some (av_I a1), some (av_I a2), some (av_I (300 * a1 + a2)), some (av_I i4), some (av_I i5), some (av_I 1), some (av_I (i10 + 1))]) d_MD_goesOn_97 rfl (w32_to (by omega) (by unfold i32; omega)) rfl ?_
                    refine A_goto (tgt := 45) d_MD_goesOn_100 (by decide) ?_
                    exact ih45 1 (i10 + 1) (by omega) (by omega) (by omega) (by omega) (by omega)
          exact lp45 _ 0 0 (by omega) (by omega) (by omega) (by omega) (Nat.lt_succ_self _)
    exact lp28 _ 1 0 (by omega) (by omega) (by omega) (by omega) (Nat.lt_succ_self _)
  · refine A_iconst d_MD_goesOn_12 rfl ?_
    exact A_zret d_MD_goesOn_13 (by decide) rfl (by omega) ⟨_, rfl, by omega, rfl⟩
theorem s_MD_goesAlong {G : cx_T} {h : ah_T} (hx : mi h) {a1 : Int} {a2 : Int} (la1 : 1 ≤ a1) (ua1 : a1 ≤ 1199) (la2 : 0 ≤ a2) (ua2 : a2 ≤ 3) : con G 1 0 0 m_MD_goesAlong [av_R (some 170), av_I a1, av_I a2] h (fun r h' => ∃ z, r = some (av_I z) ∧ (z = 0 ∨ z = 1) ∧ h = h') := by
  refine con_of (L := [some (av_R (some 170)), some (av_I a1), some (av_I a2), none, none, none, none, none]) (by decide +kernel) (Nat.le_of_ble_eq_true rfl) rfl ?_
  refine A_iconst d_MD_goesAlong_0 rfl ?_
  refine A_istore_n 3 (L' := [some (av_R (some 170)), some (av_I a1), some (av_I a2), some (av_I 1), none, none, none, none]) d_MD_goesAlong_1 rfl (Nat.le_of_ble_eq_true rfl) rfl ?_
  have lp2 : ∀ (n : Nat) (i1 : Int) , 1 ≤ i1 → i1 ≤ 300 → (301 - i1).toNat < n → aw G (rm_R 1 0 0) m_MD_goesAlong 0 0 2 [some (av_R (some 170)), some (av_I a1), some (av_I a2), some (av_I i1), none, none, none, none] [] h (fun r h' => ∃ z, r = some (av_I z) ∧ (z = 0 ∨ z = 1) ∧ h = h') := by
    intro n
    induction n with
    | zero => intro i1 _ _ hm; omega
    | succ n ih2 =>
      intro i1 hl0 hl1 hm
      refine A_iload_n 3 d_MD_goesAlong_2 rfl rfl ?_
      refine A_aload_n 0 d_MD_goesAlong_3 rfl rfl ?_
      refine A_getAv (z := some 185) T_ok d_MD_goesAlong_4 f_MD_57 (mi_s hx sf_170) (mi_r hx rfm_27) ?_
      refine A_iload_n 2 d_MD_goesAlong_7 rfl rfl ?_
      refine A_ialoadn (lo := 0) (hi := 300) d_MD_goesAlong_8 (mi_s hx sf_185) (by omega) (by omega) (mi_g hx (by decide) (mr_185 _)) (fun x3 ex3 _ _ => ?_)
      refine A_pc (pc' := 9) rfl ?_
      refine A_icmp_ge (tgt := 199) d_MD_goesAlong_9 (by decide) (fun c4 => ?_) (fun c4 => ?_)
      · refine A_iconst d_MD_goesAlong_199 rfl ?_
        exact A_zret d_MD_goesAlong_200 (by decide) rfl (by omega) ⟨_, rfl, by omega, rfl⟩
      · refine A_sipush d_MD_goesAlong_12 rfl ?_
        refine A_iload_n 2 d_MD_goesAlong_15 rfl rfl ?_
        refine A_imulv (z := (300 * a2)) d_MD_goesAlong_16 (w32_to (by omega) (by unfold i32; omega)) ?_
        refine A_iload_n 3 d_MD_goesAlong_17 rfl rfl ?_
        refine A_iaddv (z := (300 * a2 + i1)) d_MD_goesAlong_18 (w32_to (by omega) (by unfold i32; omega)) ?_
        refine A_pc (pc' := 19) rfl ?_
        refine A_istore (L' := [some (av_R (some 170)), some (av_I a1), some (av_I a2), some (av_I i1), some (av_I (300 * a2 + i1)), none, none, none]) d_MD_goesAlong_19 (Nat.le_of_ble_eq_true rfl) rfl ?_
        refine A_aload_n 0 d_MD_goesAlong_21 rfl rfl ?_
        refine A_aload_n 0 d_MD_goesAlong_22 rfl rfl ?_
        refine A_getAv (z := some 187) T_ok d_MD_goesAlong_23 f_MD_63 (mi_s hx sf_170) (mi_r hx rfm_29) ?_
        refine A_iload d_MD_goesAlong_26 rfl ?_
        refine A_laloadn (lo := 0) (hi := 2000000000000000) d_MD_goesAlong_28 (mi_s hx sf_187) (by omega) (by omega) (mi_l hx (by decide) (mq_187 _)) (fun x6 ex6 _ _ => ?_)
        refine A_pc (pc' := 29) rfl ?_
        refine A_aload_n 0 d_MD_goesAlong_29 rfl rfl ?_
        refine A_getAv (z := some 188) T_ok d_MD_goesAlong_30 f_MD_66 (mi_s hx sf_170) (mi_r hx rfm_30) ?_
        refine A_iload d_MD_goesAlong_33 rfl ?_
        refine A_laloadn (lo := 0) (hi := 1000000000000) d_MD_goesAlong_35 (mi_s hx sf_188) (by omega) (by omega) (mi_l hx (by decide) (mq_188 _)) (fun x8 ex8 _ _ => ?_)
        refine A_aload_n 0 d_MD_goesAlong_36 rfl rfl ?_
        refine A_getAv (z := some 187) T_ok d_MD_goesAlong_37 f_MD_63 (mi_s hx sf_170) (mi_r hx rfm_29) ?_
        refine A_pc (pc' := 40) rfl ?_
        refine A_iload_n 1 d_MD_goesAlong_40 rfl rfl ?_
        refine A_laloadn (lo := 0) (hi := 2000000000000000) d_MD_goesAlong_41 (mi_s hx sf_187) (by omega) (by omega) (mi_l hx (by decide) (mq_187 _)) (fun x10 ex10 _ _ => ?_)
        refine A_aload_n 0 d_MD_goesAlong_42 rfl rfl ?_
        refine A_getAv (z := some 188) T_ok d_MD_goesAlong_43 f_MD_66 (mi_s hx sf_170) (mi_r hx rfm_30) ?_
        refine A_iload_n 1 d_MD_goesAlong_46 rfl rfl ?_
        refine A_laloadn (lo := 0) (hi := 1000000000000) d_MD_goesAlong_47 (mi_s hx sf_188) (by omega) (by omega) (mi_l hx (by decide) (mq_188 _)) (fun x12 ex12 _ _ => ?_)
        refine A_pc (pc' := 48) rfl ?_
        refine A_callV4 m_MD_compare T_ok d_MD_goesAlong_48 l_MD_500 k_MD_compare (mi_s hx sf_170) rfl (by decide +kernel) (by decide) (Nat.le_of_ble_eq_true rfl) (s_MD_compare  ) (fun r h13 hq => ?_)
        obtain ⟨x15, rfl, ⟨_, _⟩, rfl⟩ := hq
        refine A_if_eq (tgt := 57) d_MD_goesAlong_51 (by decide) (fun c16 => ?_) (fun c16 => ?_)
        · refine A_aload_n 0 d_MD_goesAlong_57 rfl rfl ?_
          refine A_getAv (z := some 191) T_ok d_MD_goesAlong_58 f_MD_75 (mi_s hx sf_170) (mi_r hx rfm_33) ?_
          refine A_iload d_MD_goesAlong_61 rfl ?_
          refine A_ialoadn (lo := 0) (hi := 4) d_MD_goesAlong_63 (mi_s hx sf_191) (by omega) (by omega) (mi_g hx (by decide) (mr_191 _)) (fun x18 ex18 _ _ => ?_)
          refine A_if_le (tgt := 103) d_MD_goesAlong_64 (by decide) (fun c19 => ?_) (fun c19 => ?_)
          · refine A_iconst d_MD_goesAlong_103 rfl ?_
            refine A_istore (L' := [some (av_R (some 170)), some (av_I a1), some (av_I a2), some (av_I i1), some (av_I (300 * a2 + i1)), some (av_I 0), none, none]) d_MD_goesAlong_104 (Nat.le_of_ble_eq_true rfl) rfl ?_
            refine A_iload d_MD_goesAlong_106 rfl ?_
            refine A_if_ne (tgt := 113) d_MD_goesAlong_108 (by decide) (fun c => absurd c (by decide)) (fun _ => ?_)
            refine A_iconst d_MD_goesAlong_111 rfl ?_
            exact A_zret d_MD_goesAlong_112 (by decide) rfl (by omega) ⟨_, rfl, by omega, rfl⟩
          · refine A_aload_n 0 d_MD_goesAlong_67 rfl rfl ?_
            refine A_getAv (z := some 191) T_ok d_MD_goesAlong_68 f_MD_75 (mi_s hx sf_170) (mi_r hx rfm_33) ?_
            refine A_iload d_MD_goesAlong_71 rfl ?_
            refine A_iconst d_MD_goesAlong_73 rfl ?_
            refine A_isubv (z := (300 * a2 + i1 - 1)) d_MD_goesAlong_74 (w32_to (by omega) (by unfold i32; omega)) ?_
            refine A_pc (pc' := 75) rfl ?_
            refine A_ialoadn (lo := 0) (hi := 4) d_MD_goesAlong_75 (mi_s hx sf_191) (by omega) (by omega) (mi_g hx (by decide) (mr_191 _)) (fun x22 ex22 _ _ => ?_)
            refine A_if_le (tgt := 103) d_MD_goesAlong_76 (by decide) (fun c23 => ?_) (fun c23 => ?_)
            · refine A_iconst d_MD_goesAlong_103 rfl ?_
              refine A_istore (L' := [some (av_R (some 170)), some (av_I a1), some (av_I a2), some (av_I i1), some (av_I (300 * a2 + i1)), some (av_I 0), none, none]) d_MD_goesAlong_104 (Nat.le_of_ble_eq_true rfl) rfl ?_
              refine A_iload d_MD_goesAlong_106 rfl ?_
              refine A_if_ne (tgt := 113) d_MD_goesAlong_108 (by decide) (fun c => absurd c (by decide)) (fun _ => ?_)
              refine A_iconst d_MD_goesAlong_111 rfl ?_
              exact A_zret d_MD_goesAlong_112 (by decide) rfl (by omega) ⟨_, rfl, by omega, rfl⟩
            · refine A_aload_n 0 d_MD_goesAlong_79 rfl rfl ?_
              refine A_getAv (z := some 191) T_ok d_MD_goesAlong_80 f_MD_75 (mi_s hx sf_170) (mi_r hx rfm_33) ?_
              refine A_iload_n 1 d_MD_goesAlong_83 rfl rfl ?_
              refine A_ialoadn (lo := 0) (hi := 4) d_MD_goesAlong_84 (mi_s hx sf_191) (by omega) (by omega) (mi_g hx (by decide) (mr_191 _)) (fun x26 ex26 _ _ => ?_)
              refine A_if_le (tgt := 103) d_MD_goesAlong_85 (by decide) (fun c27 => ?_) (fun c27 => ?_)
              · refine A_iconst d_MD_goesAlong_103 rfl ?_
                refine A_istore (L' := [some (av_R (some 170)), some (av_I a1), some (av_I a2), some (av_I i1), some (av_I (300 * a2 + i1)), some (av_I 0), none, none]) d_MD_goesAlong_104 (Nat.le_of_ble_eq_true rfl) rfl ?_
                refine A_iload d_MD_goesAlong_106 rfl ?_
                refine A_if_ne (tgt := 113) d_MD_goesAlong_108 (by decide) (fun c => absurd c (by decide)) (fun _ => ?_)
                refine A_iconst d_MD_goesAlong_111 rfl ?_
                exact A_zret d_MD_goesAlong_112 (by decide) rfl (by omega) ⟨_, rfl, by omega, rfl⟩
              · refine A_aload_n 0 d_MD_goesAlong_88 rfl rfl ?_
                refine A_getAv (z := some 191) T_ok d_MD_goesAlong_89 f_MD_75 (mi_s hx sf_170) (mi_r hx rfm_33) ?_
                refine A_iload_n 1 d_MD_goesAlong_92 rfl rfl ?_
                refine A_iconst d_MD_goesAlong_93 rfl ?_
                refine A_isubv (z := (a1 - 1)) d_MD_goesAlong_94 (w32_to (by omega) (by unfold i32; omega)) ?_
                refine A_pc (pc' := 95) rfl ?_
                refine A_ialoadn (lo := 0) (hi := 4) d_MD_goesAlong_95 (mi_s hx sf_191) (by omega) (by omega) (mi_g hx (by decide) (mr_191 _)) (fun x30 ex30 _ _ => ?_)
                refine A_if_le (tgt := 103) d_MD_goesAlong_96 (by decide) (fun c31 => ?_) (fun c31 => ?_)
                · refine A_iconst d_MD_goesAlong_103 rfl ?_
                  refine A_istore (L' := [some (av_R (some 170)), some (av_I a1), some (av_I a2), some (av_I i1), some (av_I (300 * a2 + i1)), some (av_I 0), none, none]) d_MD_goesAlong_104 (Nat.le_of_ble_eq_true rfl) rfl ?_
                  refine A_iload d_MD_goesAlong_106 rfl ?_
                  refine A_if_ne (tgt := 113) d_MD_goesAlong_108 (by decide) (fun c => absurd c (by decide)) (fun _ => ?_)
                  refine A_iconst d_MD_goesAlong_111 rfl ?_
                  exact A_zret d_MD_goesAlong_112 (by decide) rfl (by omega) ⟨_, rfl, by omega, rfl⟩
                · refine A_iconst d_MD_goesAlong_99 rfl ?_
                  refine A_goto (tgt := 104) d_MD_goesAlong_100 (by decide) ?_
                  refine A_istore (L' := [some (av_R (some 170)), some (av_I a1), some (av_I a2), some (av_I i1), some (av_I (300 * a2 + i1)), some (av_I 1), none, none]) d_MD_goesAlong_104 (Nat.le_of_ble_eq_true rfl) rfl ?_
                  refine A_iload d_MD_goesAlong_106 rfl ?_
                  refine A_if_ne (tgt := 113) d_MD_goesAlong_108 (by decide) (fun _ => ?_) (fun c => absurd c (by decide))
                  refine A_aload_n 0 d_MD_goesAlong_113 rfl rfl ?_
                  refine A_aload_n 0 d_MD_goesAlong_114 rfl rfl ?_
                  refine A_iload d_MD_goesAlong_115 rfl ?_
                  refine A_callV1 m_MD_lowest T_ok d_MD_goesAlong_117 l_MD_520 k_MD_lowest (mi_s hx sf_170) rfl (by decide +kernel) (by decide) (Nat.le_of_ble_eq_true rfl) (s_MD_lowest hx (by omega) (by omega)) (fun r h34 hq => ?_)
                  obtain ⟨x36, rfl, ⟨_, _⟩, rfl⟩ := hq
                  refine A_aload_n 0 d_MD_goesAlong_120 rfl rfl ?_
                  refine A_iload_n 1 d_MD_goesAlong_121 rfl rfl ?_
                  refine A_callV1 m_MD_lowest T_ok d_MD_goesAlong_122 l_MD_520 k_MD_lowest (mi_s hx sf_170) rfl (by decide +kernel) (by decide) (Nat.le_of_ble_eq_true rfl) (s_MD_lowest hx (by omega) (by omega)) (fun r h37 hq => ?_)
                  obtain ⟨x39, rfl, ⟨_, _⟩, rfl⟩ := hq
                  refine A_isubv (z := (x36 - x39)) d_MD_goesAlong_125 (w32_to (by omega) (by unfold i32; omega)) ?_
                  refine A_callV1 m_MD_modulo T_ok d_MD_goesAlong_126 l_MD_535 k_MD_modulo (mi_s hx sf_170) rfl (by decide +kernel) (by decide) (Nat.le_of_ble_eq_true rfl) (s_MD_modulo hx ) (fun r h40 hq => ?_)
                  obtain ⟨x42, rfl, ⟨_, _⟩, rfl⟩ := hq
                  refine A_istore (L' := [some (av_R (some 170)), some (av_I a1), some (av_I a2), some (av_I i1), some (av_I (300 * a2 + i1)), some (av_I 1), some (av_I x42), none]) d_MD_goesAlong_129 (Nat.le_of_ble_eq_true rfl) rfl ?_
                  refine A_aload_n 0 d_MD_goesAlong_131 rfl rfl ?_
                  refine A_aload_n 0 d_MD_goesAlong_132 rfl rfl ?_
                  refine A_iload d_MD_goesAlong_133 rfl ?_
                  refine A_iconst d_MD_goesAlong_135 rfl ?_
                  refine A_pc (pc' := 136) rfl ?_
                  refine A_isubv (z := (300 * a2 + i1 - 1)) d_MD_goesAlong_136 (w32_to (by omega) (by unfold i32; omega)) ?_
                  refine A_callV1 m_MD_lowest T_ok d_MD_goesAlong_137 l_MD_520 k_MD_lowest (mi_s hx sf_170) rfl (by decide +kernel) (by decide) (Nat.le_of_ble_eq_true rfl) (s_MD_lowest hx (by omega) (by omega)) (fun r h43 hq => ?_)
                  obtain ⟨x45, rfl, ⟨_, _⟩, rfl⟩ := hq
                  refine A_aload_n 0 d_MD_goesAlong_140 rfl rfl ?_
                  refine A_iload_n 1 d_MD_goesAlong_141 rfl rfl ?_
                  refine A_iconst d_MD_goesAlong_142 rfl ?_
                  refine A_isubv (z := (a1 - 1)) d_MD_goesAlong_143 (w32_to (by omega) (by unfold i32; omega)) ?_
                  refine A_callV1 m_MD_lowest T_ok d_MD_goesAlong_144 l_MD_520 k_MD_lowest (mi_s hx sf_170) rfl (by decide +kernel) (by decide) (Nat.le_of_ble_eq_true rfl) (s_MD_lowest hx (by omega) (by omega)) (fun r h46 hq => ?_)
                  obtain ⟨x48, rfl, ⟨_, _⟩, rfl⟩ := hq
                  refine A_isubv (z := (x45 - x48)) d_MD_goesAlong_147 (w32_to (by omega) (by unfold i32; omega)) ?_
                  refine A_callV1 m_MD_modulo T_ok d_MD_goesAlong_148 l_MD_535 k_MD_modulo (mi_s hx sf_170) rfl (by decide +kernel) (by decide) (Nat.le_of_ble_eq_true rfl) (s_MD_modulo hx ) (fun r h49 hq => ?_)
                  obtain ⟨x51, rfl, ⟨_, _⟩, rfl⟩ := hq
                  refine A_istore (L' := [some (av_R (some 170)), some (av_I a1), some (av_I a2), some (av_I i1), some (av_I (300 * a2 + i1)), some (av_I 1), some (av_I x42), some (av_I x51)]) d_MD_goesAlong_151 (Nat.le_of_ble_eq_true rfl) rfl ?_
                  refine A_iload d_MD_goesAlong_153 rfl ?_
                  refine A_iload d_MD_goesAlong_155 rfl ?_
                  refine A_icmp_ne (tgt := 191) d_MD_goesAlong_157 (by decide) (fun c52 => ?_) (fun c52 => ?_)
                  · refine A_iconst d_MD_goesAlong_191 rfl ?_
                    exact A_zret d_MD_goesAlong_192 (by decide) rfl (by omega) ⟨_, rfl, by omega, rfl⟩
                  · refine A_iload d_MD_goesAlong_160 rfl ?_
                    refine A_if_eq (tgt := 172) d_MD_goesAlong_162 (by decide) (fun c53 => ?_) (fun c53 => ?_)
                    · refine A_aload_n 0 d_MD_goesAlong_172 rfl rfl ?_
                      refine A_iload_n 1 d_MD_goesAlong_173 rfl rfl ?_
                      refine A_callV1 m_MD_lowest T_ok d_MD_goesAlong_174 l_MD_520 k_MD_lowest (mi_s hx sf_170) rfl (by decide +kernel) (by decide) (Nat.le_of_ble_eq_true rfl) (s_MD_lowest hx (by omega) (by omega)) (fun r h54 hq => ?_)
                      obtain ⟨x56, rfl, ⟨_, _⟩, rfl⟩ := hq
                      refine A_aload_n 0 d_MD_goesAlong_177 rfl rfl ?_
                      refine A_iload_n 1 d_MD_goesAlong_178 rfl rfl ?_
                      refine A_iconst d_MD_goesAlong_179 rfl ?_
                      refine A_isubv (z := (a1 - 1)) d_MD_goesAlong_180 (w32_to (by omega) (by unfold i32; omega)) ?_
                      refine A_callV1 m_MD_lowest T_ok d_MD_goesAlong_181 l_MD_520 k_MD_lowest (mi_s hx sf_170) rfl (by decide +kernel) (by decide) (Nat.le_of_ble_eq_true rfl) (s_MD_lowest hx (by omega) (by omega)) (fun r h57 hq => ?_)
                      obtain ⟨x59, rfl, ⟨_, _⟩, rfl⟩ := hq
                      refine A_icmp_eq (tgt := 191) d_MD_goesAlong_184 (by decide) (fun c60 => ?_) (fun c60 => ?_)
                      · refine A_iconst d_MD_goesAlong_191 rfl ?_
                        exact A_zret d_MD_goesAlong_192 (by decide) rfl (by omega) ⟨_, rfl, by omega, rfl⟩
                      · refine A_iconst d_MD_goesAlong_187 rfl ?_
                        refine A_goto (tgt := 192) d_MD_goesAlong_188 (by decide) ?_
                        exact A_zret d_MD_goesAlong_192 (by decide) rfl (by omega) ⟨_, rfl, by omega, rfl⟩
                    · refine A_iload d_MD_goesAlong_165 rfl ?_
                      refine A_bipush d_MD_goesAlong_167 rfl ?_
                      refine A_icmp_ne (tgt := 191) d_MD_goesAlong_169 (by decide) (fun c61 => ?_) (fun c61 => ?_)
                      · refine A_iconst d_MD_goesAlong_191 rfl ?_
                        exact A_zret d_MD_goesAlong_192 (by decide) rfl (by omega) ⟨_, rfl, by omega, rfl⟩
                      · refine A_aload_n 0 d_MD_goesAlong_172 rfl rfl ?_
                        refine A_iload_n 1 d_MD_goesAlong_173 rfl rfl ?_
                        refine A_callV1 m_MD_lowest T_ok d_MD_goesAlong_174 l_MD_520 k_MD_lowest (mi_s hx sf_170) rfl (by decide +kernel) (by decide) (Nat.le_of_ble_eq_true rfl) (s_MD_lowest hx (by omega) (by omega)) (fun r h62 hq => ?_)
                        obtain ⟨x64, rfl, ⟨_, _⟩, rfl⟩ := hq
                        refine A_aload_n 0 d_MD_goesAlong_177 rfl rfl ?_
                        refine A_iload_n 1 d_MD_goesAlong_178 rfl rfl ?_
                        refine A_iconst d_MD_goesAlong_179 rfl ?_
                        refine A_isubv (z := (a1 - 1)) d_MD_goesAlong_180 (w32_to (by omega) (by unfold i32; omega)) ?_
                        refine A_callV1 m_MD_lowest T_ok d_MD_goesAlong_181 l_MD_520 k_MD_lowest (mi_s hx sf_170) rfl (by decide +kernel) (by decide) (Nat.le_of_ble_eq_true rfl) (s_MD_lowest hx (by omega) (by omega)) (fun r h65 hq => ?_)
                        obtain ⟨x67, rfl, ⟨_, _⟩, rfl⟩ := hq
                        refine A_icmp_eq (tgt := 191) d_MD_goesAlong_184 (by decide) (fun c68 => ?_) (fun c68 => ?_)
                        · refine A_iconst d_MD_goesAlong_191 rfl ?_
                          exact A_zret d_MD_goesAlong_192 (by decide) rfl (by omega) ⟨_, rfl, by omega, rfl⟩
                        · refine A_iconst d_MD_goesAlong_187 rfl ?_
                          refine A_goto (tgt := 192) d_MD_goesAlong_188 (by decide) ?_
                          exact A_zret d_MD_goesAlong_192 (by decide) rfl (by omega) ⟨_, rfl, by omega, rfl⟩
        · refine A_goto (tgt := 193) d_MD_goesAlong_54 (by decide) ?_
          refine A_iincv (z := (i1 + 1)) (L' := [some (av_R (some 170)), some (av_I a1), some (av_I a2), some (av_I (i1 + 1)), some (av_I (300 * a2 + i1)), none, none, none]) d_MD_goesAlong_193 rfl (w32_to (by omega) (by unfold i32; omega)) rfl ?_
          refine A_goto (tgt := 2) d_MD_goesAlong_196 (by decide) ?_
          refine A_free (L' := [some (av_R (some 170)), some (av_I a1), some (av_I a2), some (av_I (i1 + 1)), none, none, none, none]) (And.intro rfl (And.intro rfl (And.intro rfl (And.intro rfl trivial)))) ?_
          exact ih2 (i1 + 1) (by omega) (by omega) (by omega)
  exact lp2 _ 1 (by omega) (by omega) (Nat.lt_succ_self _)
theorem s_MD_crosses {G : cx_T} {h : ah_T} (hx : mi h) {a1 : Int} {a2 : Int} (la1 : 0 ≤ a1) (ua1 : a1 ≤ 1199) (la2 : 0 ≤ a2) (ua2 : a2 ≤ 3) (hKS : KS h) (ho : a2 < h.2.1 172 0) (he : EV h a1.toNat) (hpe : 1 ≤ h.2.1 191 a1.toNat) : con G 4 0 0 m_MD_crosses [av_R (some 170), av_I a1, av_I a2] h (fun r h' => ∃ z, r = some (av_I z) ∧ (z = 0 ∨ z = 1) ∧ kM (pm [65, 66] []) h h') := by
  refine con_of (L := [some (av_R (some 170)), some (av_I a1), some (av_I a2), none, none]) (by decide +kernel) (Nat.le_of_ble_eq_true rfl) rfl ?_
  have k0 : kM (pm [65, 66] []) h h := kM_0 hx
  obtain ⟨pe, epe⟩ : ∃ x, x = h.2.1 191 a1.toNat := ⟨_, rfl⟩
  refine A_iconst d_MD_crosses_0 rfl ?_
  refine A_istore_n 3 (L' := [some (av_R (some 170)), some (av_I a1), some (av_I a2), some (av_I 0), none]) d_MD_crosses_1 rfl (Nat.le_of_ble_eq_true rfl) rfl ?_
  have lp2 : ∀ (n : Nat) (i1 : Int) (h2 : ah_T) , 0 ≤ i1 → i1 ≤ 300 → kM (pm [65, 66] []) h h2 → (301 - i1).toNat < n → aw G (rm_R 4 0 0) m_MD_crosses 0 0 2 [some (av_R (some 170)), some (av_I a1), some (av_I a2), some (av_I i1), none] [] h2 (fun r h' => ∃ z, r = some (av_I z) ∧ (z = 0 ∨ z = 1) ∧ kM (pm [65, 66] []) h h') := by
    intro n
    induction n with
    | zero => intro i1 h2 _ _ _ hm; omega
    | succ n ih2 =>
      intro i1 h2 hl0 hl1 k3 hm
      refine A_iload_n 3 d_MD_crosses_2 rfl rfl ?_
      refine A_aload_n 0 d_MD_crosses_3 rfl rfl ?_
      refine A_getAv (z := some 185) T_ok d_MD_crosses_4 f_MD_57 (mi_s k3.1 sf_170) (mi_r k3.1 rfm_27) ?_
      refine A_iload_n 2 d_MD_crosses_7 rfl rfl ?_
      refine A_ialoadn (lo := 0) (hi := 300) d_MD_crosses_8 (mi_s k3.1 sf_185) (by omega) (by omega) (mi_g k3.1 (by decide) (mr_185 _)) (fun x5 ex5 _ _ => ?_)
      have fx5 := ex5.trans (k3.2.2.1 185 _ rfl)
      refine A_pc (pc' := 9) rfl ?_
      refine A_icmp_ge (tgt := 73) d_MD_crosses_9 (by decide) (fun c6 => ?_) (fun c6 => ?_)
      · refine A_iconst d_MD_crosses_73 rfl ?_
        exact A_zret d_MD_crosses_74 (by decide) rfl (by omega) ⟨_, rfl, by omega, k3⟩
      · refine A_sipush d_MD_crosses_12 rfl ?_
        refine A_iload_n 2 d_MD_crosses_15 rfl rfl ?_
        refine A_imulv (z := (300 * a2)) d_MD_crosses_16 (w32_to (by omega) (by unfold i32; omega)) ?_
        refine A_iload_n 3 d_MD_crosses_17 rfl rfl ?_
        refine A_iaddv (z := (300 * a2 + i1)) d_MD_crosses_18 (w32_to (by omega) (by unfold i32; omega)) ?_
        refine A_pc (pc' := 19) rfl ?_
        refine A_istore (L' := [some (av_R (some 170)), some (av_I a1), some (av_I a2), some (av_I i1), some (av_I (300 * a2 + i1))]) d_MD_crosses_19 (Nat.le_of_ble_eq_true rfl) rfl ?_
        refine A_aload_n 0 d_MD_crosses_21 rfl rfl ?_
        refine A_getAv (z := some 191) T_ok d_MD_crosses_22 f_MD_75 (mi_s k3.1 sf_170) (mi_r k3.1 rfm_33) ?_
        refine A_iload d_MD_crosses_25 rfl ?_
        refine A_ialoadn (lo := 0) (hi := 4) d_MD_crosses_27 (mi_s k3.1 sf_191) (by omega) (by omega) (mi_g k3.1 (by decide) (mr_191 _)) (fun x8 ex8 _ _ => ?_)
        refine A_if_le (tgt := 67) d_MD_crosses_28 (by decide) (fun c9 => ?_) (fun c9 => ?_)
        · refine A_iincv (z := (i1 + 1)) (L' := [some (av_R (some 170)), some (av_I a1), some (av_I a2), some (av_I (i1 + 1)), some (av_I (300 * a2 + i1))]) d_MD_crosses_67 rfl (w32_to (by omega) (by unfold i32; omega)) rfl ?_
          refine A_goto (tgt := 2) d_MD_crosses_70 (by decide) ?_
          refine A_free (L' := [some (av_R (some 170)), some (av_I a1), some (av_I a2), some (av_I (i1 + 1)), none]) (And.intro rfl (And.intro rfl (And.intro rfl (And.intro rfl trivial)))) ?_
          exact ih2 (i1 + 1) h2 (by omega) (by omega) k3 (by omega)
        · refine A_aload_n 0 d_MD_crosses_31 rfl rfl ?_
          refine A_iload_n 1 d_MD_crosses_32 rfl rfl ?_
          refine A_iload d_MD_crosses_33 rfl ?_
          refine A_callV2 m_MD_isAhead T_ok d_MD_crosses_35 l_MD_529 k_MD_isAhead (mi_s k3.1 sf_170) rfl (by decide +kernel) (by decide) (Nat.le_of_ble_eq_true rfl) (s_MD_isAhead k3.1 (by omega) (by omega) (by omega) (by omega) (EV_s he (by intro a ha; simp only [List.mem_cons, List.not_mem_nil, or_false] at ha; rcases ha with rfl | rfl | rfl | rfl <;> exact k3.2.2.2 _ _ rfl)) (EV_s ((hKS a2.toNat (by omega)).1 _ (by omega) (by omega)) (by intro a ha; simp only [List.mem_cons, List.not_mem_nil, or_false] at ha; rcases ha with rfl | rfl | rfl | rfl <;> exact k3.2.2.2 _ _ rfl))) (fun r h10 hq => ?_)
          obtain ⟨x12, rfl, bx12, k11⟩ := hq
          have k13 := kM_t k3 k11 (pm_s (by decide) (by decide))
          refine A_if_ne (tgt := 67) d_MD_crosses_38 (by decide) (fun c14 => ?_) (fun c14 => ?_)
          · refine A_iincv (z := (i1 + 1)) (L' := [some (av_R (some 170)), some (av_I a1), some (av_I a2), some (av_I (i1 + 1)), some (av_I (300 * a2 + i1))]) d_MD_crosses_67 rfl (w32_to (by omega) (by unfold i32; omega)) rfl ?_
            refine A_goto (tgt := 2) d_MD_crosses_70 (by decide) ?_
            refine A_free (L' := [some (av_R (some 170)), some (av_I a1), some (av_I a2), some (av_I (i1 + 1)), none]) (And.intro rfl (And.intro rfl (And.intro rfl (And.intro rfl trivial)))) ?_
            exact ih2 (i1 + 1) h10 (by omega) (by omega) k13 (by omega)
          · refine A_aload_n 0 d_MD_crosses_41 rfl rfl ?_
            refine A_iload d_MD_crosses_42 rfl ?_
            refine A_iload_n 1 d_MD_crosses_44 rfl rfl ?_
            refine A_callV2 m_MD_isAhead T_ok d_MD_crosses_45 l_MD_529 k_MD_isAhead (mi_s k13.1 sf_170) rfl (by decide +kernel) (by decide) (Nat.le_of_ble_eq_true rfl) (s_MD_isAhead k13.1 (by omega) (by omega) (by omega) (by omega) (EV_s ((hKS a2.toNat (by omega)).1 _ (by omega) (by omega)) (by intro a ha; simp only [List.mem_cons, List.not_mem_nil, or_false] at ha; rcases ha with rfl | rfl | rfl | rfl <;> exact k13.2.2.2 _ _ rfl)) (EV_s he (by intro a ha; simp only [List.mem_cons, List.not_mem_nil, or_false] at ha; rcases ha with rfl | rfl | rfl | rfl <;> exact k13.2.2.2 _ _ rfl))) (fun r h15 hq => ?_)
            obtain ⟨x17, rfl, bx17, k16⟩ := hq
            have k18 := kM_t k13 k16 (pm_s (by decide) (by decide))
            refine A_if_ne (tgt := 67) d_MD_crosses_48 (by decide) (fun c19 => ?_) (fun c19 => ?_)
            · refine A_iincv (z := (i1 + 1)) (L' := [some (av_R (some 170)), some (av_I a1), some (av_I a2), some (av_I (i1 + 1)), some (av_I (300 * a2 + i1))]) d_MD_crosses_67 rfl (w32_to (by omega) (by unfold i32; omega)) rfl ?_
              refine A_goto (tgt := 2) d_MD_crosses_70 (by decide) ?_
              refine A_free (L' := [some (av_R (some 170)), some (av_I a1), some (av_I a2), some (av_I (i1 + 1)), none]) (And.intro rfl (And.intro rfl (And.intro rfl (And.intro rfl trivial)))) ?_
              exact ih2 (i1 + 1) h15 (by omega) (by omega) k18 (by omega)
            · refine A_aload_n 0 d_MD_crosses_51 rfl rfl ?_
              refine A_iload d_MD_crosses_52 rfl ?_
              refine A_callV1 m_MD_lowest T_ok d_MD_crosses_54 l_MD_520 k_MD_lowest (mi_s k18.1 sf_170) rfl (by decide +kernel) (by decide) (Nat.le_of_ble_eq_true rfl) (s_MD_lowest k18.1 (by omega) (by omega)) (fun r h20 hq => ?_)
              obtain ⟨x22, rfl, ⟨_, _⟩, rfl⟩ := hq
              refine A_aload_n 0 d_MD_crosses_57 rfl rfl ?_
              refine A_iload_n 1 d_MD_crosses_58 rfl rfl ?_
              refine A_callV1 m_MD_highest T_ok d_MD_crosses_59 l_MD_532 k_MD_highest (mi_s k18.1 sf_170) rfl (by decide +kernel) (by decide) (Nat.le_of_ble_eq_true rfl) (s_MD_highest k18.1 (by omega) (by omega) (by have q1 := ((k16.2.2.1 _ _ rfl).trans ((k11.2.2.1 _ _ rfl).trans ((k3.2.2.1 _ _ rfl).trans epe.symm))); omega)) (fun r h23 hq => ?_)
              obtain ⟨x25, rfl, ⟨_, _⟩, rfl⟩ := hq
              refine A_icmp_ge (tgt := 67) d_MD_crosses_62 (by decide) (fun c26 => ?_) (fun c26 => ?_)
              · refine A_iincv (z := (i1 + 1)) (L' := [some (av_R (some 170)), some (av_I a1), some (av_I a2), some (av_I (i1 + 1)), some (av_I (300 * a2 + i1))]) d_MD_crosses_67 rfl (w32_to (by omega) (by unfold i32; omega)) rfl ?_
                refine A_goto (tgt := 2) d_MD_crosses_70 (by decide) ?_
                refine A_free (L' := [some (av_R (some 170)), some (av_I a1), some (av_I a2), some (av_I (i1 + 1)), none]) (And.intro rfl (And.intro rfl (And.intro rfl (And.intro rfl trivial)))) ?_
                exact ih2 (i1 + 1) h15 (by omega) (by omega) k18 (by omega)
              · refine A_iconst d_MD_crosses_65 rfl ?_
                exact A_zret d_MD_crosses_66 (by decide) rfl (by omega) ⟨_, rfl, by omega, k18⟩
  exact lp2 _ 0 h (by omega) (by omega) k0 (Nat.lt_succ_self _)
