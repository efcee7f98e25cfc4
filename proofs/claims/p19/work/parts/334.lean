/-! ===== the reference's methods, 334 ===== -/
def m_MD_keepEvent : mr_T := (⟨"PlainMusicModel", "keepEvent", "(II)V"⟩, prog_14_method_46_code, 4, none)
theorem d_MD_keepEvent_0 : decode prog_14_method_46_code 0 = .ok (.aload_n 0, 1) := by decide +kernel
theorem d_MD_keepEvent_1 : decode prog_14_method_46_code 1 = .ok (.getfield 63, 3) := by decide +kernel
theorem d_MD_keepEvent_4 : decode prog_14_method_46_code 4 = .ok (.iload_n 1, 1) := by decide +kernel
theorem d_MD_keepEvent_5 : decode prog_14_method_46_code 5 = .ok (.aload_n 0, 1) := by decide +kernel
theorem d_MD_keepEvent_6 : decode prog_14_method_46_code 6 = .ok (.getfield 63, 3) := by decide +kernel
theorem d_MD_keepEvent_9 : decode prog_14_method_46_code 9 = .ok (.iload_n 2, 1) := by decide +kernel
theorem d_MD_keepEvent_10 : decode prog_14_method_46_code 10 = .ok (.laload, 1) := by decide +kernel
theorem d_MD_keepEvent_11 : decode prog_14_method_46_code 11 = .ok (.lastore, 1) := by decide +kernel
theorem d_MD_keepEvent_12 : decode prog_14_method_46_code 12 = .ok (.aload_n 0, 1) := by decide +kernel
theorem d_MD_keepEvent_13 : decode prog_14_method_46_code 13 = .ok (.getfield 66, 3) := by decide +kernel
theorem d_MD_keepEvent_16 : decode prog_14_method_46_code 16 = .ok (.iload_n 1, 1) := by decide +kernel
theorem d_MD_keepEvent_17 : decode prog_14_method_46_code 17 = .ok (.aload_n 0, 1) := by decide +kernel
theorem d_MD_keepEvent_18 : decode prog_14_method_46_code 18 = .ok (.getfield 66, 3) := by decide +kernel
theorem d_MD_keepEvent_21 : decode prog_14_method_46_code 21 = .ok (.iload_n 2, 1) := by decide +kernel
theorem d_MD_keepEvent_22 : decode prog_14_method_46_code 22 = .ok (.laload, 1) := by decide +kernel
theorem d_MD_keepEvent_23 : decode prog_14_method_46_code 23 = .ok (.lastore, 1) := by decide +kernel
theorem d_MD_keepEvent_24 : decode prog_14_method_46_code 24 = .ok (.aload_n 0, 1) := by decide +kernel
theorem d_MD_keepEvent_25 : decode prog_14_method_46_code 25 = .ok (.getfield 69, 3) := by decide +kernel
theorem d_MD_keepEvent_28 : decode prog_14_method_46_code 28 = .ok (.iload_n 1, 1) := by decide +kernel
theorem d_MD_keepEvent_29 : decode prog_14_method_46_code 29 = .ok (.aload_n 0, 1) := by decide +kernel
theorem d_MD_keepEvent_30 : decode prog_14_method_46_code 30 = .ok (.getfield 69, 3) := by decide +kernel
theorem d_MD_keepEvent_33 : decode prog_14_method_46_code 33 = .ok (.iload_n 2, 1) := by decide +kernel
theorem d_MD_keepEvent_34 : decode prog_14_method_46_code 34 = .ok (.laload, 1) := by decide +kernel
theorem d_MD_keepEvent_35 : decode prog_14_method_46_code 35 = .ok (.lastore, 1) := by decide +kernel
theorem d_MD_keepEvent_36 : decode prog_14_method_46_code 36 = .ok (.aload_n 0, 1) := by decide +kernel
theorem d_MD_keepEvent_37 : decode prog_14_method_46_code 37 = .ok (.getfield 72, 3) := by decide +kernel
theorem d_MD_keepEvent_40 : decode prog_14_method_46_code 40 = .ok (.iload_n 1, 1) := by decide +kernel
theorem d_MD_keepEvent_41 : decode prog_14_method_46_code 41 = .ok (.aload_n 0, 1) := by decide +kernel
theorem d_MD_keepEvent_42 : decode prog_14_method_46_code 42 = .ok (.getfield 72, 3) := by decide +kernel
theorem d_MD_keepEvent_45 : decode prog_14_method_46_code 45 = .ok (.iload_n 2, 1) := by decide +kernel
theorem d_MD_keepEvent_46 : decode prog_14_method_46_code 46 = .ok (.laload, 1) := by decide +kernel
theorem d_MD_keepEvent_47 : decode prog_14_method_46_code 47 = .ok (.lastore, 1) := by decide +kernel
theorem d_MD_keepEvent_48 : decode prog_14_method_46_code 48 = .ok (.aload_n 0, 1) := by decide +kernel
theorem d_MD_keepEvent_49 : decode prog_14_method_46_code 49 = .ok (.getfield 75, 3) := by decide +kernel
theorem d_MD_keepEvent_52 : decode prog_14_method_46_code 52 = .ok (.iload_n 1, 1) := by decide +kernel
theorem d_MD_keepEvent_53 : decode prog_14_method_46_code 53 = .ok (.aload_n 0, 1) := by decide +kernel
theorem d_MD_keepEvent_54 : decode prog_14_method_46_code 54 = .ok (.getfield 75, 3) := by decide +kernel
theorem d_MD_keepEvent_57 : decode prog_14_method_46_code 57 = .ok (.iload_n 2, 1) := by decide +kernel
theorem d_MD_keepEvent_58 : decode prog_14_method_46_code 58 = .ok (.iaload, 1) := by decide +kernel
theorem d_MD_keepEvent_59 : decode prog_14_method_46_code 59 = .ok (.iastore, 1) := by decide +kernel
theorem d_MD_keepEvent_60 : decode prog_14_method_46_code 60 = .ok (.iconst 0, 1) := by decide +kernel
theorem d_MD_keepEvent_61 : decode prog_14_method_46_code 61 = .ok (.istore_n 3, 1) := by decide +kernel
theorem d_MD_keepEvent_62 : decode prog_14_method_46_code 62 = .ok (.iload_n 3, 1) := by decide +kernel
theorem d_MD_keepEvent_63 : decode prog_14_method_46_code 63 = .ok (.iconst 4, 1) := by decide +kernel
theorem d_MD_keepEvent_64 : decode prog_14_method_46_code 64 = .ok (.if_icmp .ge 49, 3) := by decide +kernel
theorem d_MD_keepEvent_67 : decode prog_14_method_46_code 67 = .ok (.aload_n 0, 1) := by decide +kernel
theorem d_MD_keepEvent_68 : decode prog_14_method_46_code 68 = .ok (.getfield 78, 3) := by decide +kernel
theorem d_MD_keepEvent_71 : decode prog_14_method_46_code 71 = .ok (.iconst 4, 1) := by decide +kernel
theorem d_MD_keepEvent_72 : decode prog_14_method_46_code 72 = .ok (.iload_n 1, 1) := by decide +kernel
theorem d_MD_keepEvent_73 : decode prog_14_method_46_code 73 = .ok (.imul, 1) := by decide +kernel
theorem d_MD_keepEvent_74 : decode prog_14_method_46_code 74 = .ok (.iload_n 3, 1) := by decide +kernel
theorem d_MD_keepEvent_75 : decode prog_14_method_46_code 75 = .ok (.iadd, 1) := by decide +kernel
theorem d_MD_keepEvent_76 : decode prog_14_method_46_code 76 = .ok (.aload_n 0, 1) := by decide +kernel
theorem d_MD_keepEvent_77 : decode prog_14_method_46_code 77 = .ok (.getfield 78, 3) := by decide +kernel
theorem d_MD_keepEvent_80 : decode prog_14_method_46_code 80 = .ok (.iconst 4, 1) := by decide +kernel
theorem d_MD_keepEvent_81 : decode prog_14_method_46_code 81 = .ok (.iload_n 2, 1) := by decide +kernel
theorem d_MD_keepEvent_82 : decode prog_14_method_46_code 82 = .ok (.imul, 1) := by decide +kernel
theorem d_MD_keepEvent_83 : decode prog_14_method_46_code 83 = .ok (.iload_n 3, 1) := by decide +kernel
theorem d_MD_keepEvent_84 : decode prog_14_method_46_code 84 = .ok (.iadd, 1) := by decide +kernel
theorem d_MD_keepEvent_85 : decode prog_14_method_46_code 85 = .ok (.iaload, 1) := by decide +kernel
theorem d_MD_keepEvent_86 : decode prog_14_method_46_code 86 = .ok (.iastore, 1) := by decide +kernel
theorem d_MD_keepEvent_87 : decode prog_14_method_46_code 87 = .ok (.aload_n 0, 1) := by decide +kernel
theorem d_MD_keepEvent_88 : decode prog_14_method_46_code 88 = .ok (.getfield 81, 3) := by decide +kernel
theorem d_MD_keepEvent_91 : decode prog_14_method_46_code 91 = .ok (.iconst 4, 1) := by decide +kernel
theorem d_MD_keepEvent_92 : decode prog_14_method_46_code 92 = .ok (.iload_n 1, 1) := by decide +kernel
theorem d_MD_keepEvent_93 : decode prog_14_method_46_code 93 = .ok (.imul, 1) := by decide +kernel
theorem d_MD_keepEvent_94 : decode prog_14_method_46_code 94 = .ok (.iload_n 3, 1) := by decide +kernel
theorem d_MD_keepEvent_95 : decode prog_14_method_46_code 95 = .ok (.iadd, 1) := by decide +kernel
theorem d_MD_keepEvent_96 : decode prog_14_method_46_code 96 = .ok (.aload_n 0, 1) := by decide +kernel
theorem d_MD_keepEvent_97 : decode prog_14_method_46_code 97 = .ok (.getfield 81, 3) := by decide +kernel
theorem d_MD_keepEvent_100 : decode prog_14_method_46_code 100 = .ok (.iconst 4, 1) := by decide +kernel
theorem d_MD_keepEvent_101 : decode prog_14_method_46_code 101 = .ok (.iload_n 2, 1) := by decide +kernel
theorem d_MD_keepEvent_102 : decode prog_14_method_46_code 102 = .ok (.imul, 1) := by decide +kernel
theorem d_MD_keepEvent_103 : decode prog_14_method_46_code 103 = .ok (.iload_n 3, 1) := by decide +kernel
theorem d_MD_keepEvent_104 : decode prog_14_method_46_code 104 = .ok (.iadd, 1) := by decide +kernel
theorem d_MD_keepEvent_105 : decode prog_14_method_46_code 105 = .ok (.iaload, 1) := by decide +kernel
theorem d_MD_keepEvent_106 : decode prog_14_method_46_code 106 = .ok (.iastore, 1) := by decide +kernel
theorem d_MD_keepEvent_107 : decode prog_14_method_46_code 107 = .ok (.iinc 3 1, 3) := by decide +kernel
theorem d_MD_keepEvent_110 : decode prog_14_method_46_code 110 = .ok (.goto (-48), 3) := by decide +kernel
theorem d_MD_keepEvent_113 : decode prog_14_method_46_code 113 = .ok (.aload_n 0, 1) := by decide +kernel
theorem d_MD_keepEvent_114 : decode prog_14_method_46_code 114 = .ok (.getfield 84, 3) := by decide +kernel
theorem d_MD_keepEvent_117 : decode prog_14_method_46_code 117 = .ok (.iload_n 1, 1) := by decide +kernel
theorem d_MD_keepEvent_118 : decode prog_14_method_46_code 118 = .ok (.aload_n 0, 1) := by decide +kernel
theorem d_MD_keepEvent_119 : decode prog_14_method_46_code 119 = .ok (.getfield 84, 3) := by decide +kernel
theorem d_MD_keepEvent_122 : decode prog_14_method_46_code 122 = .ok (.iload_n 2, 1) := by decide +kernel
theorem d_MD_keepEvent_123 : decode prog_14_method_46_code 123 = .ok (.iaload, 1) := by decide +kernel
theorem d_MD_keepEvent_124 : decode prog_14_method_46_code 124 = .ok (.iastore, 1) := by decide +kernel
theorem d_MD_keepEvent_125 : decode prog_14_method_46_code 125 = .ok (.aload_n 0, 1) := by decide +kernel
theorem d_MD_keepEvent_126 : decode prog_14_method_46_code 126 = .ok (.getfield 87, 3) := by decide +kernel
theorem d_MD_keepEvent_129 : decode prog_14_method_46_code 129 = .ok (.iload_n 1, 1) := by decide +kernel
theorem d_MD_keepEvent_130 : decode prog_14_method_46_code 130 = .ok (.aload_n 0, 1) := by decide +kernel
theorem d_MD_keepEvent_131 : decode prog_14_method_46_code 131 = .ok (.getfield 87, 3) := by decide +kernel
theorem d_MD_keepEvent_134 : decode prog_14_method_46_code 134 = .ok (.iload_n 2, 1) := by decide +kernel
theorem d_MD_keepEvent_135 : decode prog_14_method_46_code 135 = .ok (.baload, 1) := by decide +kernel
theorem d_MD_keepEvent_136 : decode prog_14_method_46_code 136 = .ok (.bastore, 1) := by decide +kernel
theorem d_MD_keepEvent_137 : decode prog_14_method_46_code 137 = .ok (.aload_n 0, 1) := by decide +kernel
theorem d_MD_keepEvent_138 : decode prog_14_method_46_code 138 = .ok (.getfield 91, 3) := by decide +kernel
theorem d_MD_keepEvent_141 : decode prog_14_method_46_code 141 = .ok (.iload_n 1, 1) := by decide +kernel
theorem d_MD_keepEvent_142 : decode prog_14_method_46_code 142 = .ok (.aload_n 0, 1) := by decide +kernel
theorem d_MD_keepEvent_143 : decode prog_14_method_46_code 143 = .ok (.getfield 91, 3) := by decide +kernel
theorem d_MD_keepEvent_146 : decode prog_14_method_46_code 146 = .ok (.iload_n 2, 1) := by decide +kernel
theorem d_MD_keepEvent_147 : decode prog_14_method_46_code 147 = .ok (.iaload, 1) := by decide +kernel
theorem d_MD_keepEvent_148 : decode prog_14_method_46_code 148 = .ok (.iastore, 1) := by decide +kernel
theorem d_MD_keepEvent_149 : decode prog_14_method_46_code 149 = .ok (.aload_n 0, 1) := by decide +kernel
theorem d_MD_keepEvent_150 : decode prog_14_method_46_code 150 = .ok (.getfield 94, 3) := by decide +kernel
theorem d_MD_keepEvent_153 : decode prog_14_method_46_code 153 = .ok (.iload_n 1, 1) := by decide +kernel
theorem d_MD_keepEvent_154 : decode prog_14_method_46_code 154 = .ok (.aload_n 0, 1) := by decide +kernel
theorem d_MD_keepEvent_155 : decode prog_14_method_46_code 155 = .ok (.getfield 94, 3) := by decide +kernel
theorem d_MD_keepEvent_158 : decode prog_14_method_46_code 158 = .ok (.iload_n 2, 1) := by decide +kernel
theorem d_MD_keepEvent_159 : decode prog_14_method_46_code 159 = .ok (.iaload, 1) := by decide +kernel
theorem d_MD_keepEvent_160 : decode prog_14_method_46_code 160 = .ok (.iastore, 1) := by decide +kernel
theorem d_MD_keepEvent_161 : decode prog_14_method_46_code 161 = .ok (.aload_n 0, 1) := by decide +kernel
theorem d_MD_keepEvent_162 : decode prog_14_method_46_code 162 = .ok (.getfield 97, 3) := by decide +kernel
theorem d_MD_keepEvent_165 : decode prog_14_method_46_code 165 = .ok (.iload_n 1, 1) := by decide +kernel
theorem d_MD_keepEvent_166 : decode prog_14_method_46_code 166 = .ok (.aload_n 0, 1) := by decide +kernel
theorem d_MD_keepEvent_167 : decode prog_14_method_46_code 167 = .ok (.getfield 97, 3) := by decide +kernel
theorem d_MD_keepEvent_170 : decode prog_14_method_46_code 170 = .ok (.iload_n 2, 1) := by decide +kernel
theorem d_MD_keepEvent_171 : decode prog_14_method_46_code 171 = .ok (.iaload, 1) := by decide +kernel
theorem d_MD_keepEvent_172 : decode prog_14_method_46_code 172 = .ok (.iastore, 1) := by decide +kernel
theorem d_MD_keepEvent_173 : decode prog_14_method_46_code 173 = .ok (.return_, 1) := by decide +kernel
def m_MD_keep : mr_T := (⟨"PlainMusicModel", "keep", "()V"⟩, prog_14_method_45_code, 3, none)
theorem d_MD_keep_0 : decode prog_14_method_45_code 0 = .ok (.aload_n 0, 1) := by decide +kernel
theorem d_MD_keep_1 : decode prog_14_method_45_code 1 = .ok (.getfield 17, 3) := by decide +kernel
theorem d_MD_keep_4 : decode prog_14_method_45_code 4 = .ok (.iconst 0, 1) := by decide +kernel
theorem d_MD_keep_5 : decode prog_14_method_45_code 5 = .ok (.aload_n 0, 1) := by decide +kernel
theorem d_MD_keep_6 : decode prog_14_method_45_code 6 = .ok (.getfield 17, 3) := by decide +kernel
theorem d_MD_keep_9 : decode prog_14_method_45_code 9 = .ok (.iconst 1, 1) := by decide +kernel
theorem d_MD_keep_10 : decode prog_14_method_45_code 10 = .ok (.iaload, 1) := by decide +kernel
theorem d_MD_keep_11 : decode prog_14_method_45_code 11 = .ok (.iastore, 1) := by decide +kernel
theorem d_MD_keep_12 : decode prog_14_method_45_code 12 = .ok (.aload_n 0, 1) := by decide +kernel
theorem d_MD_keep_13 : decode prog_14_method_45_code 13 = .ok (.getfield 20, 3) := by decide +kernel
theorem d_MD_keep_16 : decode prog_14_method_45_code 16 = .ok (.iconst 0, 1) := by decide +kernel
theorem d_MD_keep_17 : decode prog_14_method_45_code 17 = .ok (.aload_n 0, 1) := by decide +kernel
theorem d_MD_keep_18 : decode prog_14_method_45_code 18 = .ok (.getfield 20, 3) := by decide +kernel
theorem d_MD_keep_21 : decode prog_14_method_45_code 21 = .ok (.iconst 1, 1) := by decide +kernel
theorem d_MD_keep_22 : decode prog_14_method_45_code 22 = .ok (.iaload, 1) := by decide +kernel
theorem d_MD_keep_23 : decode prog_14_method_45_code 23 = .ok (.iastore, 1) := by decide +kernel
theorem d_MD_keep_24 : decode prog_14_method_45_code 24 = .ok (.aload_n 0, 1) := by decide +kernel
theorem d_MD_keep_25 : decode prog_14_method_45_code 25 = .ok (.getfield 23, 3) := by decide +kernel
theorem d_MD_keep_28 : decode prog_14_method_45_code 28 = .ok (.iconst 0, 1) := by decide +kernel
theorem d_MD_keep_29 : decode prog_14_method_45_code 29 = .ok (.aload_n 0, 1) := by decide +kernel
theorem d_MD_keep_30 : decode prog_14_method_45_code 30 = .ok (.getfield 23, 3) := by decide +kernel
theorem d_MD_keep_33 : decode prog_14_method_45_code 33 = .ok (.iconst 1, 1) := by decide +kernel
theorem d_MD_keep_34 : decode prog_14_method_45_code 34 = .ok (.iaload, 1) := by decide +kernel
theorem d_MD_keep_35 : decode prog_14_method_45_code 35 = .ok (.iastore, 1) := by decide +kernel
theorem d_MD_keep_36 : decode prog_14_method_45_code 36 = .ok (.aload_n 0, 1) := by decide +kernel
theorem d_MD_keep_37 : decode prog_14_method_45_code 37 = .ok (.getfield 26, 3) := by decide +kernel
theorem d_MD_keep_40 : decode prog_14_method_45_code 40 = .ok (.iconst 0, 1) := by decide +kernel
theorem d_MD_keep_41 : decode prog_14_method_45_code 41 = .ok (.aload_n 0, 1) := by decide +kernel
theorem d_MD_keep_42 : decode prog_14_method_45_code 42 = .ok (.getfield 26, 3) := by decide +kernel
theorem d_MD_keep_45 : decode prog_14_method_45_code 45 = .ok (.iconst 1, 1) := by decide +kernel
theorem d_MD_keep_46 : decode prog_14_method_45_code 46 = .ok (.iaload, 1) := by decide +kernel
theorem d_MD_keep_47 : decode prog_14_method_45_code 47 = .ok (.iastore, 1) := by decide +kernel
theorem d_MD_keep_48 : decode prog_14_method_45_code 48 = .ok (.iconst 0, 1) := by decide +kernel
theorem d_MD_keep_49 : decode prog_14_method_45_code 49 = .ok (.istore_n 1, 1) := by decide +kernel
theorem d_MD_keep_50 : decode prog_14_method_45_code 50 = .ok (.iload_n 1, 1) := by decide +kernel
theorem d_MD_keep_51 : decode prog_14_method_45_code 51 = .ok (.bipush 8, 2) := by decide +kernel
theorem d_MD_keep_53 : decode prog_14_method_45_code 53 = .ok (.if_icmp .ge 24, 3) := by decide +kernel
theorem d_MD_keep_56 : decode prog_14_method_45_code 56 = .ok (.aload_n 0, 1) := by decide +kernel
theorem d_MD_keep_57 : decode prog_14_method_45_code 57 = .ok (.getfield 29, 3) := by decide +kernel
theorem d_MD_keep_60 : decode prog_14_method_45_code 60 = .ok (.iload_n 1, 1) := by decide +kernel
theorem d_MD_keep_61 : decode prog_14_method_45_code 61 = .ok (.aload_n 0, 1) := by decide +kernel
theorem d_MD_keep_62 : decode prog_14_method_45_code 62 = .ok (.getfield 29, 3) := by decide +kernel
theorem d_MD_keep_65 : decode prog_14_method_45_code 65 = .ok (.bipush 8, 2) := by decide +kernel
theorem d_MD_keep_67 : decode prog_14_method_45_code 67 = .ok (.iload_n 1, 1) := by decide +kernel
theorem d_MD_keep_68 : decode prog_14_method_45_code 68 = .ok (.iadd, 1) := by decide +kernel
theorem d_MD_keep_69 : decode prog_14_method_45_code 69 = .ok (.iaload, 1) := by decide +kernel
theorem d_MD_keep_70 : decode prog_14_method_45_code 70 = .ok (.iastore, 1) := by decide +kernel
theorem d_MD_keep_71 : decode prog_14_method_45_code 71 = .ok (.iinc 1 1, 3) := by decide +kernel
theorem d_MD_keep_74 : decode prog_14_method_45_code 74 = .ok (.goto (-24), 3) := by decide +kernel
theorem d_MD_keep_77 : decode prog_14_method_45_code 77 = .ok (.aload_n 0, 1) := by decide +kernel
theorem d_MD_keep_78 : decode prog_14_method_45_code 78 = .ok (.getfield 32, 3) := by decide +kernel
theorem d_MD_keep_81 : decode prog_14_method_45_code 81 = .ok (.iconst 0, 1) := by decide +kernel
theorem d_MD_keep_82 : decode prog_14_method_45_code 82 = .ok (.aload_n 0, 1) := by decide +kernel
theorem d_MD_keep_83 : decode prog_14_method_45_code 83 = .ok (.getfield 32, 3) := by decide +kernel
theorem d_MD_keep_86 : decode prog_14_method_45_code 86 = .ok (.iconst 1, 1) := by decide +kernel
theorem d_MD_keep_87 : decode prog_14_method_45_code 87 = .ok (.iaload, 1) := by decide +kernel
theorem d_MD_keep_88 : decode prog_14_method_45_code 88 = .ok (.iastore, 1) := by decide +kernel
theorem d_MD_keep_89 : decode prog_14_method_45_code 89 = .ok (.iconst 0, 1) := by decide +kernel
theorem d_MD_keep_90 : decode prog_14_method_45_code 90 = .ok (.istore_n 1, 1) := by decide +kernel
theorem d_MD_keep_91 : decode prog_14_method_45_code 91 = .ok (.iload_n 1, 1) := by decide +kernel
theorem d_MD_keep_92 : decode prog_14_method_45_code 92 = .ok (.bipush 24, 2) := by decide +kernel
theorem d_MD_keep_94 : decode prog_14_method_45_code 94 = .ok (.if_icmp .ge 54, 3) := by decide +kernel
theorem d_MD_keep_97 : decode prog_14_method_45_code 97 = .ok (.aload_n 0, 1) := by decide +kernel
theorem d_MD_keep_98 : decode prog_14_method_45_code 98 = .ok (.getfield 35, 3) := by decide +kernel
theorem d_MD_keep_101 : decode prog_14_method_45_code 101 = .ok (.iload_n 1, 1) := by decide +kernel
theorem d_MD_keep_102 : decode prog_14_method_45_code 102 = .ok (.aload_n 0, 1) := by decide +kernel
theorem d_MD_keep_103 : decode prog_14_method_45_code 103 = .ok (.getfield 35, 3) := by decide +kernel
theorem d_MD_keep_106 : decode prog_14_method_45_code 106 = .ok (.bipush 24, 2) := by decide +kernel
theorem d_MD_keep_108 : decode prog_14_method_45_code 108 = .ok (.iload_n 1, 1) := by decide +kernel
theorem d_MD_keep_109 : decode prog_14_method_45_code 109 = .ok (.iadd, 1) := by decide +kernel
theorem d_MD_keep_110 : decode prog_14_method_45_code 110 = .ok (.iaload, 1) := by decide +kernel
theorem d_MD_keep_111 : decode prog_14_method_45_code 111 = .ok (.iastore, 1) := by decide +kernel
theorem d_MD_keep_112 : decode prog_14_method_45_code 112 = .ok (.aload_n 0, 1) := by decide +kernel
theorem d_MD_keep_113 : decode prog_14_method_45_code 113 = .ok (.getfield 38, 3) := by decide +kernel
theorem d_MD_keep_116 : decode prog_14_method_45_code 116 = .ok (.iload_n 1, 1) := by decide +kernel
theorem d_MD_keep_117 : decode prog_14_method_45_code 117 = .ok (.aload_n 0, 1) := by decide +kernel
theorem d_MD_keep_118 : decode prog_14_method_45_code 118 = .ok (.getfield 38, 3) := by decide +kernel
theorem d_MD_keep_121 : decode prog_14_method_45_code 121 = .ok (.bipush 24, 2) := by decide +kernel
theorem d_MD_keep_123 : decode prog_14_method_45_code 123 = .ok (.iload_n 1, 1) := by decide +kernel
theorem d_MD_keep_124 : decode prog_14_method_45_code 124 = .ok (.iadd, 1) := by decide +kernel
theorem d_MD_keep_125 : decode prog_14_method_45_code 125 = .ok (.iaload, 1) := by decide +kernel
theorem d_MD_keep_126 : decode prog_14_method_45_code 126 = .ok (.iastore, 1) := by decide +kernel
theorem d_MD_keep_127 : decode prog_14_method_45_code 127 = .ok (.aload_n 0, 1) := by decide +kernel
theorem d_MD_keep_128 : decode prog_14_method_45_code 128 = .ok (.getfield 41, 3) := by decide +kernel
theorem d_MD_keep_131 : decode prog_14_method_45_code 131 = .ok (.iload_n 1, 1) := by decide +kernel
theorem d_MD_keep_132 : decode prog_14_method_45_code 132 = .ok (.aload_n 0, 1) := by decide +kernel
theorem d_MD_keep_133 : decode prog_14_method_45_code 133 = .ok (.getfield 41, 3) := by decide +kernel
theorem d_MD_keep_136 : decode prog_14_method_45_code 136 = .ok (.bipush 24, 2) := by decide +kernel
theorem d_MD_keep_138 : decode prog_14_method_45_code 138 = .ok (.iload_n 1, 1) := by decide +kernel
theorem d_MD_keep_139 : decode prog_14_method_45_code 139 = .ok (.iadd, 1) := by decide +kernel
theorem d_MD_keep_140 : decode prog_14_method_45_code 140 = .ok (.iaload, 1) := by decide +kernel
theorem d_MD_keep_141 : decode prog_14_method_45_code 141 = .ok (.iastore, 1) := by decide +kernel
theorem d_MD_keep_142 : decode prog_14_method_45_code 142 = .ok (.iinc 1 1, 3) := by decide +kernel
theorem d_MD_keep_145 : decode prog_14_method_45_code 145 = .ok (.goto (-54), 3) := by decide +kernel
theorem d_MD_keep_148 : decode prog_14_method_45_code 148 = .ok (.aload_n 0, 1) := by decide +kernel
theorem d_MD_keep_149 : decode prog_14_method_45_code 149 = .ok (.getfield 44, 3) := by decide +kernel
theorem d_MD_keep_152 : decode prog_14_method_45_code 152 = .ok (.iconst 0, 1) := by decide +kernel
theorem d_MD_keep_153 : decode prog_14_method_45_code 153 = .ok (.aload_n 0, 1) := by decide +kernel
theorem d_MD_keep_154 : decode prog_14_method_45_code 154 = .ok (.getfield 44, 3) := by decide +kernel
theorem d_MD_keep_157 : decode prog_14_method_45_code 157 = .ok (.iconst 1, 1) := by decide +kernel
theorem d_MD_keep_158 : decode prog_14_method_45_code 158 = .ok (.iaload, 1) := by decide +kernel
theorem d_MD_keep_159 : decode prog_14_method_45_code 159 = .ok (.iastore, 1) := by decide +kernel
theorem d_MD_keep_160 : decode prog_14_method_45_code 160 = .ok (.iconst 0, 1) := by decide +kernel
theorem d_MD_keep_161 : decode prog_14_method_45_code 161 = .ok (.istore_n 1, 1) := by decide +kernel
theorem d_MD_keep_162 : decode prog_14_method_45_code 162 = .ok (.iload_n 1, 1) := by decide +kernel
theorem d_MD_keep_163 : decode prog_14_method_45_code 163 = .ok (.bipush 12, 2) := by decide +kernel
theorem d_MD_keep_165 : decode prog_14_method_45_code 165 = .ok (.if_icmp .ge 24, 3) := by decide +kernel
theorem d_MD_keep_168 : decode prog_14_method_45_code 168 = .ok (.aload_n 0, 1) := by decide +kernel
theorem d_MD_keep_169 : decode prog_14_method_45_code 169 = .ok (.getfield 47, 3) := by decide +kernel
theorem d_MD_keep_172 : decode prog_14_method_45_code 172 = .ok (.iload_n 1, 1) := by decide +kernel
theorem d_MD_keep_173 : decode prog_14_method_45_code 173 = .ok (.aload_n 0, 1) := by decide +kernel
theorem d_MD_keep_174 : decode prog_14_method_45_code 174 = .ok (.getfield 47, 3) := by decide +kernel
theorem d_MD_keep_177 : decode prog_14_method_45_code 177 = .ok (.bipush 12, 2) := by decide +kernel
theorem d_MD_keep_179 : decode prog_14_method_45_code 179 = .ok (.iload_n 1, 1) := by decide +kernel
theorem d_MD_keep_180 : decode prog_14_method_45_code 180 = .ok (.iadd, 1) := by decide +kernel
theorem d_MD_keep_181 : decode prog_14_method_45_code 181 = .ok (.iaload, 1) := by decide +kernel
theorem d_MD_keep_182 : decode prog_14_method_45_code 182 = .ok (.iastore, 1) := by decide +kernel
theorem d_MD_keep_183 : decode prog_14_method_45_code 183 = .ok (.iinc 1 1, 3) := by decide +kernel
theorem d_MD_keep_186 : decode prog_14_method_45_code 186 = .ok (.goto (-24), 3) := by decide +kernel
theorem d_MD_keep_189 : decode prog_14_method_45_code 189 = .ok (.aload_n 0, 1) := by decide +kernel
theorem d_MD_keep_190 : decode prog_14_method_45_code 190 = .ok (.getfield 50, 3) := by decide +kernel
theorem d_MD_keep_193 : decode prog_14_method_45_code 193 = .ok (.iconst 0, 1) := by decide +kernel
theorem d_MD_keep_194 : decode prog_14_method_45_code 194 = .ok (.aload_n 0, 1) := by decide +kernel
theorem d_MD_keep_195 : decode prog_14_method_45_code 195 = .ok (.getfield 50, 3) := by decide +kernel
theorem d_MD_keep_198 : decode prog_14_method_45_code 198 = .ok (.iconst 1, 1) := by decide +kernel
theorem d_MD_keep_199 : decode prog_14_method_45_code 199 = .ok (.iaload, 1) := by decide +kernel
theorem d_MD_keep_200 : decode prog_14_method_45_code 200 = .ok (.iastore, 1) := by decide +kernel
theorem d_MD_keep_201 : decode prog_14_method_45_code 201 = .ok (.iconst 0, 1) := by decide +kernel
theorem d_MD_keep_202 : decode prog_14_method_45_code 202 = .ok (.istore_n 1, 1) := by decide +kernel
theorem d_MD_keep_203 : decode prog_14_method_45_code 203 = .ok (.iload_n 1, 1) := by decide +kernel
theorem d_MD_keep_204 : decode prog_14_method_45_code 204 = .ok (.aload_n 0, 1) := by decide +kernel
theorem d_MD_keep_205 : decode prog_14_method_45_code 205 = .ok (.getfield 17, 3) := by decide +kernel
theorem d_MD_keep_208 : decode prog_14_method_45_code 208 = .ok (.iconst 0, 1) := by decide +kernel
theorem d_MD_keep_209 : decode prog_14_method_45_code 209 = .ok (.iaload, 1) := by decide +kernel
theorem d_MD_keep_210 : decode prog_14_method_45_code 210 = .ok (.if_icmp .ge 137, 3) := by decide +kernel
theorem d_MD_keep_347 : decode prog_14_method_45_code 347 = .ok (.return_, 1) := by decide +kernel
theorem d_MD_keep_213 : decode prog_14_method_45_code 213 = .ok (.aload_n 0, 1) := by decide +kernel
theorem d_MD_keep_214 : decode prog_14_method_45_code 214 = .ok (.getfield 57, 3) := by decide +kernel
theorem d_MD_keep_217 : decode prog_14_method_45_code 217 = .ok (.iload_n 1, 1) := by decide +kernel
theorem d_MD_keep_218 : decode prog_14_method_45_code 218 = .ok (.aload_n 0, 1) := by decide +kernel
theorem d_MD_keep_219 : decode prog_14_method_45_code 219 = .ok (.getfield 57, 3) := by decide +kernel
theorem d_MD_keep_222 : decode prog_14_method_45_code 222 = .ok (.iconst 4, 1) := by decide +kernel
theorem d_MD_keep_223 : decode prog_14_method_45_code 223 = .ok (.iload_n 1, 1) := by decide +kernel
theorem d_MD_keep_224 : decode prog_14_method_45_code 224 = .ok (.iadd, 1) := by decide +kernel
theorem d_MD_keep_225 : decode prog_14_method_45_code 225 = .ok (.iaload, 1) := by decide +kernel
theorem d_MD_keep_226 : decode prog_14_method_45_code 226 = .ok (.iastore, 1) := by decide +kernel
theorem d_MD_keep_227 : decode prog_14_method_45_code 227 = .ok (.aload_n 0, 1) := by decide +kernel
theorem d_MD_keep_228 : decode prog_14_method_45_code 228 = .ok (.getfield 60, 3) := by decide +kernel
theorem d_MD_keep_231 : decode prog_14_method_45_code 231 = .ok (.iload_n 1, 1) := by decide +kernel
theorem d_MD_keep_232 : decode prog_14_method_45_code 232 = .ok (.aload_n 0, 1) := by decide +kernel
theorem d_MD_keep_233 : decode prog_14_method_45_code 233 = .ok (.getfield 60, 3) := by decide +kernel
theorem d_MD_keep_236 : decode prog_14_method_45_code 236 = .ok (.iconst 4, 1) := by decide +kernel
theorem d_MD_keep_237 : decode prog_14_method_45_code 237 = .ok (.iload_n 1, 1) := by decide +kernel
theorem d_MD_keep_238 : decode prog_14_method_45_code 238 = .ok (.iadd, 1) := by decide +kernel
theorem d_MD_keep_239 : decode prog_14_method_45_code 239 = .ok (.iaload, 1) := by decide +kernel
theorem d_MD_keep_240 : decode prog_14_method_45_code 240 = .ok (.iastore, 1) := by decide +kernel
theorem d_MD_keep_241 : decode prog_14_method_45_code 241 = .ok (.iconst 0, 1) := by decide +kernel
theorem d_MD_keep_242 : decode prog_14_method_45_code 242 = .ok (.istore_n 2, 1) := by decide +kernel
theorem d_MD_keep_243 : decode prog_14_method_45_code 243 = .ok (.iload_n 2, 1) := by decide +kernel
theorem d_MD_keep_244 : decode prog_14_method_45_code 244 = .ok (.bipush 102, 2) := by decide +kernel
theorem d_MD_keep_246 : decode prog_14_method_45_code 246 = .ok (.if_icmp .ge 57, 3) := by decide +kernel
theorem d_MD_keep_249 : decode prog_14_method_45_code 249 = .ok (.aload_n 0, 1) := by decide +kernel
theorem d_MD_keep_250 : decode prog_14_method_45_code 250 = .ok (.getfield 100, 3) := by decide +kernel
theorem d_MD_keep_253 : decode prog_14_method_45_code 253 = .ok (.bipush 102, 2) := by decide +kernel
theorem d_MD_keep_255 : decode prog_14_method_45_code 255 = .ok (.iload_n 1, 1) := by decide +kernel
theorem d_MD_keep_256 : decode prog_14_method_45_code 256 = .ok (.imul, 1) := by decide +kernel
theorem d_MD_keep_257 : decode prog_14_method_45_code 257 = .ok (.iload_n 2, 1) := by decide +kernel
theorem d_MD_keep_258 : decode prog_14_method_45_code 258 = .ok (.iadd, 1) := by decide +kernel
theorem d_MD_keep_259 : decode prog_14_method_45_code 259 = .ok (.aload_n 0, 1) := by decide +kernel
theorem d_MD_keep_260 : decode prog_14_method_45_code 260 = .ok (.getfield 100, 3) := by decide +kernel
theorem d_MD_keep_263 : decode prog_14_method_45_code 263 = .ok (.bipush 102, 2) := by decide +kernel
theorem d_MD_keep_265 : decode prog_14_method_45_code 265 = .ok (.iconst 4, 1) := by decide +kernel
theorem d_MD_keep_266 : decode prog_14_method_45_code 266 = .ok (.iload_n 1, 1) := by decide +kernel
theorem d_MD_keep_267 : decode prog_14_method_45_code 267 = .ok (.iadd, 1) := by decide +kernel
theorem d_MD_keep_268 : decode prog_14_method_45_code 268 = .ok (.imul, 1) := by decide +kernel
theorem d_MD_keep_269 : decode prog_14_method_45_code 269 = .ok (.iload_n 2, 1) := by decide +kernel
theorem d_MD_keep_270 : decode prog_14_method_45_code 270 = .ok (.iadd, 1) := by decide +kernel
theorem d_MD_keep_271 : decode prog_14_method_45_code 271 = .ok (.laload, 1) := by decide +kernel
theorem d_MD_keep_272 : decode prog_14_method_45_code 272 = .ok (.lastore, 1) := by decide +kernel
theorem d_MD_keep_273 : decode prog_14_method_45_code 273 = .ok (.aload_n 0, 1) := by decide +kernel
theorem d_MD_keep_274 : decode prog_14_method_45_code 274 = .ok (.getfield 103, 3) := by decide +kernel
theorem d_MD_keep_277 : decode prog_14_method_45_code 277 = .ok (.bipush 102, 2) := by decide +kernel
theorem d_MD_keep_279 : decode prog_14_method_45_code 279 = .ok (.iload_n 1, 1) := by decide +kernel
theorem d_MD_keep_280 : decode prog_14_method_45_code 280 = .ok (.imul, 1) := by decide +kernel
theorem d_MD_keep_281 : decode prog_14_method_45_code 281 = .ok (.iload_n 2, 1) := by decide +kernel
theorem d_MD_keep_282 : decode prog_14_method_45_code 282 = .ok (.iadd, 1) := by decide +kernel
theorem d_MD_keep_283 : decode prog_14_method_45_code 283 = .ok (.aload_n 0, 1) := by decide +kernel
theorem d_MD_keep_284 : decode prog_14_method_45_code 284 = .ok (.getfield 103, 3) := by decide +kernel
theorem d_MD_keep_287 : decode prog_14_method_45_code 287 = .ok (.bipush 102, 2) := by decide +kernel
theorem d_MD_keep_289 : decode prog_14_method_45_code 289 = .ok (.iconst 4, 1) := by decide +kernel
theorem d_MD_keep_290 : decode prog_14_method_45_code 290 = .ok (.iload_n 1, 1) := by decide +kernel
theorem d_MD_keep_291 : decode prog_14_method_45_code 291 = .ok (.iadd, 1) := by decide +kernel
theorem d_MD_keep_292 : decode prog_14_method_45_code 292 = .ok (.imul, 1) := by decide +kernel
theorem d_MD_keep_293 : decode prog_14_method_45_code 293 = .ok (.iload_n 2, 1) := by decide +kernel
theorem d_MD_keep_294 : decode prog_14_method_45_code 294 = .ok (.iadd, 1) := by decide +kernel
theorem d_MD_keep_295 : decode prog_14_method_45_code 295 = .ok (.laload, 1) := by decide +kernel
theorem d_MD_keep_296 : decode prog_14_method_45_code 296 = .ok (.lastore, 1) := by decide +kernel
theorem d_MD_keep_297 : decode prog_14_method_45_code 297 = .ok (.iinc 2 1, 3) := by decide +kernel
theorem d_MD_keep_300 : decode prog_14_method_45_code 300 = .ok (.goto (-57), 3) := by decide +kernel
theorem d_MD_keep_303 : decode prog_14_method_45_code 303 = .ok (.iconst 0, 1) := by decide +kernel
theorem d_MD_keep_304 : decode prog_14_method_45_code 304 = .ok (.istore_n 2, 1) := by decide +kernel
theorem d_MD_keep_305 : decode prog_14_method_45_code 305 = .ok (.iload_n 2, 1) := by decide +kernel
theorem d_MD_keep_306 : decode prog_14_method_45_code 306 = .ok (.aload_n 0, 1) := by decide +kernel
theorem d_MD_keep_307 : decode prog_14_method_45_code 307 = .ok (.getfield 57, 3) := by decide +kernel
theorem d_MD_keep_310 : decode prog_14_method_45_code 310 = .ok (.iload_n 1, 1) := by decide +kernel
theorem d_MD_keep_311 : decode prog_14_method_45_code 311 = .ok (.iaload, 1) := by decide +kernel
theorem d_MD_keep_312 : decode prog_14_method_45_code 312 = .ok (.if_icmp .ge 29, 3) := by decide +kernel
theorem d_MD_keep_341 : decode prog_14_method_45_code 341 = .ok (.iinc 1 1, 3) := by decide +kernel
theorem d_MD_keep_344 : decode prog_14_method_45_code 344 = .ok (.goto (-141), 3) := by decide +kernel
theorem d_MD_keep_315 : decode prog_14_method_45_code 315 = .ok (.aload_n 0, 1) := by decide +kernel
theorem d_MD_keep_316 : decode prog_14_method_45_code 316 = .ok (.sipush 300, 3) := by decide +kernel
theorem d_MD_keep_319 : decode prog_14_method_45_code 319 = .ok (.iload_n 1, 1) := by decide +kernel
theorem d_MD_keep_320 : decode prog_14_method_45_code 320 = .ok (.imul, 1) := by decide +kernel
theorem d_MD_keep_321 : decode prog_14_method_45_code 321 = .ok (.iload_n 2, 1) := by decide +kernel
theorem d_MD_keep_322 : decode prog_14_method_45_code 322 = .ok (.iadd, 1) := by decide +kernel
theorem d_MD_keep_323 : decode prog_14_method_45_code 323 = .ok (.sipush 300, 3) := by decide +kernel
theorem d_MD_keep_326 : decode prog_14_method_45_code 326 = .ok (.iconst 4, 1) := by decide +kernel
theorem d_MD_keep_327 : decode prog_14_method_45_code 327 = .ok (.iload_n 1, 1) := by decide +kernel
theorem d_MD_keep_328 : decode prog_14_method_45_code 328 = .ok (.iadd, 1) := by decide +kernel
theorem d_MD_keep_329 : decode prog_14_method_45_code 329 = .ok (.imul, 1) := by decide +kernel
theorem d_MD_keep_330 : decode prog_14_method_45_code 330 = .ok (.iload_n 2, 1) := by decide +kernel
theorem d_MD_keep_331 : decode prog_14_method_45_code 331 = .ok (.iadd, 1) := by decide +kernel
theorem d_MD_keep_332 : decode prog_14_method_45_code 332 = .ok (.invokevirtual 462, 3) := by decide +kernel
theorem k_MD_keepEvent : mt_OK m_MD_keepEvent 2 1 := ⟨gwi_2004, gwi_146, ⟨by decide +kernel, by decide +kernel, by decide +kernel⟩, fun h => absurd h (by decide), fun _ => ⟨gwi_2003, gwi_100⟩, fun h => absurd h (by decide)⟩
theorem l_MD_462 : ml_OK "PlainMusicModel" 462 ⟨"PlainMusicModel", "keepEvent", "(II)V"⟩ := Or.inl gwi_2001
theorem d_MD_keep_335 : decode prog_14_method_45_code 335 = .ok (.iinc 2 1, 3) := by decide +kernel
theorem d_MD_keep_338 : decode prog_14_method_45_code 338 = .ok (.goto (-33), 3) := by decide +kernel
theorem s_MD_keepEvent {G : cx_T} {h : ah_T} (hx : mi h) {a1 : Int} {a2 : Int} (la1 : 0 ≤ a1) (ua1 : a1 ≤ 1199) (la2 : 1200 ≤ a2) (ua2 : a2 ≤ 2399) : con G 0 0 0 m_MD_keepEvent [av_R (some 170), av_I a1, av_I a2] h (fun r h' => r = none ∧ (EC h h' a1.toNat a2.toNat) ∧ kM (pm [] [187, 188, 189, 190, 191, 192, 193, 194, 195, 196, 197, 198]) h h') := by
  refine con_of (L := [some (av_R (some 170)), some (av_I a1), some (av_I a2), none]) (by decide +kernel) (Nat.le_of_ble_eq_true rfl) rfl ?_
  have k0 : kM (pm [] [187, 188, 189, 190, 191, 192, 193, 194, 195, 196, 197, 198]) h h := kM_0 hx
  refine A_aload_n 0 d_MD_keepEvent_0 rfl rfl ?_
  refine A_getAv (z := some 187) T_ok d_MD_keepEvent_1 f_MD_63 (mi_s k0.1 sf_170) (mi_r k0.1 rfm_29) ?_
  refine A_iload_n 1 d_MD_keepEvent_4 rfl rfl ?_
  refine A_aload_n 0 d_MD_keepEvent_5 rfl rfl ?_
  refine A_getAv (z := some 187) T_ok d_MD_keepEvent_6 f_MD_63 (mi_s k0.1 sf_170) (mi_r k0.1 rfm_29) ?_
  refine A_pc (pc' := 9) rfl ?_
  refine A_iload_n 2 d_MD_keepEvent_9 rfl rfl ?_
  refine A_laloadn (lo := 0) (hi := 2000000000000000) d_MD_keepEvent_10 (mi_s k0.1 sf_187) (by omega) (by omega) (mi_l k0.1 (by decide) (mq_187 _)) (fun x3 ex3 _ _ => ?_)
  refine A_lastorek (KR := kM (pm [] [187, 188, 189, 190, 191, 192, 193, 194, 195, 196, 197, 198]) h) d_MD_keepEvent_11 (mi_s k0.1 sf_187) (by omega) (by omega) (kM_l k0 (by decide) rfl (mq_187 _) (by omega) (by omega)) (fun h4 k5 eh4 => ?_)
  refine A_aload_n 0 d_MD_keepEvent_12 rfl rfl ?_
  refine A_getAv (z := some 188) T_ok d_MD_keepEvent_13 f_MD_66 (mi_s k5.1 sf_170) (mi_r k5.1 rfm_30) ?_
  refine A_iload_n 1 d_MD_keepEvent_16 rfl rfl ?_
  refine A_pc (pc' := 17) rfl ?_
  refine A_aload_n 0 d_MD_keepEvent_17 rfl rfl ?_
  refine A_getAv (z := some 188) T_ok d_MD_keepEvent_18 f_MD_66 (mi_s k5.1 sf_170) (mi_r k5.1 rfm_30) ?_
  refine A_iload_n 2 d_MD_keepEvent_21 rfl rfl ?_
  refine A_laloadn (lo := 0) (hi := 1000000000000) d_MD_keepEvent_22 (mi_s k5.1 sf_188) (by omega) (by omega) (mi_l k5.1 (by decide) (mq_188 _)) (fun x8 ex8 _ _ => ?_)
  have fx8 := ex8.trans ((eh4.2.1 188 (a2).toNat (fun q => absurd q (by decide))))
  refine A_lastorek (KR := kM (pm [] [187, 188, 189, 190, 191, 192, 193, 194, 195, 196, 197, 198]) h) d_MD_keepEvent_23 (mi_s k5.1 sf_188) (by omega) (by omega) (kM_l k5 (by decide) rfl (mq_188 _) (by omega) (by omega)) (fun h9 k10 eh9 => ?_)
  refine A_aload_n 0 d_MD_keepEvent_24 rfl rfl ?_
  refine A_pc (pc' := 25) rfl ?_
  refine A_getAv (z := some 189) T_ok d_MD_keepEvent_25 f_MD_69 (mi_s k10.1 sf_170) (mi_r k10.1 rfm_31) ?_
  refine A_iload_n 1 d_MD_keepEvent_28 rfl rfl ?_
  refine A_aload_n 0 d_MD_keepEvent_29 rfl rfl ?_
  refine A_getAv (z := some 189) T_ok d_MD_keepEvent_30 f_MD_69 (mi_s k10.1 sf_170) (mi_r k10.1 rfm_31) ?_
  refine A_iload_n 2 d_MD_keepEvent_33 rfl rfl ?_
  refine A_laloadn (lo := 0) (hi := 4294967296) d_MD_keepEvent_34 (mi_s k10.1 sf_189) (by omega) (by omega) (mi_l k10.1 (by decide) (mq_189 _)) (fun x13 ex13 _ _ => ?_)
  have fx13 := ex13.trans (((eh9.2.1 189 (a2).toNat (fun q => absurd q (by decide))).trans (eh4.2.1 189 (a2).toNat (fun q => absurd q (by decide)))))
  refine A_pc (pc' := 35) rfl ?_
  refine A_lastorek (KR := kM (pm [] [187, 188, 189, 190, 191, 192, 193, 194, 195, 196, 197, 198]) h) d_MD_keepEvent_35 (mi_s k10.1 sf_189) (by omega) (by omega) (kM_l k10 (by decide) rfl (mq_189 _) (by omega) (by omega)) (fun h14 k15 eh14 => ?_)
  refine A_aload_n 0 d_MD_keepEvent_36 rfl rfl ?_
  refine A_getAv (z := some 190) T_ok d_MD_keepEvent_37 f_MD_72 (mi_s k15.1 sf_170) (mi_r k15.1 rfm_32) ?_
  refine A_iload_n 1 d_MD_keepEvent_40 rfl rfl ?_
  refine A_aload_n 0 d_MD_keepEvent_41 rfl rfl ?_
  refine A_getAv (z := some 190) T_ok d_MD_keepEvent_42 f_MD_72 (mi_s k15.1 sf_170) (mi_r k15.1 rfm_32) ?_
  refine A_pc (pc' := 45) rfl ?_
  refine A_iload_n 2 d_MD_keepEvent_45 rfl rfl ?_
  refine A_laloadn (lo := 0) (hi := 137438953472) d_MD_keepEvent_46 (mi_s k15.1 sf_190) (by omega) (by omega) (mi_l k15.1 (by decide) (mq_190 _)) (fun x18 ex18 _ _ => ?_)
  have fx18 := ex18.trans (((eh14.2.1 190 (a2).toNat (fun q => absurd q (by decide))).trans ((eh9.2.1 190 (a2).toNat (fun q => absurd q (by decide))).trans (eh4.2.1 190 (a2).toNat (fun q => absurd q (by decide))))))
  refine A_lastorek (KR := kM (pm [] [187, 188, 189, 190, 191, 192, 193, 194, 195, 196, 197, 198]) h) d_MD_keepEvent_47 (mi_s k15.1 sf_190) (by omega) (by omega) (kM_l k15 (by decide) rfl (mq_190 _) (by omega) (by omega)) (fun h19 k20 eh19 => ?_)
  refine A_aload_n 0 d_MD_keepEvent_48 rfl rfl ?_
  refine A_getAv (z := some 191) T_ok d_MD_keepEvent_49 f_MD_75 (mi_s k20.1 sf_170) (mi_r k20.1 rfm_33) ?_
  refine A_iload_n 1 d_MD_keepEvent_52 rfl rfl ?_
  refine A_pc (pc' := 53) rfl ?_
  refine A_aload_n 0 d_MD_keepEvent_53 rfl rfl ?_
  refine A_getAv (z := some 191) T_ok d_MD_keepEvent_54 f_MD_75 (mi_s k20.1 sf_170) (mi_r k20.1 rfm_33) ?_
  refine A_iload_n 2 d_MD_keepEvent_57 rfl rfl ?_
  refine A_ialoadn (lo := 0) (hi := 4) d_MD_keepEvent_58 (mi_s k20.1 sf_191) (by omega) (by omega) (mi_g k20.1 (by decide) (mr_191 _)) (fun x23 ex23 _ _ => ?_)
  refine A_iastorek (KR := kM (pm [] [187, 188, 189, 190, 191, 192, 193, 194, 195, 196, 197, 198]) h) d_MD_keepEvent_59 (mi_s k20.1 sf_191) (by omega) (by omega) (kM_i k20 (by decide) rfl (mr_191 _) (by omega) (by omega)) (fun h24 k25 eh24 => ?_)
  refine A_iconst d_MD_keepEvent_60 rfl ?_
  refine A_pc (pc' := 61) rfl ?_
  refine A_istore_n 3 (L' := [some (av_R (some 170)), some (av_I a1), some (av_I a2), some (av_I 0)]) d_MD_keepEvent_61 rfl (Nat.le_of_ble_eq_true rfl) rfl ?_
  have lp62 : ∀ (n : Nat) (i26 : Int) (h27 : ah_T) , 0 ≤ i26 → i26 ≤ 4 → (h27.2.2.1 = h24.2.2.1 ∧ h27.2.1 196 = h.2.1 196) → kM (pm [] [187, 188, 189, 190, 191, 192, 193, 194, 195, 196, 197, 198]) h h27 → (5 - i26).toNat < n → aw G (rm_R 0 0 0) m_MD_keepEvent 0 0 62 [some (av_R (some 170)), some (av_I a1), some (av_I a2), some (av_I i26)] [] h27 (fun r h' => r = none ∧ (EC h h' a1.toNat a2.toNat) ∧ kM (pm [] [187, 188, 189, 190, 191, 192, 193, 194, 195, 196, 197, 198]) h h') := by
    intro n
    induction n with
    | zero => intro i26 h27 _ _ _ _ hm; omega
    | succ n ih62 =>
      intro i26 h27 hl0 hl1 hinv k28 hm
      refine A_iload_n 3 d_MD_keepEvent_62 rfl rfl ?_
      refine A_iconst d_MD_keepEvent_63 rfl ?_
      refine A_icmp_ge (tgt := 113) d_MD_keepEvent_64 (by decide) (fun c29 => ?_) (fun c29 => ?_)
      · refine A_aload_n 0 d_MD_keepEvent_113 rfl rfl ?_
        refine A_getAv (z := some 194) T_ok d_MD_keepEvent_114 f_MD_84 (mi_s k28.1 sf_170) (mi_r k28.1 rfm_36) ?_
        refine A_iload_n 1 d_MD_keepEvent_117 rfl rfl ?_
        refine A_aload_n 0 d_MD_keepEvent_118 rfl rfl ?_
        refine A_getAv (z := some 194) T_ok d_MD_keepEvent_119 f_MD_84 (mi_s k28.1 sf_170) (mi_r k28.1 rfm_36) ?_
        refine A_pc (pc' := 122) rfl ?_
        refine A_iload_n 2 d_MD_keepEvent_122 rfl rfl ?_
        refine A_ialoadf d_MD_keepEvent_123 (mi_s k28.1 sf_194) (by omega) (by omega) (fun x32 ex32 _ _ => ?_)
        refine A_iastorek (KR := kM (pm [] [187, 188, 189, 190, 191, 192, 193, 194, 195, 196, 197, 198]) h) d_MD_keepEvent_124 (mi_s k28.1 sf_194) (by omega) (by omega) (kM_i k28 (by decide) rfl (mr_194 _) (by omega) (by omega)) (fun h33 k34 eh33 => ?_)
        refine A_aload_n 0 d_MD_keepEvent_125 rfl rfl ?_
        refine A_getAv (z := some 195) T_ok d_MD_keepEvent_126 f_MD_87 (mi_s k34.1 sf_170) (mi_r k34.1 rfm_37) ?_
        refine A_iload_n 1 d_MD_keepEvent_129 rfl rfl ?_
        refine A_pc (pc' := 130) rfl ?_
        refine A_aload_n 0 d_MD_keepEvent_130 rfl rfl ?_
        refine A_getAv (z := some 195) T_ok d_MD_keepEvent_131 f_MD_87 (mi_s k34.1 sf_170) (mi_r k34.1 rfm_37) ?_
        refine A_iload_n 2 d_MD_keepEvent_134 rfl rfl ?_
        refine A_zaloadn d_MD_keepEvent_135 (mi_s k34.1 sf_195) (by omega) (by omega) (fun x37 ex37 bx37 => ?_)
        refine A_zastorek (KR := kM (pm [] [187, 188, 189, 190, 191, 192, 193, 194, 195, 196, 197, 198]) h) d_MD_keepEvent_136 (mi_s k34.1 sf_195) (by omega) (by omega) (by omega) (kM_i k34 (by decide) rfl (mr_195 _) (by omega) (by omega)) (fun h38 k39 eh38 => ?_)
        refine A_aload_n 0 d_MD_keepEvent_137 rfl rfl ?_
        refine A_pc (pc' := 138) rfl ?_
        refine A_getAv (z := some 196) T_ok d_MD_keepEvent_138 f_MD_91 (mi_s k39.1 sf_170) (mi_r k39.1 rfm_38) ?_
        refine A_iload_n 1 d_MD_keepEvent_141 rfl rfl ?_
        refine A_aload_n 0 d_MD_keepEvent_142 rfl rfl ?_
        refine A_getAv (z := some 196) T_ok d_MD_keepEvent_143 f_MD_91 (mi_s k39.1 sf_170) (mi_r k39.1 rfm_38) ?_
        refine A_iload_n 2 d_MD_keepEvent_146 rfl rfl ?_
        refine A_ialoadn (lo := 0) (hi := 101) d_MD_keepEvent_147 (mi_s k39.1 sf_196) (by omega) (by omega) (mi_g k39.1 (by decide) (mr_196 _)) (fun x42 ex42 _ _ => ?_)
        have fx42 := ex42.trans (((eh38.1 196 (a2).toNat (fun q => absurd q (by decide))).trans (eh33.1 196 (a2).toNat (fun q => absurd q (by decide)))))
        refine A_pc (pc' := 148) rfl ?_
        refine A_iastorek (KR := kM (pm [] [187, 188, 189, 190, 191, 192, 193, 194, 195, 196, 197, 198]) h) d_MD_keepEvent_148 (mi_s k39.1 sf_196) (by omega) (by omega) (kM_i k39 (by decide) rfl (mr_196 _) (by omega) (by omega)) (fun h43 k44 eh43 => ?_)
        refine A_aload_n 0 d_MD_keepEvent_149 rfl rfl ?_
        refine A_getAv (z := some 197) T_ok d_MD_keepEvent_150 f_MD_94 (mi_s k44.1 sf_170) (mi_r k44.1 rfm_39) ?_
        refine A_iload_n 1 d_MD_keepEvent_153 rfl rfl ?_
        refine A_aload_n 0 d_MD_keepEvent_154 rfl rfl ?_
        refine A_getAv (z := some 197) T_ok d_MD_keepEvent_155 f_MD_94 (mi_s k44.1 sf_170) (mi_r k44.1 rfm_39) ?_
        refine A_pc (pc' := 158) rfl ?_
        refine A_iload_n 2 d_MD_keepEvent_158 rfl rfl ?_
        refine A_ialoadn (lo := 0) (hi := 64) d_MD_keepEvent_159 (mi_s k44.1 sf_197) (by omega) (by omega) (mi_g k44.1 (by decide) (mr_197 _)) (fun x47 ex47 _ _ => ?_)
        refine A_iastorek (KR := kM (pm [] [187, 188, 189, 190, 191, 192, 193, 194, 195, 196, 197, 198]) h) d_MD_keepEvent_160 (mi_s k44.1 sf_197) (by omega) (by omega) (kM_i k44 (by decide) rfl (mr_197 _) (by omega) (by omega)) (fun h48 k49 eh48 => ?_)
        refine A_aload_n 0 d_MD_keepEvent_161 rfl rfl ?_
        refine A_getAv (z := some 198) T_ok d_MD_keepEvent_162 f_MD_97 (mi_s k49.1 sf_170) (mi_r k49.1 rfm_40) ?_
        refine A_iload_n 1 d_MD_keepEvent_165 rfl rfl ?_
        refine A_pc (pc' := 166) rfl ?_
        refine A_aload_n 0 d_MD_keepEvent_166 rfl rfl ?_
        refine A_getAv (z := some 198) T_ok d_MD_keepEvent_167 f_MD_97 (mi_s k49.1 sf_170) (mi_r k49.1 rfm_40) ?_
        refine A_iload_n 2 d_MD_keepEvent_170 rfl rfl ?_
        refine A_ialoadn (lo := 0) (hi := 3) d_MD_keepEvent_171 (mi_s k49.1 sf_198) (by omega) (by omega) (mi_g k49.1 (by decide) (mr_198 _)) (fun x52 ex52 _ _ => ?_)
        refine A_iastorek (KR := kM (pm [] [187, 188, 189, 190, 191, 192, 193, 194, 195, 196, 197, 198]) h) d_MD_keepEvent_172 (mi_s k49.1 sf_198) (by omega) (by omega) (kM_i k49 (by decide) rfl (mr_198 _) (by omega) (by omega)) (fun h53 k54 eh53 => ?_)
        exact A_vret d_MD_keepEvent_173 (by decide) rfl ⟨rfl, ⟨(by intro n ha; simp only [List.mem_cons, List.not_mem_nil, or_false] at ha; rcases ha with rfl | rfl | rfl | rfl ; exact ⟨((((congrFun (congrFun eh53.2.2 187) a1.toNat).trans ((congrFun (congrFun eh48.2.2 187) a1.toNat).trans ((congrFun (congrFun eh43.2.2 187) a1.toNat).trans ((congrFun (congrFun eh38.2.2 187) a1.toNat).trans ((congrFun (congrFun eh33.2.2 187) a1.toNat).trans (congrFun (congrFun hinv.1 187) a1.toNat))))))).trans (((congrFun (congrFun eh24.2.2 _) _).trans ((eh19.2.1 _ _ (fun q => absurd q (by decide))).trans ((eh14.2.1 _ _ (fun q => absurd q (by decide))).trans ((eh9.2.1 _ _ (fun q => absurd q (by decide))).trans eh4.2.2)))).trans ex3)), fun k hk => ((congrFun (congrFun eh53.2.2 187) k).trans ((congrFun (congrFun eh48.2.2 187) k).trans ((congrFun (congrFun eh43.2.2 187) k).trans ((congrFun (congrFun eh38.2.2 187) k).trans ((congrFun (congrFun eh33.2.2 187) k).trans ((congrFun (congrFun hinv.1 187) k).trans ((congrFun (congrFun eh24.2.2 187) k).trans ((eh19.2.1 187 k (fun q => absurd q (by decide))).trans ((eh14.2.1 187 k (fun q => absurd q (by decide))).trans ((eh9.2.1 187 k (fun q => absurd q (by decide))).trans (eh4.2.1 187 k (fun _ => hk))))))))))))⟩ ; exact ⟨((((congrFun (congrFun eh53.2.2 188) a1.toNat).trans ((congrFun (congrFun eh48.2.2 188) a1.toNat).trans ((congrFun (congrFun eh43.2.2 188) a1.toNat).trans ((congrFun (congrFun eh38.2.2 188) a1.toNat).trans ((congrFun (congrFun eh33.2.2 188) a1.toNat).trans (congrFun (congrFun hinv.1 188) a1.toNat))))))).trans (((congrFun (congrFun eh24.2.2 _) _).trans ((eh19.2.1 _ _ (fun q => absurd q (by decide))).trans ((eh14.2.1 _ _ (fun q => absurd q (by decide))).trans eh9.2.2))).trans fx8)), fun k hk => ((congrFun (congrFun eh53.2.2 188) k).trans ((congrFun (congrFun eh48.2.2 188) k).trans ((congrFun (congrFun eh43.2.2 188) k).trans ((congrFun (congrFun eh38.2.2 188) k).trans ((congrFun (congrFun eh33.2.2 188) k).trans ((congrFun (congrFun hinv.1 188) k).trans ((congrFun (congrFun eh24.2.2 188) k).trans ((eh19.2.1 188 k (fun q => absurd q (by decide))).trans ((eh14.2.1 188 k (fun q => absurd q (by decide))).trans ((eh9.2.1 188 k (fun _ => hk)).trans (eh4.2.1 188 k (fun q => absurd q (by decide)))))))))))))⟩ ; exact ⟨((((congrFun (congrFun eh53.2.2 189) a1.toNat).trans ((congrFun (congrFun eh48.2.2 189) a1.toNat).trans ((congrFun (congrFun eh43.2.2 189) a1.toNat).trans ((congrFun (congrFun eh38.2.2 189) a1.toNat).trans ((congrFun (congrFun eh33.2.2 189) a1.toNat).trans (congrFun (congrFun hinv.1 189) a1.toNat))))))).trans (((congrFun (congrFun eh24.2.2 _) _).trans ((eh19.2.1 _ _ (fun q => absurd q (by decide))).trans eh14.2.2)).trans fx13)), fun k hk => ((congrFun (congrFun eh53.2.2 189) k).trans ((congrFun (congrFun eh48.2.2 189) k).trans ((congrFun (congrFun eh43.2.2 189) k).trans ((congrFun (congrFun eh38.2.2 189) k).trans ((congrFun (congrFun eh33.2.2 189) k).trans ((congrFun (congrFun hinv.1 189) k).trans ((congrFun (congrFun eh24.2.2 189) k).trans ((eh19.2.1 189 k (fun q => absurd q (by decide))).trans ((eh14.2.1 189 k (fun _ => hk)).trans ((eh9.2.1 189 k (fun q => absurd q (by decide))).trans (eh4.2.1 189 k (fun q => absurd q (by decide)))))))))))))⟩ ; exact ⟨((((congrFun (congrFun eh53.2.2 190) a1.toNat).trans ((congrFun (congrFun eh48.2.2 190) a1.toNat).trans ((congrFun (congrFun eh43.2.2 190) a1.toNat).trans ((congrFun (congrFun eh38.2.2 190) a1.toNat).trans ((congrFun (congrFun eh33.2.2 190) a1.toNat).trans (congrFun (congrFun hinv.1 190) a1.toNat))))))).trans (((congrFun (congrFun eh24.2.2 _) _).trans eh19.2.2).trans fx18)), fun k hk => ((congrFun (congrFun eh53.2.2 190) k).trans ((congrFun (congrFun eh48.2.2 190) k).trans ((congrFun (congrFun eh43.2.2 190) k).trans ((congrFun (congrFun eh38.2.2 190) k).trans ((congrFun (congrFun eh33.2.2 190) k).trans ((congrFun (congrFun hinv.1 190) k).trans ((congrFun (congrFun eh24.2.2 190) k).trans ((eh19.2.1 190 k (fun _ => hk)).trans ((eh14.2.1 190 k (fun q => absurd q (by decide))).trans ((eh9.2.1 190 k (fun q => absurd q (by decide))).trans (eh4.2.1 190 k (fun q => absurd q (by decide)))))))))))))⟩), ((eh53.1 _ _ (fun q => absurd q (by decide))).trans ((eh48.1 _ _ (fun q => absurd q (by decide))).trans eh43.2.1)).trans (fx42.trans (congrFun hinv.2 _)), fun k hk => ((eh53.1 196 k (fun q => absurd q (by decide))).trans ((eh48.1 196 k (fun q => absurd q (by decide))).trans ((eh43.1 196 k (fun _ => hk)).trans ((eh38.1 196 k (fun q => absurd q (by decide))).trans ((eh33.1 196 k (fun q => absurd q (by decide))).trans (congrFun hinv.2 k))))))⟩, k54⟩
      · refine A_aload_n 0 d_MD_keepEvent_67 rfl rfl ?_
        refine A_getAv (z := some 192) T_ok d_MD_keepEvent_68 f_MD_78 (mi_s k28.1 sf_170) (mi_r k28.1 rfm_34) ?_
        refine A_iconst d_MD_keepEvent_71 rfl ?_
        refine A_iload_n 1 d_MD_keepEvent_72 rfl rfl ?_
        refine A_imulv (z := (4 * a1)) d_MD_keepEvent_73 (w32_to (by omega) (by unfold i32; omega)) ?_
        refine A_pc (pc' := 74) rfl ?_
        refine A_iload_n 3 d_MD_keepEvent_74 rfl rfl ?_
        refine A_iaddv (z := (4 * a1 + i26)) d_MD_keepEvent_75 (w32_to (by omega) (by unfold i32; omega)) ?_
        refine A_aload_n 0 d_MD_keepEvent_76 rfl rfl ?_
        refine A_getAv (z := some 192) T_ok d_MD_keepEvent_77 f_MD_78 (mi_s k28.1 sf_170) (mi_r k28.1 rfm_34) ?_
        refine A_iconst d_MD_keepEvent_80 rfl ?_
        refine A_iload_n 2 d_MD_keepEvent_81 rfl rfl ?_
        refine A_pc (pc' := 82) rfl ?_
        refine A_imulv (z := (4 * a2)) d_MD_keepEvent_82 (w32_to (by omega) (by unfold i32; omega)) ?_
        refine A_iload_n 3 d_MD_keepEvent_83 rfl rfl ?_
        refine A_iaddv (z := (4 * a2 + i26)) d_MD_keepEvent_84 (w32_to (by omega) (by unfold i32; omega)) ?_
        refine A_ialoadn (lo := (-2)) (hi := 109) d_MD_keepEvent_85 (mi_s k28.1 sf_192) (by omega) (by omega) (mi_g k28.1 (by decide) (mr_192 _)) (fun x57 ex57 _ _ => ?_)
        refine A_iastorek (KR := kM (pm [] [187, 188, 189, 190, 191, 192, 193, 194, 195, 196, 197, 198]) h) d_MD_keepEvent_86 (mi_s k28.1 sf_192) (by omega) (by omega) (kM_i k28 (by decide) rfl (mr_192 _) (by omega) (by omega)) (fun h58 k59 eh58 => ?_)
        refine A_aload_n 0 d_MD_keepEvent_87 rfl rfl ?_
        refine A_pc (pc' := 88) rfl ?_
        refine A_getAv (z := some 193) T_ok d_MD_keepEvent_88 f_MD_81 (mi_s k59.1 sf_170) (mi_r k59.1 rfm_35) ?_
        refine A_iconst d_MD_keepEvent_91 rfl ?_
        refine A_iload_n 1 d_MD_keepEvent_92 rfl rfl ?_
        refine A_imulv (z := (4 * a1)) d_MD_keepEvent_93 (w32_to (by omega) (by unfold i32; omega)) ?_
        refine A_iload_n 3 d_MD_keepEvent_94 rfl rfl ?_
        refine A_iaddv (z := (4 * a1 + i26)) d_MD_keepEvent_95 (w32_to (by omega) (by unfold i32; omega)) ?_
        refine A_pc (pc' := 96) rfl ?_
        refine A_aload_n 0 d_MD_keepEvent_96 rfl rfl ?_
        refine A_getAv (z := some 193) T_ok d_MD_keepEvent_97 f_MD_81 (mi_s k59.1 sf_170) (mi_r k59.1 rfm_35) ?_
        refine A_iconst d_MD_keepEvent_100 rfl ?_
        refine A_iload_n 2 d_MD_keepEvent_101 rfl rfl ?_
        refine A_imulv (z := (4 * a2)) d_MD_keepEvent_102 (w32_to (by omega) (by unfold i32; omega)) ?_
        refine A_iload_n 3 d_MD_keepEvent_103 rfl rfl ?_
        refine A_pc (pc' := 104) rfl ?_
        refine A_iaddv (z := (4 * a2 + i26)) d_MD_keepEvent_104 (w32_to (by omega) (by unfold i32; omega)) ?_
        refine A_ialoadn (lo := 0) (hi := 62) d_MD_keepEvent_105 (mi_s k59.1 sf_193) (by omega) (by omega) (mi_g k59.1 (by decide) (mr_193 _)) (fun x62 ex62 _ _ => ?_)
        refine A_iastorek (KR := kM (pm [] [187, 188, 189, 190, 191, 192, 193, 194, 195, 196, 197, 198]) h) d_MD_keepEvent_106 (mi_s k59.1 sf_193) (by omega) (by omega) (kM_i k59 (by decide) rfl (mr_193 _) (by omega) (by omega)) (fun h63 k64 eh63 => ?_)
        refine A_iincv (z := (i26 + 1)) (L' := [some (av_R (some 170)), some (av_I a1), some (av_I a2), some (av_I (i26 + 1))]) d_MD_keepEvent_107 rfl (w32_to (by omega) (by unfold i32; omega)) rfl ?_
        refine A_goto (tgt := 62) d_MD_keepEvent_110 (by decide) ?_
        exact ih62 (i26 + 1) h63 (by omega) (by omega) ⟨(eh63.2.2.trans (eh58.2.2.trans hinv.1)), funext (fun k => ((eh63.1 196 k (fun q => absurd q (by decide))).trans ((eh58.1 196 k (fun q => absurd q (by decide))).trans (congrFun hinv.2 k))))⟩ k64 (by omega)
  exact lp62 _ 0 h24 (by omega) (by omega) ⟨rfl, funext (fun k => ((eh24.1 196 k (fun q => absurd q (by decide))).trans ((congrFun (congrFun eh19.1 196) k).trans ((congrFun (congrFun eh14.1 196) k).trans ((congrFun (congrFun eh9.1 196) k).trans (congrFun (congrFun eh4.1 196) k))))))⟩ k25 (Nat.lt_succ_self _)
theorem s_MD_keep {G : cx_T} {h : ah_T} (hx : mi h)  (hpv : PV h) : con G 1 0 0 m_MD_keep [av_R (some 170)] h (fun r h' => r = none ∧ (KS h' ∧ KO h' ∧ RL h') ∧ kM (pm [] [172, 173, 174, 175, 176, 177, 178, 179, 180, 181, 182, 183, 185, 186, 187, 188, 189, 190, 191, 192, 193, 194, 195, 196, 197, 198, 199, 200]) h h') := by
  refine con_of (L := [some (av_R (some 170)), none, none]) (by decide +kernel) (Nat.le_of_ble_eq_true rfl) rfl ?_
  have k0 : kM (pm [] [172, 173, 174, 175, 176, 177, 178, 179, 180, 181, 182, 183, 185, 186, 187, 188, 189, 190, 191, 192, 193, 194, 195, 196, 197, 198, 199, 200]) h h := kM_0 hx
  refine A_aload_n 0 d_MD_keep_0 rfl rfl ?_
  refine A_getAv (z := some 172) T_ok d_MD_keep_1 f_MD_17 (mi_s k0.1 sf_170) (mi_r k0.1 rfm_14) ?_
  refine A_iconst d_MD_keep_4 rfl ?_
  refine A_aload_n 0 d_MD_keep_5 rfl rfl ?_
  refine A_getAv (z := some 172) T_ok d_MD_keep_6 f_MD_17 (mi_s k0.1 sf_170) (mi_r k0.1 rfm_14) ?_
  refine A_pc (pc' := 9) rfl ?_
  refine A_iconst d_MD_keep_9 rfl ?_
  refine A_ialoadn (lo := 0) (hi := 4) d_MD_keep_10 (mi_s k0.1 sf_172) (by decide) (by decide) (mi_g k0.1 (by decide) (mr_172 _)) (fun x3 ex3 _ _ => ?_)
  replace ex3 : x3 = h.2.1 172 1 := ex3
  refine A_iastorek (KR := kM (pm [] [172, 173, 174, 175, 176, 177, 178, 179, 180, 181, 182, 183, 185, 186, 187, 188, 189, 190, 191, 192, 193, 194, 195, 196, 197, 198, 199, 200]) h) d_MD_keep_11 (mi_s k0.1 sf_172) (by decide) (by decide) (kM_i k0 (by decide) rfl (mr_172 _) (by omega) (by omega)) (fun h4 k5 eh4 => ?_)
  refine A_aload_n 0 d_MD_keep_12 rfl rfl ?_
  refine A_getAv (z := some 173) T_ok d_MD_keep_13 f_MD_20 (mi_s k5.1 sf_170) (mi_r k5.1 rfm_15) ?_
  refine A_iconst d_MD_keep_16 rfl ?_
  refine A_pc (pc' := 17) rfl ?_
  refine A_aload_n 0 d_MD_keep_17 rfl rfl ?_
  refine A_getAv (z := some 173) T_ok d_MD_keep_18 f_MD_20 (mi_s k5.1 sf_170) (mi_r k5.1 rfm_15) ?_
  refine A_iconst d_MD_keep_21 rfl ?_
  refine A_ialoadn (lo := 0) (hi := 32) d_MD_keep_22 (mi_s k5.1 sf_173) (by decide) (by decide) (mi_g k5.1 (by decide) (mr_173 _)) (fun x8 ex8 _ _ => ?_)
  replace ex8 : x8 = h4.2.1 173 1 := ex8
  refine A_iastorek (KR := kM (pm [] [172, 173, 174, 175, 176, 177, 178, 179, 180, 181, 182, 183, 185, 186, 187, 188, 189, 190, 191, 192, 193, 194, 195, 196, 197, 198, 199, 200]) h) d_MD_keep_23 (mi_s k5.1 sf_173) (by decide) (by decide) (kM_i k5 (by decide) rfl (mr_173 _) (by omega) (by omega)) (fun h9 k10 eh9 => ?_)
  refine A_aload_n 0 d_MD_keep_24 rfl rfl ?_
  refine A_pc (pc' := 25) rfl ?_
  refine A_getAv (z := some 174) T_ok d_MD_keep_25 f_MD_23 (mi_s k10.1 sf_170) (mi_r k10.1 rfm_16) ?_
  refine A_iconst d_MD_keep_28 rfl ?_
  refine A_aload_n 0 d_MD_keep_29 rfl rfl ?_
  refine A_getAv (z := some 174) T_ok d_MD_keep_30 f_MD_23 (mi_s k10.1 sf_170) (mi_r k10.1 rfm_16) ?_
  refine A_iconst d_MD_keep_33 rfl ?_
  refine A_ialoadn (lo := 0) (hi := 32) d_MD_keep_34 (mi_s k10.1 sf_174) (by decide) (by decide) (mi_g k10.1 (by decide) (mr_174 _)) (fun x13 ex13 _ _ => ?_)
  replace ex13 : x13 = h9.2.1 174 1 := ex13
  refine A_pc (pc' := 35) rfl ?_
  refine A_iastorek (KR := kM (pm [] [172, 173, 174, 175, 176, 177, 178, 179, 180, 181, 182, 183, 185, 186, 187, 188, 189, 190, 191, 192, 193, 194, 195, 196, 197, 198, 199, 200]) h) d_MD_keep_35 (mi_s k10.1 sf_174) (by decide) (by decide) (kM_i k10 (by decide) rfl (mr_174 _) (by omega) (by omega)) (fun h14 k15 eh14 => ?_)
  refine A_aload_n 0 d_MD_keep_36 rfl rfl ?_
  refine A_getAv (z := some 175) T_ok d_MD_keep_37 f_MD_26 (mi_s k15.1 sf_170) (mi_r k15.1 rfm_17) ?_
  refine A_iconst d_MD_keep_40 rfl ?_
  refine A_aload_n 0 d_MD_keep_41 rfl rfl ?_
  refine A_getAv (z := some 175) T_ok d_MD_keep_42 f_MD_26 (mi_s k15.1 sf_170) (mi_r k15.1 rfm_17) ?_
  refine A_pc (pc' := 45) rfl ?_
  refine A_iconst d_MD_keep_45 rfl ?_
  refine A_ialoadn (lo := 0) (hi := 8) d_MD_keep_46 (mi_s k15.1 sf_175) (by decide) (by decide) (mi_g k15.1 (by decide) (mr_175 _)) (fun x18 ex18 _ _ => ?_)
  replace ex18 : x18 = h14.2.1 175 1 := ex18
  refine A_iastorek (KR := kM (pm [] [172, 173, 174, 175, 176, 177, 178, 179, 180, 181, 182, 183, 185, 186, 187, 188, 189, 190, 191, 192, 193, 194, 195, 196, 197, 198, 199, 200]) h) d_MD_keep_47 (mi_s k15.1 sf_175) (by decide) (by decide) (kM_i k15 (by decide) rfl (mr_175 _) (by omega) (by omega)) (fun h19 k20 eh19 => ?_)
  refine A_iconst d_MD_keep_48 rfl ?_
  refine A_istore_n 1 (L' := [some (av_R (some 170)), some (av_I 0), none]) d_MD_keep_49 rfl (Nat.le_of_ble_eq_true rfl) rfl ?_
  have lp50 : ∀ (n : Nat) (i21 : Int) (h22 : ah_T) , 0 ≤ i21 → i21 ≤ 8 → (SA h h22 ∧ h22.2.1 172 0 = h.2.1 172 1 ∧ (∀ k, h22.2.1 178 k = h.2.1 178 k) ∧ (∀ k, h22.2.1 179 k = h.2.1 179 k) ∧ h22.2.1 177 1 = h.2.1 177 1) → kM (pm [] [172, 173, 174, 175, 176, 177, 178, 179, 180, 181, 182, 183, 185, 186, 187, 188, 189, 190, 191, 192, 193, 194, 195, 196, 197, 198, 199, 200]) h h22 → (9 - i21).toNat < n → aw G (rm_R 1 0 0) m_MD_keep 0 0 50 [some (av_R (some 170)), some (av_I i21), none] [] h22 (fun r h' => r = none ∧ (KS h' ∧ KO h' ∧ RL h') ∧ kM (pm [] [172, 173, 174, 175, 176, 177, 178, 179, 180, 181, 182, 183, 185, 186, 187, 188, 189, 190, 191, 192, 193, 194, 195, 196, 197, 198, 199, 200]) h h') := by
    intro n
    induction n with
    | zero => intro i21 h22 _ _ _ _ hm; omega
    | succ n ih50 =>
      intro i21 h22 hl0 hl1 hinv k23 hm
      refine A_iload_n 1 d_MD_keep_50 rfl rfl ?_
      refine A_bipush d_MD_keep_51 rfl ?_
      refine A_icmp_ge (tgt := 77) d_MD_keep_53 (by decide) (fun c24 => ?_) (fun c24 => ?_)
      · refine A_aload_n 0 d_MD_keep_77 rfl rfl ?_
        refine A_getAv (z := some 177) T_ok d_MD_keep_78 f_MD_32 (mi_s k23.1 sf_170) (mi_r k23.1 rfm_19) ?_
        refine A_iconst d_MD_keep_81 rfl ?_
        refine A_aload_n 0 d_MD_keep_82 rfl rfl ?_
        refine A_getAv (z := some 177) T_ok d_MD_keep_83 f_MD_32 (mi_s k23.1 sf_170) (mi_r k23.1 rfm_19) ?_
        refine A_pc (pc' := 86) rfl ?_
        refine A_iconst d_MD_keep_86 rfl ?_
        refine A_ialoadn (lo := 0) (hi := 24) d_MD_keep_87 (mi_s k23.1 sf_177) (by decide) (by decide) (mi_g k23.1 (by decide) (mr_177 _)) (fun x27 ex27 _ _ => ?_)
        replace ex27 : x27 = h22.2.1 177 1 := ex27
        refine A_iastorek (KR := kM (pm [] [172, 173, 174, 175, 176, 177, 178, 179, 180, 181, 182, 183, 185, 186, 187, 188, 189, 190, 191, 192, 193, 194, 195, 196, 197, 198, 199, 200]) h) d_MD_keep_88 (mi_s k23.1 sf_177) (by decide) (by decide) (kM_i k23 (by decide) rfl (mr_177 _) (by omega) (by omega)) (fun h28 k29 eh28 => ?_)
        refine A_iconst d_MD_keep_89 rfl ?_
        refine A_istore_n 1 (L' := [some (av_R (some 170)), some (av_I 0), none]) d_MD_keep_90 rfl (Nat.le_of_ble_eq_true rfl) rfl ?_
        have lp91 : ∀ (n : Nat) (i30 : Int) (h31 : ah_T) , 0 ≤ i30 → i30 ≤ 24 → (SA h h31 ∧ h31.2.1 172 0 = h.2.1 172 1 ∧ CP (h.2.1 178) 24 (h31.2.1 178) i30 ∧ CP (h.2.1 179) 24 (h31.2.1 179) i30 ∧ h31.2.1 177 0 = h.2.1 177 1) → kM (pm [] [172, 173, 174, 175, 176, 177, 178, 179, 180, 181, 182, 183, 185, 186, 187, 188, 189, 190, 191, 192, 193, 194, 195, 196, 197, 198, 199, 200]) h h31 → (25 - i30).toNat < n → aw G (rm_R 1 0 0) m_MD_keep 0 0 91 [some (av_R (some 170)), some (av_I i30), none] [] h31 (fun r h' => r = none ∧ (KS h' ∧ KO h' ∧ RL h') ∧ kM (pm [] [172, 173, 174, 175, 176, 177, 178, 179, 180, 181, 182, 183, 185, 186, 187, 188, 189, 190, 191, 192, 193, 194, 195, 196, 197, 198, 199, 200]) h h') := by
          intro n
          induction n with
          | zero => intro i30 h31 _ _ _ _ hm; omega
          | succ n ih91 =>
            intro i30 h31 hl0 hl1 hinv k32 hm
            refine A_iload_n 1 d_MD_keep_91 rfl rfl ?_
            refine A_bipush d_MD_keep_92 rfl ?_
            refine A_icmp_ge (tgt := 148) d_MD_keep_94 (by decide) (fun c33 => ?_) (fun c33 => ?_)
            · have yj : KJ h h31 0 := ⟨hinv.2.1, UP_a hinv.1, fun w hw => by omega, RL_cp hpv.2 hinv.2.2.2.2 (by have q1 : i30 = 24 := (by omega); rw [q1] at hinv; exact hinv.2.2.1) (by have q1 : i30 = 24 := (by omega); rw [q1] at hinv; exact hinv.2.2.2.1) (mi_g hx (by decide) (rfl : mr 177 1 = (0, 24))).2⟩
              refine A_aload_n 0 d_MD_keep_148 rfl rfl ?_
              refine A_getAv (z := some 181) T_ok d_MD_keep_149 f_MD_44 (mi_s k32.1 sf_170) (mi_r k32.1 rfm_23) ?_
              refine A_iconst d_MD_keep_152 rfl ?_
              refine A_aload_n 0 d_MD_keep_153 rfl rfl ?_
              refine A_getAv (z := some 181) T_ok d_MD_keep_154 f_MD_44 (mi_s k32.1 sf_170) (mi_r k32.1 rfm_23) ?_
              refine A_pc (pc' := 157) rfl ?_
              refine A_iconst d_MD_keep_157 rfl ?_
              refine A_ialoadn (lo := 0) (hi := 12) d_MD_keep_158 (mi_s k32.1 sf_181) (by decide) (by decide) (mi_g k32.1 (by decide) (mr_181 _)) (fun x36 ex36 _ _ => ?_)
              replace ex36 : x36 = h31.2.1 181 1 := ex36
              refine A_iastorek (KR := kM (pm [] [172, 173, 174, 175, 176, 177, 178, 179, 180, 181, 182, 183, 185, 186, 187, 188, 189, 190, 191, 192, 193, 194, 195, 196, 197, 198, 199, 200]) h) d_MD_keep_159 (mi_s k32.1 sf_181) (by decide) (by decide) (kM_i k32 (by decide) rfl (mr_181 _) (by omega) (by omega)) (fun h37 k38 eh37 => ?_)
              refine A_iconst d_MD_keep_160 rfl ?_
              refine A_istore_n 1 (L' := [some (av_R (some 170)), some (av_I 0), none]) d_MD_keep_161 rfl (Nat.le_of_ble_eq_true rfl) rfl ?_
              have lp162 : ∀ (n : Nat) (i39 : Int) (h40 : ah_T) , 0 ≤ i39 → i39 ≤ 12 → KJ h h40 0 → kM (pm [] [172, 173, 174, 175, 176, 177, 178, 179, 180, 181, 182, 183, 185, 186, 187, 188, 189, 190, 191, 192, 193, 194, 195, 196, 197, 198, 199, 200]) h h40 → (13 - i39).toNat < n → aw G (rm_R 1 0 0) m_MD_keep 0 0 162 [some (av_R (some 170)), some (av_I i39), none] [] h40 (fun r h' => r = none ∧ (KS h' ∧ KO h' ∧ RL h') ∧ kM (pm [] [172, 173, 174, 175, 176, 177, 178, 179, 180, 181, 182, 183, 185, 186, 187, 188, 189, 190, 191, 192, 193, 194, 195, 196, 197, 198, 199, 200]) h h') := by
                intro n
                induction n with
                | zero => intro i39 h40 _ _ _ _ hm; omega
                | succ n ih162 =>
                  intro i39 h40 hl0 hl1 hinv k41 hm
                  refine A_iload_n 1 d_MD_keep_162 rfl rfl ?_
                  refine A_bipush d_MD_keep_163 rfl ?_
                  refine A_icmp_ge (tgt := 189) d_MD_keep_165 (by decide) (fun c42 => ?_) (fun c42 => ?_)
                  · refine A_aload_n 0 d_MD_keep_189 rfl rfl ?_
                    refine A_getAv (z := some 183) T_ok d_MD_keep_190 f_MD_50 (mi_s k41.1 sf_170) (mi_r k41.1 rfm_25) ?_
                    refine A_iconst d_MD_keep_193 rfl ?_
                    refine A_aload_n 0 d_MD_keep_194 rfl rfl ?_
                    refine A_getAv (z := some 183) T_ok d_MD_keep_195 f_MD_50 (mi_s k41.1 sf_170) (mi_r k41.1 rfm_25) ?_
                    refine A_pc (pc' := 198) rfl ?_
                    refine A_iconst d_MD_keep_198 rfl ?_
                    refine A_ialoadn (lo := 0) (hi := 16) d_MD_keep_199 (mi_s k41.1 sf_183) (by decide) (by decide) (mi_g k41.1 (by decide) (mr_183 _)) (fun x45 ex45 _ _ => ?_)
                    replace ex45 : x45 = h40.2.1 183 1 := ex45
                    refine A_iastorek (KR := kM (pm [] [172, 173, 174, 175, 176, 177, 178, 179, 180, 181, 182, 183, 185, 186, 187, 188, 189, 190, 191, 192, 193, 194, 195, 196, 197, 198, 199, 200]) h) d_MD_keep_200 (mi_s k41.1 sf_183) (by decide) (by decide) (kM_i k41 (by decide) rfl (mr_183 _) (by omega) (by omega)) (fun h46 k47 eh46 => ?_)
                    refine A_iconst d_MD_keep_201 rfl ?_
                    refine A_istore_n 1 (L' := [some (av_R (some 170)), some (av_I 0), none]) d_MD_keep_202 rfl (Nat.le_of_ble_eq_true rfl) rfl ?_
                    have lp203 : ∀ (n : Nat) (i48 : Int) (h49 : ah_T) , 0 ≤ i48 → i48 ≤ 4 → KJ h h49 i48 → kM (pm [] [172, 173, 174, 175, 176, 177, 178, 179, 180, 181, 182, 183, 185, 186, 187, 188, 189, 190, 191, 192, 193, 194, 195, 196, 197, 198, 199, 200]) h h49 → (5 - i48).toNat < n → aw G (rm_R 1 0 0) m_MD_keep 0 0 203 [some (av_R (some 170)), some (av_I i48), none] [] h49 (fun r h' => r = none ∧ (KS h' ∧ KO h' ∧ RL h') ∧ kM (pm [] [172, 173, 174, 175, 176, 177, 178, 179, 180, 181, 182, 183, 185, 186, 187, 188, 189, 190, 191, 192, 193, 194, 195, 196, 197, 198, 199, 200]) h h') := by
                      intro n
                      induction n with
                      | zero => intro i48 h49 _ _ _ _ hm; omega
                      | succ n ih203 =>
                        intro i48 h49 hl0 hl1 hinv k50 hm
                        refine A_iload_n 1 d_MD_keep_203 rfl rfl ?_
                        refine A_aload_n 0 d_MD_keep_204 rfl rfl ?_
                        refine A_getAv (z := some 172) T_ok d_MD_keep_205 f_MD_17 (mi_s k50.1 sf_170) (mi_r k50.1 rfm_14) ?_
                        refine A_iconst d_MD_keep_208 rfl ?_
                        refine A_ialoadn (lo := 0) (hi := 4) d_MD_keep_209 (mi_s k50.1 sf_172) (by decide) (by decide) (mi_g k50.1 (by decide) (mr_172 _)) (fun x52 ex52 _ _ => ?_)
                        replace ex52 : x52 = h49.2.1 172 0 := ex52
                        refine A_pc (pc' := 210) rfl ?_
                        refine A_icmp_ge (tgt := 347) d_MD_keep_210 (by decide) (fun c53 => ?_) (fun c53 => ?_)
                        · exact A_vret d_MD_keep_347 (by decide) rfl ⟨rfl, (by obtain ⟨y1, y2⟩ := KO_of (fun w hw => hinv.2.2.1 w (by omega)); exact ⟨y1, y2, hinv.2.2.2⟩), k50⟩
                        · have yv1 := hinv.1
                          have yv2 := (mi_g hx (by decide) (rfl : mr 172 1 = (0, 4))).2
                          have yj0 := hinv
                          refine A_aload_n 0 d_MD_keep_213 rfl rfl ?_
                          refine A_getAv (z := some 185) T_ok d_MD_keep_214 f_MD_57 (mi_s k50.1 sf_170) (mi_r k50.1 rfm_27) ?_
                          refine A_iload_n 1 d_MD_keep_217 rfl rfl ?_
                          refine A_aload_n 0 d_MD_keep_218 rfl rfl ?_
                          refine A_getAv (z := some 185) T_ok d_MD_keep_219 f_MD_57 (mi_s k50.1 sf_170) (mi_r k50.1 rfm_27) ?_
                          refine A_pc (pc' := 222) rfl ?_
                          refine A_iconst d_MD_keep_222 rfl ?_
                          refine A_iload_n 1 d_MD_keep_223 rfl rfl ?_
                          refine A_iaddv (z := (i48 + 4)) d_MD_keep_224 (w32_to (by omega) (by unfold i32; omega)) ?_
                          refine A_ialoadn (lo := 0) (hi := 300) d_MD_keep_225 (mi_s k50.1 sf_185) (by omega) (by omega) (mi_g k50.1 (by decide) (mr_185 _)) (fun x56 ex56 _ _ => ?_)
                          refine A_iastorek (KR := kM (pm [] [172, 173, 174, 175, 176, 177, 178, 179, 180, 181, 182, 183, 185, 186, 187, 188, 189, 190, 191, 192, 193, 194, 195, 196, 197, 198, 199, 200]) h) d_MD_keep_226 (mi_s k50.1 sf_185) (by omega) (by omega) (kM_i k50 (by decide) rfl (mr_185 _) (by omega) (by omega)) (fun h57 k58 eh57 => ?_)
                          refine A_aload_n 0 d_MD_keep_227 rfl rfl ?_
                          refine A_pc (pc' := 228) rfl ?_
                          refine A_getAv (z := some 186) T_ok d_MD_keep_228 f_MD_60 (mi_s k58.1 sf_170) (mi_r k58.1 rfm_28) ?_
                          refine A_iload_n 1 d_MD_keep_231 rfl rfl ?_
                          refine A_aload_n 0 d_MD_keep_232 rfl rfl ?_
                          refine A_getAv (z := some 186) T_ok d_MD_keep_233 f_MD_60 (mi_s k58.1 sf_170) (mi_r k58.1 rfm_28) ?_
                          refine A_iconst d_MD_keep_236 rfl ?_
                          refine A_iload_n 1 d_MD_keep_237 rfl rfl ?_
                          refine A_pc (pc' := 238) rfl ?_
                          refine A_iaddv (z := (i48 + 4)) d_MD_keep_238 (w32_to (by omega) (by unfold i32; omega)) ?_
                          refine A_ialoadn (lo := 0) (hi := 101) d_MD_keep_239 (mi_s k58.1 sf_186) (by omega) (by omega) (mi_g k58.1 (by decide) (mr_186 _)) (fun x61 ex61 _ _ => ?_)
                          refine A_iastorek (KR := kM (pm [] [172, 173, 174, 175, 176, 177, 178, 179, 180, 181, 182, 183, 185, 186, 187, 188, 189, 190, 191, 192, 193, 194, 195, 196, 197, 198, 199, 200]) h) d_MD_keep_240 (mi_s k58.1 sf_186) (by omega) (by omega) (kM_i k58 (by decide) rfl (mr_186 _) (by omega) (by omega)) (fun h62 k63 eh62 => ?_)
                          have yl := LU_c (v := i48) (i0 := (i48).toNat) (by omega) (by omega) (by intro a ha; simp only [List.mem_cons, List.not_mem_nil, or_false] at ha; rcases ha with rfl | rfl | rfl | rfl | rfl | rfl ; exact (funext (fun k => ((congrFun (congrFun eh62.2.2 187) k).trans (congrFun (congrFun eh57.2.2 187) k)))) ; exact (funext (fun k => ((congrFun (congrFun eh62.2.2 188) k).trans (congrFun (congrFun eh57.2.2 188) k)))) ; exact (funext (fun k => ((congrFun (congrFun eh62.2.2 189) k).trans (congrFun (congrFun eh57.2.2 189) k)))) ; exact (funext (fun k => ((congrFun (congrFun eh62.2.2 190) k).trans (congrFun (congrFun eh57.2.2 190) k)))) ; exact (funext (fun k => ((congrFun (congrFun eh62.2.2 199) k).trans (congrFun (congrFun eh57.2.2 199) k)))) ; exact (funext (fun k => ((congrFun (congrFun eh62.2.2 200) k).trans (congrFun (congrFun eh57.2.2 200) k))))) (funext (fun k => ((eh62.1 196 k (fun q => absurd q (by decide))).trans (eh57.1 196 k (fun q => absurd q (by decide)))))) (fun k hk => ((eh62.1 185 k (fun q => absurd q (by decide))).trans (eh57.1 185 k (fun _ => hk)))) (fun k hk => ((eh62.1 186 k (fun _ => hk)).trans (eh57.1 186 k (fun q => absurd q (by decide)))))
                          have yj : KJ h h62 i48 := KJ_v k50.1 yj0 (by omega) yl.1 yl.2 ((eh62.1 172 0 (fun q => absurd q (by decide))).trans (eh57.1 172 0 (fun q => absurd q (by decide)))) ((eh62.1 177 0 (fun q => absurd q (by decide))).trans (eh57.1 177 0 (fun q => absurd q (by decide)))) (fun k => ((eh62.1 178 k (fun q => absurd q (by decide))).trans (eh57.1 178 k (fun q => absurd q (by decide))))) (fun k => ((eh62.1 179 k (fun q => absurd q (by decide))).trans (eh57.1 179 k (fun q => absurd q (by decide)))))
                          have yc : KC h h62 i48 := ⟨(((eh62.1 _ _ (fun q => absurd q (by decide))).trans eh57.2.1).trans (ex56.trans (yj0.2.1.2.2 ((i48 + 4)).toNat (by omega)).1)), (eh62.2.1.trans ((ex61.trans (eh57.1 186 ((i48 + 4)).toNat (fun q => absurd q (by decide)))).trans (yj0.2.1.2.2 ((i48 + 4)).toNat (by omega)).2))⟩
                          refine A_iconst d_MD_keep_241 rfl ?_
                          refine A_istore_n 2 (L' := [some (av_R (some 170)), some (av_I i48), some (av_I 0)]) d_MD_keep_242 rfl (Nat.le_of_ble_eq_true rfl) rfl ?_
                          have lp243 : ∀ (n : Nat) (i64 : Int) (h65 : ah_T) , 0 ≤ i64 → i64 ≤ 102 → (KJ h h65 i48 ∧ KC h h65 i48 ∧ CB h h65 i48 i64) → kM (pm [] [172, 173, 174, 175, 176, 177, 178, 179, 180, 181, 182, 183, 185, 186, 187, 188, 189, 190, 191, 192, 193, 194, 195, 196, 197, 198, 199, 200]) h h65 → (103 - i64).toNat < n → aw G (rm_R 1 0 0) m_MD_keep 0 0 243 [some (av_R (some 170)), some (av_I i48), some (av_I i64)] [] h65 (fun r h' => r = none ∧ (KS h' ∧ KO h' ∧ RL h') ∧ kM (pm [] [172, 173, 174, 175, 176, 177, 178, 179, 180, 181, 182, 183, 185, 186, 187, 188, 189, 190, 191, 192, 193, 194, 195, 196, 197, 198, 199, 200]) h h') := by
                            intro n
                            induction n with
                            | zero => intro i64 h65 _ _ _ _ hm; omega
                            | succ n ih243 =>
                              intro i64 h65 hl0 hl1 hinv k66 hm
                              refine A_iload_n 2 d_MD_keep_243 rfl rfl ?_
                              refine A_bipush d_MD_keep_244 rfl ?_
                              refine A_icmp_ge (tgt := 303) d_MD_keep_246 (by decide) (fun c67 => ?_) (fun c67 => ?_)
                              · have yb : CB h h65 i48 102 := (by have q1 : i64 = 102 := (by omega); rw [← q1]; exact hinv.2.2)
                                have yj2 := hinv.1
                                have yc2 := hinv.2.1
                                refine A_iconst d_MD_keep_303 rfl ?_
                                refine A_istore_n 2 (L' := [some (av_R (some 170)), some (av_I i48), some (av_I 0)]) d_MD_keep_304 rfl (Nat.le_of_ble_eq_true rfl) rfl ?_
                                have lp305 : ∀ (n : Nat) (i68 : Int) (h69 : ah_T) , 0 ≤ i68 → i68 ≤ 300 → (KJ h h69 i48 ∧ KC h h69 i48 ∧ CB h h69 i48 102 ∧ CE h h69 i48 i68) → kM (pm [] [172, 173, 174, 175, 176, 177, 178, 179, 180, 181, 182, 183, 185, 186, 187, 188, 189, 190, 191, 192, 193, 194, 195, 196, 197, 198, 199, 200]) h h69 → (301 - i68).toNat < n → aw G (rm_R 1 0 0) m_MD_keep 0 0 305 [some (av_R (some 170)), some (av_I i48), some (av_I i68)] [] h69 (fun r h' => r = none ∧ (KS h' ∧ KO h' ∧ RL h') ∧ kM (pm [] [172, 173, 174, 175, 176, 177, 178, 179, 180, 181, 182, 183, 185, 186, 187, 188, 189, 190, 191, 192, 193, 194, 195, 196, 197, 198, 199, 200]) h h') := by
                                  intro n
                                  induction n with
                                  | zero => intro i68 h69 _ _ _ _ hm; omega
                                  | succ n ih305 =>
                                    intro i68 h69 hl0 hl1 hinv k70 hm
                                    refine A_iload_n 2 d_MD_keep_305 rfl rfl ?_
                                    refine A_aload_n 0 d_MD_keep_306 rfl rfl ?_
                                    refine A_getAv (z := some 185) T_ok d_MD_keep_307 f_MD_57 (mi_s k70.1 sf_170) (mi_r k70.1 rfm_27) ?_
                                    refine A_iload_n 1 d_MD_keep_310 rfl rfl ?_
                                    refine A_ialoadn (lo := 0) (hi := 300) d_MD_keep_311 (mi_s k70.1 sf_185) (by omega) (by omega) (mi_g k70.1 (by decide) (mr_185 _)) (fun x72 ex72 _ _ => ?_)
                                    refine A_pc (pc' := 312) rfl ?_
                                    refine A_icmp_ge (tgt := 341) d_MD_keep_312 (by decide) (fun c73 => ?_) (fun c73 => ?_)
                                    · have ye : CE h h69 i48 x72 := (by intro j hj; exact hinv.2.2.2 j (by omega))
                                      refine A_iincv (z := (i48 + 1)) (L' := [some (av_R (some 170)), some (av_I (i48 + 1)), some (av_I i68)]) d_MD_keep_341 rfl (w32_to (by omega) (by unfold i32; omega)) rfl ?_
                                      refine A_goto (tgt := 203) d_MD_keep_344 (by decide) ?_
                                      refine A_free (L' := [some (av_R (some 170)), some (av_I (i48 + 1)), none]) (And.intro rfl (And.intro rfl trivial)) ?_
                                      exact ih203 (i48 + 1) h69 (by omega) (by omega) (KJ_z hx hpv hinv.1 hinv.2.1 (by omega) (by omega) hinv.2.2.1 (by have q1 := hinv.2.1.1; have q2 : x72 = h.2.1 185 (i48 + 4).toNat := (by omega); rw [← q2]; exact ye)) k70 (by omega)
                                    · refine A_aload_n 0 d_MD_keep_315 rfl rfl ?_
                                      refine A_sipush d_MD_keep_316 rfl ?_
                                      refine A_iload_n 1 d_MD_keep_319 rfl rfl ?_
                                      refine A_imulv (z := (300 * i48)) d_MD_keep_320 (w32_to (by omega) (by unfold i32; omega)) ?_
                                      refine A_iload_n 2 d_MD_keep_321 rfl rfl ?_
                                      refine A_pc (pc' := 322) rfl ?_
                                      refine A_iaddv (z := (300 * i48 + i68)) d_MD_keep_322 (w32_to (by omega) (by unfold i32; omega)) ?_
                                      refine A_sipush d_MD_keep_323 rfl ?_
                                      refine A_iconst d_MD_keep_326 rfl ?_
                                      refine A_iload_n 1 d_MD_keep_327 rfl rfl ?_
                                      refine A_iaddv (z := (i48 + 4)) d_MD_keep_328 (w32_to (by omega) (by unfold i32; omega)) ?_
                                      refine A_imulv (z := (300 * i48 + 1200)) d_MD_keep_329 (w32_to (by omega) (by unfold i32; omega)) ?_
                                      refine A_pc (pc' := 330) rfl ?_
                                      refine A_iload_n 2 d_MD_keep_330 rfl rfl ?_
                                      refine A_iaddv (z := (300 * i48 + i68 + 1200)) d_MD_keep_331 (w32_to (by omega) (by unfold i32; omega)) ?_
                                      refine A_callV2 m_MD_keepEvent T_ok d_MD_keep_332 l_MD_462 k_MD_keepEvent (mi_s k70.1 sf_170) rfl (by decide +kernel) (by decide) (Nat.le_of_ble_eq_true rfl) (s_MD_keepEvent k70.1 (by omega) (by omega) (by omega) (by omega)) (fun r h74 hq => ?_)
                                      obtain ⟨rfl, xk75, k75⟩ := hq
                                      have k76 := kM_t k70 k75 (pm_s (by decide) (by decide))
                                      refine A_iincv (z := (i68 + 1)) (L' := [some (av_R (some 170)), some (av_I i48), some (av_I (i68 + 1))]) d_MD_keep_335 rfl (w32_to (by omega) (by unfold i32; omega)) rfl ?_
                                      refine A_goto (tgt := 305) d_MD_keep_338 (by decide) ?_
                                      exact ih305 (i68 + 1) h74 (by omega) (by omega) ⟨KJ_v k70.1 hinv.1 (by omega) (LU_e (v := i48) (k := i68) (by omega) (by omega) (by omega) (by omega) xk75 k75 (by intro a ha j; simp only [List.mem_cons, List.not_mem_nil, or_false] at ha; rcases ha with rfl | rfl | rfl | rfl <;> rfl)).1 (LU_e (v := i48) (k := i68) (by omega) (by omega) (by omega) (by omega) xk75 k75 (by intro a ha j; simp only [List.mem_cons, List.not_mem_nil, or_false] at ha; rcases ha with rfl | rfl | rfl | rfl <;> rfl)).2 (k75.2.2.1 172 0 rfl) (k75.2.2.1 177 0 rfl) (fun k => (k75.2.2.1 178 k rfl)) (fun k => (k75.2.2.1 179 k rfl)), ⟨((k75.2.2.1 185 (i48).toNat rfl)).trans hinv.2.1.1, ((k75.2.2.1 186 (i48).toNat rfl)).trans hinv.2.1.2⟩, CB_f hinv.2.2.1 (funext (fun k => (k75.2.2.2 199 k rfl))) (funext (fun k => (k75.2.2.2 200 k rfl))), CE_s hinv.2.2.2 (by omega) (by omega) (by omega) (by omega) (by omega) hinv.1.2.1 xk75⟩ k76 (by omega)
                                exact lp305 _ 0 h65 (by omega) (by omega) ⟨yj2, yc2, yb, fun j hj => by omega⟩ k66 (Nat.lt_succ_self _)
                              · refine A_aload_n 0 d_MD_keep_249 rfl rfl ?_
                                refine A_getAv (z := some 199) T_ok d_MD_keep_250 f_MD_100 (mi_s k66.1 sf_170) (mi_r k66.1 rfm_41) ?_
                                refine A_bipush d_MD_keep_253 rfl ?_
                                refine A_iload_n 1 d_MD_keep_255 rfl rfl ?_
                                refine A_imulv (z := (102 * i48)) d_MD_keep_256 (w32_to (by omega) (by unfold i32; omega)) ?_
                                refine A_pc (pc' := 257) rfl ?_
                                refine A_iload_n 2 d_MD_keep_257 rfl rfl ?_
                                refine A_iaddv (z := (102 * i48 + i64)) d_MD_keep_258 (w32_to (by omega) (by unfold i32; omega)) ?_
                                refine A_aload_n 0 d_MD_keep_259 rfl rfl ?_
                                refine A_getAv (z := some 199) T_ok d_MD_keep_260 f_MD_100 (mi_s k66.1 sf_170) (mi_r k66.1 rfm_41) ?_
                                refine A_bipush d_MD_keep_263 rfl ?_
                                refine A_iconst d_MD_keep_265 rfl ?_
                                refine A_pc (pc' := 266) rfl ?_
                                refine A_iload_n 1 d_MD_keep_266 rfl rfl ?_
                                refine A_iaddv (z := (i48 + 4)) d_MD_keep_267 (w32_to (by omega) (by unfold i32; omega)) ?_
                                refine A_imulv (z := (102 * i48 + 408)) d_MD_keep_268 (w32_to (by omega) (by unfold i32; omega)) ?_
                                refine A_iload_n 2 d_MD_keep_269 rfl rfl ?_
                                refine A_iaddv (z := (102 * i48 + i64 + 408)) d_MD_keep_270 (w32_to (by omega) (by unfold i32; omega)) ?_
                                refine A_laloadn (lo := 0) (hi := 2000000000000000) d_MD_keep_271 (mi_s k66.1 sf_199) (by omega) (by omega) (mi_l k66.1 (by decide) (mq_199 _)) (fun x79 ex79 _ _ => ?_)
                                refine A_pc (pc' := 272) rfl ?_
                                refine A_lastorek (KR := kM (pm [] [172, 173, 174, 175, 176, 177, 178, 179, 180, 181, 182, 183, 185, 186, 187, 188, 189, 190, 191, 192, 193, 194, 195, 196, 197, 198, 199, 200]) h) d_MD_keep_272 (mi_s k66.1 sf_199) (by omega) (by omega) (kM_l k66 (by decide) rfl (mq_199 _) (by omega) (by omega)) (fun h80 k81 eh80 => ?_)
                                refine A_aload_n 0 d_MD_keep_273 rfl rfl ?_
                                refine A_getAv (z := some 200) T_ok d_MD_keep_274 f_MD_103 (mi_s k81.1 sf_170) (mi_r k81.1 rfm_42) ?_
                                refine A_bipush d_MD_keep_277 rfl ?_
                                refine A_iload_n 1 d_MD_keep_279 rfl rfl ?_
                                refine A_imulv (z := (102 * i48)) d_MD_keep_280 (w32_to (by omega) (by unfold i32; omega)) ?_
                                refine A_pc (pc' := 281) rfl ?_
                                refine A_iload_n 2 d_MD_keep_281 rfl rfl ?_
                                refine A_iaddv (z := (102 * i48 + i64)) d_MD_keep_282 (w32_to (by omega) (by unfold i32; omega)) ?_
                                refine A_aload_n 0 d_MD_keep_283 rfl rfl ?_
                                refine A_getAv (z := some 200) T_ok d_MD_keep_284 f_MD_103 (mi_s k81.1 sf_170) (mi_r k81.1 rfm_42) ?_
                                refine A_bipush d_MD_keep_287 rfl ?_
                                refine A_iconst d_MD_keep_289 rfl ?_
                                refine A_pc (pc' := 290) rfl ?_
                                refine A_iload_n 1 d_MD_keep_290 rfl rfl ?_
                                refine A_iaddv (z := (i48 + 4)) d_MD_keep_291 (w32_to (by omega) (by unfold i32; omega)) ?_
                                refine A_imulv (z := (102 * i48 + 408)) d_MD_keep_292 (w32_to (by omega) (by unfold i32; omega)) ?_
                                refine A_iload_n 2 d_MD_keep_293 rfl rfl ?_
                                refine A_iaddv (z := (102 * i48 + i64 + 408)) d_MD_keep_294 (w32_to (by omega) (by unfold i32; omega)) ?_
                                refine A_laloadn (lo := 0) (hi := 1000000000000) d_MD_keep_295 (mi_s k81.1 sf_200) (by omega) (by omega) (mi_l k81.1 (by decide) (mq_200 _)) (fun x84 ex84 _ _ => ?_)
                                refine A_pc (pc' := 296) rfl ?_
                                refine A_lastorek (KR := kM (pm [] [172, 173, 174, 175, 176, 177, 178, 179, 180, 181, 182, 183, 185, 186, 187, 188, 189, 190, 191, 192, 193, 194, 195, 196, 197, 198, 199, 200]) h) d_MD_keep_296 (mi_s k81.1 sf_200) (by omega) (by omega) (kM_l k81 (by decide) rfl (mq_200 _) (by omega) (by omega)) (fun h85 k86 eh85 => ?_)
                                refine A_iincv (z := (i64 + 1)) (L' := [some (av_R (some 170)), some (av_I i48), some (av_I (i64 + 1))]) d_MD_keep_297 rfl (w32_to (by omega) (by unfold i32; omega)) rfl ?_
                                refine A_goto (tgt := 243) d_MD_keep_300 (by decide) ?_
                                exact ih243 (i64 + 1) h85 (by omega) (by omega) ⟨KJ_v k66.1 hinv.1 (by omega) (LU_b (v := i48) (k := i64) (i0 := ((102 * i48 + i64)).toNat) (by omega) (by omega) (by omega) (by omega) (by intro a ha; simp only [List.mem_cons, List.not_mem_nil, or_false] at ha; rcases ha with rfl | rfl | rfl | rfl ; exact (funext (fun k => ((eh85.2.1 187 k (fun q => absurd q (by decide))).trans (eh80.2.1 187 k (fun q => absurd q (by decide)))))) ; exact (funext (fun k => ((eh85.2.1 188 k (fun q => absurd q (by decide))).trans (eh80.2.1 188 k (fun q => absurd q (by decide)))))) ; exact (funext (fun k => ((eh85.2.1 189 k (fun q => absurd q (by decide))).trans (eh80.2.1 189 k (fun q => absurd q (by decide)))))) ; exact (funext (fun k => ((eh85.2.1 190 k (fun q => absurd q (by decide))).trans (eh80.2.1 190 k (fun q => absurd q (by decide))))))) (by intro a ha; simp only [List.mem_cons, List.not_mem_nil, or_false] at ha; rcases ha with rfl | rfl | rfl ; exact (funext (fun k => ((congrFun (congrFun eh85.1 185) k).trans (congrFun (congrFun eh80.1 185) k)))) ; exact (funext (fun k => ((congrFun (congrFun eh85.1 186) k).trans (congrFun (congrFun eh80.1 186) k)))) ; exact (funext (fun k => ((congrFun (congrFun eh85.1 196) k).trans (congrFun (congrFun eh80.1 196) k))))) (fun k hk => ((eh85.2.1 199 k (fun q => absurd q (by decide))).trans (eh80.2.1 199 k (fun _ => hk)))) (fun k hk => ((eh85.2.1 200 k (fun _ => hk)).trans (eh80.2.1 200 k (fun q => absurd q (by decide)))))).1 (LU_b (v := i48) (k := i64) (i0 := ((102 * i48 + i64)).toNat) (by omega) (by omega) (by omega) (by omega) (by intro a ha; simp only [List.mem_cons, List.not_mem_nil, or_false] at ha; rcases ha with rfl | rfl | rfl | rfl ; exact (funext (fun k => ((eh85.2.1 187 k (fun q => absurd q (by decide))).trans (eh80.2.1 187 k (fun q => absurd q (by decide)))))) ; exact (funext (fun k => ((eh85.2.1 188 k (fun q => absurd q (by decide))).trans (eh80.2.1 188 k (fun q => absurd q (by decide)))))) ; exact (funext (fun k => ((eh85.2.1 189 k (fun q => absurd q (by decide))).trans (eh80.2.1 189 k (fun q => absurd q (by decide)))))) ; exact (funext (fun k => ((eh85.2.1 190 k (fun q => absurd q (by decide))).trans (eh80.2.1 190 k (fun q => absurd q (by decide))))))) (by intro a ha; simp only [List.mem_cons, List.not_mem_nil, or_false] at ha; rcases ha with rfl | rfl | rfl ; exact (funext (fun k => ((congrFun (congrFun eh85.1 185) k).trans (congrFun (congrFun eh80.1 185) k)))) ; exact (funext (fun k => ((congrFun (congrFun eh85.1 186) k).trans (congrFun (congrFun eh80.1 186) k)))) ; exact (funext (fun k => ((congrFun (congrFun eh85.1 196) k).trans (congrFun (congrFun eh80.1 196) k))))) (fun k hk => ((eh85.2.1 199 k (fun q => absurd q (by decide))).trans (eh80.2.1 199 k (fun _ => hk)))) (fun k hk => ((eh85.2.1 200 k (fun _ => hk)).trans (eh80.2.1 200 k (fun q => absurd q (by decide)))))).2 ((congrFun (congrFun eh85.1 172) 0).trans (congrFun (congrFun eh80.1 172) 0)) ((congrFun (congrFun eh85.1 177) 0).trans (congrFun (congrFun eh80.1 177) 0)) (fun k => ((congrFun (congrFun eh85.1 178) k).trans (congrFun (congrFun eh80.1 178) k))) (fun k => ((congrFun (congrFun eh85.1 179) k).trans (congrFun (congrFun eh80.1 179) k))), ⟨(((congrFun (congrFun eh85.1 185) (i48).toNat).trans (congrFun (congrFun eh80.1 185) (i48).toNat))).trans hinv.2.1.1, (((congrFun (congrFun eh85.1 186) (i48).toNat).trans (congrFun (congrFun eh80.1 186) (i48).toNat))).trans hinv.2.1.2⟩, CB_s (i0 := ((102 * i48 + i64)).toNat) (j0 := ((102 * i48 + i64 + 408)).toNat) hinv.2.2 (by omega) (by omega) (by omega) (by omega) (by omega) hinv.1.2.1 (fun k hk => ((eh85.2.1 199 k (fun q => absurd q (by decide))).trans (eh80.2.1 199 k (fun _ => hk)))) (fun k hk => ((eh85.2.1 200 k (fun _ => hk)).trans (eh80.2.1 200 k (fun q => absurd q (by decide))))) ((eh85.2.1 _ _ (fun q => absurd q (by decide))).trans eh80.2.2) eh85.2.2 ex79 (ex84.trans (eh80.2.1 200 ((102 * i48 + i64 + 408)).toNat (fun q => absurd q (by decide))))⟩ k86 (by omega)
                          exact lp243 _ 0 h62 (by omega) (by omega) ⟨yj, yc, fun j hj => by omega⟩ k63 (Nat.lt_succ_self _)
                    exact lp203 _ 0 h46 (by omega) (by omega) (KJ_a k41.1 hinv ⟨(by intro a ha; simp only [List.mem_cons, List.not_mem_nil, or_false] at ha; rcases ha with rfl | rfl | rfl | rfl | rfl | rfl ; exact (funext (fun k => (congrFun (congrFun eh46.2.2 187) k))) ; exact (funext (fun k => (congrFun (congrFun eh46.2.2 188) k))) ; exact (funext (fun k => (congrFun (congrFun eh46.2.2 189) k))) ; exact (funext (fun k => (congrFun (congrFun eh46.2.2 190) k))) ; exact (funext (fun k => (congrFun (congrFun eh46.2.2 199) k))) ; exact (funext (fun k => (congrFun (congrFun eh46.2.2 200) k)))), (by intro a ha; simp only [List.mem_cons, List.not_mem_nil, or_false] at ha; rcases ha with rfl | rfl | rfl ; exact (funext (fun k => (eh46.1 185 k (fun q => absurd q (by decide))))) ; exact (funext (fun k => (eh46.1 186 k (fun q => absurd q (by decide))))) ; exact (funext (fun k => (eh46.1 196 k (fun q => absurd q (by decide))))))⟩ (eh46.1 172 0 (fun q => absurd q (by decide))) (eh46.1 177 0 (fun q => absurd q (by decide))) (fun k => (eh46.1 178 k (fun q => absurd q (by decide)))) (fun k => (eh46.1 179 k (fun q => absurd q (by decide))))) k47 (Nat.lt_succ_self _)
                  · refine A_aload_n 0 d_MD_keep_168 rfl rfl ?_
                    refine A_getAv (z := some 182) T_ok d_MD_keep_169 f_MD_47 (mi_s k41.1 sf_170) (mi_r k41.1 rfm_24) ?_
                    refine A_iload_n 1 d_MD_keep_172 rfl rfl ?_
                    refine A_aload_n 0 d_MD_keep_173 rfl rfl ?_
                    refine A_getAv (z := some 182) T_ok d_MD_keep_174 f_MD_47 (mi_s k41.1 sf_170) (mi_r k41.1 rfm_24) ?_
                    refine A_pc (pc' := 177) rfl ?_
                    refine A_bipush d_MD_keep_177 rfl ?_
                    refine A_iload_n 1 d_MD_keep_179 rfl rfl ?_
                    refine A_iaddv (z := (i39 + 12)) d_MD_keep_180 (w32_to (by omega) (by unfold i32; omega)) ?_
                    refine A_ialoadn (lo := 0) (hi := 15) d_MD_keep_181 (mi_s k41.1 sf_182) (by omega) (by omega) (mi_g k41.1 (by decide) (mr_182 _)) (fun x89 ex89 _ _ => ?_)
                    refine A_iastorek (KR := kM (pm [] [172, 173, 174, 175, 176, 177, 178, 179, 180, 181, 182, 183, 185, 186, 187, 188, 189, 190, 191, 192, 193, 194, 195, 196, 197, 198, 199, 200]) h) d_MD_keep_182 (mi_s k41.1 sf_182) (by omega) (by omega) (kM_i k41 (by decide) rfl (mr_182 _) (by omega) (by omega)) (fun h90 k91 eh90 => ?_)
                    refine A_iincv (z := (i39 + 1)) (L' := [some (av_R (some 170)), some (av_I (i39 + 1)), none]) d_MD_keep_183 rfl (w32_to (by omega) (by unfold i32; omega)) rfl ?_
                    refine A_pc (pc' := 186) rfl ?_
                    refine A_goto (tgt := 162) d_MD_keep_186 (by decide) ?_
                    exact ih162 (i39 + 1) h90 (by omega) (by omega) (KJ_a k41.1 hinv ⟨(by intro a ha; simp only [List.mem_cons, List.not_mem_nil, or_false] at ha; rcases ha with rfl | rfl | rfl | rfl | rfl | rfl ; exact (funext (fun k => (congrFun (congrFun eh90.2.2 187) k))) ; exact (funext (fun k => (congrFun (congrFun eh90.2.2 188) k))) ; exact (funext (fun k => (congrFun (congrFun eh90.2.2 189) k))) ; exact (funext (fun k => (congrFun (congrFun eh90.2.2 190) k))) ; exact (funext (fun k => (congrFun (congrFun eh90.2.2 199) k))) ; exact (funext (fun k => (congrFun (congrFun eh90.2.2 200) k)))), (by intro a ha; simp only [List.mem_cons, List.not_mem_nil, or_false] at ha; rcases ha with rfl | rfl | rfl ; exact (funext (fun k => (eh90.1 185 k (fun q => absurd q (by decide))))) ; exact (funext (fun k => (eh90.1 186 k (fun q => absurd q (by decide))))) ; exact (funext (fun k => (eh90.1 196 k (fun q => absurd q (by decide))))))⟩ (eh90.1 172 0 (fun q => absurd q (by decide))) (eh90.1 177 0 (fun q => absurd q (by decide))) (fun k => (eh90.1 178 k (fun q => absurd q (by decide)))) (fun k => (eh90.1 179 k (fun q => absurd q (by decide))))) k91 (by omega)
              exact lp162 _ 0 h37 (by omega) (by omega) (KJ_a k32.1 yj ⟨(by intro a ha; simp only [List.mem_cons, List.not_mem_nil, or_false] at ha; rcases ha with rfl | rfl | rfl | rfl | rfl | rfl ; exact (funext (fun k => (congrFun (congrFun eh37.2.2 187) k))) ; exact (funext (fun k => (congrFun (congrFun eh37.2.2 188) k))) ; exact (funext (fun k => (congrFun (congrFun eh37.2.2 189) k))) ; exact (funext (fun k => (congrFun (congrFun eh37.2.2 190) k))) ; exact (funext (fun k => (congrFun (congrFun eh37.2.2 199) k))) ; exact (funext (fun k => (congrFun (congrFun eh37.2.2 200) k)))), (by intro a ha; simp only [List.mem_cons, List.not_mem_nil, or_false] at ha; rcases ha with rfl | rfl | rfl ; exact (funext (fun k => (eh37.1 185 k (fun q => absurd q (by decide))))) ; exact (funext (fun k => (eh37.1 186 k (fun q => absurd q (by decide))))) ; exact (funext (fun k => (eh37.1 196 k (fun q => absurd q (by decide))))))⟩ (eh37.1 172 0 (fun q => absurd q (by decide))) (eh37.1 177 0 (fun q => absurd q (by decide))) (fun k => (eh37.1 178 k (fun q => absurd q (by decide)))) (fun k => (eh37.1 179 k (fun q => absurd q (by decide))))) k38 (Nat.lt_succ_self _)
            · refine A_aload_n 0 d_MD_keep_97 rfl rfl ?_
              refine A_getAv (z := some 178) T_ok d_MD_keep_98 f_MD_35 (mi_s k32.1 sf_170) (mi_r k32.1 rfm_20) ?_
              refine A_iload_n 1 d_MD_keep_101 rfl rfl ?_
              refine A_aload_n 0 d_MD_keep_102 rfl rfl ?_
              refine A_getAv (z := some 178) T_ok d_MD_keep_103 f_MD_35 (mi_s k32.1 sf_170) (mi_r k32.1 rfm_20) ?_
              refine A_pc (pc' := 106) rfl ?_
              refine A_bipush d_MD_keep_106 rfl ?_
              refine A_iload_n 1 d_MD_keep_108 rfl rfl ?_
              refine A_iaddv (z := (i30 + 24)) d_MD_keep_109 (w32_to (by omega) (by unfold i32; omega)) ?_
              refine A_ialoadn (lo := (-2)) (hi := 15) d_MD_keep_110 (mi_s k32.1 sf_178) (by omega) (by omega) (mi_g k32.1 (by decide) (mr_178 _)) (fun x94 ex94 _ _ => ?_)
              refine A_iastorek (KR := kM (pm [] [172, 173, 174, 175, 176, 177, 178, 179, 180, 181, 182, 183, 185, 186, 187, 188, 189, 190, 191, 192, 193, 194, 195, 196, 197, 198, 199, 200]) h) d_MD_keep_111 (mi_s k32.1 sf_178) (by omega) (by omega) (kM_i k32 (by decide) rfl (mr_178 _) (by omega) (by omega)) (fun h95 k96 eh95 => ?_)
              refine A_aload_n 0 d_MD_keep_112 rfl rfl ?_
              refine A_pc (pc' := 113) rfl ?_
              refine A_getAv (z := some 179) T_ok d_MD_keep_113 f_MD_38 (mi_s k96.1 sf_170) (mi_r k96.1 rfm_21) ?_
              refine A_iload_n 1 d_MD_keep_116 rfl rfl ?_
              refine A_aload_n 0 d_MD_keep_117 rfl rfl ?_
              refine A_getAv (z := some 179) T_ok d_MD_keep_118 f_MD_38 (mi_s k96.1 sf_170) (mi_r k96.1 rfm_21) ?_
              refine A_bipush d_MD_keep_121 rfl ?_
              refine A_iload_n 1 d_MD_keep_123 rfl rfl ?_
              refine A_pc (pc' := 124) rfl ?_
              refine A_iaddv (z := (i30 + 24)) d_MD_keep_124 (w32_to (by omega) (by unfold i32; omega)) ?_
              refine A_ialoadn (lo := (-2)) (hi := 15) d_MD_keep_125 (mi_s k96.1 sf_179) (by omega) (by omega) (mi_g k96.1 (by decide) (mr_179 _)) (fun x99 ex99 _ _ => ?_)
              refine A_iastorek (KR := kM (pm [] [172, 173, 174, 175, 176, 177, 178, 179, 180, 181, 182, 183, 185, 186, 187, 188, 189, 190, 191, 192, 193, 194, 195, 196, 197, 198, 199, 200]) h) d_MD_keep_126 (mi_s k96.1 sf_179) (by omega) (by omega) (kM_i k96 (by decide) rfl (mr_179 _) (by omega) (by omega)) (fun h100 k101 eh100 => ?_)
              refine A_aload_n 0 d_MD_keep_127 rfl rfl ?_
              refine A_getAv (z := some 180) T_ok d_MD_keep_128 f_MD_41 (mi_s k101.1 sf_170) (mi_r k101.1 rfm_22) ?_
              refine A_iload_n 1 d_MD_keep_131 rfl rfl ?_
              refine A_pc (pc' := 132) rfl ?_
              refine A_aload_n 0 d_MD_keep_132 rfl rfl ?_
              refine A_getAv (z := some 180) T_ok d_MD_keep_133 f_MD_41 (mi_s k101.1 sf_170) (mi_r k101.1 rfm_22) ?_
              refine A_bipush d_MD_keep_136 rfl ?_
              refine A_iload_n 1 d_MD_keep_138 rfl rfl ?_
              refine A_iaddv (z := (i30 + 24)) d_MD_keep_139 (w32_to (by omega) (by unfold i32; omega)) ?_
              refine A_ialoadn (lo := (-2)) (hi := 15) d_MD_keep_140 (mi_s k101.1 sf_180) (by omega) (by omega) (mi_g k101.1 (by decide) (mr_180 _)) (fun x104 ex104 _ _ => ?_)
              refine A_pc (pc' := 141) rfl ?_
              refine A_iastorek (KR := kM (pm [] [172, 173, 174, 175, 176, 177, 178, 179, 180, 181, 182, 183, 185, 186, 187, 188, 189, 190, 191, 192, 193, 194, 195, 196, 197, 198, 199, 200]) h) d_MD_keep_141 (mi_s k101.1 sf_180) (by omega) (by omega) (kM_i k101 (by decide) rfl (mr_180 _) (by omega) (by omega)) (fun h105 k106 eh105 => ?_)
              refine A_iincv (z := (i30 + 1)) (L' := [some (av_R (some 170)), some (av_I (i30 + 1)), none]) d_MD_keep_142 rfl (w32_to (by omega) (by unfold i32; omega)) rfl ?_
              refine A_goto (tgt := 91) d_MD_keep_145 (by decide) ?_
              exact ih91 (i30 + 1) h105 (by omega) (by omega) ⟨⟨(by intro a ha; simp only [List.mem_cons, List.not_mem_nil, or_false] at ha; rcases ha with rfl | rfl | rfl | rfl | rfl | rfl ; exact (funext (fun k => ((congrFun (congrFun eh105.2.2 187) k).trans ((congrFun (congrFun eh100.2.2 187) k).trans ((congrFun (congrFun eh95.2.2 187) k).trans (congrFun (hinv.1.1 187 (by decide)) k)))))) ; exact (funext (fun k => ((congrFun (congrFun eh105.2.2 188) k).trans ((congrFun (congrFun eh100.2.2 188) k).trans ((congrFun (congrFun eh95.2.2 188) k).trans (congrFun (hinv.1.1 188 (by decide)) k)))))) ; exact (funext (fun k => ((congrFun (congrFun eh105.2.2 189) k).trans ((congrFun (congrFun eh100.2.2 189) k).trans ((congrFun (congrFun eh95.2.2 189) k).trans (congrFun (hinv.1.1 189 (by decide)) k)))))) ; exact (funext (fun k => ((congrFun (congrFun eh105.2.2 190) k).trans ((congrFun (congrFun eh100.2.2 190) k).trans ((congrFun (congrFun eh95.2.2 190) k).trans (congrFun (hinv.1.1 190 (by decide)) k)))))) ; exact (funext (fun k => ((congrFun (congrFun eh105.2.2 199) k).trans ((congrFun (congrFun eh100.2.2 199) k).trans ((congrFun (congrFun eh95.2.2 199) k).trans (congrFun (hinv.1.1 199 (by decide)) k)))))) ; exact (funext (fun k => ((congrFun (congrFun eh105.2.2 200) k).trans ((congrFun (congrFun eh100.2.2 200) k).trans ((congrFun (congrFun eh95.2.2 200) k).trans (congrFun (hinv.1.1 200 (by decide)) k))))))), (by intro a ha; simp only [List.mem_cons, List.not_mem_nil, or_false] at ha; rcases ha with rfl | rfl | rfl ; exact (funext (fun k => ((eh105.1 185 k (fun q => absurd q (by decide))).trans ((eh100.1 185 k (fun q => absurd q (by decide))).trans ((eh95.1 185 k (fun q => absurd q (by decide))).trans (congrFun (hinv.1.2 185 (by decide)) k)))))) ; exact (funext (fun k => ((eh105.1 186 k (fun q => absurd q (by decide))).trans ((eh100.1 186 k (fun q => absurd q (by decide))).trans ((eh95.1 186 k (fun q => absurd q (by decide))).trans (congrFun (hinv.1.2 186 (by decide)) k)))))) ; exact (funext (fun k => ((eh105.1 196 k (fun q => absurd q (by decide))).trans ((eh100.1 196 k (fun q => absurd q (by decide))).trans ((eh95.1 196 k (fun q => absurd q (by decide))).trans (congrFun (hinv.1.2 196 (by decide)) k)))))))⟩, ((eh105.1 172 0 (fun q => absurd q (by decide))).trans ((eh100.1 172 0 (fun q => absurd q (by decide))).trans ((eh95.1 172 0 (fun q => absurd q (by decide))).trans hinv.2.1))), CP_s (i0 := (i30).toNat) (j0 := ((i30 + 24)).toNat) hinv.2.2.1 (by omega) (by omega) (by omega) (by omega) (fun k hk => ((eh105.1 178 k (fun q => absurd q (by decide))).trans ((eh100.1 178 k (fun q => absurd q (by decide))).trans (eh95.1 178 k (fun _ => hk))))) ((eh105.1 _ _ (fun q => absurd q (by decide))).trans ((eh100.1 _ _ (fun q => absurd q (by decide))).trans eh95.2.1)) ex94, CP_s (i0 := (i30).toNat) (j0 := ((i30 + 24)).toNat) hinv.2.2.2.1 (by omega) (by omega) (by omega) (by omega) (fun k hk => ((eh105.1 179 k (fun q => absurd q (by decide))).trans ((eh100.1 179 k (fun _ => hk)).trans (eh95.1 179 k (fun q => absurd q (by decide)))))) ((eh105.1 _ _ (fun q => absurd q (by decide))).trans eh100.2.1) (ex99.trans (eh95.1 179 ((i30 + 24)).toNat (fun q => absurd q (by decide)))), ((eh105.1 177 0 (fun q => absurd q (by decide))).trans ((eh100.1 177 0 (fun q => absurd q (by decide))).trans ((eh95.1 177 0 (fun q => absurd q (by decide))).trans hinv.2.2.2.2)))⟩ k106 (by omega)
        exact lp91 _ 0 h28 (by omega) (by omega) ⟨⟨(by intro a ha; simp only [List.mem_cons, List.not_mem_nil, or_false] at ha; rcases ha with rfl | rfl | rfl | rfl | rfl | rfl ; exact (funext (fun k => ((congrFun (congrFun eh28.2.2 187) k).trans (congrFun (hinv.1.1 187 (by decide)) k)))) ; exact (funext (fun k => ((congrFun (congrFun eh28.2.2 188) k).trans (congrFun (hinv.1.1 188 (by decide)) k)))) ; exact (funext (fun k => ((congrFun (congrFun eh28.2.2 189) k).trans (congrFun (hinv.1.1 189 (by decide)) k)))) ; exact (funext (fun k => ((congrFun (congrFun eh28.2.2 190) k).trans (congrFun (hinv.1.1 190 (by decide)) k)))) ; exact (funext (fun k => ((congrFun (congrFun eh28.2.2 199) k).trans (congrFun (hinv.1.1 199 (by decide)) k)))) ; exact (funext (fun k => ((congrFun (congrFun eh28.2.2 200) k).trans (congrFun (hinv.1.1 200 (by decide)) k))))), (by intro a ha; simp only [List.mem_cons, List.not_mem_nil, or_false] at ha; rcases ha with rfl | rfl | rfl ; exact (funext (fun k => ((eh28.1 185 k (fun q => absurd q (by decide))).trans (congrFun (hinv.1.2 185 (by decide)) k)))) ; exact (funext (fun k => ((eh28.1 186 k (fun q => absurd q (by decide))).trans (congrFun (hinv.1.2 186 (by decide)) k)))) ; exact (funext (fun k => ((eh28.1 196 k (fun q => absurd q (by decide))).trans (congrFun (hinv.1.2 196 (by decide)) k)))))⟩, ((eh28.1 172 0 (fun q => absurd q (by decide))).trans hinv.2.1), CP_0 (fun k => ((eh28.1 178 k (fun q => absurd q (by decide))).trans (hinv.2.2.1 k))), CP_0 (fun k => ((eh28.1 179 k (fun q => absurd q (by decide))).trans (hinv.2.2.2.1 k))), (eh28.2.1.trans (ex27.trans hinv.2.2.2.2))⟩ k29 (Nat.lt_succ_self _)
      · refine A_aload_n 0 d_MD_keep_56 rfl rfl ?_
        refine A_getAv (z := some 176) T_ok d_MD_keep_57 f_MD_29 (mi_s k23.1 sf_170) (mi_r k23.1 rfm_18) ?_
        refine A_iload_n 1 d_MD_keep_60 rfl rfl ?_
        refine A_aload_n 0 d_MD_keep_61 rfl rfl ?_
        refine A_getAv (z := some 176) T_ok d_MD_keep_62 f_MD_29 (mi_s k23.1 sf_170) (mi_r k23.1 rfm_18) ?_
        refine A_pc (pc' := 65) rfl ?_
        refine A_bipush d_MD_keep_65 rfl ?_
        refine A_iload_n 1 d_MD_keep_67 rfl rfl ?_
        refine A_iaddv (z := (i21 + 8)) d_MD_keep_68 (w32_to (by omega) (by unfold i32; omega)) ?_
        refine A_ialoadn (lo := (-2)) (hi := 109) d_MD_keep_69 (mi_s k23.1 sf_176) (by omega) (by omega) (mi_g k23.1 (by decide) (mr_176 _)) (fun x109 ex109 _ _ => ?_)
        refine A_iastorek (KR := kM (pm [] [172, 173, 174, 175, 176, 177, 178, 179, 180, 181, 182, 183, 185, 186, 187, 188, 189, 190, 191, 192, 193, 194, 195, 196, 197, 198, 199, 200]) h) d_MD_keep_70 (mi_s k23.1 sf_176) (by omega) (by omega) (kM_i k23 (by decide) rfl (mr_176 _) (by omega) (by omega)) (fun h110 k111 eh110 => ?_)
        refine A_iincv (z := (i21 + 1)) (L' := [some (av_R (some 170)), some (av_I (i21 + 1)), none]) d_MD_keep_71 rfl (w32_to (by omega) (by unfold i32; omega)) rfl ?_
        refine A_pc (pc' := 74) rfl ?_
        refine A_goto (tgt := 50) d_MD_keep_74 (by decide) ?_
        exact ih50 (i21 + 1) h110 (by omega) (by omega) ⟨⟨(by intro a ha; simp only [List.mem_cons, List.not_mem_nil, or_false] at ha; rcases ha with rfl | rfl | rfl | rfl | rfl | rfl ; exact (funext (fun k => ((congrFun (congrFun eh110.2.2 187) k).trans (congrFun (hinv.1.1 187 (by decide)) k)))) ; exact (funext (fun k => ((congrFun (congrFun eh110.2.2 188) k).trans (congrFun (hinv.1.1 188 (by decide)) k)))) ; exact (funext (fun k => ((congrFun (congrFun eh110.2.2 189) k).trans (congrFun (hinv.1.1 189 (by decide)) k)))) ; exact (funext (fun k => ((congrFun (congrFun eh110.2.2 190) k).trans (congrFun (hinv.1.1 190 (by decide)) k)))) ; exact (funext (fun k => ((congrFun (congrFun eh110.2.2 199) k).trans (congrFun (hinv.1.1 199 (by decide)) k)))) ; exact (funext (fun k => ((congrFun (congrFun eh110.2.2 200) k).trans (congrFun (hinv.1.1 200 (by decide)) k))))), (by intro a ha; simp only [List.mem_cons, List.not_mem_nil, or_false] at ha; rcases ha with rfl | rfl | rfl ; exact (funext (fun k => ((eh110.1 185 k (fun q => absurd q (by decide))).trans (congrFun (hinv.1.2 185 (by decide)) k)))) ; exact (funext (fun k => ((eh110.1 186 k (fun q => absurd q (by decide))).trans (congrFun (hinv.1.2 186 (by decide)) k)))) ; exact (funext (fun k => ((eh110.1 196 k (fun q => absurd q (by decide))).trans (congrFun (hinv.1.2 196 (by decide)) k)))))⟩, ((eh110.1 172 0 (fun q => absurd q (by decide))).trans hinv.2.1), fun k => ((eh110.1 178 k (fun q => absurd q (by decide))).trans (hinv.2.2.1 k)), fun k => ((eh110.1 179 k (fun q => absurd q (by decide))).trans (hinv.2.2.2.1 k)), ((eh110.1 177 1 (fun q => absurd q (by decide))).trans hinv.2.2.2.2)⟩ k111 (by omega)
  exact lp50 _ 0 h19 (by omega) (by omega) ⟨⟨(by intro a ha; simp only [List.mem_cons, List.not_mem_nil, or_false] at ha; rcases ha with rfl | rfl | rfl | rfl | rfl | rfl ; exact (funext (fun k => ((congrFun (congrFun eh19.2.2 187) k).trans ((congrFun (congrFun eh14.2.2 187) k).trans ((congrFun (congrFun eh9.2.2 187) k).trans (congrFun (congrFun eh4.2.2 187) k)))))) ; exact (funext (fun k => ((congrFun (congrFun eh19.2.2 188) k).trans ((congrFun (congrFun eh14.2.2 188) k).trans ((congrFun (congrFun eh9.2.2 188) k).trans (congrFun (congrFun eh4.2.2 188) k)))))) ; exact (funext (fun k => ((congrFun (congrFun eh19.2.2 189) k).trans ((congrFun (congrFun eh14.2.2 189) k).trans ((congrFun (congrFun eh9.2.2 189) k).trans (congrFun (congrFun eh4.2.2 189) k)))))) ; exact (funext (fun k => ((congrFun (congrFun eh19.2.2 190) k).trans ((congrFun (congrFun eh14.2.2 190) k).trans ((congrFun (congrFun eh9.2.2 190) k).trans (congrFun (congrFun eh4.2.2 190) k)))))) ; exact (funext (fun k => ((congrFun (congrFun eh19.2.2 199) k).trans ((congrFun (congrFun eh14.2.2 199) k).trans ((congrFun (congrFun eh9.2.2 199) k).trans (congrFun (congrFun eh4.2.2 199) k)))))) ; exact (funext (fun k => ((congrFun (congrFun eh19.2.2 200) k).trans ((congrFun (congrFun eh14.2.2 200) k).trans ((congrFun (congrFun eh9.2.2 200) k).trans (congrFun (congrFun eh4.2.2 200) k))))))), (by intro a ha; simp only [List.mem_cons, List.not_mem_nil, or_false] at ha; rcases ha with rfl | rfl | rfl ; exact (funext (fun k => ((eh19.1 185 k (fun q => absurd q (by decide))).trans ((eh14.1 185 k (fun q => absurd q (by decide))).trans ((eh9.1 185 k (fun q => absurd q (by decide))).trans (eh4.1 185 k (fun q => absurd q (by decide)))))))) ; exact (funext (fun k => ((eh19.1 186 k (fun q => absurd q (by decide))).trans ((eh14.1 186 k (fun q => absurd q (by decide))).trans ((eh9.1 186 k (fun q => absurd q (by decide))).trans (eh4.1 186 k (fun q => absurd q (by decide)))))))) ; exact (funext (fun k => ((eh19.1 196 k (fun q => absurd q (by decide))).trans ((eh14.1 196 k (fun q => absurd q (by decide))).trans ((eh9.1 196 k (fun q => absurd q (by decide))).trans (eh4.1 196 k (fun q => absurd q (by decide)))))))))⟩, ((eh19.1 _ _ (fun q => absurd q (by decide))).trans ((eh14.1 _ _ (fun q => absurd q (by decide))).trans ((eh9.1 _ _ (fun q => absurd q (by decide))).trans eh4.2.1))).trans ex3, fun k => ((eh19.1 178 k (fun q => absurd q (by decide))).trans ((eh14.1 178 k (fun q => absurd q (by decide))).trans ((eh9.1 178 k (fun q => absurd q (by decide))).trans (eh4.1 178 k (fun q => absurd q (by decide)))))), fun k => ((eh19.1 179 k (fun q => absurd q (by decide))).trans ((eh14.1 179 k (fun q => absurd q (by decide))).trans ((eh9.1 179 k (fun q => absurd q (by decide))).trans (eh4.1 179 k (fun q => absurd q (by decide)))))), ((eh19.1 177 1 (fun q => absurd q (by decide))).trans ((eh14.1 177 1 (fun q => absurd q (by decide))).trans ((eh9.1 177 1 (fun q => absurd q (by decide))).trans (eh4.1 177 1 (fun q => absurd q (by decide))))))⟩ k20 (Nat.lt_succ_self _)
