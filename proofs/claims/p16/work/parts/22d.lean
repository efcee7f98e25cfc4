/-! ===== the class's methods, 22d ===== -/
def m_Tokens_cutOne : mr_T := (⟨"PlainMusic$Tokens", "cutOne", "()Z"⟩, prog_10_method_4_code, 3, some .boolean)
theorem d_Tokens_cutOne_0 : decode prog_10_method_4_code 0 = .ok (.aload_n 0, 1) := by decide +kernel
theorem d_Tokens_cutOne_1 : decode prog_10_method_4_code 1 = .ok (.invokevirtual 67, 3) := by decide +kernel
theorem k_Tokens_skipBlanks : mt_OK m_Tokens_skipBlanks 0 1 := ⟨(gw_in 666 (by decide +kernel) (by decide +kernel)), (gw_in 136 (by decide +kernel) (by decide +kernel)), ⟨by decide +kernel, by decide +kernel, by decide +kernel⟩, fun h => absurd h (by decide), fun _ => ⟨(gw_in 665 (by decide +kernel) (by decide +kernel)), (gw_in 2 (by decide +kernel) (by decide +kernel))⟩, fun h => absurd h (by decide)⟩
theorem l_Tokens_67 : ml_OK "PlainMusic$Tokens" 67 ⟨"PlainMusic$Tokens", "skipBlanks", "()V"⟩ := Or.inl (gw_in 663 (by decide +kernel) (by decide +kernel))
theorem d_Tokens_cutOne_4 : decode prog_10_method_4_code 4 = .ok (.aload_n 0, 1) := by decide +kernel
theorem d_Tokens_cutOne_5 : decode prog_10_method_4_code 5 = .ok (.getfield 38, 3) := by decide +kernel
theorem d_Tokens_cutOne_8 : decode prog_10_method_4_code 8 = .ok (.istore_n 1, 1) := by decide +kernel
theorem d_Tokens_cutOne_9 : decode prog_10_method_4_code 9 = .ok (.aload_n 0, 1) := by decide +kernel
theorem d_Tokens_cutOne_10 : decode prog_10_method_4_code 10 = .ok (.aload_n 0, 1) := by decide +kernel
theorem d_Tokens_cutOne_11 : decode prog_10_method_4_code 11 = .ok (.getfield 38, 3) := by decide +kernel
theorem d_Tokens_cutOne_14 : decode prog_10_method_4_code 14 = .ok (.invokevirtual 70, 3) := by decide +kernel
theorem d_Tokens_cutOne_17 : decode prog_10_method_4_code 17 = .ok (.istore_n 2, 1) := by decide +kernel
theorem d_Tokens_cutOne_111 : decode prog_10_method_4_code 111 = .ok (.aload_n 0, 1) := by decide +kernel
theorem d_Tokens_cutOne_112 : decode prog_10_method_4_code 112 = .ok (.getfield 41, 3) := by decide +kernel
theorem d_Tokens_cutOne_115 : decode prog_10_method_4_code 115 = .ok (.aload_n 0, 1) := by decide +kernel
theorem d_Tokens_cutOne_116 : decode prog_10_method_4_code 116 = .ok (.getfield 9, 3) := by decide +kernel
theorem d_Tokens_cutOne_119 : decode prog_10_method_4_code 119 = .ok (.arraylength, 1) := by decide +kernel
theorem d_Tokens_cutOne_120 : decode prog_10_method_4_code 120 = .ok (.if_icmp .ge 62, 3) := by decide +kernel
theorem d_Tokens_cutOne_182 : decode prog_10_method_4_code 182 = .ok (.aload_n 0, 1) := by decide +kernel
theorem d_Tokens_cutOne_183 : decode prog_10_method_4_code 183 = .ok (.getfield 54, 3) := by decide +kernel
theorem d_Tokens_cutOne_186 : decode prog_10_method_4_code 186 = .ok (.sipush 256, 3) := by decide +kernel
theorem d_Tokens_cutOne_189 : decode prog_10_method_4_code 189 = .ok (.if_icmp .eq 17, 3) := by decide +kernel
theorem d_Tokens_cutOne_206 : decode prog_10_method_4_code 206 = .ok (.iconst 0, 1) := by decide +kernel
theorem d_Tokens_cutOne_207 : decode prog_10_method_4_code 207 = .ok (.ireturn, 1) := by decide +kernel
theorem d_Tokens_cutOne_192 : decode prog_10_method_4_code 192 = .ok (.aload_n 0, 1) := by decide +kernel
theorem d_Tokens_cutOne_193 : decode prog_10_method_4_code 193 = .ok (.getfield 54, 3) := by decide +kernel
theorem d_Tokens_cutOne_196 : decode prog_10_method_4_code 196 = .ok (.sipush 257, 3) := by decide +kernel
theorem d_Tokens_cutOne_199 : decode prog_10_method_4_code 199 = .ok (.if_icmp .eq 7, 3) := by decide +kernel
theorem d_Tokens_cutOne_202 : decode prog_10_method_4_code 202 = .ok (.iconst 1, 1) := by decide +kernel
theorem d_Tokens_cutOne_203 : decode prog_10_method_4_code 203 = .ok (.goto 4, 3) := by decide +kernel
theorem d_Tokens_cutOne_123 : decode prog_10_method_4_code 123 = .ok (.aload_n 0, 1) := by decide +kernel
theorem d_Tokens_cutOne_124 : decode prog_10_method_4_code 124 = .ok (.getfield 9, 3) := by decide +kernel
theorem d_Tokens_cutOne_127 : decode prog_10_method_4_code 127 = .ok (.aload_n 0, 1) := by decide +kernel
theorem d_Tokens_cutOne_128 : decode prog_10_method_4_code 128 = .ok (.getfield 41, 3) := by decide +kernel
theorem d_Tokens_cutOne_131 : decode prog_10_method_4_code 131 = .ok (.aload_n 0, 1) := by decide +kernel
theorem d_Tokens_cutOne_132 : decode prog_10_method_4_code 132 = .ok (.getfield 54, 3) := by decide +kernel
theorem d_Tokens_cutOne_135 : decode prog_10_method_4_code 135 = .ok (.iastore, 1) := by decide +kernel
theorem d_Tokens_cutOne_136 : decode prog_10_method_4_code 136 = .ok (.aload_n 0, 1) := by decide +kernel
theorem d_Tokens_cutOne_137 : decode prog_10_method_4_code 137 = .ok (.getfield 15, 3) := by decide +kernel
theorem d_Tokens_cutOne_140 : decode prog_10_method_4_code 140 = .ok (.aload_n 0, 1) := by decide +kernel
theorem d_Tokens_cutOne_141 : decode prog_10_method_4_code 141 = .ok (.getfield 41, 3) := by decide +kernel
theorem d_Tokens_cutOne_144 : decode prog_10_method_4_code 144 = .ok (.iload_n 1, 1) := by decide +kernel
theorem d_Tokens_cutOne_145 : decode prog_10_method_4_code 145 = .ok (.iastore, 1) := by decide +kernel
theorem d_Tokens_cutOne_146 : decode prog_10_method_4_code 146 = .ok (.aload_n 0, 1) := by decide +kernel
theorem d_Tokens_cutOne_147 : decode prog_10_method_4_code 147 = .ok (.getfield 18, 3) := by decide +kernel
theorem d_Tokens_cutOne_150 : decode prog_10_method_4_code 150 = .ok (.aload_n 0, 1) := by decide +kernel
theorem d_Tokens_cutOne_151 : decode prog_10_method_4_code 151 = .ok (.getfield 41, 3) := by decide +kernel
theorem d_Tokens_cutOne_154 : decode prog_10_method_4_code 154 = .ok (.aload_n 0, 1) := by decide +kernel
theorem d_Tokens_cutOne_155 : decode prog_10_method_4_code 155 = .ok (.getfield 60, 3) := by decide +kernel
theorem d_Tokens_cutOne_158 : decode prog_10_method_4_code 158 = .ok (.lastore, 1) := by decide +kernel
theorem d_Tokens_cutOne_159 : decode prog_10_method_4_code 159 = .ok (.aload_n 0, 1) := by decide +kernel
theorem d_Tokens_cutOne_160 : decode prog_10_method_4_code 160 = .ok (.getfield 22, 3) := by decide +kernel
theorem d_Tokens_cutOne_163 : decode prog_10_method_4_code 163 = .ok (.aload_n 0, 1) := by decide +kernel
theorem d_Tokens_cutOne_164 : decode prog_10_method_4_code 164 = .ok (.getfield 41, 3) := by decide +kernel
theorem d_Tokens_cutOne_167 : decode prog_10_method_4_code 167 = .ok (.aload_n 0, 1) := by decide +kernel
theorem d_Tokens_cutOne_168 : decode prog_10_method_4_code 168 = .ok (.getfield 64, 3) := by decide +kernel
theorem d_Tokens_cutOne_171 : decode prog_10_method_4_code 171 = .ok (.iastore, 1) := by decide +kernel
theorem d_Tokens_cutOne_172 : decode prog_10_method_4_code 172 = .ok (.aload_n 0, 1) := by decide +kernel
theorem d_Tokens_cutOne_173 : decode prog_10_method_4_code 173 = .ok (.dup, 1) := by decide +kernel
theorem d_Tokens_cutOne_174 : decode prog_10_method_4_code 174 = .ok (.getfield 41, 3) := by decide +kernel
theorem d_Tokens_cutOne_177 : decode prog_10_method_4_code 177 = .ok (.iconst 1, 1) := by decide +kernel
theorem d_Tokens_cutOne_178 : decode prog_10_method_4_code 178 = .ok (.iadd, 1) := by decide +kernel
theorem d_Tokens_cutOne_179 : decode prog_10_method_4_code 179 = .ok (.putfield 41, 3) := by decide +kernel
theorem d_Tokens_cutOne_18 : decode prog_10_method_4_code 18 = .ok (.iload_n 2, 1) := by decide +kernel
theorem d_Tokens_cutOne_19 : decode prog_10_method_4_code 19 = .ok (.ifCond .ge 13, 3) := by decide +kernel
theorem d_Tokens_cutOne_32 : decode prog_10_method_4_code 32 = .ok (.iload_n 2, 1) := by decide +kernel
theorem d_Tokens_cutOne_33 : decode prog_10_method_4_code 33 = .ok (.bipush 65, 2) := by decide +kernel
theorem d_Tokens_cutOne_35 : decode prog_10_method_4_code 35 = .ok (.if_icmp .lt 17, 3) := by decide +kernel
theorem d_Tokens_cutOne_52 : decode prog_10_method_4_code 52 = .ok (.iload_n 2, 1) := by decide +kernel
theorem d_Tokens_cutOne_53 : decode prog_10_method_4_code 53 = .ok (.invokestatic 78, 3) := by decide +kernel
theorem d_Tokens_cutOne_56 : decode prog_10_method_4_code 56 = .ok (.ifCond .eq 10, 3) := by decide +kernel
theorem d_Tokens_cutOne_66 : decode prog_10_method_4_code 66 = .ok (.iload_n 2, 1) := by decide +kernel
theorem d_Tokens_cutOne_67 : decode prog_10_method_4_code 67 = .ok (.invokestatic 85, 3) := by decide +kernel
theorem d_Tokens_cutOne_70 : decode prog_10_method_4_code 70 = .ok (.ifCond .eq 10, 3) := by decide +kernel
theorem d_Tokens_cutOne_80 : decode prog_10_method_4_code 80 = .ok (.aload_n 0, 1) := by decide +kernel
theorem d_Tokens_cutOne_81 : decode prog_10_method_4_code 81 = .ok (.ldc 91, 2) := by decide +kernel
theorem d_Tokens_cutOne_83 : decode prog_10_method_4_code 83 = .ok (.iload_n 2, 1) := by decide +kernel
theorem d_Tokens_cutOne_84 : decode prog_10_method_4_code 84 = .ok (.i2c, 1) := by decide +kernel
theorem d_Tokens_cutOne_85 : decode prog_10_method_4_code 85 = .ok (.invokevirtual 93, 3) := by decide +kernel
theorem k_JString_indexOf_II : mt_OK m_JString_indexOf_II 1 1 := ⟨(gw_in 758 (by decide +kernel) (by decide +kernel)), (gw_in 148 (by decide +kernel) (by decide +kernel)), ⟨by decide +kernel, by decide +kernel, by decide +kernel⟩, fun h => absurd h (by decide), fun _ => ⟨(gw_in 756 (by decide +kernel) (by decide +kernel)), (gw_in 757 (by decide +kernel) (by decide +kernel))⟩, fun h => absurd h (by decide)⟩
theorem ll_Tokens_93 : Cond.methodLink "PlainMusic$Tokens" 93 ⟨"java/lang/String", "indexOf", "(I)I"⟩ ∈ gw := (gw_in 755 (by decide +kernel) (by decide +kernel))
theorem d_Tokens_cutOne_88 : decode prog_10_method_4_code 88 = .ok (.ifCond .lt 7, 3) := by decide +kernel
theorem d_Tokens_cutOne_95 : decode prog_10_method_4_code 95 = .ok (.sipush 257, 3) := by decide +kernel
theorem d_Tokens_cutOne_98 : decode prog_10_method_4_code 98 = .ok (.putfield 54, 3) := by decide +kernel
theorem d_Tokens_cutOne_101 : decode prog_10_method_4_code 101 = .ok (.aload_n 0, 1) := by decide +kernel
theorem d_Tokens_cutOne_102 : decode prog_10_method_4_code 102 = .ok (.dup, 1) := by decide +kernel
theorem d_Tokens_cutOne_103 : decode prog_10_method_4_code 103 = .ok (.getfield 38, 3) := by decide +kernel
theorem d_Tokens_cutOne_106 : decode prog_10_method_4_code 106 = .ok (.iconst 1, 1) := by decide +kernel
theorem d_Tokens_cutOne_107 : decode prog_10_method_4_code 107 = .ok (.iadd, 1) := by decide +kernel
theorem d_Tokens_cutOne_108 : decode prog_10_method_4_code 108 = .ok (.putfield 38, 3) := by decide +kernel
theorem d_Tokens_cutOne_91 : decode prog_10_method_4_code 91 = .ok (.iload_n 2, 1) := by decide +kernel
theorem d_Tokens_cutOne_92 : decode prog_10_method_4_code 92 = .ok (.goto 6, 3) := by decide +kernel
theorem d_Tokens_cutOne_73 : decode prog_10_method_4_code 73 = .ok (.aload_n 0, 1) := by decide +kernel
theorem d_Tokens_cutOne_74 : decode prog_10_method_4_code 74 = .ok (.invokevirtual 88, 3) := by decide +kernel
theorem k_Tokens_cutNumber : mt_OK m_Tokens_cutNumber 0 1 := ⟨(gw_in 753 (by decide +kernel) (by decide +kernel)), (gw_in 136 (by decide +kernel) (by decide +kernel)), ⟨by decide +kernel, by decide +kernel, by decide +kernel⟩, fun h => absurd h (by decide), fun _ => ⟨(gw_in 752 (by decide +kernel) (by decide +kernel)), (gw_in 6 (by decide +kernel) (by decide +kernel))⟩, fun h => absurd h (by decide)⟩
theorem l_Tokens_88 : ml_OK "PlainMusic$Tokens" 88 ⟨"PlainMusic$Tokens", "cutNumber", "()V"⟩ := Or.inl (gw_in 750 (by decide +kernel) (by decide +kernel))
theorem d_Tokens_cutOne_77 : decode prog_10_method_4_code 77 = .ok (.goto 34, 3) := by decide +kernel
theorem d_Tokens_cutOne_59 : decode prog_10_method_4_code 59 = .ok (.aload_n 0, 1) := by decide +kernel
theorem d_Tokens_cutOne_60 : decode prog_10_method_4_code 60 = .ok (.invokevirtual 82, 3) := by decide +kernel
theorem k_Tokens_cutName : mt_OK m_Tokens_cutName 0 1 := ⟨(gw_in 686 (by decide +kernel) (by decide +kernel)), (gw_in 136 (by decide +kernel) (by decide +kernel)), ⟨by decide +kernel, by decide +kernel, by decide +kernel⟩, fun h => absurd h (by decide), fun _ => ⟨(gw_in 685 (by decide +kernel) (by decide +kernel)), (gw_in 5 (by decide +kernel) (by decide +kernel))⟩, fun h => absurd h (by decide)⟩
theorem l_Tokens_82 : ml_OK "PlainMusic$Tokens" 82 ⟨"PlainMusic$Tokens", "cutName", "()V"⟩ := Or.inl (gw_in 683 (by decide +kernel) (by decide +kernel))
theorem d_Tokens_cutOne_63 : decode prog_10_method_4_code 63 = .ok (.goto 48, 3) := by decide +kernel
theorem d_Tokens_cutOne_38 : decode prog_10_method_4_code 38 = .ok (.iload_n 2, 1) := by decide +kernel
theorem d_Tokens_cutOne_39 : decode prog_10_method_4_code 39 = .ok (.bipush 71, 2) := by decide +kernel
theorem d_Tokens_cutOne_41 : decode prog_10_method_4_code 41 = .ok (.if_icmp .gt 11, 3) := by decide +kernel
theorem d_Tokens_cutOne_44 : decode prog_10_method_4_code 44 = .ok (.aload_n 0, 1) := by decide +kernel
theorem d_Tokens_cutOne_45 : decode prog_10_method_4_code 45 = .ok (.iload_n 2, 1) := by decide +kernel
theorem d_Tokens_cutOne_46 : decode prog_10_method_4_code 46 = .ok (.invokevirtual 74, 3) := by decide +kernel
theorem k_Tokens_cutPitch : mt_OK m_Tokens_cutPitch 1 1 := ⟨(gw_in 674 (by decide +kernel) (by decide +kernel)), (gw_in 136 (by decide +kernel) (by decide +kernel)), ⟨by decide +kernel, by decide +kernel, by decide +kernel⟩, fun h => absurd h (by decide), fun _ => ⟨(gw_in 673 (by decide +kernel) (by decide +kernel)), (gw_in 4 (by decide +kernel) (by decide +kernel))⟩, fun h => absurd h (by decide)⟩
theorem l_Tokens_74 : ml_OK "PlainMusic$Tokens" 74 ⟨"PlainMusic$Tokens", "cutPitch", "(I)V"⟩ := Or.inl (gw_in 671 (by decide +kernel) (by decide +kernel))
theorem d_Tokens_cutOne_49 : decode prog_10_method_4_code 49 = .ok (.goto 62, 3) := by decide +kernel
theorem d_Tokens_cutOne_22 : decode prog_10_method_4_code 22 = .ok (.aload_n 0, 1) := by decide +kernel
theorem d_Tokens_cutOne_23 : decode prog_10_method_4_code 23 = .ok (.sipush 256, 3) := by decide +kernel
theorem d_Tokens_cutOne_26 : decode prog_10_method_4_code 26 = .ok (.putfield 54, 3) := by decide +kernel
theorem d_Tokens_cutOne_29 : decode prog_10_method_4_code 29 = .ok (.goto 82, 3) := by decide +kernel
def m_Tokens_cutAll : mr_T := (⟨"PlainMusic$Tokens", "cutAll", "([II)V"⟩, prog_10_method_2_code, 5, none)
theorem d_Tokens_cutAll_0 : decode prog_10_method_2_code 0 = .ok (.aload_n 0, 1) := by decide +kernel
theorem d_Tokens_cutAll_1 : decode prog_10_method_2_code 1 = .ok (.aload_n 1, 1) := by decide +kernel
theorem d_Tokens_cutAll_2 : decode prog_10_method_2_code 2 = .ok (.putfield 25, 3) := by decide +kernel
theorem d_Tokens_cutAll_5 : decode prog_10_method_2_code 5 = .ok (.aload_n 0, 1) := by decide +kernel
theorem d_Tokens_cutAll_6 : decode prog_10_method_2_code 6 = .ok (.iload_n 2, 1) := by decide +kernel
theorem d_Tokens_cutAll_7 : decode prog_10_method_2_code 7 = .ok (.aload_n 1, 1) := by decide +kernel
theorem d_Tokens_cutAll_8 : decode prog_10_method_2_code 8 = .ok (.arraylength, 1) := by decide +kernel
theorem d_Tokens_cutAll_9 : decode prog_10_method_2_code 9 = .ok (.sipush 2000, 3) := by decide +kernel
theorem d_Tokens_cutAll_12 : decode prog_10_method_2_code 12 = .ok (.invokestatic 28, 3) := by decide +kernel
theorem lm_Tokens_28 : Cond.methodLink "PlainMusic$Tokens" 28 Lib.Math.min.name ∈ gw := (gw_in 656 (by decide +kernel) (by decide +kernel))
theorem d_Tokens_cutAll_15 : decode prog_10_method_2_code 15 = .ok (.invokestatic 28, 3) := by decide +kernel
theorem d_Tokens_cutAll_18 : decode prog_10_method_2_code 18 = .ok (.putfield 34, 3) := by decide +kernel
theorem d_Tokens_cutAll_21 : decode prog_10_method_2_code 21 = .ok (.aload_n 0, 1) := by decide +kernel
theorem d_Tokens_cutAll_22 : decode prog_10_method_2_code 22 = .ok (.iconst 0, 1) := by decide +kernel
theorem d_Tokens_cutAll_23 : decode prog_10_method_2_code 23 = .ok (.putfield 38, 3) := by decide +kernel
theorem d_Tokens_cutAll_26 : decode prog_10_method_2_code 26 = .ok (.aload_n 0, 1) := by decide +kernel
theorem d_Tokens_cutAll_27 : decode prog_10_method_2_code 27 = .ok (.iconst 0, 1) := by decide +kernel
theorem d_Tokens_cutAll_28 : decode prog_10_method_2_code 28 = .ok (.putfield 41, 3) := by decide +kernel
theorem d_Tokens_cutAll_31 : decode prog_10_method_2_code 31 = .ok (.iconst 1, 1) := by decide +kernel
theorem d_Tokens_cutAll_32 : decode prog_10_method_2_code 32 = .ok (.istore_n 3, 1) := by decide +kernel
theorem d_Tokens_cutAll_33 : decode prog_10_method_2_code 33 = .ok (.iconst 0, 1) := by decide +kernel
theorem d_Tokens_cutAll_34 : decode prog_10_method_2_code 34 = .ok (.istore 4, 2) := by decide +kernel
theorem d_Tokens_cutAll_36 : decode prog_10_method_2_code 36 = .ok (.iload 4, 2) := by decide +kernel
theorem d_Tokens_cutAll_38 : decode prog_10_method_2_code 38 = .ok (.sipush 2000, 3) := by decide +kernel
theorem d_Tokens_cutAll_41 : decode prog_10_method_2_code 41 = .ok (.if_icmp .gt 18, 3) := by decide +kernel
theorem d_Tokens_cutAll_44 : decode prog_10_method_2_code 44 = .ok (.iload_n 3, 1) := by decide +kernel
theorem d_Tokens_cutAll_45 : decode prog_10_method_2_code 45 = .ok (.ifCond .eq 14, 3) := by decide +kernel
theorem d_Tokens_cutAll_48 : decode prog_10_method_2_code 48 = .ok (.aload_n 0, 1) := by decide +kernel
theorem d_Tokens_cutAll_49 : decode prog_10_method_2_code 49 = .ok (.invokevirtual 44, 3) := by decide +kernel
theorem k_Tokens_cutOne : mt_OK m_Tokens_cutOne 0 1 := ⟨(gw_in 662 (by decide +kernel) (by decide +kernel)), (gw_in 136 (by decide +kernel) (by decide +kernel)), ⟨by decide +kernel, by decide +kernel, by decide +kernel⟩, fun h => absurd h (by decide), fun _ => ⟨(gw_in 661 (by decide +kernel) (by decide +kernel)), (gw_in 1 (by decide +kernel) (by decide +kernel))⟩, fun h => absurd h (by decide)⟩
theorem l_Tokens_44 : ml_OK "PlainMusic$Tokens" 44 ⟨"PlainMusic$Tokens", "cutOne", "()Z"⟩ := Or.inl (gw_in 659 (by decide +kernel) (by decide +kernel))
theorem d_Tokens_cutAll_52 : decode prog_10_method_2_code 52 = .ok (.istore_n 3, 1) := by decide +kernel
theorem d_Tokens_cutAll_53 : decode prog_10_method_2_code 53 = .ok (.iinc 4 1, 3) := by decide +kernel
theorem d_Tokens_cutAll_56 : decode prog_10_method_2_code 56 = .ok (.goto (-20), 3) := by decide +kernel
theorem d_Tokens_cutAll_59 : decode prog_10_method_2_code 59 = .ok (.aload_n 0, 1) := by decide +kernel
theorem d_Tokens_cutAll_60 : decode prog_10_method_2_code 60 = .ok (.iconst (-1), 1) := by decide +kernel
theorem d_Tokens_cutAll_61 : decode prog_10_method_2_code 61 = .ok (.putfield 48, 3) := by decide +kernel
theorem d_Tokens_cutAll_64 : decode prog_10_method_2_code 64 = .ok (.aload_n 0, 1) := by decide +kernel
theorem d_Tokens_cutAll_65 : decode prog_10_method_2_code 65 = .ok (.invokevirtual 51, 3) := by decide +kernel
theorem k_Tokens_next : mt_OK m_Tokens_next 0 1 := ⟨(gw_in 815 (by decide +kernel) (by decide +kernel)), (gw_in 136 (by decide +kernel) (by decide +kernel)), ⟨by decide +kernel, by decide +kernel, by decide +kernel⟩, fun h => absurd h (by decide), fun _ => ⟨(gw_in 813 (by decide +kernel) (by decide +kernel)), (gw_in 814 (by decide +kernel) (by decide +kernel))⟩, fun h => absurd h (by decide)⟩
theorem l_Tokens_51 : ml_OK "PlainMusic$Tokens" 51 ⟨"PlainMusic$Tokens", "next", "()V"⟩ := Or.inl (gw_in 812 (by decide +kernel) (by decide +kernel))
theorem d_Tokens_cutAll_68 : decode prog_10_method_2_code 68 = .ok (.return_, 1) := by decide +kernel
theorem s_Tokens_cutOne {G : cx_T} {s : Nat} {h : ah_T} (hx : xi s h)   : con G 8 0 0 m_Tokens_cutOne [av_R (some 3)] h (fun r h' => ∃ z, r = some (av_I z) ∧ (z = 0 ∨ z = 1) ∧ kF FA s h h') := by
  refine con_of (L := [some (av_R (some 3)), none, none]) (by decide +kernel) (Nat.le_of_ble_eq_true rfl) rfl ?_
  have hS : isS s := hx.2.1
  have hs0 : s = 17 ∨ s = 80 := hS
  have k0 : kF FA s h h := kF_0 hx
  refine A_aload_n 0 d_Tokens_cutOne_0 rfl rfl ?_
  refine A_callV0 m_Tokens_skipBlanks T_ok d_Tokens_cutOne_1 l_Tokens_67 k_Tokens_skipBlanks (xi_s k0.1 sf_3) rfl (by decide +kernel) (by decide) (Nat.le_of_ble_eq_true rfl) (s_Tokens_skipBlanks k0.1 ) (fun r h1 hq => ?_)
  obtain ⟨rfl, k2⟩ := hq
  have k3 := kF_t k0 k2 (fun _ q => q)
  refine A_aload_n 0 d_Tokens_cutOne_4 rfl rfl ?_
  refine A_getIn (lo := 0) (hi := 2000) T_ok d_Tokens_cutOne_5 f_Tokens_38 (xi_s k3.1 sf_3) (xi_g k3.1 (by decide) rgf_3_8) (fun x4 ex4 _ _ => ?_)
  refine A_istore_n 1 (L' := [some (av_R (some 3)), some (av_I x4), none]) d_Tokens_cutOne_8 rfl (Nat.le_of_ble_eq_true rfl) rfl ?_
  refine A_aload_n 0 d_Tokens_cutOne_9 rfl rfl ?_
  refine A_aload_n 0 d_Tokens_cutOne_10 rfl rfl ?_
  refine A_pc (pc' := 11) rfl ?_
  refine A_getIv (z := x4) T_ok d_Tokens_cutOne_11 f_Tokens_38 (xi_s k3.1 sf_3) ex4.symm ?_
  refine A_callV1 m_Tokens_byteAt T_ok d_Tokens_cutOne_14 l_Tokens_70 k_Tokens_byteAt (xi_s k3.1 sf_3) rfl (by decide +kernel) (by decide) (Nat.le_of_ble_eq_true rfl) (s_Tokens_byteAt k3.1 ) (fun r h6 hq => ?_)
  obtain ⟨x8, rfl, ⟨_, _⟩, xx8, rfl⟩ := hq
  refine A_istore_n 2 (L' := [some (av_R (some 3)), some (av_I x4), some (av_I x8)]) d_Tokens_cutOne_17 rfl (Nat.le_of_ble_eq_true rfl) rfl ?_
  have jp111 : ∀ (j9 : Int) (h10 : ah_T) , 0 ≤ j9 → j9 ≤ 2000 → kF FA s h h10 → aw G (rm_R 8 0 0) m_Tokens_cutOne 0 0 111 [some (av_R (some 3)), some (av_I j9), none] [] h10 (fun r h' => ∃ z, r = some (av_I z) ∧ (z = 0 ∨ z = 1) ∧ kF FA s h h') := by
    intro j9 h10 _ _ k11
    refine A_aload_n 0 d_Tokens_cutOne_111 rfl rfl ?_
    refine A_getIn (lo := 0) (hi := 2001) T_ok d_Tokens_cutOne_112 f_Tokens_41 (xi_s k11.1 sf_3) (xi_g k11.1 (by decide) rgf_3_4) (fun x12 ex12 _ _ => ?_)
    refine A_aload_n 0 d_Tokens_cutOne_115 rfl rfl ?_
    refine A_getAv (z := some 4) T_ok d_Tokens_cutOne_116 f_Tokens_9 (xi_s k11.1 sf_3) (xi_r k11.1 rff_3_0) ?_
    refine A_alenN d_Tokens_cutOne_119 (xi_s k11.1 sf_4) (by decide) (by decide) ?_
    refine A_pc (pc' := 120) rfl ?_
    refine A_icmp_ge (tgt := 182) d_Tokens_cutOne_120 (by decide) (fun c14 => ?_) (fun c14 => ?_)
    · refine A_aload_n 0 d_Tokens_cutOne_182 rfl rfl ?_
      refine A_getIf T_ok d_Tokens_cutOne_183 f_Tokens_54 (xi_s k11.1 sf_3) (fun x15 ex15 _ _ => ?_)
      refine A_sipush d_Tokens_cutOne_186 rfl ?_
      refine A_icmp_eq (tgt := 206) d_Tokens_cutOne_189 (by decide) (fun c16 => ?_) (fun c16 => ?_)
      · refine A_iconst d_Tokens_cutOne_206 rfl ?_
        exact A_zret d_Tokens_cutOne_207 (by decide) rfl (by omega) ⟨_, rfl, by omega, k11⟩
      · refine A_aload_n 0 d_Tokens_cutOne_192 rfl rfl ?_
        refine A_getIv (z := x15) T_ok d_Tokens_cutOne_193 f_Tokens_54 (xi_s k11.1 sf_3) ex15.symm ?_
        refine A_sipush d_Tokens_cutOne_196 rfl ?_
        refine A_icmp_eq (tgt := 206) d_Tokens_cutOne_199 (by decide) (fun c18 => ?_) (fun c18 => ?_)
        · refine A_iconst d_Tokens_cutOne_206 rfl ?_
          exact A_zret d_Tokens_cutOne_207 (by decide) rfl (by omega) ⟨_, rfl, by omega, k11⟩
        · refine A_iconst d_Tokens_cutOne_202 rfl ?_
          refine A_goto (tgt := 207) d_Tokens_cutOne_203 (by decide) ?_
          exact A_zret d_Tokens_cutOne_207 (by decide) rfl (by omega) ⟨_, rfl, by omega, k11⟩
    · refine A_aload_n 0 d_Tokens_cutOne_123 rfl rfl ?_
      refine A_getAv (z := some 4) T_ok d_Tokens_cutOne_124 f_Tokens_9 (xi_s k11.1 sf_3) (xi_r k11.1 rff_3_0) ?_
      refine A_aload_n 0 d_Tokens_cutOne_127 rfl rfl ?_
      refine A_getIv (z := x12) T_ok d_Tokens_cutOne_128 f_Tokens_41 (xi_s k11.1 sf_3) ex12.symm ?_
      refine A_aload_n 0 d_Tokens_cutOne_131 rfl rfl ?_
      refine A_pc (pc' := 132) rfl ?_
      refine A_getIf T_ok d_Tokens_cutOne_132 f_Tokens_54 (xi_s k11.1 sf_3) (fun x21 ex21 _ _ => ?_)
      refine A_iastorek (KR := kF FA s h) d_Tokens_cutOne_135 (xi_s k11.1 sf_4) (by omega) (by omega) (kF_j k11 (by decide) (ns_b rfl) (rgf_4 _) (by omega) (by omega)) (fun h22 k23 eh22 => ?_)
      refine A_aload_n 0 d_Tokens_cutOne_136 rfl rfl ?_
      refine A_getAv (z := some 5) T_ok d_Tokens_cutOne_137 f_Tokens_15 (xi_s k23.1 sf_3) (xi_r k23.1 rff_3_1) ?_
      refine A_aload_n 0 d_Tokens_cutOne_140 rfl rfl ?_
      refine A_getIv (z := x12) T_ok d_Tokens_cutOne_141 f_Tokens_41 (xi_s k23.1 sf_3) ((eh22.1 _ _ (fun q => absurd q (by decide))).trans ex12.symm) ?_
      refine A_pc (pc' := 144) rfl ?_
      refine A_iload_n 1 d_Tokens_cutOne_144 rfl rfl ?_
      refine A_iastorek (KR := kF FA s h) d_Tokens_cutOne_145 (xi_s k23.1 sf_5) (by omega) (by omega) (kF_j k23 (by decide) (ns_b rfl) (rgf_5 _) (by omega) (by omega)) (fun h26 k27 eh26 => ?_)
      refine A_aload_n 0 d_Tokens_cutOne_146 rfl rfl ?_
      refine A_getAv (z := some 6) T_ok d_Tokens_cutOne_147 f_Tokens_18 (xi_s k27.1 sf_3) (xi_r k27.1 rff_3_2) ?_
      refine A_aload_n 0 d_Tokens_cutOne_150 rfl rfl ?_
      refine A_getIv (z := x12) T_ok d_Tokens_cutOne_151 f_Tokens_41 (xi_s k27.1 sf_3) ((eh26.1 _ _ (fun q => absurd q (by decide))).trans ((eh22.1 _ _ (fun q => absurd q (by decide))).trans ex12.symm)) ?_
      refine A_pc (pc' := 154) rfl ?_
      refine A_aload_n 0 d_Tokens_cutOne_154 rfl rfl ?_
      refine A_getLf T_ok d_Tokens_cutOne_155 f_Tokens_60 (xi_s k27.1 sf_3) (fun x30 ex30 _ _ => ?_)
      refine A_lastorek (KR := kF FA s h) d_Tokens_cutOne_158 (xi_s k27.1 sf_6) (by omega) (by omega) (kF_l k27 (by decide) (nl_b rfl)) (fun h31 k32 eh31 => ?_)
      refine A_aload_n 0 d_Tokens_cutOne_159 rfl rfl ?_
      refine A_getAv (z := some 7) T_ok d_Tokens_cutOne_160 f_Tokens_22 (xi_s k32.1 sf_3) (xi_r k32.1 rff_3_3) ?_
      refine A_aload_n 0 d_Tokens_cutOne_163 rfl rfl ?_
      refine A_pc (pc' := 164) rfl ?_
      refine A_getIv (z := x12) T_ok d_Tokens_cutOne_164 f_Tokens_41 (xi_s k32.1 sf_3) ((congrFun (congrFun eh31.1 _) _).trans ((eh26.1 _ _ (fun q => absurd q (by decide))).trans ((eh22.1 _ _ (fun q => absurd q (by decide))).trans ex12.symm))) ?_
      refine A_aload_n 0 d_Tokens_cutOne_167 rfl rfl ?_
      refine A_getIf T_ok d_Tokens_cutOne_168 f_Tokens_64 (xi_s k32.1 sf_3) (fun x35 ex35 _ _ => ?_)
      refine A_iastorek (KR := kF FA s h) d_Tokens_cutOne_171 (xi_s k32.1 sf_7) (by omega) (by omega) (kF_j k32 (by decide) (ns_b rfl) (rgf_7 _) (by omega) (by omega)) (fun h36 k37 eh36 => ?_)
      refine A_aload_n 0 d_Tokens_cutOne_172 rfl rfl ?_
      refine A_dupR d_Tokens_cutOne_173 ?_
      refine A_pc (pc' := 174) rfl ?_
      refine A_getIv (z := x12) T_ok d_Tokens_cutOne_174 f_Tokens_41 (xi_s k37.1 sf_3) ((eh36.1 _ _ (fun q => absurd q (by decide))).trans ((congrFun (congrFun eh31.1 _) _).trans ((eh26.1 _ _ (fun q => absurd q (by decide))).trans ((eh22.1 _ _ (fun q => absurd q (by decide))).trans ex12.symm)))) ?_
      refine A_iconst d_Tokens_cutOne_177 rfl ?_
      refine A_iaddv (z := (x12 + 1)) d_Tokens_cutOne_178 (w32_to (by omega) (by unfold i32; omega)) ?_
      refine A_putIk (KR := kF FA s h) T_ok d_Tokens_cutOne_179 f_Tokens_41 (xi_s k37.1 sf_3) fin_f (kF_j k37 (by decide) (ns_b rfl) rgf_3_4 (by omega) (by omega)) (fun h39 k40 eh39 => ?_)
      refine A_aload_n 0 d_Tokens_cutOne_182 rfl rfl ?_
      refine A_getIv (z := x21) T_ok d_Tokens_cutOne_183 f_Tokens_54 (xi_s k40.1 sf_3) ((eh39.1 _ _ (fun _ => by decide)).trans ((eh36.1 _ _ (fun q => absurd q (by decide))).trans ((congrFun (congrFun eh31.1 _) _).trans ((eh26.1 _ _ (fun q => absurd q (by decide))).trans ((eh22.1 _ _ (fun q => absurd q (by decide))).trans ex21.symm))))) ?_
      refine A_pc (pc' := 186) rfl ?_
      refine A_sipush d_Tokens_cutOne_186 rfl ?_
      refine A_icmp_eq (tgt := 206) d_Tokens_cutOne_189 (by decide) (fun c42 => ?_) (fun c42 => ?_)
      · refine A_iconst d_Tokens_cutOne_206 rfl ?_
        exact A_zret d_Tokens_cutOne_207 (by decide) rfl (by omega) ⟨_, rfl, by omega, k40⟩
      · refine A_aload_n 0 d_Tokens_cutOne_192 rfl rfl ?_
        refine A_getIv (z := x21) T_ok d_Tokens_cutOne_193 f_Tokens_54 (xi_s k40.1 sf_3) ((eh39.1 _ _ (fun _ => by decide)).trans ((eh36.1 _ _ (fun q => absurd q (by decide))).trans ((congrFun (congrFun eh31.1 _) _).trans ((eh26.1 _ _ (fun q => absurd q (by decide))).trans ((eh22.1 _ _ (fun q => absurd q (by decide))).trans ex21.symm))))) ?_
        refine A_sipush d_Tokens_cutOne_196 rfl ?_
        refine A_icmp_eq (tgt := 206) d_Tokens_cutOne_199 (by decide) (fun c44 => ?_) (fun c44 => ?_)
        · refine A_iconst d_Tokens_cutOne_206 rfl ?_
          exact A_zret d_Tokens_cutOne_207 (by decide) rfl (by omega) ⟨_, rfl, by omega, k40⟩
        · refine A_iconst d_Tokens_cutOne_202 rfl ?_
          refine A_goto (tgt := 207) d_Tokens_cutOne_203 (by decide) ?_
          exact A_zret d_Tokens_cutOne_207 (by decide) rfl (by omega) ⟨_, rfl, by omega, k40⟩
  refine A_iload_n 2 d_Tokens_cutOne_18 rfl rfl ?_
  refine A_if_ge (tgt := 32) d_Tokens_cutOne_19 (by decide) (fun c45 => ?_) (fun c45 => ?_)
  · refine A_iload_n 2 d_Tokens_cutOne_32 rfl rfl ?_
    refine A_bipush d_Tokens_cutOne_33 rfl ?_
    refine A_icmp_lt (tgt := 52) d_Tokens_cutOne_35 (by decide) (fun c46 => ?_) (fun c46 => ?_)
    · refine A_iload_n 2 d_Tokens_cutOne_52 rfl rfl ?_
      refine A_callS1 m_Tokens_isSmall d_Tokens_cutOne_53 l_Tokens_78 k_Tokens_isSmall (by decide +kernel) (by decide) (Nat.le_of_ble_eq_true rfl) (s_Tokens_isSmall  ) (fun r h47 hq => ?_)
      obtain ⟨x49, rfl, bx49, xx49, rfl⟩ := hq
      refine A_if_eq (tgt := 66) d_Tokens_cutOne_56 (by decide) (fun c50 => ?_) (fun c50 => ?_)
      · refine A_iload_n 2 d_Tokens_cutOne_66 rfl rfl ?_
        refine A_callS1 m_Tokens_isDigit d_Tokens_cutOne_67 l_Tokens_85 k_Tokens_isDigit (by decide +kernel) (by decide) (Nat.le_of_ble_eq_true rfl) (s_Tokens_isDigit  ) (fun r h51 hq => ?_)
        obtain ⟨x53, rfl, bx53, xx53, rfl⟩ := hq
        refine A_if_eq (tgt := 80) d_Tokens_cutOne_70 (by decide) (fun c54 => ?_) (fun c54 => ?_)
        · refine A_aload_n 0 d_Tokens_cutOne_80 rfl rfl ?_
          refine A_ldcS (i := 6) rfl rfl d_Tokens_cutOne_81 ?_
          refine A_iload_n 2 d_Tokens_cutOne_83 rfl rfl ?_
          refine A_i2c d_Tokens_cutOne_84 ?_
          refine A_cI (z := x8) (i2c_r (by omega) (by omega)) ?_
          refine A_pc (pc' := 85) rfl ?_
          refine A_callT1 (i := 6) (N := m_JString_indexOf_II) (by decide) rfl d_Tokens_cutOne_85 ll_Tokens_93 k_JString_indexOf_II (by decide +kernel) (by decide) (Nat.le_of_ble_eq_true rfl) (s_JString_indexOf_II  (by omega) (by omega)) (fun r h55 hq => ?_)
          obtain ⟨x57, rfl, ⟨_, _⟩, rfl⟩ := hq
          refine A_if_lt (tgt := 95) d_Tokens_cutOne_88 (by decide) (fun c58 => ?_) (fun c58 => ?_)
          · refine A_sipush d_Tokens_cutOne_95 rfl ?_
            refine A_putIk (KR := kF FA s h) T_ok d_Tokens_cutOne_98 f_Tokens_54 (xi_s k3.1 sf_3) fin_f (kF_j k3 (by decide) (ns_b rfl) rgf_3_9 (by omega) (by omega)) (fun h59 k60 eh59 => ?_)
            refine A_aload_n 0 d_Tokens_cutOne_101 rfl rfl ?_
            refine A_dupR d_Tokens_cutOne_102 ?_
            refine A_getIv (z := x4) T_ok d_Tokens_cutOne_103 f_Tokens_38 (xi_s k60.1 sf_3) ((eh59.1 _ _ (fun _ => by decide)).trans ex4.symm) ?_
            refine A_pc (pc' := 106) rfl ?_
            refine A_iconst d_Tokens_cutOne_106 rfl ?_
            refine A_iaddv (z := (x4 + 1)) d_Tokens_cutOne_107 (w32_to (by omega) (by unfold i32; omega)) ?_
            refine A_putIk (KR := kF FA s h) T_ok d_Tokens_cutOne_108 f_Tokens_38 (xi_s k60.1 sf_3) fin_f (kF_j k60 (by decide) (ns_b rfl) rgf_3_8 (by omega) (by omega)) (fun h62 k63 eh62 => ?_)
            refine A_pc (pc' := 111) rfl ?_
            refine A_free (L' := [some (av_R (some 3)), some (av_I x4), none]) (And.intro rfl (And.intro rfl trivial)) ?_
            exact jp111 x4 h62 (by omega) (by omega) k63
          · refine A_iload_n 2 d_Tokens_cutOne_91 rfl rfl ?_
            refine A_goto (tgt := 98) d_Tokens_cutOne_92 (by decide) ?_
            refine A_putIk (KR := kF FA s h) T_ok d_Tokens_cutOne_98 f_Tokens_54 (xi_s k3.1 sf_3) fin_f (kF_j k3 (by decide) (ns_b rfl) rgf_3_9 (by omega) (by omega)) (fun h64 k65 eh64 => ?_)
            refine A_aload_n 0 d_Tokens_cutOne_101 rfl rfl ?_
            refine A_dupR d_Tokens_cutOne_102 ?_
            refine A_getIv (z := x4) T_ok d_Tokens_cutOne_103 f_Tokens_38 (xi_s k65.1 sf_3) ((eh64.1 _ _ (fun _ => by decide)).trans ex4.symm) ?_
            refine A_iconst d_Tokens_cutOne_106 rfl ?_
            refine A_pc (pc' := 107) rfl ?_
            refine A_iaddv (z := (x4 + 1)) d_Tokens_cutOne_107 (w32_to (by omega) (by unfold i32; omega)) ?_
            refine A_putIk (KR := kF FA s h) T_ok d_Tokens_cutOne_108 f_Tokens_38 (xi_s k65.1 sf_3) fin_f (kF_j k65 (by decide) (ns_b rfl) rgf_3_8 (by omega) (by omega)) (fun h67 k68 eh67 => ?_)
            refine A_pc (pc' := 111) rfl ?_
            refine A_free (L' := [some (av_R (some 3)), some (av_I x4), none]) (And.intro rfl (And.intro rfl trivial)) ?_
            exact jp111 x4 h67 (by omega) (by omega) k68
        · refine A_aload_n 0 d_Tokens_cutOne_73 rfl rfl ?_
          refine A_callV0 m_Tokens_cutNumber T_ok d_Tokens_cutOne_74 l_Tokens_88 k_Tokens_cutNumber (xi_s k3.1 sf_3) rfl (by decide +kernel) (by decide) (Nat.le_of_ble_eq_true rfl) (s_Tokens_cutNumber k3.1 ) (fun r h69 hq => ?_)
          obtain ⟨rfl, k70⟩ := hq
          have k71 := kF_t k3 k70 (fun _ q => q)
          refine A_goto (tgt := 111) d_Tokens_cutOne_77 (by decide) ?_
          refine A_pc (pc' := 111) rfl ?_
          refine A_free (L' := [some (av_R (some 3)), some (av_I x4), none]) (And.intro rfl (And.intro rfl trivial)) ?_
          exact jp111 x4 h69 (by omega) (by omega) k71
      · refine A_aload_n 0 d_Tokens_cutOne_59 rfl rfl ?_
        refine A_callV0 m_Tokens_cutName T_ok d_Tokens_cutOne_60 l_Tokens_82 k_Tokens_cutName (xi_s k3.1 sf_3) rfl (by decide +kernel) (by decide) (Nat.le_of_ble_eq_true rfl) (s_Tokens_cutName k3.1 ) (fun r h72 hq => ?_)
        obtain ⟨rfl, k73⟩ := hq
        have k74 := kF_t k3 k73 (fun _ q => q)
        refine A_goto (tgt := 111) d_Tokens_cutOne_63 (by decide) ?_
        refine A_pc (pc' := 111) rfl ?_
        refine A_free (L' := [some (av_R (some 3)), some (av_I x4), none]) (And.intro rfl (And.intro rfl trivial)) ?_
        exact jp111 x4 h72 (by omega) (by omega) k74
    · refine A_iload_n 2 d_Tokens_cutOne_38 rfl rfl ?_
      refine A_bipush d_Tokens_cutOne_39 rfl ?_
      refine A_icmp_gt (tgt := 52) d_Tokens_cutOne_41 (by decide) (fun c75 => ?_) (fun c75 => ?_)
      · refine A_iload_n 2 d_Tokens_cutOne_52 rfl rfl ?_
        refine A_callS1 m_Tokens_isSmall d_Tokens_cutOne_53 l_Tokens_78 k_Tokens_isSmall (by decide +kernel) (by decide) (Nat.le_of_ble_eq_true rfl) (s_Tokens_isSmall  ) (fun r h76 hq => ?_)
        obtain ⟨x78, rfl, bx78, xx78, rfl⟩ := hq
        refine A_if_eq (tgt := 66) d_Tokens_cutOne_56 (by decide) (fun c79 => ?_) (fun c79 => ?_)
        · refine A_iload_n 2 d_Tokens_cutOne_66 rfl rfl ?_
          refine A_callS1 m_Tokens_isDigit d_Tokens_cutOne_67 l_Tokens_85 k_Tokens_isDigit (by decide +kernel) (by decide) (Nat.le_of_ble_eq_true rfl) (s_Tokens_isDigit  ) (fun r h80 hq => ?_)
          obtain ⟨x82, rfl, bx82, xx82, rfl⟩ := hq
          refine A_if_eq (tgt := 80) d_Tokens_cutOne_70 (by decide) (fun c83 => ?_) (fun c83 => ?_)
          · refine A_aload_n 0 d_Tokens_cutOne_80 rfl rfl ?_
            refine A_ldcS (i := 6) rfl rfl d_Tokens_cutOne_81 ?_
            refine A_iload_n 2 d_Tokens_cutOne_83 rfl rfl ?_
            refine A_i2c d_Tokens_cutOne_84 ?_
            refine A_cI (z := x8) (i2c_r (by omega) (by omega)) ?_
            refine A_pc (pc' := 85) rfl ?_
            refine A_callT1 (i := 6) (N := m_JString_indexOf_II) (by decide) rfl d_Tokens_cutOne_85 ll_Tokens_93 k_JString_indexOf_II (by decide +kernel) (by decide) (Nat.le_of_ble_eq_true rfl) (s_JString_indexOf_II  (by omega) (by omega)) (fun r h84 hq => ?_)
            obtain ⟨x86, rfl, ⟨_, _⟩, rfl⟩ := hq
            refine A_if_lt (tgt := 95) d_Tokens_cutOne_88 (by decide) (fun c87 => ?_) (fun c87 => ?_)
            · refine A_sipush d_Tokens_cutOne_95 rfl ?_
              refine A_putIk (KR := kF FA s h) T_ok d_Tokens_cutOne_98 f_Tokens_54 (xi_s k3.1 sf_3) fin_f (kF_j k3 (by decide) (ns_b rfl) rgf_3_9 (by omega) (by omega)) (fun h88 k89 eh88 => ?_)
              refine A_aload_n 0 d_Tokens_cutOne_101 rfl rfl ?_
              refine A_dupR d_Tokens_cutOne_102 ?_
              refine A_getIv (z := x4) T_ok d_Tokens_cutOne_103 f_Tokens_38 (xi_s k89.1 sf_3) ((eh88.1 _ _ (fun _ => by decide)).trans ex4.symm) ?_
              refine A_pc (pc' := 106) rfl ?_
              refine A_iconst d_Tokens_cutOne_106 rfl ?_
              refine A_iaddv (z := (x4 + 1)) d_Tokens_cutOne_107 (w32_to (by omega) (by unfold i32; omega)) ?_
              refine A_putIk (KR := kF FA s h) T_ok d_Tokens_cutOne_108 f_Tokens_38 (xi_s k89.1 sf_3) fin_f (kF_j k89 (by decide) (ns_b rfl) rgf_3_8 (by omega) (by omega)) (fun h91 k92 eh91 => ?_)
              refine A_pc (pc' := 111) rfl ?_
              refine A_free (L' := [some (av_R (some 3)), some (av_I x4), none]) (And.intro rfl (And.intro rfl trivial)) ?_
              exact jp111 x4 h91 (by omega) (by omega) k92
            · refine A_iload_n 2 d_Tokens_cutOne_91 rfl rfl ?_
              refine A_goto (tgt := 98) d_Tokens_cutOne_92 (by decide) ?_
              refine A_putIk (KR := kF FA s h) T_ok d_Tokens_cutOne_98 f_Tokens_54 (xi_s k3.1 sf_3) fin_f (kF_j k3 (by decide) (ns_b rfl) rgf_3_9 (by omega) (by omega)) (fun h93 k94 eh93 => ?_)
              refine A_aload_n 0 d_Tokens_cutOne_101 rfl rfl ?_
              refine A_dupR d_Tokens_cutOne_102 ?_
              refine A_getIv (z := x4) T_ok d_Tokens_cutOne_103 f_Tokens_38 (xi_s k94.1 sf_3) ((eh93.1 _ _ (fun _ => by decide)).trans ex4.symm) ?_
              refine A_iconst d_Tokens_cutOne_106 rfl ?_
              refine A_pc (pc' := 107) rfl ?_
              refine A_iaddv (z := (x4 + 1)) d_Tokens_cutOne_107 (w32_to (by omega) (by unfold i32; omega)) ?_
              refine A_putIk (KR := kF FA s h) T_ok d_Tokens_cutOne_108 f_Tokens_38 (xi_s k94.1 sf_3) fin_f (kF_j k94 (by decide) (ns_b rfl) rgf_3_8 (by omega) (by omega)) (fun h96 k97 eh96 => ?_)
              refine A_pc (pc' := 111) rfl ?_
              refine A_free (L' := [some (av_R (some 3)), some (av_I x4), none]) (And.intro rfl (And.intro rfl trivial)) ?_
              exact jp111 x4 h96 (by omega) (by omega) k97
          · refine A_aload_n 0 d_Tokens_cutOne_73 rfl rfl ?_
            refine A_callV0 m_Tokens_cutNumber T_ok d_Tokens_cutOne_74 l_Tokens_88 k_Tokens_cutNumber (xi_s k3.1 sf_3) rfl (by decide +kernel) (by decide) (Nat.le_of_ble_eq_true rfl) (s_Tokens_cutNumber k3.1 ) (fun r h98 hq => ?_)
            obtain ⟨rfl, k99⟩ := hq
            have k100 := kF_t k3 k99 (fun _ q => q)
            refine A_goto (tgt := 111) d_Tokens_cutOne_77 (by decide) ?_
            refine A_pc (pc' := 111) rfl ?_
            refine A_free (L' := [some (av_R (some 3)), some (av_I x4), none]) (And.intro rfl (And.intro rfl trivial)) ?_
            exact jp111 x4 h98 (by omega) (by omega) k100
        · refine A_aload_n 0 d_Tokens_cutOne_59 rfl rfl ?_
          refine A_callV0 m_Tokens_cutName T_ok d_Tokens_cutOne_60 l_Tokens_82 k_Tokens_cutName (xi_s k3.1 sf_3) rfl (by decide +kernel) (by decide) (Nat.le_of_ble_eq_true rfl) (s_Tokens_cutName k3.1 ) (fun r h101 hq => ?_)
          obtain ⟨rfl, k102⟩ := hq
          have k103 := kF_t k3 k102 (fun _ q => q)
          refine A_goto (tgt := 111) d_Tokens_cutOne_63 (by decide) ?_
          refine A_pc (pc' := 111) rfl ?_
          refine A_free (L' := [some (av_R (some 3)), some (av_I x4), none]) (And.intro rfl (And.intro rfl trivial)) ?_
          exact jp111 x4 h101 (by omega) (by omega) k103
      · refine A_aload_n 0 d_Tokens_cutOne_44 rfl rfl ?_
        refine A_iload_n 2 d_Tokens_cutOne_45 rfl rfl ?_
        refine A_callV1 m_Tokens_cutPitch T_ok d_Tokens_cutOne_46 l_Tokens_74 k_Tokens_cutPitch (xi_s k3.1 sf_3) rfl (by decide +kernel) (by decide) (Nat.le_of_ble_eq_true rfl) (s_Tokens_cutPitch k3.1 (by omega) (by omega)) (fun r h104 hq => ?_)
        obtain ⟨rfl, k105⟩ := hq
        have k106 := kF_t k3 k105 (fun _ q => q)
        refine A_goto (tgt := 111) d_Tokens_cutOne_49 (by decide) ?_
        refine A_pc (pc' := 111) rfl ?_
        refine A_free (L' := [some (av_R (some 3)), some (av_I x4), none]) (And.intro rfl (And.intro rfl trivial)) ?_
        exact jp111 x4 h104 (by omega) (by omega) k106
  · refine A_aload_n 0 d_Tokens_cutOne_22 rfl rfl ?_
    refine A_sipush d_Tokens_cutOne_23 rfl ?_
    refine A_putIk (KR := kF FA s h) T_ok d_Tokens_cutOne_26 f_Tokens_54 (xi_s k3.1 sf_3) fin_f (kF_j k3 (by decide) (ns_b rfl) rgf_3_9 (by omega) (by omega)) (fun h107 k108 eh107 => ?_)
    refine A_goto (tgt := 111) d_Tokens_cutOne_29 (by decide) ?_
    refine A_pc (pc' := 111) rfl ?_
    refine A_free (L' := [some (av_R (some 3)), some (av_I x4), none]) (And.intro rfl (And.intro rfl trivial)) ?_
    exact jp111 x4 h107 (by omega) (by omega) k108
theorem s_Tokens_cutAll {G : cx_T} {s : Nat} {h : ah_T} (hx : xi s h) {a2 : Int} (la2 : 0 ≤ a2) (ua2 : a2 ≤ 2000) : con G 9 0 0 m_Tokens_cutAll [av_R (some 3), av_R (some 1), av_I a2] h (fun r h' => r = none ∧ kF FA s h h') := by
  refine con_of (L := [some (av_R (some 3)), some (av_R (some 1)), some (av_I a2), none, none]) (by decide +kernel) (Nat.le_of_ble_eq_true rfl) rfl ?_
  have hS : isS s := hx.2.1
  have hs0 : s = 17 ∨ s = 80 := hS
  have k0 : kF FA s h h := kF_0 hx
  refine A_aload_n 0 d_Tokens_cutAll_0 rfl rfl ?_
  refine A_aload_n 1 d_Tokens_cutAll_1 rfl rfl ?_
  refine A_putRk (KR := kF FA s h) T_ok d_Tokens_cutAll_2 f_Tokens_25 ty_a (xi_s k0.1 sf_3) fin_f (kF_r36 k0 (by decide)) (fun h1 k2 eh1 => ?_)
  refine A_aload_n 0 d_Tokens_cutAll_5 rfl rfl ?_
  refine A_iload_n 2 d_Tokens_cutAll_6 rfl rfl ?_
  refine A_pc (pc' := 7) rfl ?_
  refine A_aload_n 1 d_Tokens_cutAll_7 rfl rfl ?_
  refine A_alenN d_Tokens_cutAll_8 (xi_s k2.1 sf_1) (by decide) (by decide) ?_
  refine A_sipush d_Tokens_cutAll_9 rfl ?_
  refine A_mmin d_Tokens_cutAll_12 lm_Tokens_28 ma_min (by decide) (by decide) (Nat.le_of_ble_eq_true rfl) rfl ?_
  refine A_nrI (fun x3 ex3 _ _ => ?_)
  have bx3 := mmin_r ex3
  refine A_mmin d_Tokens_cutAll_15 lm_Tokens_28 ma_min (by decide) (by decide) (Nat.le_of_ble_eq_true rfl) rfl ?_
  refine A_nrI (fun x4 ex4 _ _ => ?_)
  have bx4 := mmin_r ex4
  refine A_putIk (KR := kF FA s h) T_ok d_Tokens_cutAll_18 f_Tokens_34 (xi_s k2.1 sf_3) fin_f (kF_j k2 (by decide) (ns_b rfl) rgf_3_7 (by omega) (by omega)) (fun h5 k6 eh5 => ?_)
  refine A_pc (pc' := 21) rfl ?_
  refine A_aload_n 0 d_Tokens_cutAll_21 rfl rfl ?_
  refine A_iconst d_Tokens_cutAll_22 rfl ?_
  refine A_putIk (KR := kF FA s h) T_ok d_Tokens_cutAll_23 f_Tokens_38 (xi_s k6.1 sf_3) fin_f (kF_j k6 (by decide) (ns_b rfl) rgf_3_8 (by omega) (by omega)) (fun h7 k8 eh7 => ?_)
  refine A_aload_n 0 d_Tokens_cutAll_26 rfl rfl ?_
  refine A_iconst d_Tokens_cutAll_27 rfl ?_
  refine A_putIk (KR := kF FA s h) T_ok d_Tokens_cutAll_28 f_Tokens_41 (xi_s k8.1 sf_3) fin_f (kF_j k8 (by decide) (ns_b rfl) rgf_3_4 (by omega) (by omega)) (fun h9 k10 eh9 => ?_)
  refine A_pc (pc' := 31) rfl ?_
  refine A_iconst d_Tokens_cutAll_31 rfl ?_
  refine A_istore_n 3 (L' := [some (av_R (some 3)), some (av_R (some 1)), some (av_I a2), some (av_I 1), none]) d_Tokens_cutAll_32 rfl (Nat.le_of_ble_eq_true rfl) rfl ?_
  refine A_iconst d_Tokens_cutAll_33 rfl ?_
  refine A_istore (L' := [some (av_R (some 3)), some (av_R (some 1)), some (av_I a2), some (av_I 1), some (av_I 0)]) d_Tokens_cutAll_34 (Nat.le_of_ble_eq_true rfl) rfl ?_
  have lp36 : ∀ (n : Nat) (i11 i12 : Int) (h13 : ah_T) , 0 ≤ i11 → i11 ≤ 1 → 0 ≤ i12 → i12 ≤ 2001 → kF FA s h h13 → (2002 - i12).toNat < n → aw G (rm_R 9 0 0) m_Tokens_cutAll 0 0 36 [some (av_R (some 3)), some (av_R (some 1)), some (av_I a2), some (av_I i11), some (av_I i12)] [] h13 (fun r h' => r = none ∧ kF FA s h h') := by
    intro n
    induction n with
    | zero => intro i11 i12 h13 _ _ _ _ _ hm; omega
    | succ n ih36 =>
      intro i11 i12 h13 hl0 hl1 hl2 hl3 k14 hm
      refine A_iload d_Tokens_cutAll_36 rfl ?_
      refine A_sipush d_Tokens_cutAll_38 rfl ?_
      refine A_icmp_gt (tgt := 59) d_Tokens_cutAll_41 (by decide) (fun c15 => ?_) (fun c15 => ?_)
      · refine A_aload_n 0 d_Tokens_cutAll_59 rfl rfl ?_
        refine A_iconst d_Tokens_cutAll_60 rfl ?_
        refine A_putIk (KR := kF FA s h) T_ok d_Tokens_cutAll_61 f_Tokens_48 (xi_s k14.1 sf_3) fin_f (kF_j k14 (by decide) (ns_b rfl) rgf_3_5 (by omega) (by omega)) (fun h16 k17 eh16 => ?_)
        refine A_aload_n 0 d_Tokens_cutAll_64 rfl rfl ?_
        refine A_callV0 m_Tokens_next T_ok d_Tokens_cutAll_65 l_Tokens_51 k_Tokens_next (xi_s k17.1 sf_3) rfl (by decide +kernel) (by decide) (Nat.le_of_ble_eq_true rfl) (s_Tokens_next k17.1 ) (fun r h18 hq => ?_)
        obtain ⟨rfl, k19⟩ := hq
        have k20 := kF_t k17 k19 (fun _ q => q)
        exact A_vret d_Tokens_cutAll_68 (by decide) rfl ⟨rfl, k20⟩
      · refine A_iload_n 3 d_Tokens_cutAll_44 rfl rfl ?_
        refine A_if_eq (tgt := 59) d_Tokens_cutAll_45 (by decide) (fun c21 => ?_) (fun c21 => ?_)
        · refine A_aload_n 0 d_Tokens_cutAll_59 rfl rfl ?_
          refine A_iconst d_Tokens_cutAll_60 rfl ?_
          refine A_putIk (KR := kF FA s h) T_ok d_Tokens_cutAll_61 f_Tokens_48 (xi_s k14.1 sf_3) fin_f (kF_j k14 (by decide) (ns_b rfl) rgf_3_5 (by omega) (by omega)) (fun h22 k23 eh22 => ?_)
          refine A_aload_n 0 d_Tokens_cutAll_64 rfl rfl ?_
          refine A_callV0 m_Tokens_next T_ok d_Tokens_cutAll_65 l_Tokens_51 k_Tokens_next (xi_s k23.1 sf_3) rfl (by decide +kernel) (by decide) (Nat.le_of_ble_eq_true rfl) (s_Tokens_next k23.1 ) (fun r h24 hq => ?_)
          obtain ⟨rfl, k25⟩ := hq
          have k26 := kF_t k23 k25 (fun _ q => q)
          exact A_vret d_Tokens_cutAll_68 (by decide) rfl ⟨rfl, k26⟩
        · refine A_aload_n 0 d_Tokens_cutAll_48 rfl rfl ?_
          refine A_callV0 m_Tokens_cutOne T_ok d_Tokens_cutAll_49 l_Tokens_44 k_Tokens_cutOne (xi_s k14.1 sf_3) rfl (by decide +kernel) (by decide) (Nat.le_of_ble_eq_true rfl) (s_Tokens_cutOne k14.1 ) (fun r h27 hq => ?_)
          obtain ⟨x29, rfl, bx29, k28⟩ := hq
          have k30 := kF_t k14 k28 (fun _ q => q)
          refine A_istore_n 3 (L' := [some (av_R (some 3)), some (av_R (some 1)), some (av_I a2), some (av_I x29), some (av_I i12)]) d_Tokens_cutAll_52 rfl (Nat.le_of_ble_eq_true rfl) rfl ?_
          refine A_iincv (z := (i12 + 1)) (L' := [some (av_R (some 3)), some (av_R (some 1)), some (av_I a2), some (av_I x29), some (av_I (i12 + 1))]) d_Tokens_cutAll_53 rfl (w32_to (by omega) (by unfold i32; omega)) rfl ?_
          refine A_goto (tgt := 36) d_Tokens_cutAll_56 (by decide) ?_
          exact ih36 x29 (i12 + 1) h27 (by omega) (by omega) (by omega) (by omega) k30 (by omega)
  exact lp36 _ 1 0 h9 (by omega) (by omega) (by omega) (by omega) k10 (Nat.lt_succ_self _)
