/-! ===== the reference's methods, 356 ===== -/
def m_MD_beside : mr_T := (⟨"PlainMusicModel", "beside", "(II)I"⟩, prog_14_method_89_code, 8, some .int)
theorem d_MD_beside_0 : decode prog_14_method_89_code 0 = .ok (.aload_n 0, 1) := by decide +kernel
theorem d_MD_beside_1 : decode prog_14_method_89_code 1 = .ok (.iload_n 1, 1) := by decide +kernel
theorem d_MD_beside_2 : decode prog_14_method_89_code 2 = .ok (.invokevirtual 495, 3) := by decide +kernel
theorem d_MD_beside_5 : decode prog_14_method_89_code 5 = .ok (.ifCond .eq 11, 3) := by decide +kernel
theorem d_MD_beside_16 : decode prog_14_method_89_code 16 = .ok (.iconst (-1), 1) := by decide +kernel
theorem d_MD_beside_17 : decode prog_14_method_89_code 17 = .ok (.ireturn, 1) := by decide +kernel
theorem d_MD_beside_8 : decode prog_14_method_89_code 8 = .ok (.aload_n 0, 1) := by decide +kernel
theorem d_MD_beside_9 : decode prog_14_method_89_code 9 = .ok (.iload_n 2, 1) := by decide +kernel
theorem d_MD_beside_10 : decode prog_14_method_89_code 10 = .ok (.invokevirtual 495, 3) := by decide +kernel
theorem d_MD_beside_13 : decode prog_14_method_89_code 13 = .ok (.ifCond .ne 5, 3) := by decide +kernel
theorem d_MD_beside_18 : decode prog_14_method_89_code 18 = .ok (.aload_n 0, 1) := by decide +kernel
theorem d_MD_beside_19 : decode prog_14_method_89_code 19 = .ok (.iload_n 1, 1) := by decide +kernel
theorem d_MD_beside_20 : decode prog_14_method_89_code 20 = .ok (.iconst 1, 1) := by decide +kernel
theorem d_MD_beside_21 : decode prog_14_method_89_code 21 = .ok (.invokevirtual 595, 3) := by decide +kernel
theorem k_MD_soundsOf : mt_OK m_MD_soundsOf 2 1 := ⟨gwi_2176, gwi_146, ⟨by decide +kernel, by decide +kernel, by decide +kernel⟩, fun h => absurd h (by decide), fun _ => ⟨gwi_2175, gwi_126⟩, fun h => absurd h (by decide)⟩
theorem l_MD_595 : ml_OK "PlainMusicModel" 595 ⟨"PlainMusicModel", "soundsOf", "(IZ)I"⟩ := Or.inl gwi_2173
theorem d_MD_beside_24 : decode prog_14_method_89_code 24 = .ok (.istore_n 3, 1) := by decide +kernel
theorem d_MD_beside_25 : decode prog_14_method_89_code 25 = .ok (.aload_n 0, 1) := by decide +kernel
theorem d_MD_beside_26 : decode prog_14_method_89_code 26 = .ok (.iload_n 2, 1) := by decide +kernel
theorem d_MD_beside_27 : decode prog_14_method_89_code 27 = .ok (.iconst 0, 1) := by decide +kernel
theorem d_MD_beside_28 : decode prog_14_method_89_code 28 = .ok (.invokevirtual 595, 3) := by decide +kernel
theorem d_MD_beside_31 : decode prog_14_method_89_code 31 = .ok (.istore 4, 2) := by decide +kernel
theorem d_MD_beside_33 : decode prog_14_method_89_code 33 = .ok (.iload_n 3, 1) := by decide +kernel
theorem d_MD_beside_34 : decode prog_14_method_89_code 34 = .ok (.bipush 80, 2) := by decide +kernel
theorem d_MD_beside_36 : decode prog_14_method_89_code 36 = .ok (.if_icmp .gt 10, 3) := by decide +kernel
theorem d_MD_beside_46 : decode prog_14_method_89_code 46 = .ok (.bipush (-4), 2) := by decide +kernel
theorem d_MD_beside_48 : decode prog_14_method_89_code 48 = .ok (.ireturn, 1) := by decide +kernel
theorem d_MD_beside_39 : decode prog_14_method_89_code 39 = .ok (.iload 4, 2) := by decide +kernel
theorem d_MD_beside_41 : decode prog_14_method_89_code 41 = .ok (.bipush 80, 2) := by decide +kernel
theorem d_MD_beside_43 : decode prog_14_method_89_code 43 = .ok (.if_icmp .le 6, 3) := by decide +kernel
theorem d_MD_beside_49 : decode prog_14_method_89_code 49 = .ok (.iload_n 3, 1) := by decide +kernel
theorem d_MD_beside_50 : decode prog_14_method_89_code 50 = .ok (.istore 5, 2) := by decide +kernel
theorem d_MD_beside_52 : decode prog_14_method_89_code 52 = .ok (.iload 5, 2) := by decide +kernel
theorem d_MD_beside_54 : decode prog_14_method_89_code 54 = .ok (.ifCond .lt 35, 3) := by decide +kernel
theorem d_MD_beside_89 : decode prog_14_method_89_code 89 = .ok (.aload_n 0, 1) := by decide +kernel
theorem d_MD_beside_90 : decode prog_14_method_89_code 90 = .ok (.iload_n 3, 1) := by decide +kernel
theorem d_MD_beside_91 : decode prog_14_method_89_code 91 = .ok (.putfield 486, 3) := by decide +kernel
theorem d_MD_beside_94 : decode prog_14_method_89_code 94 = .ok (.aload_n 0, 1) := by decide +kernel
theorem d_MD_beside_95 : decode prog_14_method_89_code 95 = .ok (.aload_n 0, 1) := by decide +kernel
theorem d_MD_beside_96 : decode prog_14_method_89_code 96 = .ok (.getfield 223, 3) := by decide +kernel
theorem d_MD_beside_99 : decode prog_14_method_89_code 99 = .ok (.iconst 0, 1) := by decide +kernel
theorem d_MD_beside_100 : decode prog_14_method_89_code 100 = .ok (.laload, 1) := by decide +kernel
theorem d_MD_beside_101 : decode prog_14_method_89_code 101 = .ok (.l2i, 1) := by decide +kernel
theorem d_MD_beside_102 : decode prog_14_method_89_code 102 = .ok (.putfield 489, 3) := by decide +kernel
theorem d_MD_beside_105 : decode prog_14_method_89_code 105 = .ok (.iconst 0, 1) := by decide +kernel
theorem d_MD_beside_106 : decode prog_14_method_89_code 106 = .ok (.istore 5, 2) := by decide +kernel
theorem d_MD_beside_108 : decode prog_14_method_89_code 108 = .ok (.iconst 0, 1) := by decide +kernel
theorem d_MD_beside_109 : decode prog_14_method_89_code 109 = .ok (.istore 6, 2) := by decide +kernel
theorem d_MD_beside_111 : decode prog_14_method_89_code 111 = .ok (.iload 5, 2) := by decide +kernel
theorem d_MD_beside_113 : decode prog_14_method_89_code 113 = .ok (.iload_n 3, 1) := by decide +kernel
theorem d_MD_beside_114 : decode prog_14_method_89_code 114 = .ok (.if_icmp .ge 127, 3) := by decide +kernel
theorem d_MD_beside_241 : decode prog_14_method_89_code 241 = .ok (.aload_n 0, 1) := by decide +kernel
theorem d_MD_beside_242 : decode prog_14_method_89_code 242 = .ok (.getfield 220, 3) := by decide +kernel
theorem d_MD_beside_245 : decode prog_14_method_89_code 245 = .ok (.iconst 0, 1) := by decide +kernel
theorem d_MD_beside_246 : decode prog_14_method_89_code 246 = .ok (.iaload, 1) := by decide +kernel
theorem d_MD_beside_247 : decode prog_14_method_89_code 247 = .ok (.ireturn, 1) := by decide +kernel
theorem d_MD_beside_117 : decode prog_14_method_89_code 117 = .ok (.aload_n 0, 1) := by decide +kernel
theorem d_MD_beside_118 : decode prog_14_method_89_code 118 = .ok (.getfield 220, 3) := by decide +kernel
theorem d_MD_beside_121 : decode prog_14_method_89_code 121 = .ok (.bipush 81, 2) := by decide +kernel
theorem d_MD_beside_123 : decode prog_14_method_89_code 123 = .ok (.iload 5, 2) := by decide +kernel
theorem d_MD_beside_125 : decode prog_14_method_89_code 125 = .ok (.imul, 1) := by decide +kernel
theorem d_MD_beside_126 : decode prog_14_method_89_code 126 = .ok (.iload 6, 2) := by decide +kernel
theorem d_MD_beside_128 : decode prog_14_method_89_code 128 = .ok (.iadd, 1) := by decide +kernel
theorem d_MD_beside_129 : decode prog_14_method_89_code 129 = .ok (.iaload, 1) := by decide +kernel
theorem d_MD_beside_130 : decode prog_14_method_89_code 130 = .ok (.istore 7, 2) := by decide +kernel
theorem d_MD_beside_132 : decode prog_14_method_89_code 132 = .ok (.iload 6, 2) := by decide +kernel
theorem d_MD_beside_134 : decode prog_14_method_89_code 134 = .ok (.iload 4, 2) := by decide +kernel
theorem d_MD_beside_136 : decode prog_14_method_89_code 136 = .ok (.if_icmp .ge 62, 3) := by decide +kernel
theorem d_MD_beside_198 : decode prog_14_method_89_code 198 = .ok (.iload 7, 2) := by decide +kernel
theorem d_MD_beside_200 : decode prog_14_method_89_code 200 = .ok (.iconst 5, 1) := by decide +kernel
theorem d_MD_beside_201 : decode prog_14_method_89_code 201 = .ok (.aload_n 0, 1) := by decide +kernel
theorem d_MD_beside_202 : decode prog_14_method_89_code 202 = .ok (.getfield 220, 3) := by decide +kernel
theorem d_MD_beside_205 : decode prog_14_method_89_code 205 = .ok (.bipush 81, 2) := by decide +kernel
theorem d_MD_beside_207 : decode prog_14_method_89_code 207 = .ok (.iload 5, 2) := by decide +kernel
theorem d_MD_beside_209 : decode prog_14_method_89_code 209 = .ok (.iconst 1, 1) := by decide +kernel
theorem d_MD_beside_210 : decode prog_14_method_89_code 210 = .ok (.iadd, 1) := by decide +kernel
theorem d_MD_beside_211 : decode prog_14_method_89_code 211 = .ok (.imul, 1) := by decide +kernel
theorem d_MD_beside_212 : decode prog_14_method_89_code 212 = .ok (.iload 6, 2) := by decide +kernel
theorem d_MD_beside_214 : decode prog_14_method_89_code 214 = .ok (.iadd, 1) := by decide +kernel
theorem d_MD_beside_215 : decode prog_14_method_89_code 215 = .ok (.iaload, 1) := by decide +kernel
theorem d_MD_beside_216 : decode prog_14_method_89_code 216 = .ok (.iadd, 1) := by decide +kernel
theorem d_MD_beside_217 : decode prog_14_method_89_code 217 = .ok (.if_icmp .ne 18, 3) := by decide +kernel
theorem d_MD_beside_235 : decode prog_14_method_89_code 235 = .ok (.iinc 6 1, 3) := by decide +kernel
theorem d_MD_beside_238 : decode prog_14_method_89_code 238 = .ok (.goto (-127), 3) := by decide +kernel
theorem d_MD_beside_220 : decode prog_14_method_89_code 220 = .ok (.aload_n 0, 1) := by decide +kernel
theorem d_MD_beside_221 : decode prog_14_method_89_code 221 = .ok (.getfield 211, 3) := by decide +kernel
theorem d_MD_beside_224 : decode prog_14_method_89_code 224 = .ok (.iload 5, 2) := by decide +kernel
theorem d_MD_beside_226 : decode prog_14_method_89_code 226 = .ok (.bipush (-2), 2) := by decide +kernel
theorem d_MD_beside_228 : decode prog_14_method_89_code 228 = .ok (.iastore, 1) := by decide +kernel
theorem d_MD_beside_229 : decode prog_14_method_89_code 229 = .ok (.iinc 5 1, 3) := by decide +kernel
theorem d_MD_beside_232 : decode prog_14_method_89_code 232 = .ok (.goto 6, 3) := by decide +kernel
theorem d_MD_beside_139 : decode prog_14_method_89_code 139 = .ok (.iload 7, 2) := by decide +kernel
theorem d_MD_beside_141 : decode prog_14_method_89_code 141 = .ok (.aload_n 0, 1) := by decide +kernel
theorem d_MD_beside_142 : decode prog_14_method_89_code 142 = .ok (.aload_n 0, 1) := by decide +kernel
theorem d_MD_beside_143 : decode prog_14_method_89_code 143 = .ok (.getfield 214, 3) := by decide +kernel
theorem d_MD_beside_146 : decode prog_14_method_89_code 146 = .ok (.iload 5, 2) := by decide +kernel
theorem d_MD_beside_148 : decode prog_14_method_89_code 148 = .ok (.iaload, 1) := by decide +kernel
theorem d_MD_beside_149 : decode prog_14_method_89_code 149 = .ok (.aload_n 0, 1) := by decide +kernel
theorem d_MD_beside_150 : decode prog_14_method_89_code 150 = .ok (.getfield 217, 3) := by decide +kernel
theorem d_MD_beside_153 : decode prog_14_method_89_code 153 = .ok (.iload 6, 2) := by decide +kernel
theorem d_MD_beside_155 : decode prog_14_method_89_code 155 = .ok (.iaload, 1) := by decide +kernel
theorem d_MD_beside_156 : decode prog_14_method_89_code 156 = .ok (.invokevirtual 602, 3) := by decide +kernel
theorem d_MD_beside_159 : decode prog_14_method_89_code 159 = .ok (.aload_n 0, 1) := by decide +kernel
theorem d_MD_beside_160 : decode prog_14_method_89_code 160 = .ok (.getfield 220, 3) := by decide +kernel
theorem d_MD_beside_163 : decode prog_14_method_89_code 163 = .ok (.bipush 81, 2) := by decide +kernel
theorem d_MD_beside_165 : decode prog_14_method_89_code 165 = .ok (.iload 5, 2) := by decide +kernel
theorem d_MD_beside_167 : decode prog_14_method_89_code 167 = .ok (.iconst 1, 1) := by decide +kernel
theorem d_MD_beside_168 : decode prog_14_method_89_code 168 = .ok (.iadd, 1) := by decide +kernel
theorem d_MD_beside_169 : decode prog_14_method_89_code 169 = .ok (.imul, 1) := by decide +kernel
theorem d_MD_beside_170 : decode prog_14_method_89_code 170 = .ok (.iload 6, 2) := by decide +kernel
theorem d_MD_beside_172 : decode prog_14_method_89_code 172 = .ok (.iadd, 1) := by decide +kernel
theorem d_MD_beside_173 : decode prog_14_method_89_code 173 = .ok (.iconst 1, 1) := by decide +kernel
theorem d_MD_beside_174 : decode prog_14_method_89_code 174 = .ok (.iadd, 1) := by decide +kernel
theorem d_MD_beside_175 : decode prog_14_method_89_code 175 = .ok (.iaload, 1) := by decide +kernel
theorem d_MD_beside_176 : decode prog_14_method_89_code 176 = .ok (.iadd, 1) := by decide +kernel
theorem d_MD_beside_177 : decode prog_14_method_89_code 177 = .ok (.if_icmp .ne 21, 3) := by decide +kernel
theorem d_MD_beside_180 : decode prog_14_method_89_code 180 = .ok (.aload_n 0, 1) := by decide +kernel
theorem d_MD_beside_181 : decode prog_14_method_89_code 181 = .ok (.getfield 211, 3) := by decide +kernel
theorem d_MD_beside_184 : decode prog_14_method_89_code 184 = .ok (.iload 5, 2) := by decide +kernel
theorem d_MD_beside_186 : decode prog_14_method_89_code 186 = .ok (.iload 6, 2) := by decide +kernel
theorem d_MD_beside_188 : decode prog_14_method_89_code 188 = .ok (.iastore, 1) := by decide +kernel
theorem d_MD_beside_189 : decode prog_14_method_89_code 189 = .ok (.iinc 5 1, 3) := by decide +kernel
theorem d_MD_beside_192 : decode prog_14_method_89_code 192 = .ok (.iinc 6 1, 3) := by decide +kernel
theorem d_MD_beside_195 : decode prog_14_method_89_code 195 = .ok (.goto 43, 3) := by decide +kernel
theorem d_MD_beside_57 : decode prog_14_method_89_code 57 = .ok (.iload 4, 2) := by decide +kernel
theorem d_MD_beside_59 : decode prog_14_method_89_code 59 = .ok (.istore 6, 2) := by decide +kernel
theorem d_MD_beside_61 : decode prog_14_method_89_code 61 = .ok (.iload 6, 2) := by decide +kernel
theorem d_MD_beside_63 : decode prog_14_method_89_code 63 = .ok (.ifCond .lt 20, 3) := by decide +kernel
theorem d_MD_beside_83 : decode prog_14_method_89_code 83 = .ok (.iinc 5 (-1), 3) := by decide +kernel
theorem d_MD_beside_86 : decode prog_14_method_89_code 86 = .ok (.goto (-34), 3) := by decide +kernel
theorem d_MD_beside_66 : decode prog_14_method_89_code 66 = .ok (.aload_n 0, 1) := by decide +kernel
theorem d_MD_beside_67 : decode prog_14_method_89_code 67 = .ok (.iload 5, 2) := by decide +kernel
theorem d_MD_beside_69 : decode prog_14_method_89_code 69 = .ok (.iload 6, 2) := by decide +kernel
theorem d_MD_beside_71 : decode prog_14_method_89_code 71 = .ok (.iload_n 3, 1) := by decide +kernel
theorem d_MD_beside_72 : decode prog_14_method_89_code 72 = .ok (.iload 4, 2) := by decide +kernel
theorem d_MD_beside_74 : decode prog_14_method_89_code 74 = .ok (.invokevirtual 599, 3) := by decide +kernel
theorem k_MD_cell : mt_OK m_MD_cell 4 1 := ⟨gwi_2180, gwi_146, ⟨by decide +kernel, by decide +kernel, by decide +kernel⟩, fun h => absurd h (by decide), fun _ => ⟨gwi_2179, gwi_127⟩, fun h => absurd h (by decide)⟩
theorem l_MD_599 : ml_OK "PlainMusicModel" 599 ⟨"PlainMusicModel", "cell", "(IIII)V"⟩ := Or.inl gwi_2177
theorem d_MD_beside_77 : decode prog_14_method_89_code 77 = .ok (.iinc 6 (-1), 3) := by decide +kernel
theorem d_MD_beside_80 : decode prog_14_method_89_code 80 = .ok (.goto (-19), 3) := by decide +kernel
theorem s_MD_beside {G : cx_T} {h : ah_T} (hx : mi h) {a1 : Int} {a2 : Int}  : con G 3 0 0 m_MD_beside [av_R (some 170), av_I a1, av_I a2] h (fun r h' => ∃ z, r = some (av_I z) ∧ ((-2147483648) ≤ z ∧ z ≤ 2147483647) ∧ kM (pm [104, 105] [236, 237, 238, 239, 240]) h h') := by
  refine con_of (L := [some (av_R (some 170)), some (av_I a1), some (av_I a2), none, none, none, none, none]) (by decide +kernel) (Nat.le_of_ble_eq_true rfl) rfl ?_
  have k0 : kM (pm [104, 105] [236, 237, 238, 239, 240]) h h := kM_0 hx
  obtain ⟨sd1, esd1⟩ : ∃ x, x = h.2.1 170 104 := ⟨_, rfl⟩
  have rsd1 : 0 ≤ sd1 ∧ sd1 ≤ 80 := (by rw [esd1]; exact mi_g k0.1 (by decide) mr_170_104)
  refine A_locI 1 rfl (fun ra => ?_)
  obtain ⟨_, _⟩ := ra
  refine A_locI 2 rfl (fun ra => ?_)
  obtain ⟨_, _⟩ := ra
  refine A_aload_n 0 d_MD_beside_0 rfl rfl ?_
  refine A_iload_n 1 d_MD_beside_1 rfl rfl ?_
  have zf3 := esd1.symm
  refine A_callV1 m_MD_isVoice T_ok d_MD_beside_2 l_MD_495 k_MD_isVoice (mi_s k0.1 sf_170) rfl (by decide +kernel) (by decide) (Nat.le_of_ble_eq_true rfl) (s_MD_isVoice k0.1 ) (fun r h2 hq => ?_)
  obtain ⟨x5, rfl, bx5, xx5, rfl⟩ := hq
  refine A_if_eq (tgt := 16) d_MD_beside_5 (by decide) (fun c6 => ?_) (fun c6 => ?_)
  · refine A_iconst d_MD_beside_16 rfl ?_
    exact A_iret d_MD_beside_17 (by decide) rfl ⟨_, rfl, ⟨by omega, by omega⟩, k0⟩
  · refine A_aload_n 0 d_MD_beside_8 rfl rfl ?_
    refine A_iload_n 2 d_MD_beside_9 rfl rfl ?_
    have zf8 := esd1.symm
    refine A_callV1 m_MD_isVoice T_ok d_MD_beside_10 l_MD_495 k_MD_isVoice (mi_s k0.1 sf_170) rfl (by decide +kernel) (by decide) (Nat.le_of_ble_eq_true rfl) (s_MD_isVoice k0.1 ) (fun r h7 hq => ?_)
    obtain ⟨x10, rfl, bx10, xx10, rfl⟩ := hq
    refine A_if_ne (tgt := 18) d_MD_beside_13 (by decide) (fun c11 => ?_) (fun c11 => ?_)
    · have yv : (0 ≤ a1 ∧ a1 ≤ 3) ∧ 0 ≤ a2 ∧ a2 ≤ 3 := (by omega)
      refine A_aload_n 0 d_MD_beside_18 rfl rfl ?_
      refine A_iload_n 1 d_MD_beside_19 rfl rfl ?_
      refine A_iconst d_MD_beside_20 rfl ?_
      have zf13 := esd1.symm
      refine A_callV2 m_MD_soundsOf T_ok d_MD_beside_21 l_MD_595 k_MD_soundsOf (mi_s k0.1 sf_170) rfl (by decide +kernel) (by decide) (Nat.le_of_ble_eq_true rfl) (s_MD_soundsOf k0.1 (by omega) (by omega) (by omega)) (fun r h12 hq => ?_)
      obtain ⟨x15, rfl, ⟨_, _⟩, k14⟩ := hq
      have k16 := kM_t k0 k14 (pm_s (by decide) (by decide))
      refine A_istore_n 3 (L' := [some (av_R (some 170)), some (av_I a1), some (av_I a2), some (av_I x15), none, none, none, none]) d_MD_beside_24 rfl (Nat.le_of_ble_eq_true rfl) rfl ?_
      refine A_aload_n 0 d_MD_beside_25 rfl rfl ?_
      refine A_iload_n 2 d_MD_beside_26 rfl rfl ?_
      refine A_iconst d_MD_beside_27 rfl ?_
      have zf18 := ((k14.2.2.1 _ _ rfl).trans esd1.symm)
      refine A_callV2 m_MD_soundsOf T_ok d_MD_beside_28 l_MD_595 k_MD_soundsOf (mi_s k16.1 sf_170) rfl (by decide +kernel) (by decide) (Nat.le_of_ble_eq_true rfl) (s_MD_soundsOf k16.1 (by omega) (by omega) (by omega)) (fun r h17 hq => ?_)
      obtain ⟨x20, rfl, ⟨_, _⟩, k19⟩ := hq
      have k21 := kM_t k16 k19 (pm_s (by decide) (by decide))
      refine A_istore (L' := [some (av_R (some 170)), some (av_I a1), some (av_I a2), some (av_I x15), some (av_I x20), none, none, none]) d_MD_beside_31 (Nat.le_of_ble_eq_true rfl) rfl ?_
      refine A_iload_n 3 d_MD_beside_33 rfl rfl ?_
      refine A_bipush d_MD_beside_34 rfl ?_
      refine A_icmp_gt (tgt := 46) d_MD_beside_36 (by decide) (fun c22 => ?_) (fun c22 => ?_)
      · refine A_bipush d_MD_beside_46 rfl ?_
        exact A_iret d_MD_beside_48 (by decide) rfl ⟨_, rfl, ⟨by omega, by omega⟩, k21⟩
      · refine A_iload d_MD_beside_39 rfl ?_
        refine A_bipush d_MD_beside_41 rfl ?_
        refine A_icmp_le (tgt := 49) d_MD_beside_43 (by decide) (fun c23 => ?_) (fun c23 => ?_)
        · refine A_iload_n 3 d_MD_beside_49 rfl rfl ?_
          refine A_istore (L' := [some (av_R (some 170)), some (av_I a1), some (av_I a2), some (av_I x15), some (av_I x20), some (av_I x15), none, none]) d_MD_beside_50 (Nat.le_of_ble_eq_true rfl) rfl ?_
          have lp52 : ∀ (n : Nat) (i24 : Int) (h25 : ah_T) , (-1) ≤ i24 → i24 ≤ 80 → (CM h25 x15 x20 (i24 + 1) ∧ CD h25 x15 x20 i24 x20 ∧ i24 ≤ x15) → kM (pm [104, 105] [236, 237, 238, 239, 240]) h h25 → (i24 + 2).toNat < n → aw G (rm_R 3 0 0) m_MD_beside 0 0 52 [some (av_R (some 170)), some (av_I a1), some (av_I a2), some (av_I x15), some (av_I x20), some (av_I i24), none, none] [] h25 (fun r h' => ∃ z, r = some (av_I z) ∧ ((-2147483648) ≤ z ∧ z ≤ 2147483647) ∧ kM (pm [104, 105] [236, 237, 238, 239, 240]) h h') := by
            intro n
            induction n with
            | zero => intro i24 h25 _ _ _ _ hm; omega
            | succ n ih52 =>
              intro i24 h25 hl0 hl1 hinv k26 hm
              obtain ⟨sd27, esd27⟩ : ∃ x, x = h25.2.1 170 104 := ⟨_, rfl⟩
              have rsd27 : 0 ≤ sd27 ∧ sd27 ≤ 80 := (by rw [esd27]; exact mi_g k26.1 (by decide) mr_170_104)
              refine A_iload d_MD_beside_52 rfl ?_
              refine A_if_lt (tgt := 89) d_MD_beside_54 (by decide) (fun c28 => ?_) (fun c28 => ?_)
              · refine A_aload_n 0 d_MD_beside_89 rfl rfl ?_
                refine A_iload_n 3 d_MD_beside_90 rfl rfl ?_
                refine A_putIk (KR := kM (pm [104, 105] [236, 237, 238, 239, 240]) h) T_ok d_MD_beside_91 f_MD_486 (mi_s k26.1 sf_170) fin_f (kM_i k26 (by decide) (by decide) mr_170_104 (by omega) (by omega)) (fun h29 k30 eh29 => ?_)
                refine A_aload_n 0 d_MD_beside_94 rfl rfl ?_
                refine A_aload_n 0 d_MD_beside_95 rfl rfl ?_
                refine A_pc (pc' := 96) rfl ?_
                refine A_getAv (z := some 240) T_ok d_MD_beside_96 f_MD_223 (mi_s k30.1 sf_170) (mi_r k30.1 rfm_110) ?_
                refine A_iconst d_MD_beside_99 rfl ?_
                refine A_laloadf d_MD_beside_100 (mi_s k30.1 sf_240) (by decide) (by decide) (fun x32 ex32 _ _ => ?_)
                replace ex32 : x32 = h29.2.2.1 240 0 := ex32
                refine A_l2iw d_MD_beside_101 (fun x33 _ _ _ => ?_)
                refine A_putIk (KR := kM (pm [104, 105] [236, 237, 238, 239, 240]) h) T_ok d_MD_beside_102 f_MD_489 (mi_s k30.1 sf_170) fin_f (kM_i k30 (by decide) (by decide) mr_170_105 (by omega) (by omega)) (fun h34 k35 eh34 => ?_)
                refine A_iconst d_MD_beside_105 rfl ?_
                refine A_pc (pc' := 106) rfl ?_
                refine A_istore (L' := [some (av_R (some 170)), some (av_I a1), some (av_I a2), some (av_I x15), some (av_I x20), some (av_I 0), none, none]) d_MD_beside_106 (Nat.le_of_ble_eq_true rfl) rfl ?_
                refine A_iconst d_MD_beside_108 rfl ?_
                refine A_istore (L' := [some (av_R (some 170)), some (av_I a1), some (av_I a2), some (av_I x15), some (av_I x20), some (av_I 0), some (av_I 0), none]) d_MD_beside_109 (Nat.le_of_ble_eq_true rfl) rfl ?_
                have lp111 : ∀ (n : Nat) (i36 i37 : Int) (h38 : ah_T) , 0 ≤ i36 → i36 ≤ 80 → 0 ≤ i37 → i37 ≤ 80 → (CM h38 x15 x20 0 ∧ i36 ≤ x15 ∧ i37 ≤ x20) → kM (pm [104, 105] [236, 237, 238, 239, 240]) h h38 → ((x15 - i36) * 81 + (x20 - i37)).toNat < n → aw G (rm_R 3 0 0) m_MD_beside 0 0 111 [some (av_R (some 170)), some (av_I a1), some (av_I a2), some (av_I x15), some (av_I x20), some (av_I i36), some (av_I i37), none] [] h38 (fun r h' => ∃ z, r = some (av_I z) ∧ ((-2147483648) ≤ z ∧ z ≤ 2147483647) ∧ kM (pm [104, 105] [236, 237, 238, 239, 240]) h h') := by
                  intro n
                  induction n with
                  | zero => intro i36 i37 h38 _ _ _ _ _ _ hm; omega
                  | succ n ih111 =>
                    intro i36 i37 h38 hl0 hl1 hl2 hl3 hinv k39 hm
                    obtain ⟨sd40, esd40⟩ : ∃ x, x = h38.2.1 170 104 := ⟨_, rfl⟩
                    have rsd40 : 0 ≤ sd40 ∧ sd40 ≤ 80 := (by rw [esd40]; exact mi_g k39.1 (by decide) mr_170_104)
                    refine A_iload d_MD_beside_111 rfl ?_
                    refine A_iload_n 3 d_MD_beside_113 rfl rfl ?_
                    refine A_icmp_ge (tgt := 241) d_MD_beside_114 (by decide) (fun c41 => ?_) (fun c41 => ?_)
                    · refine A_aload_n 0 d_MD_beside_241 rfl rfl ?_
                      refine A_getAv (z := some 239) T_ok d_MD_beside_242 f_MD_220 (mi_s k39.1 sf_170) (mi_r k39.1 rfm_109) ?_
                      refine A_iconst d_MD_beside_245 rfl ?_
                      refine A_ialoadf d_MD_beside_246 (mi_s k39.1 sf_239) (by decide) (by decide) (fun x43 ex43 _ _ => ?_)
                      replace ex43 : x43 = h38.2.1 239 0 := ex43
                      exact A_iret d_MD_beside_247 (by decide) rfl ⟨_, rfl, ⟨by omega, by omega⟩, k39⟩
                    · refine A_aload_n 0 d_MD_beside_117 rfl rfl ?_
                      refine A_getAv (z := some 239) T_ok d_MD_beside_118 f_MD_220 (mi_s k39.1 sf_170) (mi_r k39.1 rfm_109) ?_
                      refine A_bipush d_MD_beside_121 rfl ?_
                      refine A_iload d_MD_beside_123 rfl ?_
                      refine A_imulv (z := (81 * i36)) d_MD_beside_125 (w32_to (by omega) (by unfold i32; omega)) ?_
                      refine A_pc (pc' := 126) rfl ?_
                      refine A_iload d_MD_beside_126 rfl ?_
                      refine A_iaddv (z := (81 * i36 + i37)) d_MD_beside_128 (w32_to (by omega) (by unfold i32; omega)) ?_
                      refine A_ialoadf d_MD_beside_129 (mi_s k39.1 sf_239) (by omega) (by omega) (fun x45 ex45 _ _ => ?_)
                      refine A_istore (L' := [some (av_R (some 170)), some (av_I a1), some (av_I a2), some (av_I x15), some (av_I x20), some (av_I i36), some (av_I i37), some (av_I x45)]) d_MD_beside_130 (Nat.le_of_ble_eq_true rfl) rfl ?_
                      refine A_iload d_MD_beside_132 rfl ?_
                      refine A_iload d_MD_beside_134 rfl ?_
                      refine A_pc (pc' := 136) rfl ?_
                      refine A_icmp_ge (tgt := 198) d_MD_beside_136 (by decide) (fun c46 => ?_) (fun c46 => ?_)
                      · have yA : i37 = x20 → h38.2.1 239 (81 * i36 + i37).toNat = 5 * (x15 - i36) := fun q => CM_at hinv.1 (by omega) (by omega) (by omega) (by omega)
                        have yB : i37 = x20 → h38.2.1 239 (81 * i36 + i37 + 81).toNat = 5 * (x15 - i36 - 1) := fun q => (CM_at (i := i36 + 1) hinv.1 (by omega) (by omega) (by omega) (by omega)).trans (by omega)
                        refine A_iload d_MD_beside_198 rfl ?_
                        refine A_iconst d_MD_beside_200 rfl ?_
                        refine A_aload_n 0 d_MD_beside_201 rfl rfl ?_
                        refine A_getAv (z := some 239) T_ok d_MD_beside_202 f_MD_220 (mi_s k39.1 sf_170) (mi_r k39.1 rfm_109) ?_
                        refine A_bipush d_MD_beside_205 rfl ?_
                        refine A_pc (pc' := 207) rfl ?_
                        refine A_iload d_MD_beside_207 rfl ?_
                        refine A_iconst d_MD_beside_209 rfl ?_
                        refine A_iaddv (z := (i36 + 1)) d_MD_beside_210 (w32_to (by omega) (by unfold i32; omega)) ?_
                        refine A_imulv (z := (81 * i36 + 81)) d_MD_beside_211 (w32_to (by omega) (by unfold i32; omega)) ?_
                        refine A_iload d_MD_beside_212 rfl ?_
                        refine A_iaddv (z := (81 * i36 + i37 + 81)) d_MD_beside_214 (w32_to (by omega) (by unfold i32; omega)) ?_
                        refine A_pc (pc' := 215) rfl ?_
                        refine A_ialoadf d_MD_beside_215 (mi_s k39.1 sf_239) (by omega) (by omega) (fun x48 ex48 _ _ => ?_)
                        refine A_iaddw d_MD_beside_216 (fun x49 ex49 _ _ => ?_)
                        have wx49 : -2147483648 ≤ (x48 + 5) → (x48 + 5) ≤ 2147483647 → x49 = (x48 + 5) := fun q1 q2 => ex49.trans ((w32_id (by unfold i32; omega)).trans (by omega))
                        refine A_icmp_ne (tgt := 235) d_MD_beside_217 (by decide) (fun c50 => ?_) (fun c50 => ?_)
                        · have yl : i37 < x20 := (by omega)
                          refine A_iincv (z := (i37 + 1)) (L' := [some (av_R (some 170)), some (av_I a1), some (av_I a2), some (av_I x15), some (av_I x20), some (av_I i36), some (av_I (i37 + 1)), some (av_I x45)]) d_MD_beside_235 rfl (w32_to (by omega) (by unfold i32; omega)) rfl ?_
                          refine A_goto (tgt := 111) d_MD_beside_238 (by decide) ?_
                          refine A_free (L' := [some (av_R (some 170)), some (av_I a1), some (av_I a2), some (av_I x15), some (av_I x20), some (av_I i36), some (av_I (i37 + 1)), none]) (And.intro rfl (And.intro rfl (And.intro rfl (And.intro rfl (And.intro rfl (And.intro rfl (And.intro rfl trivial))))))) ?_
                          exact ih111 i36 (i37 + 1) h38 (by omega) (by omega) (by omega) (by omega) ⟨fun x h1 h2 => by exact hinv.1 x h1 h2, by omega, by omega⟩ k39 (by omega)
                        · refine A_aload_n 0 d_MD_beside_220 rfl rfl ?_
                          refine A_getAv (z := some 236) T_ok d_MD_beside_221 f_MD_211 (mi_s k39.1 sf_170) (mi_r k39.1 rfm_106) ?_
                          refine A_iload d_MD_beside_224 rfl ?_
                          refine A_bipush d_MD_beside_226 rfl ?_
                          refine A_iastorek (KR := kM (pm [104, 105] [236, 237, 238, 239, 240]) h) d_MD_beside_228 (mi_s k39.1 sf_236) (by omega) (by omega) (kM_i k39 (by decide) rfl (mr_236 _) (by omega) (by omega)) (fun h52 k53 eh52 => ?_)
                          refine A_pc (pc' := 229) rfl ?_
                          refine A_iincv (z := (i36 + 1)) (L' := [some (av_R (some 170)), some (av_I a1), some (av_I a2), some (av_I x15), some (av_I x20), some (av_I (i36 + 1)), some (av_I i37), some (av_I x45)]) d_MD_beside_229 rfl (w32_to (by omega) (by unfold i32; omega)) rfl ?_
                          refine A_goto (tgt := 238) d_MD_beside_232 (by decide) ?_
                          refine A_goto (tgt := 111) d_MD_beside_238 (by decide) ?_
                          refine A_free (L' := [some (av_R (some 170)), some (av_I a1), some (av_I a2), some (av_I x15), some (av_I x20), some (av_I (i36 + 1)), some (av_I i37), none]) (And.intro rfl (And.intro rfl (And.intro rfl (And.intro rfl (And.intro rfl (And.intro rfl (And.intro rfl trivial))))))) ?_
                          exact ih111 (i36 + 1) i37 h52 (by omega) (by omega) (by omega) (by omega) ⟨fun x h1 h2 => by rw [(eh52.1 239 _ (fun q => absurd q (by decide)))]; exact hinv.1 x h1 h2, by omega, by omega⟩ k53 (by omega)
                      · refine A_iload d_MD_beside_139 rfl ?_
                        refine A_aload_n 0 d_MD_beside_141 rfl rfl ?_
                        refine A_aload_n 0 d_MD_beside_142 rfl rfl ?_
                        refine A_getAv (z := some 237) T_ok d_MD_beside_143 f_MD_214 (mi_s k39.1 sf_170) (mi_r k39.1 rfm_107) ?_
                        refine A_iload d_MD_beside_146 rfl ?_
                        refine A_pc (pc' := 148) rfl ?_
                        refine A_ialoadn (lo := 0) (hi := 1199) d_MD_beside_148 (mi_s k39.1 sf_237) (by omega) (by omega) (mi_g k39.1 (by decide) (mr_237 _)) (fun x55 ex55 _ _ => ?_)
                        refine A_aload_n 0 d_MD_beside_149 rfl rfl ?_
                        refine A_getAv (z := some 238) T_ok d_MD_beside_150 f_MD_217 (mi_s k39.1 sf_170) (mi_r k39.1 rfm_108) ?_
                        refine A_iload d_MD_beside_153 rfl ?_
                        refine A_ialoadn (lo := 0) (hi := 1199) d_MD_beside_155 (mi_s k39.1 sf_238) (by omega) (by omega) (mi_g k39.1 (by decide) (mr_238 _)) (fun x57 ex57 _ _ => ?_)
                        refine A_callV2 m_MD_pairCost T_ok d_MD_beside_156 l_MD_602 k_MD_pairCost (mi_s k39.1 sf_170) rfl (by decide +kernel) (by decide) (Nat.le_of_ble_eq_true rfl) (s_MD_pairCost k39.1 (by omega) (by omega) (by omega) (by omega)) (fun r h58 hq => ?_)
                        obtain ⟨x60, rfl, ⟨_, _⟩, rfl⟩ := hq
                        refine A_aload_n 0 d_MD_beside_159 rfl rfl ?_
                        refine A_getAv (z := some 239) T_ok d_MD_beside_160 f_MD_220 (mi_s k39.1 sf_170) (mi_r k39.1 rfm_109) ?_
                        refine A_bipush d_MD_beside_163 rfl ?_
                        refine A_iload d_MD_beside_165 rfl ?_
                        refine A_iconst d_MD_beside_167 rfl ?_
                        refine A_pc (pc' := 168) rfl ?_
                        refine A_iaddv (z := (i36 + 1)) d_MD_beside_168 (w32_to (by omega) (by unfold i32; omega)) ?_
                        refine A_imulv (z := (81 * i36 + 81)) d_MD_beside_169 (w32_to (by omega) (by unfold i32; omega)) ?_
                        refine A_iload d_MD_beside_170 rfl ?_
                        refine A_iaddv (z := (81 * i36 + i37 + 81)) d_MD_beside_172 (w32_to (by omega) (by unfold i32; omega)) ?_
                        refine A_iconst d_MD_beside_173 rfl ?_
                        refine A_iaddv (z := (81 * i36 + i37 + 82)) d_MD_beside_174 (w32_to (by omega) (by unfold i32; omega)) ?_
                        refine A_pc (pc' := 175) rfl ?_
                        refine A_ialoadf d_MD_beside_175 (mi_s k39.1 sf_239) (by omega) (by omega) (fun x62 ex62 _ _ => ?_)
                        refine A_iaddw d_MD_beside_176 (fun x63 ex63 _ _ => ?_)
                        have wx63 : -2147483648 ≤ (x60 + x62) → (x60 + x62) ≤ 2147483647 → x63 = (x60 + x62) := fun q1 q2 => ex63.trans ((w32_id (by unfold i32; omega)).trans (by omega))
                        refine A_icmp_ne (tgt := 198) d_MD_beside_177 (by decide) (fun c64 => ?_) (fun c64 => ?_)
                        · have yA : i37 = x20 → h38.2.1 239 (81 * i36 + i37).toNat = 5 * (x15 - i36) := fun q => CM_at hinv.1 (by omega) (by omega) (by omega) (by omega)
                          have yB : i37 = x20 → h38.2.1 239 (81 * i36 + i37 + 81).toNat = 5 * (x15 - i36 - 1) := fun q => (CM_at (i := i36 + 1) hinv.1 (by omega) (by omega) (by omega) (by omega)).trans (by omega)
                          refine A_iload d_MD_beside_198 rfl ?_
                          refine A_iconst d_MD_beside_200 rfl ?_
                          refine A_aload_n 0 d_MD_beside_201 rfl rfl ?_
                          refine A_getAv (z := some 239) T_ok d_MD_beside_202 f_MD_220 (mi_s k39.1 sf_170) (mi_r k39.1 rfm_109) ?_
                          refine A_bipush d_MD_beside_205 rfl ?_
                          refine A_pc (pc' := 207) rfl ?_
                          refine A_iload d_MD_beside_207 rfl ?_
                          refine A_iconst d_MD_beside_209 rfl ?_
                          refine A_iaddv (z := (i36 + 1)) d_MD_beside_210 (w32_to (by omega) (by unfold i32; omega)) ?_
                          refine A_imulv (z := (81 * i36 + 81)) d_MD_beside_211 (w32_to (by omega) (by unfold i32; omega)) ?_
                          refine A_iload d_MD_beside_212 rfl ?_
                          refine A_iaddv (z := (81 * i36 + i37 + 81)) d_MD_beside_214 (w32_to (by omega) (by unfold i32; omega)) ?_
                          refine A_pc (pc' := 215) rfl ?_
                          refine A_ialoadf d_MD_beside_215 (mi_s k39.1 sf_239) (by omega) (by omega) (fun x66 ex66 _ _ => ?_)
                          refine A_iaddw d_MD_beside_216 (fun x67 ex67 _ _ => ?_)
                          have wx67 : -2147483648 ≤ (x66 + 5) → (x66 + 5) ≤ 2147483647 → x67 = (x66 + 5) := fun q1 q2 => ex67.trans ((w32_id (by unfold i32; omega)).trans (by omega))
                          refine A_icmp_ne (tgt := 235) d_MD_beside_217 (by decide) (fun c68 => ?_) (fun c68 => ?_)
                          · have yl : i37 < x20 := (by omega)
                            refine A_iincv (z := (i37 + 1)) (L' := [some (av_R (some 170)), some (av_I a1), some (av_I a2), some (av_I x15), some (av_I x20), some (av_I i36), some (av_I (i37 + 1)), some (av_I x45)]) d_MD_beside_235 rfl (w32_to (by omega) (by unfold i32; omega)) rfl ?_
                            refine A_goto (tgt := 111) d_MD_beside_238 (by decide) ?_
                            refine A_free (L' := [some (av_R (some 170)), some (av_I a1), some (av_I a2), some (av_I x15), some (av_I x20), some (av_I i36), some (av_I (i37 + 1)), none]) (And.intro rfl (And.intro rfl (And.intro rfl (And.intro rfl (And.intro rfl (And.intro rfl (And.intro rfl trivial))))))) ?_
                            exact ih111 i36 (i37 + 1) h38 (by omega) (by omega) (by omega) (by omega) ⟨fun x h1 h2 => by exact hinv.1 x h1 h2, by omega, by omega⟩ k39 (by omega)
                          · refine A_aload_n 0 d_MD_beside_220 rfl rfl ?_
                            refine A_getAv (z := some 236) T_ok d_MD_beside_221 f_MD_211 (mi_s k39.1 sf_170) (mi_r k39.1 rfm_106) ?_
                            refine A_iload d_MD_beside_224 rfl ?_
                            refine A_bipush d_MD_beside_226 rfl ?_
                            refine A_iastorek (KR := kM (pm [104, 105] [236, 237, 238, 239, 240]) h) d_MD_beside_228 (mi_s k39.1 sf_236) (by omega) (by omega) (kM_i k39 (by decide) rfl (mr_236 _) (by omega) (by omega)) (fun h70 k71 eh70 => ?_)
                            refine A_pc (pc' := 229) rfl ?_
                            refine A_iincv (z := (i36 + 1)) (L' := [some (av_R (some 170)), some (av_I a1), some (av_I a2), some (av_I x15), some (av_I x20), some (av_I (i36 + 1)), some (av_I i37), some (av_I x45)]) d_MD_beside_229 rfl (w32_to (by omega) (by unfold i32; omega)) rfl ?_
                            refine A_goto (tgt := 238) d_MD_beside_232 (by decide) ?_
                            refine A_goto (tgt := 111) d_MD_beside_238 (by decide) ?_
                            refine A_free (L' := [some (av_R (some 170)), some (av_I a1), some (av_I a2), some (av_I x15), some (av_I x20), some (av_I (i36 + 1)), some (av_I i37), none]) (And.intro rfl (And.intro rfl (And.intro rfl (And.intro rfl (And.intro rfl (And.intro rfl (And.intro rfl trivial))))))) ?_
                            exact ih111 (i36 + 1) i37 h70 (by omega) (by omega) (by omega) (by omega) ⟨fun x h1 h2 => by rw [(eh70.1 239 _ (fun q => absurd q (by decide)))]; exact hinv.1 x h1 h2, by omega, by omega⟩ k71 (by omega)
                        · refine A_aload_n 0 d_MD_beside_180 rfl rfl ?_
                          refine A_getAv (z := some 236) T_ok d_MD_beside_181 f_MD_211 (mi_s k39.1 sf_170) (mi_r k39.1 rfm_106) ?_
                          refine A_iload d_MD_beside_184 rfl ?_
                          refine A_iload d_MD_beside_186 rfl ?_
                          refine A_iastorek (KR := kM (pm [104, 105] [236, 237, 238, 239, 240]) h) d_MD_beside_188 (mi_s k39.1 sf_236) (by omega) (by omega) (kM_i k39 (by decide) rfl (mr_236 _) (by omega) (by omega)) (fun h73 k74 eh73 => ?_)
                          refine A_pc (pc' := 189) rfl ?_
                          refine A_iincv (z := (i36 + 1)) (L' := [some (av_R (some 170)), some (av_I a1), some (av_I a2), some (av_I x15), some (av_I x20), some (av_I (i36 + 1)), some (av_I i37), some (av_I x45)]) d_MD_beside_189 rfl (w32_to (by omega) (by unfold i32; omega)) rfl ?_
                          refine A_iincv (z := (i37 + 1)) (L' := [some (av_R (some 170)), some (av_I a1), some (av_I a2), some (av_I x15), some (av_I x20), some (av_I (i36 + 1)), some (av_I (i37 + 1)), some (av_I x45)]) d_MD_beside_192 rfl (w32_to (by omega) (by unfold i32; omega)) rfl ?_
                          refine A_goto (tgt := 238) d_MD_beside_195 (by decide) ?_
                          refine A_goto (tgt := 111) d_MD_beside_238 (by decide) ?_
                          refine A_free (L' := [some (av_R (some 170)), some (av_I a1), some (av_I a2), some (av_I x15), some (av_I x20), some (av_I (i36 + 1)), some (av_I (i37 + 1)), none]) (And.intro rfl (And.intro rfl (And.intro rfl (And.intro rfl (And.intro rfl (And.intro rfl (And.intro rfl trivial))))))) ?_
                          exact ih111 (i36 + 1) (i37 + 1) h73 (by omega) (by omega) (by omega) (by omega) ⟨fun x h1 h2 => by rw [(eh73.1 239 _ (fun q => absurd q (by decide)))]; exact hinv.1 x h1 h2, by omega, by omega⟩ k74 (by omega)
                exact lp111 _ 0 0 h34 (by omega) (by omega) (by omega) (by omega) ⟨fun x h1 h2 => by rw [((eh34.1 239 _ (fun q => absurd q (by decide))).trans (eh29.1 239 _ (fun q => absurd q (by decide))))]; exact hinv.1 x (by omega) h2, by omega, by omega⟩ k35 (Nat.lt_succ_self _)
              · refine A_iload d_MD_beside_57 rfl ?_
                refine A_istore (L' := [some (av_R (some 170)), some (av_I a1), some (av_I a2), some (av_I x15), some (av_I x20), some (av_I i24), some (av_I x20), none]) d_MD_beside_59 (Nat.le_of_ble_eq_true rfl) rfl ?_
                have lp61 : ∀ (n : Nat) (i75 : Int) (h76 : ah_T) , (-1) ≤ i75 → i75 ≤ 80 → (CM h76 x15 x20 (i24 + 1) ∧ (i75 < x20 → CM h76 x15 x20 i24) ∧ i75 ≤ x20 ∧ CD h76 x15 x20 i24 i75) → kM (pm [104, 105] [236, 237, 238, 239, 240]) h h76 → (i75 + 2).toNat < n → aw G (rm_R 3 0 0) m_MD_beside 0 0 61 [some (av_R (some 170)), some (av_I a1), some (av_I a2), some (av_I x15), some (av_I x20), some (av_I i24), some (av_I i75), none] [] h76 (fun r h' => ∃ z, r = some (av_I z) ∧ ((-2147483648) ≤ z ∧ z ≤ 2147483647) ∧ kM (pm [104, 105] [236, 237, 238, 239, 240]) h h') := by
                  intro n
                  induction n with
                  | zero => intro i75 h76 _ _ _ _ hm; omega
                  | succ n ih61 =>
                    intro i75 h76 hl0 hl1 hinv k77 hm
                    obtain ⟨sd78, esd78⟩ : ∃ x, x = h76.2.1 170 104 := ⟨_, rfl⟩
                    have rsd78 : 0 ≤ sd78 ∧ sd78 ≤ 80 := (by rw [esd78]; exact mi_g k77.1 (by decide) mr_170_104)
                    refine A_iload d_MD_beside_61 rfl ?_
                    refine A_if_lt (tgt := 83) d_MD_beside_63 (by decide) (fun c79 => ?_) (fun c79 => ?_)
                    · have yc : CM h76 x15 x20 (i24 - 1 + 1) := (by rw [show i24 - 1 + 1 = i24 by omega]; exact hinv.2.1 (by omega))
                      have yd := CD_r hinv.2.2.2 (by omega)
                      refine A_iincv (z := (i24 - 1)) (L' := [some (av_R (some 170)), some (av_I a1), some (av_I a2), some (av_I x15), some (av_I x20), some (av_I (i24 - 1)), some (av_I i75), none]) d_MD_beside_83 rfl (w32_to (by omega) (by unfold i32; omega)) rfl ?_
                      refine A_goto (tgt := 52) d_MD_beside_86 (by decide) ?_
                      refine A_free (L' := [some (av_R (some 170)), some (av_I a1), some (av_I a2), some (av_I x15), some (av_I x20), some (av_I (i24 - 1)), none, none]) (And.intro rfl (And.intro rfl (And.intro rfl (And.intro rfl (And.intro rfl (And.intro rfl trivial)))))) ?_
                      exact ih52 (i24 - 1) h76 (by omega) (by omega) ⟨yc, yd, by omega⟩ k77 (by omega)
                    · have hD := hinv.2.2.2
                      refine A_aload_n 0 d_MD_beside_66 rfl rfl ?_
                      refine A_iload d_MD_beside_67 rfl ?_
                      refine A_iload d_MD_beside_69 rfl ?_
                      refine A_iload_n 3 d_MD_beside_71 rfl rfl ?_
                      refine A_iload d_MD_beside_72 rfl ?_
                      refine A_pc (pc' := 74) rfl ?_
                      have zf81 := esd78.symm
                      refine A_callV4 m_MD_cell T_ok d_MD_beside_74 l_MD_599 k_MD_cell (mi_s k77.1 sf_170) rfl (by decide +kernel) (by decide) (Nat.le_of_ble_eq_true rfl) (s_MD_cell k77.1 (by omega) (by omega) (by omega) (by omega) (by omega) (by omega) (by omega) (by omega) (by omega) (by omega) (fun q => by have q1 := CD_at (x := i24 + 1) (y := i75) (k := (81 * i24 + i75 + 81).toNat) hD (by omega) (by omega) (by omega) (by omega) (by omega) (by omega); omega) (fun q => by have q1 := CD_at (x := i24) (y := i75 + 1) (k := (81 * i24 + i75 + 1).toNat) hD (by omega) (by omega) (by omega) (by omega) (by omega) (by omega); omega) (fun q1 q2 => by have q3 := CD_at (x := i24 + 1) (y := i75 + 1) (k := (81 * i24 + i75 + 82).toNat) hD (by omega) (by omega) (by omega) (by omega) (by omega) (by omega); omega)) (fun r h80 hq => ?_)
                      obtain ⟨rfl, xk82, k82⟩ := hq
                      have k83 := kM_t k77 k82 (pm_s (by decide) (by decide))
                      refine A_iincv (z := (i75 - 1)) (L' := [some (av_R (some 170)), some (av_I a1), some (av_I a2), some (av_I x15), some (av_I x20), some (av_I i24), some (av_I (i75 - 1)), none]) d_MD_beside_77 rfl (w32_to (by omega) (by unfold i32; omega)) rfl ?_
                      refine A_goto (tgt := 61) d_MD_beside_80 (by decide) ?_
                      exact ih61 (i75 - 1) h80 (by omega) (by omega) (by have q0 := hinv.2.2.1; have q5 := CD_s hinv.2.2.2 (by omega) (by omega) (by omega) (by omega) xk82.1.2.2 xk82.2; by_cases hc : i75 = x20; (have q1 := CM_c (i := i24) (n := x15) (m := x20) hinv.1 (by omega) (by omega) (by omega) (by omega) (by omega) (by have q6 := xk82.1; rw [hc] at q6; exact q6); exact ⟨fun y h1 h2 => q1 y (by omega) h2, fun _ => q1, by omega, q5⟩); (have q1 := hinv.2.1 (by omega); have q2 := CM_o q1 (Int.le_refl _) (by omega) (by omega) (by omega) (by omega) xk82.1; exact ⟨fun y h1 h2 => q2 y (by omega) h2, fun _ => q2, by omega, q5⟩)) k83 (by omega)
                exact lp61 _ x20 h25 (by omega) (by omega) ⟨hinv.1, fun q => by omega, by omega, hinv.2.1⟩ k26 (Nat.lt_succ_self _)
          exact lp52 _ x15 h17 (by omega) (by omega) ⟨fun x h1 h2 => by omega, CD_0, by omega⟩ k21 (Nat.lt_succ_self _)
        · refine A_bipush d_MD_beside_46 rfl ?_
          exact A_iret d_MD_beside_48 (by decide) rfl ⟨_, rfl, ⟨by omega, by omega⟩, k21⟩
    · refine A_iconst d_MD_beside_16 rfl ?_
      exact A_iret d_MD_beside_17 (by decide) rfl ⟨_, rfl, ⟨by omega, by omega⟩, k0⟩
