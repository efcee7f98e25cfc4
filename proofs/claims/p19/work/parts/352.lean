/-! ===== the reference's methods, 352 ===== -/
def m_MD_breaks : mr_T := (⟨"PlainMusicModel", "breaks", "(I)I"⟩, prog_14_method_74_code, 9, some .int)
theorem d_MD_breaks_0 : decode prog_14_method_74_code 0 = .ok (.iload_n 1, 1) := by decide +kernel
theorem d_MD_breaks_1 : decode prog_14_method_74_code 1 = .ok (.iconst 1, 1) := by decide +kernel
theorem d_MD_breaks_2 : decode prog_14_method_74_code 2 = .ok (.if_icmp .lt 10, 3) := by decide +kernel
theorem d_MD_breaks_12 : decode prog_14_method_74_code 12 = .ok (.iconst (-1), 1) := by decide +kernel
theorem d_MD_breaks_13 : decode prog_14_method_74_code 13 = .ok (.ireturn, 1) := by decide +kernel
theorem d_MD_breaks_5 : decode prog_14_method_74_code 5 = .ok (.iload_n 1, 1) := by decide +kernel
theorem d_MD_breaks_6 : decode prog_14_method_74_code 6 = .ok (.sipush 1000, 3) := by decide +kernel
theorem d_MD_breaks_9 : decode prog_14_method_74_code 9 = .ok (.if_icmp .le 5, 3) := by decide +kernel
theorem d_MD_breaks_14 : decode prog_14_method_74_code 14 = .ok (.aload_n 0, 1) := by decide +kernel
theorem d_MD_breaks_15 : decode prog_14_method_74_code 15 = .ok (.getfield 17, 3) := by decide +kernel
theorem d_MD_breaks_18 : decode prog_14_method_74_code 18 = .ok (.iconst 0, 1) := by decide +kernel
theorem d_MD_breaks_19 : decode prog_14_method_74_code 19 = .ok (.iaload, 1) := by decide +kernel
theorem d_MD_breaks_20 : decode prog_14_method_74_code 20 = .ok (.ifCond .ne 6, 3) := by decide +kernel
theorem d_MD_breaks_26 : decode prog_14_method_74_code 26 = .ok (.aload_n 0, 1) := by decide +kernel
theorem d_MD_breaks_27 : decode prog_14_method_74_code 27 = .ok (.invokevirtual 492, 3) := by decide +kernel
theorem d_MD_breaks_30 : decode prog_14_method_74_code 30 = .ok (.istore_n 2, 1) := by decide +kernel
theorem d_MD_breaks_31 : decode prog_14_method_74_code 31 = .ok (.iload_n 2, 1) := by decide +kernel
theorem d_MD_breaks_32 : decode prog_14_method_74_code 32 = .ok (.bipush 14, 2) := by decide +kernel
theorem d_MD_breaks_34 : decode prog_14_method_74_code 34 = .ok (.if_icmp .le 6, 3) := by decide +kernel
theorem d_MD_breaks_40 : decode prog_14_method_74_code 40 = .ok (.aload_n 0, 1) := by decide +kernel
theorem d_MD_breaks_41 : decode prog_14_method_74_code 41 = .ok (.getfield 181, 3) := by decide +kernel
theorem d_MD_breaks_44 : decode prog_14_method_74_code 44 = .ok (.iload_n 2, 1) := by decide +kernel
theorem d_MD_breaks_45 : decode prog_14_method_74_code 45 = .ok (.iconst 0, 1) := by decide +kernel
theorem d_MD_breaks_46 : decode prog_14_method_74_code 46 = .ok (.iastore, 1) := by decide +kernel
theorem d_MD_breaks_47 : decode prog_14_method_74_code 47 = .ok (.iload_n 2, 1) := by decide +kernel
theorem d_MD_breaks_48 : decode prog_14_method_74_code 48 = .ok (.iconst 1, 1) := by decide +kernel
theorem d_MD_breaks_49 : decode prog_14_method_74_code 49 = .ok (.isub, 1) := by decide +kernel
theorem d_MD_breaks_50 : decode prog_14_method_74_code 50 = .ok (.istore_n 3, 1) := by decide +kernel
theorem d_MD_breaks_51 : decode prog_14_method_74_code 51 = .ok (.iload_n 3, 1) := by decide +kernel
theorem d_MD_breaks_52 : decode prog_14_method_74_code 52 = .ok (.ifCond .lt 154, 3) := by decide +kernel
theorem d_MD_breaks_206 : decode prog_14_method_74_code 206 = .ok (.aload_n 0, 1) := by decide +kernel
theorem d_MD_breaks_207 : decode prog_14_method_74_code 207 = .ok (.iconst 0, 1) := by decide +kernel
theorem d_MD_breaks_208 : decode prog_14_method_74_code 208 = .ok (.putfield 477, 3) := by decide +kernel
theorem d_MD_breaks_211 : decode prog_14_method_74_code 211 = .ok (.iconst 0, 1) := by decide +kernel
theorem d_MD_breaks_212 : decode prog_14_method_74_code 212 = .ok (.istore_n 3, 1) := by decide +kernel
theorem d_MD_breaks_213 : decode prog_14_method_74_code 213 = .ok (.iload_n 3, 1) := by decide +kernel
theorem d_MD_breaks_214 : decode prog_14_method_74_code 214 = .ok (.iload_n 2, 1) := by decide +kernel
theorem d_MD_breaks_215 : decode prog_14_method_74_code 215 = .ok (.if_icmp .ge 40, 3) := by decide +kernel
theorem d_MD_breaks_255 : decode prog_14_method_74_code 255 = .ok (.aload_n 0, 1) := by decide +kernel
theorem d_MD_breaks_256 : decode prog_14_method_74_code 256 = .ok (.getfield 181, 3) := by decide +kernel
theorem d_MD_breaks_259 : decode prog_14_method_74_code 259 = .ok (.iconst 0, 1) := by decide +kernel
theorem d_MD_breaks_260 : decode prog_14_method_74_code 260 = .ok (.iaload, 1) := by decide +kernel
theorem d_MD_breaks_261 : decode prog_14_method_74_code 261 = .ok (.ireturn, 1) := by decide +kernel
theorem d_MD_breaks_218 : decode prog_14_method_74_code 218 = .ok (.aload_n 0, 1) := by decide +kernel
theorem d_MD_breaks_219 : decode prog_14_method_74_code 219 = .ok (.getfield 187, 3) := by decide +kernel
theorem d_MD_breaks_222 : decode prog_14_method_74_code 222 = .ok (.aload_n 0, 1) := by decide +kernel
theorem d_MD_breaks_223 : decode prog_14_method_74_code 223 = .ok (.getfield 477, 3) := by decide +kernel
theorem d_MD_breaks_226 : decode prog_14_method_74_code 226 = .ok (.aload_n 0, 1) := by decide +kernel
theorem d_MD_breaks_227 : decode prog_14_method_74_code 227 = .ok (.getfield 184, 3) := by decide +kernel
theorem d_MD_breaks_230 : decode prog_14_method_74_code 230 = .ok (.iload_n 3, 1) := by decide +kernel
theorem d_MD_breaks_231 : decode prog_14_method_74_code 231 = .ok (.iaload, 1) := by decide +kernel
theorem d_MD_breaks_232 : decode prog_14_method_74_code 232 = .ok (.iastore, 1) := by decide +kernel
theorem d_MD_breaks_233 : decode prog_14_method_74_code 233 = .ok (.aload_n 0, 1) := by decide +kernel
theorem d_MD_breaks_234 : decode prog_14_method_74_code 234 = .ok (.dup, 1) := by decide +kernel
theorem d_MD_breaks_235 : decode prog_14_method_74_code 235 = .ok (.getfield 477, 3) := by decide +kernel
theorem d_MD_breaks_238 : decode prog_14_method_74_code 238 = .ok (.iconst 1, 1) := by decide +kernel
theorem d_MD_breaks_239 : decode prog_14_method_74_code 239 = .ok (.iadd, 1) := by decide +kernel
theorem d_MD_breaks_240 : decode prog_14_method_74_code 240 = .ok (.putfield 477, 3) := by decide +kernel
theorem d_MD_breaks_243 : decode prog_14_method_74_code 243 = .ok (.iload_n 3, 1) := by decide +kernel
theorem d_MD_breaks_244 : decode prog_14_method_74_code 244 = .ok (.aload_n 0, 1) := by decide +kernel
theorem d_MD_breaks_245 : decode prog_14_method_74_code 245 = .ok (.getfield 184, 3) := by decide +kernel
theorem d_MD_breaks_248 : decode prog_14_method_74_code 248 = .ok (.iload_n 3, 1) := by decide +kernel
theorem d_MD_breaks_249 : decode prog_14_method_74_code 249 = .ok (.iaload, 1) := by decide +kernel
theorem d_MD_breaks_250 : decode prog_14_method_74_code 250 = .ok (.iadd, 1) := by decide +kernel
theorem d_MD_breaks_251 : decode prog_14_method_74_code 251 = .ok (.istore_n 3, 1) := by decide +kernel
theorem d_MD_breaks_252 : decode prog_14_method_74_code 252 = .ok (.goto (-39), 3) := by decide +kernel
theorem d_MD_breaks_55 : decode prog_14_method_74_code 55 = .ok (.bipush (-2), 2) := by decide +kernel
theorem d_MD_breaks_57 : decode prog_14_method_74_code 57 = .ok (.istore 4, 2) := by decide +kernel
theorem d_MD_breaks_59 : decode prog_14_method_74_code 59 = .ok (.iconst 0, 1) := by decide +kernel
theorem d_MD_breaks_60 : decode prog_14_method_74_code 60 = .ok (.istore 5, 2) := by decide +kernel
theorem d_MD_breaks_62 : decode prog_14_method_74_code 62 = .ok (.iconst 1, 1) := by decide +kernel
theorem d_MD_breaks_63 : decode prog_14_method_74_code 63 = .ok (.istore 6, 2) := by decide +kernel
theorem d_MD_breaks_65 : decode prog_14_method_74_code 65 = .ok (.iload_n 3, 1) := by decide +kernel
theorem d_MD_breaks_66 : decode prog_14_method_74_code 66 = .ok (.iload 6, 2) := by decide +kernel
theorem d_MD_breaks_68 : decode prog_14_method_74_code 68 = .ok (.iadd, 1) := by decide +kernel
theorem d_MD_breaks_69 : decode prog_14_method_74_code 69 = .ok (.iload_n 2, 1) := by decide +kernel
theorem d_MD_breaks_70 : decode prog_14_method_74_code 70 = .ok (.if_icmp .gt 122, 3) := by decide +kernel
theorem d_MD_breaks_192 : decode prog_14_method_74_code 192 = .ok (.aload_n 0, 1) := by decide +kernel
theorem d_MD_breaks_193 : decode prog_14_method_74_code 193 = .ok (.getfield 184, 3) := by decide +kernel
theorem d_MD_breaks_196 : decode prog_14_method_74_code 196 = .ok (.iload_n 3, 1) := by decide +kernel
theorem d_MD_breaks_197 : decode prog_14_method_74_code 197 = .ok (.iload 4, 2) := by decide +kernel
theorem d_MD_breaks_199 : decode prog_14_method_74_code 199 = .ok (.iastore, 1) := by decide +kernel
theorem d_MD_breaks_200 : decode prog_14_method_74_code 200 = .ok (.iinc 3 (-1), 3) := by decide +kernel
theorem d_MD_breaks_203 : decode prog_14_method_74_code 203 = .ok (.goto (-152), 3) := by decide +kernel
theorem d_MD_breaks_73 : decode prog_14_method_74_code 73 = .ok (.iload 5, 2) := by decide +kernel
theorem d_MD_breaks_75 : decode prog_14_method_74_code 75 = .ok (.aload_n 0, 1) := by decide +kernel
theorem d_MD_breaks_76 : decode prog_14_method_74_code 76 = .ok (.iload_n 3, 1) := by decide +kernel
theorem d_MD_breaks_77 : decode prog_14_method_74_code 77 = .ok (.iload 6, 2) := by decide +kernel
theorem d_MD_breaks_79 : decode prog_14_method_74_code 79 = .ok (.iadd, 1) := by decide +kernel
theorem d_MD_breaks_80 : decode prog_14_method_74_code 80 = .ok (.iconst 1, 1) := by decide +kernel
theorem d_MD_breaks_81 : decode prog_14_method_74_code 81 = .ok (.isub, 1) := by decide +kernel
theorem d_MD_breaks_82 : decode prog_14_method_74_code 82 = .ok (.invokevirtual 552, 3) := by decide +kernel
theorem k_MD_width : mt_OK m_MD_width 1 1 := ⟨gwi_2109, gwi_146, ⟨by decide +kernel, by decide +kernel, by decide +kernel⟩, fun h => absurd h (by decide), fun _ => ⟨gwi_2107, gwi_2108⟩, fun h => absurd h (by decide)⟩
theorem l_MD_552 : ml_OK "PlainMusicModel" 552 ⟨"PlainMusicModel", "width", "(I)I"⟩ := Or.inl gwi_2118
theorem d_MD_breaks_85 : decode prog_14_method_74_code 85 = .ok (.iadd, 1) := by decide +kernel
theorem d_MD_breaks_86 : decode prog_14_method_74_code 86 = .ok (.istore 5, 2) := by decide +kernel
theorem d_MD_breaks_88 : decode prog_14_method_74_code 88 = .ok (.iload_n 1, 1) := by decide +kernel
theorem d_MD_breaks_89 : decode prog_14_method_74_code 89 = .ok (.iload 5, 2) := by decide +kernel
theorem d_MD_breaks_91 : decode prog_14_method_74_code 91 = .ok (.isub, 1) := by decide +kernel
theorem d_MD_breaks_92 : decode prog_14_method_74_code 92 = .ok (.istore 7, 2) := by decide +kernel
theorem d_MD_breaks_94 : decode prog_14_method_74_code 94 = .ok (.iload 7, 2) := by decide +kernel
theorem d_MD_breaks_96 : decode prog_14_method_74_code 96 = .ok (.ifCond .ge 12, 3) := by decide +kernel
theorem d_MD_breaks_108 : decode prog_14_method_74_code 108 = .ok (.iload 7, 2) := by decide +kernel
theorem d_MD_breaks_110 : decode prog_14_method_74_code 110 = .ok (.ifCond .ge 15, 3) := by decide +kernel
theorem d_MD_breaks_125 : decode prog_14_method_74_code 125 = .ok (.iload_n 3, 1) := by decide +kernel
theorem d_MD_breaks_126 : decode prog_14_method_74_code 126 = .ok (.iload 6, 2) := by decide +kernel
theorem d_MD_breaks_128 : decode prog_14_method_74_code 128 = .ok (.iadd, 1) := by decide +kernel
theorem d_MD_breaks_129 : decode prog_14_method_74_code 129 = .ok (.iload_n 2, 1) := by decide +kernel
theorem d_MD_breaks_130 : decode prog_14_method_74_code 130 = .ok (.if_icmp .ne 7, 3) := by decide +kernel
theorem d_MD_breaks_137 : decode prog_14_method_74_code 137 = .ok (.iload 7, 2) := by decide +kernel
theorem d_MD_breaks_139 : decode prog_14_method_74_code 139 = .ok (.iload 7, 2) := by decide +kernel
theorem d_MD_breaks_141 : decode prog_14_method_74_code 141 = .ok (.imul, 1) := by decide +kernel
theorem d_MD_breaks_142 : decode prog_14_method_74_code 142 = .ok (.istore 8, 2) := by decide +kernel
theorem d_MD_breaks_144 : decode prog_14_method_74_code 144 = .ok (.iload 8, 2) := by decide +kernel
theorem d_MD_breaks_146 : decode prog_14_method_74_code 146 = .ok (.aload_n 0, 1) := by decide +kernel
theorem d_MD_breaks_147 : decode prog_14_method_74_code 147 = .ok (.getfield 181, 3) := by decide +kernel
theorem d_MD_breaks_150 : decode prog_14_method_74_code 150 = .ok (.iload_n 3, 1) := by decide +kernel
theorem d_MD_breaks_151 : decode prog_14_method_74_code 151 = .ok (.iload 6, 2) := by decide +kernel
theorem d_MD_breaks_153 : decode prog_14_method_74_code 153 = .ok (.iadd, 1) := by decide +kernel
theorem d_MD_breaks_154 : decode prog_14_method_74_code 154 = .ok (.iaload, 1) := by decide +kernel
theorem d_MD_breaks_155 : decode prog_14_method_74_code 155 = .ok (.iadd, 1) := by decide +kernel
theorem d_MD_breaks_156 : decode prog_14_method_74_code 156 = .ok (.istore 8, 2) := by decide +kernel
theorem d_MD_breaks_158 : decode prog_14_method_74_code 158 = .ok (.iload 4, 2) := by decide +kernel
theorem d_MD_breaks_160 : decode prog_14_method_74_code 160 = .ok (.ifCond .lt 14, 3) := by decide +kernel
theorem d_MD_breaks_174 : decode prog_14_method_74_code 174 = .ok (.iload 6, 2) := by decide +kernel
theorem d_MD_breaks_176 : decode prog_14_method_74_code 176 = .ok (.istore 4, 2) := by decide +kernel
theorem d_MD_breaks_178 : decode prog_14_method_74_code 178 = .ok (.aload_n 0, 1) := by decide +kernel
theorem d_MD_breaks_179 : decode prog_14_method_74_code 179 = .ok (.getfield 181, 3) := by decide +kernel
theorem d_MD_breaks_182 : decode prog_14_method_74_code 182 = .ok (.iload_n 3, 1) := by decide +kernel
theorem d_MD_breaks_183 : decode prog_14_method_74_code 183 = .ok (.iload 8, 2) := by decide +kernel
theorem d_MD_breaks_185 : decode prog_14_method_74_code 185 = .ok (.iastore, 1) := by decide +kernel
theorem d_MD_breaks_186 : decode prog_14_method_74_code 186 = .ok (.iinc 6 1, 3) := by decide +kernel
theorem d_MD_breaks_189 : decode prog_14_method_74_code 189 = .ok (.goto (-124), 3) := by decide +kernel
theorem d_MD_breaks_163 : decode prog_14_method_74_code 163 = .ok (.iload 8, 2) := by decide +kernel
theorem d_MD_breaks_165 : decode prog_14_method_74_code 165 = .ok (.aload_n 0, 1) := by decide +kernel
theorem d_MD_breaks_166 : decode prog_14_method_74_code 166 = .ok (.getfield 181, 3) := by decide +kernel
theorem d_MD_breaks_169 : decode prog_14_method_74_code 169 = .ok (.iload_n 3, 1) := by decide +kernel
theorem d_MD_breaks_170 : decode prog_14_method_74_code 170 = .ok (.iaload, 1) := by decide +kernel
theorem d_MD_breaks_171 : decode prog_14_method_74_code 171 = .ok (.if_icmp .gt 15, 3) := by decide +kernel
theorem d_MD_breaks_133 : decode prog_14_method_74_code 133 = .ok (.iconst 0, 1) := by decide +kernel
theorem d_MD_breaks_134 : decode prog_14_method_74_code 134 = .ok (.goto 8, 3) := by decide +kernel
theorem d_MD_breaks_99 : decode prog_14_method_74_code 99 = .ok (.iload 6, 2) := by decide +kernel
theorem d_MD_breaks_101 : decode prog_14_method_74_code 101 = .ok (.iconst 1, 1) := by decide +kernel
theorem d_MD_breaks_102 : decode prog_14_method_74_code 102 = .ok (.if_icmp .le 6, 3) := by decide +kernel
theorem d_MD_breaks_113 : decode prog_14_method_74_code 113 = .ok (.sipush 10000, 3) := by decide +kernel
theorem d_MD_breaks_116 : decode prog_14_method_74_code 116 = .ok (.iload 7, 2) := by decide +kernel
theorem d_MD_breaks_118 : decode prog_14_method_74_code 118 = .ok (.iload 7, 2) := by decide +kernel
theorem d_MD_breaks_120 : decode prog_14_method_74_code 120 = .ok (.imul, 1) := by decide +kernel
theorem d_MD_breaks_121 : decode prog_14_method_74_code 121 = .ok (.iadd, 1) := by decide +kernel
theorem d_MD_breaks_122 : decode prog_14_method_74_code 122 = .ok (.goto 20, 3) := by decide +kernel
theorem d_MD_breaks_105 : decode prog_14_method_74_code 105 = .ok (.goto 81, 3) := by decide +kernel
theorem d_MD_breaks_37 : decode prog_14_method_74_code 37 = .ok (.bipush (-4), 2) := by decide +kernel
theorem d_MD_breaks_39 : decode prog_14_method_74_code 39 = .ok (.ireturn, 1) := by decide +kernel
theorem d_MD_breaks_23 : decode prog_14_method_74_code 23 = .ok (.bipush (-2), 2) := by decide +kernel
theorem d_MD_breaks_25 : decode prog_14_method_74_code 25 = .ok (.ireturn, 1) := by decide +kernel
theorem s_MD_breaks {G : cx_T} {h : ah_T} (hx : mi h) {a1 : Int} (hKS : KS h) (hKO : KO h) : con G 5 0 0 m_MD_breaks [av_R (some 170), av_I a1] h (fun r h' => ∃ z, r = some (av_I z) ∧ ((-2147483648) ≤ z ∧ z ≤ 2147483647) ∧ kM (pm [65, 66, 89] [226, 227, 228]) h h') := by
  refine con_of (L := [some (av_R (some 170)), some (av_I a1), none, none, none, none, none, none, none]) (by decide +kernel) (Nat.le_of_ble_eq_true rfl) rfl ?_
  have k0 : kM (pm [65, 66, 89] [226, 227, 228]) h h := kM_0 hx
  obtain ⟨sd1, esd1⟩ : ∃ x, x = h.2.1 170 89 := ⟨_, rfl⟩
  have rsd1 : 0 ≤ sd1 ∧ sd1 ≤ 16 := (by rw [esd1]; exact mi_g k0.1 (by decide) mr_170_89)
  refine A_locI 1 rfl (fun ra => ?_)
  obtain ⟨_, _⟩ := ra
  refine A_iload_n 1 d_MD_breaks_0 rfl rfl ?_
  refine A_iconst d_MD_breaks_1 rfl ?_
  refine A_icmp_lt (tgt := 12) d_MD_breaks_2 (by decide) (fun c2 => ?_) (fun c2 => ?_)
  · refine A_iconst d_MD_breaks_12 rfl ?_
    exact A_iret d_MD_breaks_13 (by decide) rfl ⟨_, rfl, ⟨by omega, by omega⟩, k0⟩
  · refine A_iload_n 1 d_MD_breaks_5 rfl rfl ?_
    refine A_sipush d_MD_breaks_6 rfl ?_
    refine A_icmp_le (tgt := 14) d_MD_breaks_9 (by decide) (fun c3 => ?_) (fun c3 => ?_)
    · refine A_aload_n 0 d_MD_breaks_14 rfl rfl ?_
      refine A_getAv (z := some 172) T_ok d_MD_breaks_15 f_MD_17 (mi_s k0.1 sf_170) (mi_r k0.1 rfm_14) ?_
      refine A_iconst d_MD_breaks_18 rfl ?_
      refine A_ialoadn (lo := 0) (hi := 4) d_MD_breaks_19 (mi_s k0.1 sf_172) (by decide) (by decide) (mi_g k0.1 (by decide) (mr_172 _)) (fun x5 ex5 _ _ => ?_)
      replace ex5 : x5 = h.2.1 172 0 := ex5
      refine A_if_ne (tgt := 26) d_MD_breaks_20 (by decide) (fun c6 => ?_) (fun c6 => ?_)
      · refine A_aload_n 0 d_MD_breaks_26 rfl rfl ?_
        refine A_callV0 m_MD_pageBars T_ok d_MD_breaks_27 l_MD_492 k_MD_pageBars (mi_s k0.1 sf_170) rfl (by decide +kernel) (by decide) (Nat.le_of_ble_eq_true rfl) (s_MD_pageBars k0.1 ) (fun r h7 hq => ?_)
        obtain ⟨x9, rfl, ⟨_, _⟩, rfl⟩ := hq
        refine A_istore_n 2 (L' := [some (av_R (some 170)), some (av_I a1), some (av_I x9), none, none, none, none, none, none]) d_MD_breaks_30 rfl (Nat.le_of_ble_eq_true rfl) rfl ?_
        refine A_iload_n 2 d_MD_breaks_31 rfl rfl ?_
        refine A_bipush d_MD_breaks_32 rfl ?_
        refine A_icmp_le (tgt := 40) d_MD_breaks_34 (by decide) (fun c10 => ?_) (fun c10 => ?_)
        · refine A_aload_n 0 d_MD_breaks_40 rfl rfl ?_
          refine A_getAv (z := some 226) T_ok d_MD_breaks_41 f_MD_181 (mi_s k0.1 sf_170) (mi_r k0.1 rfm_87) ?_
          refine A_iload_n 2 d_MD_breaks_44 rfl rfl ?_
          refine A_iconst d_MD_breaks_45 rfl ?_
          refine A_iastorek (KR := kM (pm [65, 66, 89] [226, 227, 228]) h) d_MD_breaks_46 (mi_s k0.1 sf_226) (by omega) (by omega) (kM_i k0 (by decide) rfl (mr_226 _) (by omega) (by omega)) (fun h12 k13 eh12 => ?_)
          refine A_pc (pc' := 47) rfl ?_
          refine A_iload_n 2 d_MD_breaks_47 rfl rfl ?_
          refine A_iconst d_MD_breaks_48 rfl ?_
          refine A_isubv (z := (x9 - 1)) d_MD_breaks_49 (w32_to (by omega) (by unfold i32; omega)) ?_
          refine A_istore_n 3 (L' := [some (av_R (some 170)), some (av_I a1), some (av_I x9), some (av_I (x9 - 1)), none, none, none, none, none]) d_MD_breaks_50 rfl (Nat.le_of_ble_eq_true rfl) rfl ?_
          have lp51 : ∀ (n : Nat) (i14 : Int) (h15 : ah_T) , (-1) ≤ i14 → i14 ≤ 13 → ((∀ j : Nat, i14 + 1 ≤ (j : Int) → (j : Int) < x9 → 1 ≤ h15.2.1 227 j ∧ h15.2.1 227 j + j ≤ x9) ∧ i14 ≤ x9 - 1) → kM (pm [65, 66, 89] [226, 227, 228]) h h15 → (i14 + 2).toNat < n → aw G (rm_R 5 0 0) m_MD_breaks 0 0 51 [some (av_R (some 170)), some (av_I a1), some (av_I x9), some (av_I i14), none, none, none, none, none] [] h15 (fun r h' => ∃ z, r = some (av_I z) ∧ ((-2147483648) ≤ z ∧ z ≤ 2147483647) ∧ kM (pm [65, 66, 89] [226, 227, 228]) h h') := by
            intro n
            induction n with
            | zero => intro i14 h15 _ _ _ _ hm; omega
            | succ n ih51 =>
              intro i14 h15 hl0 hl1 hinv k16 hm
              obtain ⟨sd17, esd17⟩ : ∃ x, x = h15.2.1 170 89 := ⟨_, rfl⟩
              have rsd17 : 0 ≤ sd17 ∧ sd17 ≤ 16 := (by rw [esd17]; exact mi_g k16.1 (by decide) mr_170_89)
              refine A_iload_n 3 d_MD_breaks_51 rfl rfl ?_
              refine A_if_lt (tgt := 206) d_MD_breaks_52 (by decide) (fun c18 => ?_) (fun c18 => ?_)
              · refine A_aload_n 0 d_MD_breaks_206 rfl rfl ?_
                refine A_iconst d_MD_breaks_207 rfl ?_
                refine A_putIk (KR := kM (pm [65, 66, 89] [226, 227, 228]) h) T_ok d_MD_breaks_208 f_MD_477 (mi_s k16.1 sf_170) fin_f (kM_i k16 (by decide) (by decide) mr_170_89 (by omega) (by omega)) (fun h19 k20 eh19 => ?_)
                refine A_iconst d_MD_breaks_211 rfl ?_
                refine A_istore_n 3 (L' := [some (av_R (some 170)), some (av_I a1), some (av_I x9), some (av_I 0), none, none, none, none, none]) d_MD_breaks_212 rfl (Nat.le_of_ble_eq_true rfl) rfl ?_
                have lp213 : ∀ (n : Nat) (i21 : Int) (h22 : ah_T) , 0 ≤ i21 → i21 ≤ 14 → ((∀ j : Nat, 0 ≤ (j : Int) → (j : Int) < x9 → 1 ≤ h22.2.1 227 j ∧ h22.2.1 227 j + j ≤ x9) ∧ h22.2.1 170 89 ≤ i21 ∧ 0 ≤ h22.2.1 170 89 ∧ i21 ≤ x9) → kM (pm [65, 66, 89] [226, 227, 228]) h h22 → (15 - i21).toNat < n → aw G (rm_R 5 0 0) m_MD_breaks 0 0 213 [some (av_R (some 170)), some (av_I a1), some (av_I x9), some (av_I i21), none, none, none, none, none] [] h22 (fun r h' => ∃ z, r = some (av_I z) ∧ ((-2147483648) ≤ z ∧ z ≤ 2147483647) ∧ kM (pm [65, 66, 89] [226, 227, 228]) h h') := by
                  intro n
                  induction n with
                  | zero => intro i21 h22 _ _ _ _ hm; omega
                  | succ n ih213 =>
                    intro i21 h22 hl0 hl1 hinv k23 hm
                    obtain ⟨sd24, esd24⟩ : ∃ x, x = h22.2.1 170 89 := ⟨_, rfl⟩
                    have rsd24 : 0 ≤ sd24 ∧ sd24 ≤ 16 := (by rw [esd24]; exact mi_g k23.1 (by decide) mr_170_89)
                    refine A_iload_n 3 d_MD_breaks_213 rfl rfl ?_
                    refine A_iload_n 2 d_MD_breaks_214 rfl rfl ?_
                    refine A_icmp_ge (tgt := 255) d_MD_breaks_215 (by decide) (fun c25 => ?_) (fun c25 => ?_)
                    · refine A_aload_n 0 d_MD_breaks_255 rfl rfl ?_
                      refine A_getAv (z := some 226) T_ok d_MD_breaks_256 f_MD_181 (mi_s k23.1 sf_170) (mi_r k23.1 rfm_87) ?_
                      refine A_iconst d_MD_breaks_259 rfl ?_
                      refine A_ialoadf d_MD_breaks_260 (mi_s k23.1 sf_226) (by decide) (by decide) (fun x27 ex27 _ _ => ?_)
                      replace ex27 : x27 = h22.2.1 226 0 := ex27
                      exact A_iret d_MD_breaks_261 (by decide) rfl ⟨_, rfl, ⟨by omega, by omega⟩, k23⟩
                    · refine A_aload_n 0 d_MD_breaks_218 rfl rfl ?_
                      refine A_getAv (z := some 228) T_ok d_MD_breaks_219 f_MD_187 (mi_s k23.1 sf_170) (mi_r k23.1 rfm_90) ?_
                      refine A_aload_n 0 d_MD_breaks_222 rfl rfl ?_
                      refine A_getIv (z := sd24) T_ok d_MD_breaks_223 f_MD_477 (mi_s k23.1 sf_170) esd24.symm ?_
                      refine A_aload_n 0 d_MD_breaks_226 rfl rfl ?_
                      refine A_pc (pc' := 227) rfl ?_
                      refine A_getAv (z := some 227) T_ok d_MD_breaks_227 f_MD_184 (mi_s k23.1 sf_170) (mi_r k23.1 rfm_88) ?_
                      refine A_iload_n 3 d_MD_breaks_230 rfl rfl ?_
                      refine A_ialoadf d_MD_breaks_231 (mi_s k23.1 sf_227) (by omega) (by omega) (fun x31 ex31 _ _ => ?_)
                      have fx31 := ex31.trans (rfl)
                      have yx31 : 1 ≤ x31 ∧ x31 + (i21) ≤ x9 := (by have q1 := hinv.1 (i21).toNat (by omega) (by omega); omega)
                      refine A_iastorek (KR := kM (pm [65, 66, 89] [226, 227, 228]) h) d_MD_breaks_232 (mi_s k23.1 sf_228) (by omega) (by omega) (kM_i k23 (by decide) rfl (mr_228 _) (by omega) (by omega)) (fun h32 k33 eh32 => ?_)
                      refine A_aload_n 0 d_MD_breaks_233 rfl rfl ?_
                      refine A_dupR d_MD_breaks_234 ?_
                      refine A_pc (pc' := 235) rfl ?_
                      refine A_getIv (z := sd24) T_ok d_MD_breaks_235 f_MD_477 (mi_s k33.1 sf_170) ((eh32.1 _ _ (fun q => absurd q (by decide))).trans esd24.symm) ?_
                      refine A_iconst d_MD_breaks_238 rfl ?_
                      refine A_iaddv (z := (sd24 + 1)) d_MD_breaks_239 (w32_to (by omega) (by unfold i32; omega)) ?_
                      refine A_putIk (KR := kM (pm [65, 66, 89] [226, 227, 228]) h) T_ok d_MD_breaks_240 f_MD_477 (mi_s k33.1 sf_170) fin_f (kM_i k33 (by decide) (by decide) mr_170_89 (by omega) (by omega)) (fun h35 k36 eh35 => ?_)
                      refine A_iload_n 3 d_MD_breaks_243 rfl rfl ?_
                      refine A_aload_n 0 d_MD_breaks_244 rfl rfl ?_
                      refine A_pc (pc' := 245) rfl ?_
                      refine A_getAv (z := some 227) T_ok d_MD_breaks_245 f_MD_184 (mi_s k36.1 sf_170) (mi_r k36.1 rfm_88) ?_
                      refine A_iload_n 3 d_MD_breaks_248 rfl rfl ?_
                      refine A_ialoadv (z := x31) d_MD_breaks_249 (mi_s k36.1 sf_227) (by omega) (by omega) ((eh35.1 _ _ (fun q => absurd q (by decide))).trans ((eh32.1 _ _ (fun q => absurd q (by decide))).trans ex31.symm)) ?_
                      refine A_iaddv (z := (i21 + x31)) d_MD_breaks_250 (w32_to (by omega) (by unfold i32; omega)) ?_
                      refine A_istore_n 3 (L' := [some (av_R (some 170)), some (av_I a1), some (av_I x9), some (av_I (i21 + x31)), none, none, none, none, none]) d_MD_breaks_251 rfl (Nat.le_of_ble_eq_true rfl) rfl ?_
                      refine A_goto (tgt := 213) d_MD_breaks_252 (by decide) ?_
                      exact ih213 (i21 + x31) h35 (by omega) (by omega) ⟨fun j h1 h2 => by have q1 := hinv.1 j h1 h2; rw [((eh35.1 227 j (fun q => absurd q (by decide))).trans (eh32.1 227 j (fun q => absurd q (by decide))))]; exact q1, by have q1 := hinv.2; have qq0 := eh35.2.1; omega, by have qq0 := eh35.2.1; omega, by omega⟩ k36 (by omega)
                exact lp213 _ 0 h19 (by omega) (by omega) ⟨fun j h1 h2 => by have q1 := hinv.1 j (by omega) h2; rw [(eh19.1 227 j (fun q => absurd q (by decide)))]; exact q1, by have qq0 := eh19.2.1; omega, by have qq0 := eh19.2.1; omega, by omega⟩ k20 (Nat.lt_succ_self _)
              · have hinvO := hinv
                refine A_bipush d_MD_breaks_55 rfl ?_
                refine A_istore (L' := [some (av_R (some 170)), some (av_I a1), some (av_I x9), some (av_I i14), some (av_I (-2)), none, none, none, none]) d_MD_breaks_57 (Nat.le_of_ble_eq_true rfl) rfl ?_
                refine A_iconst d_MD_breaks_59 rfl ?_
                refine A_istore (L' := [some (av_R (some 170)), some (av_I a1), some (av_I x9), some (av_I i14), some (av_I (-2)), some (av_I 0), none, none, none]) d_MD_breaks_60 (Nat.le_of_ble_eq_true rfl) rfl ?_
                refine A_iconst d_MD_breaks_62 rfl ?_
                refine A_pc (pc' := 63) rfl ?_
                refine A_istore (L' := [some (av_R (some 170)), some (av_I a1), some (av_I x9), some (av_I i14), some (av_I (-2)), some (av_I 0), some (av_I 1), none, none]) d_MD_breaks_63 (Nat.le_of_ble_eq_true rfl) rfl ?_
                have lp65 : ∀ (n : Nat) (i39 i40 i41 : Int) (h42 : ah_T) , (-2147483648) ≤ i39 → i39 ≤ 2147483647 → (-2) ≤ i40 → i40 ≤ 14 → 1 ≤ i41 → i41 ≤ 15 → (((i41 = 1 ∧ i40 = -2) ∨ (2 ≤ i41 ∧ 1 ≤ i40 ∧ i40 + i14 ≤ x9)) ∧ h42.2.1 227 = h15.2.1 227) → kM (pm [65, 66, 89] [226, 227, 228]) h h42 → (16 - i41).toNat < n → aw G (rm_R 5 0 0) m_MD_breaks 0 0 65 [some (av_R (some 170)), some (av_I a1), some (av_I x9), some (av_I i14), some (av_I i40), some (av_I i39), some (av_I i41), none, none] [] h42 (fun r h' => ∃ z, r = some (av_I z) ∧ ((-2147483648) ≤ z ∧ z ≤ 2147483647) ∧ kM (pm [65, 66, 89] [226, 227, 228]) h h') := by
                  intro n
                  induction n with
                  | zero => intro i39 i40 i41 h42 _ _ _ _ _ _ _ _ hm; omega
                  | succ n ih65 =>
                    intro i39 i40 i41 h42 hl0 hl1 hl2 hl3 hl4 hl5 hinv k43 hm
                    obtain ⟨sd44, esd44⟩ : ∃ x, x = h42.2.1 170 89 := ⟨_, rfl⟩
                    have rsd44 : 0 ≤ sd44 ∧ sd44 ≤ 16 := (by rw [esd44]; exact mi_g k43.1 (by decide) mr_170_89)
                    refine A_iload_n 3 d_MD_breaks_65 rfl rfl ?_
                    refine A_iload d_MD_breaks_66 rfl ?_
                    refine A_iaddv (z := (i14 + i41)) d_MD_breaks_68 (w32_to (by omega) (by unfold i32; omega)) ?_
                    refine A_iload_n 2 d_MD_breaks_69 rfl rfl ?_
                    refine A_icmp_gt (tgt := 192) d_MD_breaks_70 (by decide) (fun c45 => ?_) (fun c45 => ?_)
                    · have yb := hinv.1
                      have yc : 1 ≤ i40 ∧ i40 + i14 ≤ x9 := (by have q1 := hinvO.2; omega)
                      refine A_aload_n 0 d_MD_breaks_192 rfl rfl ?_
                      refine A_getAv (z := some 227) T_ok d_MD_breaks_193 f_MD_184 (mi_s k43.1 sf_170) (mi_r k43.1 rfm_88) ?_
                      refine A_iload_n 3 d_MD_breaks_196 rfl rfl ?_
                      refine A_iload d_MD_breaks_197 rfl ?_
                      refine A_iastorek (KR := kM (pm [65, 66, 89] [226, 227, 228]) h) d_MD_breaks_199 (mi_s k43.1 sf_227) (by omega) (by omega) (kM_i k43 (by decide) rfl (mr_227 _) (by omega) (by omega)) (fun h47 k48 eh47 => ?_)
                      refine A_pc (pc' := 200) rfl ?_
                      refine A_iincv (z := (i14 - 1)) (L' := [some (av_R (some 170)), some (av_I a1), some (av_I x9), some (av_I (i14 - 1)), some (av_I i40), some (av_I i39), some (av_I i41), none, none]) d_MD_breaks_200 rfl (w32_to (by omega) (by unfold i32; omega)) rfl ?_
                      refine A_goto (tgt := 51) d_MD_breaks_203 (by decide) ?_
                      refine A_free (L' := [some (av_R (some 170)), some (av_I a1), some (av_I x9), some (av_I (i14 - 1)), none, none, none, none, none]) (And.intro rfl (And.intro rfl (And.intro rfl (And.intro rfl trivial)))) ?_
                      exact ih51 (i14 - 1) h47 (by omega) (by omega) ⟨fun j h1 h2 => by by_cases hc : j = (i14).toNat; (have q1 := eh47.2.1; rw [← hc] at q1; omega); (have q1 := ((eh47.1 227 j (fun _ => hc)).trans (congrFun hinv.2 j)); rw [q1]; exact hinvO.1 j (by omega) h2), by have q1 := hinvO.2; omega⟩ k48 (by omega)
                    · refine A_iload d_MD_breaks_73 rfl ?_
                      refine A_aload_n 0 d_MD_breaks_75 rfl rfl ?_
                      refine A_iload_n 3 d_MD_breaks_76 rfl rfl ?_
                      refine A_iload d_MD_breaks_77 rfl ?_
                      refine A_iaddv (z := (i14 + i41)) d_MD_breaks_79 (w32_to (by omega) (by unfold i32; omega)) ?_
                      refine A_pc (pc' := 80) rfl ?_
                      refine A_iconst d_MD_breaks_80 rfl ?_
                      refine A_isubv (z := (i14 + i41 - 1)) d_MD_breaks_81 (w32_to (by omega) (by unfold i32; omega)) ?_
                      have zf50 := esd44.symm
                      refine A_callV1 m_MD_width T_ok d_MD_breaks_82 l_MD_552 k_MD_width (mi_s k43.1 sf_170) rfl (by decide +kernel) (by decide) (Nat.le_of_ble_eq_true rfl) (s_MD_width k43.1 (KS_s hKS k43 (by decide) (fun k => ⟨rfl, rfl⟩) (fun k => ⟨rfl, rfl, rfl, rfl, rfl, rfl⟩)) (KO_s hKO k43 (by decide) (fun k => ⟨rfl, rfl, rfl⟩))) (fun r h49 hq => ?_)
                      obtain ⟨x52, rfl, ⟨_, _⟩, k51⟩ := hq
                      have k53 := kM_t k43 k51 (pm_s (by decide) (by decide))
                      refine A_iaddw d_MD_breaks_85 (fun x54 _ _ _ => ?_)
                      refine A_istore (L' := [some (av_R (some 170)), some (av_I a1), some (av_I x9), some (av_I i14), some (av_I i40), some (av_I x54), some (av_I i41), none, none]) d_MD_breaks_86 (Nat.le_of_ble_eq_true rfl) rfl ?_
                      refine A_iload_n 1 d_MD_breaks_88 rfl rfl ?_
                      refine A_iload d_MD_breaks_89 rfl ?_
                      refine A_isubw d_MD_breaks_91 (fun x55 _ _ _ => ?_)
                      refine A_pc (pc' := 92) rfl ?_
                      refine A_istore (L' := [some (av_R (some 170)), some (av_I a1), some (av_I x9), some (av_I i14), some (av_I i40), some (av_I x54), some (av_I i41), some (av_I x55), none]) d_MD_breaks_92 (Nat.le_of_ble_eq_true rfl) rfl ?_
                      refine A_iload d_MD_breaks_94 rfl ?_
                      refine A_if_ge (tgt := 108) d_MD_breaks_96 (by decide) (fun c56 => ?_) (fun c56 => ?_)
                      · refine A_iload d_MD_breaks_108 rfl ?_
                        refine A_if_ge (tgt := 125) d_MD_breaks_110 (by decide) (fun c57 => ?_) (fun c => False.elim (by omega))
                        refine A_iload_n 3 d_MD_breaks_125 rfl rfl ?_
                        refine A_iload d_MD_breaks_126 rfl ?_
                        refine A_iaddv (z := (i14 + i41)) d_MD_breaks_128 (w32_to (by omega) (by unfold i32; omega)) ?_
                        refine A_iload_n 2 d_MD_breaks_129 rfl rfl ?_
                        refine A_icmp_ne (tgt := 137) d_MD_breaks_130 (by decide) (fun c58 => ?_) (fun c58 => ?_)
                        · refine A_iload d_MD_breaks_137 rfl ?_
                          refine A_iload d_MD_breaks_139 rfl ?_
                          refine A_imulw d_MD_breaks_141 (fun x59 _ _ _ => ?_)
                          refine A_istore (L' := [some (av_R (some 170)), some (av_I a1), some (av_I x9), some (av_I i14), some (av_I i40), some (av_I x54), some (av_I i41), some (av_I x55), some (av_I x59)]) d_MD_breaks_142 (Nat.le_of_ble_eq_true rfl) rfl ?_
                          refine A_iload d_MD_breaks_144 rfl ?_
                          refine A_pc (pc' := 146) rfl ?_
                          refine A_aload_n 0 d_MD_breaks_146 rfl rfl ?_
                          refine A_getAv (z := some 226) T_ok d_MD_breaks_147 f_MD_181 (mi_s k53.1 sf_170) (mi_r k53.1 rfm_87) ?_
                          refine A_iload_n 3 d_MD_breaks_150 rfl rfl ?_
                          refine A_iload d_MD_breaks_151 rfl ?_
                          refine A_iaddv (z := (i14 + i41)) d_MD_breaks_153 (w32_to (by omega) (by unfold i32; omega)) ?_
                          refine A_ialoadf d_MD_breaks_154 (mi_s k53.1 sf_226) (by omega) (by omega) (fun x61 ex61 _ _ => ?_)
                          refine A_pc (pc' := 155) rfl ?_
                          refine A_iaddw d_MD_breaks_155 (fun x62 _ _ _ => ?_)
                          refine A_istore (L' := [some (av_R (some 170)), some (av_I a1), some (av_I x9), some (av_I i14), some (av_I i40), some (av_I x54), some (av_I i41), some (av_I x55), some (av_I x62)]) d_MD_breaks_156 (Nat.le_of_ble_eq_true rfl) rfl ?_
                          refine A_iload d_MD_breaks_158 rfl ?_
                          refine A_if_lt (tgt := 174) d_MD_breaks_160 (by decide) (fun c63 => ?_) (fun c63 => ?_)
                          · refine A_iload d_MD_breaks_174 rfl ?_
                            refine A_istore (L' := [some (av_R (some 170)), some (av_I a1), some (av_I x9), some (av_I i14), some (av_I i41), some (av_I x54), some (av_I i41), some (av_I x55), some (av_I x62)]) d_MD_breaks_176 (Nat.le_of_ble_eq_true rfl) rfl ?_
                            refine A_aload_n 0 d_MD_breaks_178 rfl rfl ?_
                            refine A_getAv (z := some 226) T_ok d_MD_breaks_179 f_MD_181 (mi_s k53.1 sf_170) (mi_r k53.1 rfm_87) ?_
                            refine A_iload_n 3 d_MD_breaks_182 rfl rfl ?_
                            refine A_pc (pc' := 183) rfl ?_
                            refine A_iload d_MD_breaks_183 rfl ?_
                            refine A_iastorek (KR := kM (pm [65, 66, 89] [226, 227, 228]) h) d_MD_breaks_185 (mi_s k53.1 sf_226) (by omega) (by omega) (kM_i k53 (by decide) rfl (mr_226 _) (by omega) (by omega)) (fun h65 k66 eh65 => ?_)
                            refine A_iincv (z := (i41 + 1)) (L' := [some (av_R (some 170)), some (av_I a1), some (av_I x9), some (av_I i14), some (av_I i41), some (av_I x54), some (av_I (i41 + 1)), some (av_I x55), some (av_I x62)]) d_MD_breaks_186 rfl (w32_to (by omega) (by unfold i32; omega)) rfl ?_
                            refine A_goto (tgt := 65) d_MD_breaks_189 (by decide) ?_
                            refine A_free (L' := [some (av_R (some 170)), some (av_I a1), some (av_I x9), some (av_I i14), some (av_I i41), some (av_I x54), some (av_I (i41 + 1)), none, none]) (And.intro rfl (And.intro rfl (And.intro rfl (And.intro rfl (And.intro rfl (And.intro rfl (And.intro rfl trivial))))))) ?_
                            exact ih65 x54 i41 (i41 + 1) h65 (by omega) (by omega) (by omega) (by omega) (by omega) (by omega) ⟨by have q0 := hinv.1; omega, (funext (fun k => ((eh65.1 227 k (fun q => absurd q (by decide))).trans ((k51.2.2.1 227 k rfl).trans (congrFun hinv.2 k)))))⟩ k66 (by omega)
                          · refine A_iload d_MD_breaks_163 rfl ?_
                            refine A_aload_n 0 d_MD_breaks_165 rfl rfl ?_
                            refine A_getAv (z := some 226) T_ok d_MD_breaks_166 f_MD_181 (mi_s k53.1 sf_170) (mi_r k53.1 rfm_87) ?_
                            refine A_iload_n 3 d_MD_breaks_169 rfl rfl ?_
                            refine A_ialoadf d_MD_breaks_170 (mi_s k53.1 sf_226) (by omega) (by omega) (fun x68 ex68 _ _ => ?_)
                            refine A_pc (pc' := 171) rfl ?_
                            refine A_icmp_gt (tgt := 186) d_MD_breaks_171 (by decide) (fun c69 => ?_) (fun c69 => ?_)
                            · refine A_iincv (z := (i41 + 1)) (L' := [some (av_R (some 170)), some (av_I a1), some (av_I x9), some (av_I i14), some (av_I i40), some (av_I x54), some (av_I (i41 + 1)), some (av_I x55), some (av_I x62)]) d_MD_breaks_186 rfl (w32_to (by omega) (by unfold i32; omega)) rfl ?_
                              refine A_goto (tgt := 65) d_MD_breaks_189 (by decide) ?_
                              refine A_free (L' := [some (av_R (some 170)), some (av_I a1), some (av_I x9), some (av_I i14), some (av_I i40), some (av_I x54), some (av_I (i41 + 1)), none, none]) (And.intro rfl (And.intro rfl (And.intro rfl (And.intro rfl (And.intro rfl (And.intro rfl (And.intro rfl trivial))))))) ?_
                              exact ih65 x54 i40 (i41 + 1) h49 (by omega) (by omega) (by omega) (by omega) (by omega) (by omega) ⟨by have q0 := hinv.1; omega, (funext (fun k => ((k51.2.2.1 227 k rfl).trans (congrFun hinv.2 k))))⟩ k53 (by omega)
                            · refine A_iload d_MD_breaks_174 rfl ?_
                              refine A_istore (L' := [some (av_R (some 170)), some (av_I a1), some (av_I x9), some (av_I i14), some (av_I i41), some (av_I x54), some (av_I i41), some (av_I x55), some (av_I x62)]) d_MD_breaks_176 (Nat.le_of_ble_eq_true rfl) rfl ?_
                              refine A_aload_n 0 d_MD_breaks_178 rfl rfl ?_
                              refine A_getAv (z := some 226) T_ok d_MD_breaks_179 f_MD_181 (mi_s k53.1 sf_170) (mi_r k53.1 rfm_87) ?_
                              refine A_iload_n 3 d_MD_breaks_182 rfl rfl ?_
                              refine A_pc (pc' := 183) rfl ?_
                              refine A_iload d_MD_breaks_183 rfl ?_
                              refine A_iastorek (KR := kM (pm [65, 66, 89] [226, 227, 228]) h) d_MD_breaks_185 (mi_s k53.1 sf_226) (by omega) (by omega) (kM_i k53 (by decide) rfl (mr_226 _) (by omega) (by omega)) (fun h71 k72 eh71 => ?_)
                              refine A_iincv (z := (i41 + 1)) (L' := [some (av_R (some 170)), some (av_I a1), some (av_I x9), some (av_I i14), some (av_I i41), some (av_I x54), some (av_I (i41 + 1)), some (av_I x55), some (av_I x62)]) d_MD_breaks_186 rfl (w32_to (by omega) (by unfold i32; omega)) rfl ?_
                              refine A_goto (tgt := 65) d_MD_breaks_189 (by decide) ?_
                              refine A_free (L' := [some (av_R (some 170)), some (av_I a1), some (av_I x9), some (av_I i14), some (av_I i41), some (av_I x54), some (av_I (i41 + 1)), none, none]) (And.intro rfl (And.intro rfl (And.intro rfl (And.intro rfl (And.intro rfl (And.intro rfl (And.intro rfl trivial))))))) ?_
                              exact ih65 x54 i41 (i41 + 1) h71 (by omega) (by omega) (by omega) (by omega) (by omega) (by omega) ⟨by have q0 := hinv.1; omega, (funext (fun k => ((eh71.1 227 k (fun q => absurd q (by decide))).trans ((k51.2.2.1 227 k rfl).trans (congrFun hinv.2 k)))))⟩ k72 (by omega)
                        · refine A_iconst d_MD_breaks_133 rfl ?_
                          refine A_goto (tgt := 142) d_MD_breaks_134 (by decide) ?_
                          refine A_istore (L' := [some (av_R (some 170)), some (av_I a1), some (av_I x9), some (av_I i14), some (av_I i40), some (av_I x54), some (av_I i41), some (av_I x55), some (av_I 0)]) d_MD_breaks_142 (Nat.le_of_ble_eq_true rfl) rfl ?_
                          refine A_iload d_MD_breaks_144 rfl ?_
                          refine A_aload_n 0 d_MD_breaks_146 rfl rfl ?_
                          refine A_getAv (z := some 226) T_ok d_MD_breaks_147 f_MD_181 (mi_s k53.1 sf_170) (mi_r k53.1 rfm_87) ?_
                          refine A_iload_n 3 d_MD_breaks_150 rfl rfl ?_
                          refine A_pc (pc' := 151) rfl ?_
                          refine A_iload d_MD_breaks_151 rfl ?_
                          refine A_iaddv (z := (i14 + i41)) d_MD_breaks_153 (w32_to (by omega) (by unfold i32; omega)) ?_
                          refine A_ialoadf d_MD_breaks_154 (mi_s k53.1 sf_226) (by omega) (by omega) (fun x74 ex74 _ _ => ?_)
                          refine A_iaddv (z := x74) d_MD_breaks_155 (w32_to (by omega) (by unfold i32; omega)) ?_
                          refine A_istore (L' := [some (av_R (some 170)), some (av_I a1), some (av_I x9), some (av_I i14), some (av_I i40), some (av_I x54), some (av_I i41), some (av_I x55), some (av_I x74)]) d_MD_breaks_156 (Nat.le_of_ble_eq_true rfl) rfl ?_
                          refine A_iload d_MD_breaks_158 rfl ?_
                          refine A_pc (pc' := 160) rfl ?_
                          refine A_if_lt (tgt := 174) d_MD_breaks_160 (by decide) (fun c75 => ?_) (fun c75 => ?_)
                          · refine A_iload d_MD_breaks_174 rfl ?_
                            refine A_istore (L' := [some (av_R (some 170)), some (av_I a1), some (av_I x9), some (av_I i14), some (av_I i41), some (av_I x54), some (av_I i41), some (av_I x55), some (av_I x74)]) d_MD_breaks_176 (Nat.le_of_ble_eq_true rfl) rfl ?_
                            refine A_aload_n 0 d_MD_breaks_178 rfl rfl ?_
                            refine A_getAv (z := some 226) T_ok d_MD_breaks_179 f_MD_181 (mi_s k53.1 sf_170) (mi_r k53.1 rfm_87) ?_
                            refine A_iload_n 3 d_MD_breaks_182 rfl rfl ?_
                            refine A_pc (pc' := 183) rfl ?_
                            refine A_iload d_MD_breaks_183 rfl ?_
                            refine A_iastorek (KR := kM (pm [65, 66, 89] [226, 227, 228]) h) d_MD_breaks_185 (mi_s k53.1 sf_226) (by omega) (by omega) (kM_i k53 (by decide) rfl (mr_226 _) (by omega) (by omega)) (fun h77 k78 eh77 => ?_)
                            refine A_iincv (z := (i41 + 1)) (L' := [some (av_R (some 170)), some (av_I a1), some (av_I x9), some (av_I i14), some (av_I i41), some (av_I x54), some (av_I (i41 + 1)), some (av_I x55), some (av_I x74)]) d_MD_breaks_186 rfl (w32_to (by omega) (by unfold i32; omega)) rfl ?_
                            refine A_goto (tgt := 65) d_MD_breaks_189 (by decide) ?_
                            refine A_free (L' := [some (av_R (some 170)), some (av_I a1), some (av_I x9), some (av_I i14), some (av_I i41), some (av_I x54), some (av_I (i41 + 1)), none, none]) (And.intro rfl (And.intro rfl (And.intro rfl (And.intro rfl (And.intro rfl (And.intro rfl (And.intro rfl trivial))))))) ?_
                            exact ih65 x54 i41 (i41 + 1) h77 (by omega) (by omega) (by omega) (by omega) (by omega) (by omega) ⟨by have q0 := hinv.1; omega, (funext (fun k => ((eh77.1 227 k (fun q => absurd q (by decide))).trans ((k51.2.2.1 227 k rfl).trans (congrFun hinv.2 k)))))⟩ k78 (by omega)
                          · refine A_iload d_MD_breaks_163 rfl ?_
                            refine A_aload_n 0 d_MD_breaks_165 rfl rfl ?_
                            refine A_getAv (z := some 226) T_ok d_MD_breaks_166 f_MD_181 (mi_s k53.1 sf_170) (mi_r k53.1 rfm_87) ?_
                            refine A_iload_n 3 d_MD_breaks_169 rfl rfl ?_
                            refine A_ialoadf d_MD_breaks_170 (mi_s k53.1 sf_226) (by omega) (by omega) (fun x80 ex80 _ _ => ?_)
                            refine A_pc (pc' := 171) rfl ?_
                            refine A_icmp_gt (tgt := 186) d_MD_breaks_171 (by decide) (fun c81 => ?_) (fun c81 => ?_)
                            · refine A_iincv (z := (i41 + 1)) (L' := [some (av_R (some 170)), some (av_I a1), some (av_I x9), some (av_I i14), some (av_I i40), some (av_I x54), some (av_I (i41 + 1)), some (av_I x55), some (av_I x74)]) d_MD_breaks_186 rfl (w32_to (by omega) (by unfold i32; omega)) rfl ?_
                              refine A_goto (tgt := 65) d_MD_breaks_189 (by decide) ?_
                              refine A_free (L' := [some (av_R (some 170)), some (av_I a1), some (av_I x9), some (av_I i14), some (av_I i40), some (av_I x54), some (av_I (i41 + 1)), none, none]) (And.intro rfl (And.intro rfl (And.intro rfl (And.intro rfl (And.intro rfl (And.intro rfl (And.intro rfl trivial))))))) ?_
                              exact ih65 x54 i40 (i41 + 1) h49 (by omega) (by omega) (by omega) (by omega) (by omega) (by omega) ⟨by have q0 := hinv.1; omega, (funext (fun k => ((k51.2.2.1 227 k rfl).trans (congrFun hinv.2 k))))⟩ k53 (by omega)
                            · refine A_iload d_MD_breaks_174 rfl ?_
                              refine A_istore (L' := [some (av_R (some 170)), some (av_I a1), some (av_I x9), some (av_I i14), some (av_I i41), some (av_I x54), some (av_I i41), some (av_I x55), some (av_I x74)]) d_MD_breaks_176 (Nat.le_of_ble_eq_true rfl) rfl ?_
                              refine A_aload_n 0 d_MD_breaks_178 rfl rfl ?_
                              refine A_getAv (z := some 226) T_ok d_MD_breaks_179 f_MD_181 (mi_s k53.1 sf_170) (mi_r k53.1 rfm_87) ?_
                              refine A_iload_n 3 d_MD_breaks_182 rfl rfl ?_
                              refine A_pc (pc' := 183) rfl ?_
                              refine A_iload d_MD_breaks_183 rfl ?_
                              refine A_iastorek (KR := kM (pm [65, 66, 89] [226, 227, 228]) h) d_MD_breaks_185 (mi_s k53.1 sf_226) (by omega) (by omega) (kM_i k53 (by decide) rfl (mr_226 _) (by omega) (by omega)) (fun h83 k84 eh83 => ?_)
                              refine A_iincv (z := (i41 + 1)) (L' := [some (av_R (some 170)), some (av_I a1), some (av_I x9), some (av_I i14), some (av_I i41), some (av_I x54), some (av_I (i41 + 1)), some (av_I x55), some (av_I x74)]) d_MD_breaks_186 rfl (w32_to (by omega) (by unfold i32; omega)) rfl ?_
                              refine A_goto (tgt := 65) d_MD_breaks_189 (by decide) ?_
                              refine A_free (L' := [some (av_R (some 170)), some (av_I a1), some (av_I x9), some (av_I i14), some (av_I i41), some (av_I x54), some (av_I (i41 + 1)), none, none]) (And.intro rfl (And.intro rfl (And.intro rfl (And.intro rfl (And.intro rfl (And.intro rfl (And.intro rfl trivial))))))) ?_
                              exact ih65 x54 i41 (i41 + 1) h83 (by omega) (by omega) (by omega) (by omega) (by omega) (by omega) ⟨by have q0 := hinv.1; omega, (funext (fun k => ((eh83.1 227 k (fun q => absurd q (by decide))).trans ((k51.2.2.1 227 k rfl).trans (congrFun hinv.2 k)))))⟩ k84 (by omega)
                      · refine A_iload d_MD_breaks_99 rfl ?_
                        refine A_iconst d_MD_breaks_101 rfl ?_
                        refine A_icmp_le (tgt := 108) d_MD_breaks_102 (by decide) (fun c85 => ?_) (fun c85 => ?_)
                        · refine A_iload d_MD_breaks_108 rfl ?_
                          refine A_if_ge (tgt := 125) d_MD_breaks_110 (by decide) (fun c => False.elim (by omega)) (fun c86 => ?_)
                          refine A_sipush d_MD_breaks_113 rfl ?_
                          refine A_iload d_MD_breaks_116 rfl ?_
                          refine A_iload d_MD_breaks_118 rfl ?_
                          refine A_imulw d_MD_breaks_120 (fun x87 _ _ _ => ?_)
                          refine A_iaddw d_MD_breaks_121 (fun x88 _ _ _ => ?_)
                          refine A_pc (pc' := 122) rfl ?_
                          refine A_goto (tgt := 142) d_MD_breaks_122 (by decide) ?_
                          refine A_istore (L' := [some (av_R (some 170)), some (av_I a1), some (av_I x9), some (av_I i14), some (av_I i40), some (av_I x54), some (av_I i41), some (av_I x55), some (av_I x88)]) d_MD_breaks_142 (Nat.le_of_ble_eq_true rfl) rfl ?_
                          refine A_iload d_MD_breaks_144 rfl ?_
                          refine A_aload_n 0 d_MD_breaks_146 rfl rfl ?_
                          refine A_getAv (z := some 226) T_ok d_MD_breaks_147 f_MD_181 (mi_s k53.1 sf_170) (mi_r k53.1 rfm_87) ?_
                          refine A_iload_n 3 d_MD_breaks_150 rfl rfl ?_
                          refine A_pc (pc' := 151) rfl ?_
                          refine A_iload d_MD_breaks_151 rfl ?_
                          refine A_iaddv (z := (i14 + i41)) d_MD_breaks_153 (w32_to (by omega) (by unfold i32; omega)) ?_
                          refine A_ialoadf d_MD_breaks_154 (mi_s k53.1 sf_226) (by omega) (by omega) (fun x90 ex90 _ _ => ?_)
                          refine A_iaddw d_MD_breaks_155 (fun x91 _ _ _ => ?_)
                          refine A_istore (L' := [some (av_R (some 170)), some (av_I a1), some (av_I x9), some (av_I i14), some (av_I i40), some (av_I x54), some (av_I i41), some (av_I x55), some (av_I x91)]) d_MD_breaks_156 (Nat.le_of_ble_eq_true rfl) rfl ?_
                          refine A_iload d_MD_breaks_158 rfl ?_
                          refine A_pc (pc' := 160) rfl ?_
                          refine A_if_lt (tgt := 174) d_MD_breaks_160 (by decide) (fun c92 => ?_) (fun c92 => ?_)
                          · refine A_iload d_MD_breaks_174 rfl ?_
                            refine A_istore (L' := [some (av_R (some 170)), some (av_I a1), some (av_I x9), some (av_I i14), some (av_I i41), some (av_I x54), some (av_I i41), some (av_I x55), some (av_I x91)]) d_MD_breaks_176 (Nat.le_of_ble_eq_true rfl) rfl ?_
                            refine A_aload_n 0 d_MD_breaks_178 rfl rfl ?_
                            refine A_getAv (z := some 226) T_ok d_MD_breaks_179 f_MD_181 (mi_s k53.1 sf_170) (mi_r k53.1 rfm_87) ?_
                            refine A_iload_n 3 d_MD_breaks_182 rfl rfl ?_
                            refine A_pc (pc' := 183) rfl ?_
                            refine A_iload d_MD_breaks_183 rfl ?_
                            refine A_iastorek (KR := kM (pm [65, 66, 89] [226, 227, 228]) h) d_MD_breaks_185 (mi_s k53.1 sf_226) (by omega) (by omega) (kM_i k53 (by decide) rfl (mr_226 _) (by omega) (by omega)) (fun h94 k95 eh94 => ?_)
                            refine A_iincv (z := (i41 + 1)) (L' := [some (av_R (some 170)), some (av_I a1), some (av_I x9), some (av_I i14), some (av_I i41), some (av_I x54), some (av_I (i41 + 1)), some (av_I x55), some (av_I x91)]) d_MD_breaks_186 rfl (w32_to (by omega) (by unfold i32; omega)) rfl ?_
                            refine A_goto (tgt := 65) d_MD_breaks_189 (by decide) ?_
                            refine A_free (L' := [some (av_R (some 170)), some (av_I a1), some (av_I x9), some (av_I i14), some (av_I i41), some (av_I x54), some (av_I (i41 + 1)), none, none]) (And.intro rfl (And.intro rfl (And.intro rfl (And.intro rfl (And.intro rfl (And.intro rfl (And.intro rfl trivial))))))) ?_
                            exact ih65 x54 i41 (i41 + 1) h94 (by omega) (by omega) (by omega) (by omega) (by omega) (by omega) ⟨by have q0 := hinv.1; omega, (funext (fun k => ((eh94.1 227 k (fun q => absurd q (by decide))).trans ((k51.2.2.1 227 k rfl).trans (congrFun hinv.2 k)))))⟩ k95 (by omega)
                          · refine A_iload d_MD_breaks_163 rfl ?_
                            refine A_aload_n 0 d_MD_breaks_165 rfl rfl ?_
                            refine A_getAv (z := some 226) T_ok d_MD_breaks_166 f_MD_181 (mi_s k53.1 sf_170) (mi_r k53.1 rfm_87) ?_
                            refine A_iload_n 3 d_MD_breaks_169 rfl rfl ?_
                            refine A_ialoadf d_MD_breaks_170 (mi_s k53.1 sf_226) (by omega) (by omega) (fun x97 ex97 _ _ => ?_)
                            refine A_pc (pc' := 171) rfl ?_
                            refine A_icmp_gt (tgt := 186) d_MD_breaks_171 (by decide) (fun c98 => ?_) (fun c98 => ?_)
                            · refine A_iincv (z := (i41 + 1)) (L' := [some (av_R (some 170)), some (av_I a1), some (av_I x9), some (av_I i14), some (av_I i40), some (av_I x54), some (av_I (i41 + 1)), some (av_I x55), some (av_I x91)]) d_MD_breaks_186 rfl (w32_to (by omega) (by unfold i32; omega)) rfl ?_
                              refine A_goto (tgt := 65) d_MD_breaks_189 (by decide) ?_
                              refine A_free (L' := [some (av_R (some 170)), some (av_I a1), some (av_I x9), some (av_I i14), some (av_I i40), some (av_I x54), some (av_I (i41 + 1)), none, none]) (And.intro rfl (And.intro rfl (And.intro rfl (And.intro rfl (And.intro rfl (And.intro rfl (And.intro rfl trivial))))))) ?_
                              exact ih65 x54 i40 (i41 + 1) h49 (by omega) (by omega) (by omega) (by omega) (by omega) (by omega) ⟨by have q0 := hinv.1; omega, (funext (fun k => ((k51.2.2.1 227 k rfl).trans (congrFun hinv.2 k))))⟩ k53 (by omega)
                            · refine A_iload d_MD_breaks_174 rfl ?_
                              refine A_istore (L' := [some (av_R (some 170)), some (av_I a1), some (av_I x9), some (av_I i14), some (av_I i41), some (av_I x54), some (av_I i41), some (av_I x55), some (av_I x91)]) d_MD_breaks_176 (Nat.le_of_ble_eq_true rfl) rfl ?_
                              refine A_aload_n 0 d_MD_breaks_178 rfl rfl ?_
                              refine A_getAv (z := some 226) T_ok d_MD_breaks_179 f_MD_181 (mi_s k53.1 sf_170) (mi_r k53.1 rfm_87) ?_
                              refine A_iload_n 3 d_MD_breaks_182 rfl rfl ?_
                              refine A_pc (pc' := 183) rfl ?_
                              refine A_iload d_MD_breaks_183 rfl ?_
                              refine A_iastorek (KR := kM (pm [65, 66, 89] [226, 227, 228]) h) d_MD_breaks_185 (mi_s k53.1 sf_226) (by omega) (by omega) (kM_i k53 (by decide) rfl (mr_226 _) (by omega) (by omega)) (fun h100 k101 eh100 => ?_)
                              refine A_iincv (z := (i41 + 1)) (L' := [some (av_R (some 170)), some (av_I a1), some (av_I x9), some (av_I i14), some (av_I i41), some (av_I x54), some (av_I (i41 + 1)), some (av_I x55), some (av_I x91)]) d_MD_breaks_186 rfl (w32_to (by omega) (by unfold i32; omega)) rfl ?_
                              refine A_goto (tgt := 65) d_MD_breaks_189 (by decide) ?_
                              refine A_free (L' := [some (av_R (some 170)), some (av_I a1), some (av_I x9), some (av_I i14), some (av_I i41), some (av_I x54), some (av_I (i41 + 1)), none, none]) (And.intro rfl (And.intro rfl (And.intro rfl (And.intro rfl (And.intro rfl (And.intro rfl (And.intro rfl trivial))))))) ?_
                              exact ih65 x54 i41 (i41 + 1) h100 (by omega) (by omega) (by omega) (by omega) (by omega) (by omega) ⟨by have q0 := hinv.1; omega, (funext (fun k => ((eh100.1 227 k (fun q => absurd q (by decide))).trans ((k51.2.2.1 227 k rfl).trans (congrFun hinv.2 k)))))⟩ k101 (by omega)
                        · refine A_goto (tgt := 186) d_MD_breaks_105 (by decide) ?_
                          refine A_iincv (z := (i41 + 1)) (L' := [some (av_R (some 170)), some (av_I a1), some (av_I x9), some (av_I i14), some (av_I i40), some (av_I x54), some (av_I (i41 + 1)), some (av_I x55), none]) d_MD_breaks_186 rfl (w32_to (by omega) (by unfold i32; omega)) rfl ?_
                          refine A_goto (tgt := 65) d_MD_breaks_189 (by decide) ?_
                          refine A_free (L' := [some (av_R (some 170)), some (av_I a1), some (av_I x9), some (av_I i14), some (av_I i40), some (av_I x54), some (av_I (i41 + 1)), none, none]) (And.intro rfl (And.intro rfl (And.intro rfl (And.intro rfl (And.intro rfl (And.intro rfl (And.intro rfl trivial))))))) ?_
                          exact ih65 x54 i40 (i41 + 1) h49 (by omega) (by omega) (by omega) (by omega) (by omega) (by omega) ⟨by have q0 := hinv.1; omega, (funext (fun k => ((k51.2.2.1 227 k rfl).trans (congrFun hinv.2 k))))⟩ k53 (by omega)
                exact lp65 _ 0 (-2) 1 h15 (by omega) (by omega) (by omega) (by omega) (by omega) (by omega) ⟨Or.inl ⟨rfl, rfl⟩, (funext (fun k => rfl))⟩ k16 (Nat.lt_succ_self _)
          exact lp51 _ (x9 - 1) h12 (by omega) (by omega) ⟨fun j h1 h2 => by omega, by omega⟩ k13 (Nat.lt_succ_self _)
        · refine A_bipush d_MD_breaks_37 rfl ?_
          exact A_iret d_MD_breaks_39 (by decide) rfl ⟨_, rfl, ⟨by omega, by omega⟩, k0⟩
      · refine A_bipush d_MD_breaks_23 rfl ?_
        exact A_iret d_MD_breaks_25 (by decide) rfl ⟨_, rfl, ⟨by omega, by omega⟩, k0⟩
    · refine A_iconst d_MD_breaks_12 rfl ?_
      exact A_iret d_MD_breaks_13 (by decide) rfl ⟨_, rfl, ⟨by omega, by omega⟩, k0⟩
