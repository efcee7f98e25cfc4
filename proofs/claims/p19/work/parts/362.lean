/-! ===== the reference's methods, 362 ===== -/
def m_MD_sample : mr_T := (⟨"PlainMusicModel", "sample", "(II)D"⟩, prog_14_method_95_code, 17, some .double)
theorem d_MD_sample_0 : decode prog_14_method_95_code 0 = .ok (.iload_n 1, 1) := by decide +kernel
theorem d_MD_sample_1 : decode prog_14_method_95_code 1 = .ok (.ifCond .lt 15, 3) := by decide +kernel
theorem d_MD_sample_16 : decode prog_14_method_95_code 16 = .ok (.dconst 0, 1) := by decide +kernel
theorem d_MD_sample_17 : decode prog_14_method_95_code 17 = .ok (.dreturn, 1) := by decide +kernel
theorem d_MD_sample_4 : decode prog_14_method_95_code 4 = .ok (.iload_n 2, 1) := by decide +kernel
theorem d_MD_sample_5 : decode prog_14_method_95_code 5 = .ok (.iconst 1, 1) := by decide +kernel
theorem d_MD_sample_6 : decode prog_14_method_95_code 6 = .ok (.if_icmp .lt 10, 3) := by decide +kernel
theorem d_MD_sample_9 : decode prog_14_method_95_code 9 = .ok (.iload_n 2, 1) := by decide +kernel
theorem d_MD_sample_10 : decode prog_14_method_95_code 10 = .ok (.sipush 10000, 3) := by decide +kernel
theorem d_MD_sample_13 : decode prog_14_method_95_code 13 = .ok (.if_icmp .le 5, 3) := by decide +kernel
theorem d_MD_sample_18 : decode prog_14_method_95_code 18 = .ok (.dconst 0, 1) := by decide +kernel
theorem d_MD_sample_19 : decode prog_14_method_95_code 19 = .ok (.dstore_n 3, 1) := by decide +kernel
theorem d_MD_sample_20 : decode prog_14_method_95_code 20 = .ok (.iconst 0, 1) := by decide +kernel
theorem d_MD_sample_21 : decode prog_14_method_95_code 21 = .ok (.istore 5, 2) := by decide +kernel
theorem d_MD_sample_23 : decode prog_14_method_95_code 23 = .ok (.iload 5, 2) := by decide +kernel
theorem d_MD_sample_25 : decode prog_14_method_95_code 25 = .ok (.aload_n 0, 1) := by decide +kernel
theorem d_MD_sample_26 : decode prog_14_method_95_code 26 = .ok (.getfield 17, 3) := by decide +kernel
theorem d_MD_sample_29 : decode prog_14_method_95_code 29 = .ok (.iconst 0, 1) := by decide +kernel
theorem d_MD_sample_30 : decode prog_14_method_95_code 30 = .ok (.iaload, 1) := by decide +kernel
theorem d_MD_sample_31 : decode prog_14_method_95_code 31 = .ok (.if_icmp .ge 253, 3) := by decide +kernel
theorem d_MD_sample_284 : decode prog_14_method_95_code 284 = .ok (.dload_n 3, 1) := by decide +kernel
theorem d_MD_sample_285 : decode prog_14_method_95_code 285 = .ok (.dreturn, 1) := by decide +kernel
theorem d_MD_sample_34 : decode prog_14_method_95_code 34 = .ok (.iconst 0, 1) := by decide +kernel
theorem d_MD_sample_35 : decode prog_14_method_95_code 35 = .ok (.istore 6, 2) := by decide +kernel
theorem d_MD_sample_37 : decode prog_14_method_95_code 37 = .ok (.iload 6, 2) := by decide +kernel
theorem d_MD_sample_39 : decode prog_14_method_95_code 39 = .ok (.aload_n 0, 1) := by decide +kernel
theorem d_MD_sample_40 : decode prog_14_method_95_code 40 = .ok (.getfield 57, 3) := by decide +kernel
theorem d_MD_sample_43 : decode prog_14_method_95_code 43 = .ok (.iload 5, 2) := by decide +kernel
theorem d_MD_sample_45 : decode prog_14_method_95_code 45 = .ok (.iaload, 1) := by decide +kernel
theorem d_MD_sample_46 : decode prog_14_method_95_code 46 = .ok (.if_icmp .ge 232, 3) := by decide +kernel
theorem d_MD_sample_278 : decode prog_14_method_95_code 278 = .ok (.iinc 5 1, 3) := by decide +kernel
theorem d_MD_sample_281 : decode prog_14_method_95_code 281 = .ok (.goto (-258), 3) := by decide +kernel
theorem d_MD_sample_49 : decode prog_14_method_95_code 49 = .ok (.sipush 300, 3) := by decide +kernel
theorem d_MD_sample_52 : decode prog_14_method_95_code 52 = .ok (.iload 5, 2) := by decide +kernel
theorem d_MD_sample_54 : decode prog_14_method_95_code 54 = .ok (.imul, 1) := by decide +kernel
theorem d_MD_sample_55 : decode prog_14_method_95_code 55 = .ok (.iload 6, 2) := by decide +kernel
theorem d_MD_sample_57 : decode prog_14_method_95_code 57 = .ok (.iadd, 1) := by decide +kernel
theorem d_MD_sample_58 : decode prog_14_method_95_code 58 = .ok (.istore 7, 2) := by decide +kernel
theorem d_MD_sample_60 : decode prog_14_method_95_code 60 = .ok (.aload_n 0, 1) := by decide +kernel
theorem d_MD_sample_61 : decode prog_14_method_95_code 61 = .ok (.getfield 75, 3) := by decide +kernel
theorem d_MD_sample_64 : decode prog_14_method_95_code 64 = .ok (.iload 7, 2) := by decide +kernel
theorem d_MD_sample_66 : decode prog_14_method_95_code 66 = .ok (.iaload, 1) := by decide +kernel
theorem d_MD_sample_67 : decode prog_14_method_95_code 67 = .ok (.ifCond .ne 6, 3) := by decide +kernel
theorem d_MD_sample_73 : decode prog_14_method_95_code 73 = .ok (.aload_n 0, 1) := by decide +kernel
theorem d_MD_sample_74 : decode prog_14_method_95_code 74 = .ok (.aload_n 0, 1) := by decide +kernel
theorem d_MD_sample_75 : decode prog_14_method_95_code 75 = .ok (.getfield 63, 3) := by decide +kernel
theorem d_MD_sample_78 : decode prog_14_method_95_code 78 = .ok (.iload 7, 2) := by decide +kernel
theorem d_MD_sample_80 : decode prog_14_method_95_code 80 = .ok (.laload, 1) := by decide +kernel
theorem d_MD_sample_81 : decode prog_14_method_95_code 81 = .ok (.aload_n 0, 1) := by decide +kernel
theorem d_MD_sample_82 : decode prog_14_method_95_code 82 = .ok (.getfield 66, 3) := by decide +kernel
theorem d_MD_sample_85 : decode prog_14_method_95_code 85 = .ok (.iload 7, 2) := by decide +kernel
theorem d_MD_sample_87 : decode prog_14_method_95_code 87 = .ok (.laload, 1) := by decide +kernel
theorem d_MD_sample_88 : decode prog_14_method_95_code 88 = .ok (.aload_n 0, 1) := by decide +kernel
theorem d_MD_sample_89 : decode prog_14_method_95_code 89 = .ok (.getfield 69, 3) := by decide +kernel
theorem d_MD_sample_92 : decode prog_14_method_95_code 92 = .ok (.iload 7, 2) := by decide +kernel
theorem d_MD_sample_94 : decode prog_14_method_95_code 94 = .ok (.laload, 1) := by decide +kernel
theorem d_MD_sample_95 : decode prog_14_method_95_code 95 = .ok (.aload_n 0, 1) := by decide +kernel
theorem d_MD_sample_96 : decode prog_14_method_95_code 96 = .ok (.getfield 72, 3) := by decide +kernel
theorem d_MD_sample_99 : decode prog_14_method_95_code 99 = .ok (.iload 7, 2) := by decide +kernel
theorem d_MD_sample_101 : decode prog_14_method_95_code 101 = .ok (.laload, 1) := by decide +kernel
theorem d_MD_sample_102 : decode prog_14_method_95_code 102 = .ok (.invokevirtual 458, 3) := by decide +kernel
theorem d_MD_sample_105 : decode prog_14_method_95_code 105 = .ok (.ldc2_w 452, 3) := by decide +kernel
theorem d_MD_sample_108 : decode prog_14_method_95_code 108 = .ok (.aload_n 0, 1) := by decide +kernel
theorem d_MD_sample_109 : decode prog_14_method_95_code 109 = .ok (.getfield 385, 3) := by decide +kernel
theorem d_MD_sample_112 : decode prog_14_method_95_code 112 = .ok (.lmul, 1) := by decide +kernel
theorem d_MD_sample_113 : decode prog_14_method_95_code 113 = .ok (.lstore 8, 2) := by decide +kernel
theorem d_MD_sample_115 : decode prog_14_method_95_code 115 = .ok (.aload_n 0, 1) := by decide +kernel
theorem d_MD_sample_116 : decode prog_14_method_95_code 116 = .ok (.getfield 388, 3) := by decide +kernel
theorem d_MD_sample_119 : decode prog_14_method_95_code 119 = .ok (.lstore 10, 2) := by decide +kernel
theorem d_MD_sample_121 : decode prog_14_method_95_code 121 = .ok (.aload_n 0, 1) := by decide +kernel
theorem d_MD_sample_122 : decode prog_14_method_95_code 122 = .ok (.iload_n 1, 1) := by decide +kernel
theorem d_MD_sample_123 : decode prog_14_method_95_code 123 = .ok (.i2l, 1) := by decide +kernel
theorem d_MD_sample_124 : decode prog_14_method_95_code 124 = .ok (.iload_n 2, 1) := by decide +kernel
theorem d_MD_sample_125 : decode prog_14_method_95_code 125 = .ok (.i2l, 1) := by decide +kernel
theorem d_MD_sample_126 : decode prog_14_method_95_code 126 = .ok (.invokevirtual 391, 3) := by decide +kernel
theorem d_MD_sample_129 : decode prog_14_method_95_code 129 = .ok (.aload_n 0, 1) := by decide +kernel
theorem d_MD_sample_130 : decode prog_14_method_95_code 130 = .ok (.aload_n 0, 1) := by decide +kernel
theorem d_MD_sample_131 : decode prog_14_method_95_code 131 = .ok (.getfield 385, 3) := by decide +kernel
theorem d_MD_sample_134 : decode prog_14_method_95_code 134 = .ok (.aload_n 0, 1) := by decide +kernel
theorem d_MD_sample_135 : decode prog_14_method_95_code 135 = .ok (.getfield 388, 3) := by decide +kernel
theorem d_MD_sample_138 : decode prog_14_method_95_code 138 = .ok (.ldc2_w 452, 3) := by decide +kernel
theorem d_MD_sample_141 : decode prog_14_method_95_code 141 = .ok (.aload_n 0, 1) := by decide +kernel
theorem d_MD_sample_142 : decode prog_14_method_95_code 142 = .ok (.getfield 63, 3) := by decide +kernel
theorem d_MD_sample_145 : decode prog_14_method_95_code 145 = .ok (.iload 7, 2) := by decide +kernel
theorem d_MD_sample_147 : decode prog_14_method_95_code 147 = .ok (.laload, 1) := by decide +kernel
theorem d_MD_sample_148 : decode prog_14_method_95_code 148 = .ok (.lmul, 1) := by decide +kernel
theorem d_MD_sample_149 : decode prog_14_method_95_code 149 = .ok (.aload_n 0, 1) := by decide +kernel
theorem d_MD_sample_150 : decode prog_14_method_95_code 150 = .ok (.getfield 66, 3) := by decide +kernel
theorem d_MD_sample_153 : decode prog_14_method_95_code 153 = .ok (.iload 7, 2) := by decide +kernel
theorem d_MD_sample_155 : decode prog_14_method_95_code 155 = .ok (.laload, 1) := by decide +kernel
theorem d_MD_sample_156 : decode prog_14_method_95_code 156 = .ok (.invokevirtual 500, 3) := by decide +kernel
theorem d_MD_sample_159 : decode prog_14_method_95_code 159 = .ok (.ifCond .lt 113, 3) := by decide +kernel
theorem d_MD_sample_272 : decode prog_14_method_95_code 272 = .ok (.iinc 6 1, 3) := by decide +kernel
theorem d_MD_sample_275 : decode prog_14_method_95_code 275 = .ok (.goto (-238), 3) := by decide +kernel
theorem d_MD_sample_162 : decode prog_14_method_95_code 162 = .ok (.aload_n 0, 1) := by decide +kernel
theorem d_MD_sample_163 : decode prog_14_method_95_code 163 = .ok (.aload_n 0, 1) := by decide +kernel
theorem d_MD_sample_164 : decode prog_14_method_95_code 164 = .ok (.getfield 385, 3) := by decide +kernel
theorem d_MD_sample_167 : decode prog_14_method_95_code 167 = .ok (.aload_n 0, 1) := by decide +kernel
theorem d_MD_sample_168 : decode prog_14_method_95_code 168 = .ok (.getfield 388, 3) := by decide +kernel
theorem d_MD_sample_171 : decode prog_14_method_95_code 171 = .ok (.lload 8, 2) := by decide +kernel
theorem d_MD_sample_173 : decode prog_14_method_95_code 173 = .ok (.lload 10, 2) := by decide +kernel
theorem d_MD_sample_175 : decode prog_14_method_95_code 175 = .ok (.invokevirtual 500, 3) := by decide +kernel
theorem d_MD_sample_178 : decode prog_14_method_95_code 178 = .ok (.ifCond .lt 6, 3) := by decide +kernel
theorem d_MD_sample_184 : decode prog_14_method_95_code 184 = .ok (.aload_n 0, 1) := by decide +kernel
theorem d_MD_sample_185 : decode prog_14_method_95_code 185 = .ok (.aload_n 0, 1) := by decide +kernel
theorem d_MD_sample_186 : decode prog_14_method_95_code 186 = .ok (.getfield 385, 3) := by decide +kernel
theorem d_MD_sample_189 : decode prog_14_method_95_code 189 = .ok (.aload_n 0, 1) := by decide +kernel
theorem d_MD_sample_190 : decode prog_14_method_95_code 190 = .ok (.getfield 388, 3) := by decide +kernel
theorem d_MD_sample_193 : decode prog_14_method_95_code 193 = .ok (.ldc2_w 608, 3) := by decide +kernel
theorem cst_MD_608 : Cond.constantLong "PlainMusicModel" 608 (Int64.ofInt (-2)) ∈ gw := gwi_2199
theorem d_MD_sample_196 : decode prog_14_method_95_code 196 = .ok (.aload_n 0, 1) := by decide +kernel
theorem d_MD_sample_197 : decode prog_14_method_95_code 197 = .ok (.getfield 63, 3) := by decide +kernel
theorem d_MD_sample_200 : decode prog_14_method_95_code 200 = .ok (.iload 7, 2) := by decide +kernel
theorem d_MD_sample_202 : decode prog_14_method_95_code 202 = .ok (.laload, 1) := by decide +kernel
theorem d_MD_sample_203 : decode prog_14_method_95_code 203 = .ok (.lmul, 1) := by decide +kernel
theorem d_MD_sample_204 : decode prog_14_method_95_code 204 = .ok (.aload_n 0, 1) := by decide +kernel
theorem d_MD_sample_205 : decode prog_14_method_95_code 205 = .ok (.getfield 66, 3) := by decide +kernel
theorem d_MD_sample_208 : decode prog_14_method_95_code 208 = .ok (.iload 7, 2) := by decide +kernel
theorem d_MD_sample_210 : decode prog_14_method_95_code 210 = .ok (.laload, 1) := by decide +kernel
theorem d_MD_sample_211 : decode prog_14_method_95_code 211 = .ok (.invokevirtual 458, 3) := by decide +kernel
theorem d_MD_sample_214 : decode prog_14_method_95_code 214 = .ok (.aload_n 0, 1) := by decide +kernel
theorem d_MD_sample_215 : decode prog_14_method_95_code 215 = .ok (.getfield 385, 3) := by decide +kernel
theorem d_MD_sample_218 : decode prog_14_method_95_code 218 = .ok (.lstore 12, 2) := by decide +kernel
theorem d_MD_sample_220 : decode prog_14_method_95_code 220 = .ok (.aload_n 0, 1) := by decide +kernel
theorem d_MD_sample_221 : decode prog_14_method_95_code 221 = .ok (.getfield 388, 3) := by decide +kernel
theorem d_MD_sample_224 : decode prog_14_method_95_code 224 = .ok (.lstore 14, 2) := by decide +kernel
theorem d_MD_sample_226 : decode prog_14_method_95_code 226 = .ok (.iconst 0, 1) := by decide +kernel
theorem d_MD_sample_227 : decode prog_14_method_95_code 227 = .ok (.istore 16, 2) := by decide +kernel
theorem d_MD_sample_229 : decode prog_14_method_95_code 229 = .ok (.iload 16, 2) := by decide +kernel
theorem d_MD_sample_231 : decode prog_14_method_95_code 231 = .ok (.aload_n 0, 1) := by decide +kernel
theorem d_MD_sample_232 : decode prog_14_method_95_code 232 = .ok (.getfield 75, 3) := by decide +kernel
theorem d_MD_sample_235 : decode prog_14_method_95_code 235 = .ok (.iload 7, 2) := by decide +kernel
theorem d_MD_sample_237 : decode prog_14_method_95_code 237 = .ok (.iaload, 1) := by decide +kernel
theorem d_MD_sample_238 : decode prog_14_method_95_code 238 = .ok (.if_icmp .ge 34, 3) := by decide +kernel
theorem d_MD_sample_241 : decode prog_14_method_95_code 241 = .ok (.dload_n 3, 1) := by decide +kernel
theorem d_MD_sample_242 : decode prog_14_method_95_code 242 = .ok (.aload_n 0, 1) := by decide +kernel
theorem d_MD_sample_243 : decode prog_14_method_95_code 243 = .ok (.aload_n 0, 1) := by decide +kernel
theorem d_MD_sample_244 : decode prog_14_method_95_code 244 = .ok (.getfield 78, 3) := by decide +kernel
theorem d_MD_sample_247 : decode prog_14_method_95_code 247 = .ok (.iconst 4, 1) := by decide +kernel
theorem d_MD_sample_248 : decode prog_14_method_95_code 248 = .ok (.iload 7, 2) := by decide +kernel
theorem d_MD_sample_250 : decode prog_14_method_95_code 250 = .ok (.imul, 1) := by decide +kernel
theorem d_MD_sample_251 : decode prog_14_method_95_code 251 = .ok (.iload 16, 2) := by decide +kernel
theorem d_MD_sample_253 : decode prog_14_method_95_code 253 = .ok (.iadd, 1) := by decide +kernel
theorem d_MD_sample_254 : decode prog_14_method_95_code 254 = .ok (.iaload, 1) := by decide +kernel
theorem d_MD_sample_255 : decode prog_14_method_95_code 255 = .ok (.lload 12, 2) := by decide +kernel
theorem d_MD_sample_257 : decode prog_14_method_95_code 257 = .ok (.lload 14, 2) := by decide +kernel
theorem d_MD_sample_259 : decode prog_14_method_95_code 259 = .ok (.iload 7, 2) := by decide +kernel
theorem d_MD_sample_261 : decode prog_14_method_95_code 261 = .ok (.invokevirtual 610, 3) := by decide +kernel
theorem k_MD_sound : mt_OK m_MD_sound 4 1 := ⟨gwi_2203, gwi_146, ⟨by decide +kernel, by decide +kernel, by decide +kernel⟩, fun h => absurd h (by decide), fun _ => ⟨gwi_2202, gwi_129⟩, fun h => absurd h (by decide)⟩
theorem l_MD_610 : ml_OK "PlainMusicModel" 610 ⟨"PlainMusicModel", "sound", "(IJJI)D"⟩ := Or.inl gwi_2200
theorem d_MD_sample_264 : decode prog_14_method_95_code 264 = .ok (.dadd, 1) := by decide +kernel
theorem d_MD_sample_265 : decode prog_14_method_95_code 265 = .ok (.dstore_n 3, 1) := by decide +kernel
theorem d_MD_sample_266 : decode prog_14_method_95_code 266 = .ok (.iinc 16 1, 3) := by decide +kernel
theorem d_MD_sample_269 : decode prog_14_method_95_code 269 = .ok (.goto (-40), 3) := by decide +kernel
theorem d_MD_sample_181 : decode prog_14_method_95_code 181 = .ok (.goto 91, 3) := by decide +kernel
theorem d_MD_sample_70 : decode prog_14_method_95_code 70 = .ok (.goto 202, 3) := by decide +kernel
theorem s_MD_sample {G : cx_T} {h : ah_T} (hx : mi h) {a1 : Int} {a2 : Int} (hKS : KS h) : con G 4 0 0 m_MD_sample [av_R (some 170), av_I a1, av_I a2] h (fun r h' => ∃ z, r = some (av_D z) ∧ kM (pm [65, 66] []) h h') := by
  refine con_of (L := [some (av_R (some 170)), some (av_I a1), some (av_I a2), none, none, none, none, none, none, none, none, none, none, none, none, none, none]) (by decide +kernel) (Nat.le_of_ble_eq_true rfl) rfl ?_
  have k0 : kM (pm [65, 66] []) h h := kM_0 hx
  refine A_locI 1 rfl (fun ra => ?_)
  obtain ⟨_, _⟩ := ra
  refine A_locI 2 rfl (fun ra => ?_)
  obtain ⟨_, _⟩ := ra
  refine A_iload_n 1 d_MD_sample_0 rfl rfl ?_
  refine A_if_lt (tgt := 16) d_MD_sample_1 (by decide) (fun c1 => ?_) (fun c1 => ?_)
  · refine A_dconst_0 d_MD_sample_16 ?_
    exact A_dret d_MD_sample_17 (by decide) rfl ⟨_, rfl, k0⟩
  · refine A_iload_n 2 d_MD_sample_4 rfl rfl ?_
    refine A_iconst d_MD_sample_5 rfl ?_
    refine A_icmp_lt (tgt := 16) d_MD_sample_6 (by decide) (fun c2 => ?_) (fun c2 => ?_)
    · refine A_dconst_0 d_MD_sample_16 ?_
      exact A_dret d_MD_sample_17 (by decide) rfl ⟨_, rfl, k0⟩
    · refine A_iload_n 2 d_MD_sample_9 rfl rfl ?_
      refine A_sipush d_MD_sample_10 rfl ?_
      refine A_icmp_le (tgt := 18) d_MD_sample_13 (by decide) (fun c3 => ?_) (fun c3 => ?_)
      · refine A_dconst_0 d_MD_sample_18 ?_
        refine A_dstore_n 3 (L' := [some (av_R (some 170)), some (av_I a1), some (av_I a2), some (av_D FP.dconst0), none, none, none, none, none, none, none, none, none, none, none, none, none]) d_MD_sample_19 rfl (Nat.le_of_ble_eq_true rfl) rfl ?_
        refine A_iconst d_MD_sample_20 rfl ?_
        refine A_istore (L' := [some (av_R (some 170)), some (av_I a1), some (av_I a2), some (av_D FP.dconst0), none, some (av_I 0), none, none, none, none, none, none, none, none, none, none, none]) d_MD_sample_21 (Nat.le_of_ble_eq_true rfl) rfl ?_
        have lp23 : ∀ (n : Nat) (i5 : Int) (i4 : UInt64) (h6 : ah_T) , 0 ≤ i5 → i5 ≤ 4 → fbn i4 (1 + 1200 * (i5).toNat) 193 → kM (pm [65, 66] []) h h6 → (5 - i5).toNat < n → aw G (rm_R 4 0 0) m_MD_sample 0 0 23 [some (av_R (some 170)), some (av_I a1), some (av_I a2), some (av_D i4), none, some (av_I i5), none, none, none, none, none, none, none, none, none, none, none] [] h6 (fun r h' => ∃ z, r = some (av_D z) ∧ kM (pm [65, 66] []) h h') := by
          intro n
          induction n with
          | zero => intro i5 i4 h6 _ _ _ _ hm; omega
          | succ n ih23 =>
            intro i5 i4 h6 hl0 hl1 hinv k7 hm
            refine A_iload d_MD_sample_23 rfl ?_
            refine A_aload_n 0 d_MD_sample_25 rfl rfl ?_
            refine A_getAv (z := some 172) T_ok d_MD_sample_26 f_MD_17 (mi_s k7.1 sf_170) (mi_r k7.1 rfm_14) ?_
            refine A_iconst d_MD_sample_29 rfl ?_
            refine A_ialoadn (lo := 0) (hi := 4) d_MD_sample_30 (mi_s k7.1 sf_172) (by decide) (by decide) (mi_g k7.1 (by decide) (mr_172 _)) (fun x9 ex9 _ _ => ?_)
            replace ex9 : x9 = h6.2.1 172 0 := ex9
            have fx9 := ex9.trans (k7.2.2.1 172 _ rfl)
            refine A_pc (pc' := 31) rfl ?_
            refine A_icmp_ge (tgt := 284) d_MD_sample_31 (by decide) (fun c10 => ?_) (fun c10 => ?_)
            · refine A_dload_n 3 d_MD_sample_284 rfl rfl ?_
              exact A_dret d_MD_sample_285 (by decide) rfl ⟨_, rfl, k7⟩
            · refine A_iconst d_MD_sample_34 rfl ?_
              refine A_istore (L' := [some (av_R (some 170)), some (av_I a1), some (av_I a2), some (av_D i4), none, some (av_I i5), some (av_I 0), none, none, none, none, none, none, none, none, none, none]) d_MD_sample_35 (Nat.le_of_ble_eq_true rfl) rfl ?_
              have lp37 : ∀ (n : Nat) (i12 : Int) (i11 : UInt64) (h13 : ah_T) , 0 ≤ i12 → i12 ≤ 300 → fbn i11 (1 + 1200 * (i5).toNat + 4 * (i12).toNat) 193 → kM (pm [65, 66] []) h h13 → (301 - i12).toNat < n → aw G (rm_R 4 0 0) m_MD_sample 0 0 37 [some (av_R (some 170)), some (av_I a1), some (av_I a2), some (av_D i11), none, some (av_I i5), some (av_I i12), none, none, none, none, none, none, none, none, none, none] [] h13 (fun r h' => ∃ z, r = some (av_D z) ∧ kM (pm [65, 66] []) h h') := by
                intro n
                induction n with
                | zero => intro i12 i11 h13 _ _ _ _ hm; omega
                | succ n ih37 =>
                  intro i12 i11 h13 hl0 hl1 hinv k14 hm
                  refine A_iload d_MD_sample_37 rfl ?_
                  refine A_aload_n 0 d_MD_sample_39 rfl rfl ?_
                  refine A_getAv (z := some 185) T_ok d_MD_sample_40 f_MD_57 (mi_s k14.1 sf_170) (mi_r k14.1 rfm_27) ?_
                  refine A_iload d_MD_sample_43 rfl ?_
                  refine A_ialoadn (lo := 0) (hi := 300) d_MD_sample_45 (mi_s k14.1 sf_185) (by omega) (by omega) (mi_g k14.1 (by decide) (mr_185 _)) (fun x16 ex16 _ _ => ?_)
                  have fx16 := ex16.trans (k14.2.2.1 185 _ rfl)
                  refine A_pc (pc' := 46) rfl ?_
                  refine A_icmp_ge (tgt := 278) d_MD_sample_46 (by decide) (fun c17 => ?_) (fun c17 => ?_)
                  · refine A_iincv (z := (i5 + 1)) (L' := [some (av_R (some 170)), some (av_I a1), some (av_I a2), some (av_D i11), none, some (av_I (i5 + 1)), some (av_I i12), none, none, none, none, none, none, none, none, none, none]) d_MD_sample_278 rfl (w32_to (by omega) (by unfold i32; omega)) rfl ?_
                    refine A_goto (tgt := 23) d_MD_sample_281 (by decide) ?_
                    refine A_free (L' := [some (av_R (some 170)), some (av_I a1), some (av_I a2), some (av_D i11), none, some (av_I (i5 + 1)), none, none, none, none, none, none, none, none, none, none, none]) (And.intro rfl (And.intro rfl (And.intro rfl (And.intro rfl (And.intro rfl trivial))))) ?_
                    exact ih23 (i5 + 1) i11 h13 (by omega) (by omega) (fbn_n hinv (by omega)) k14 (by omega)
                  · refine A_sipush d_MD_sample_49 rfl ?_
                    refine A_iload d_MD_sample_52 rfl ?_
                    refine A_imulv (z := (300 * i5)) d_MD_sample_54 (w32_to (by omega) (by unfold i32; omega)) ?_
                    refine A_iload d_MD_sample_55 rfl ?_
                    refine A_iaddv (z := (300 * i5 + i12)) d_MD_sample_57 (w32_to (by omega) (by unfold i32; omega)) ?_
                    refine A_pc (pc' := 58) rfl ?_
                    refine A_istore (L' := [some (av_R (some 170)), some (av_I a1), some (av_I a2), some (av_D i11), none, some (av_I i5), some (av_I i12), some (av_I (300 * i5 + i12)), none, none, none, none, none, none, none, none, none]) d_MD_sample_58 (Nat.le_of_ble_eq_true rfl) rfl ?_
                    refine A_aload_n 0 d_MD_sample_60 rfl rfl ?_
                    refine A_getAv (z := some 191) T_ok d_MD_sample_61 f_MD_75 (mi_s k14.1 sf_170) (mi_r k14.1 rfm_33) ?_
                    refine A_iload d_MD_sample_64 rfl ?_
                    refine A_ialoadn (lo := 0) (hi := 4) d_MD_sample_66 (mi_s k14.1 sf_191) (by omega) (by omega) (mi_g k14.1 (by decide) (mr_191 _)) (fun x19 ex19 _ _ => ?_)
                    refine A_if_ne (tgt := 73) d_MD_sample_67 (by decide) (fun c20 => ?_) (fun c20 => ?_)
                    · refine A_aload_n 0 d_MD_sample_73 rfl rfl ?_
                      refine A_aload_n 0 d_MD_sample_74 rfl rfl ?_
                      refine A_getAv (z := some 187) T_ok d_MD_sample_75 f_MD_63 (mi_s k14.1 sf_170) (mi_r k14.1 rfm_29) ?_
                      refine A_iload d_MD_sample_78 rfl ?_
                      refine A_laloadn (lo := 0) (hi := 2000000000000000) d_MD_sample_80 (mi_s k14.1 sf_187) (by omega) (by omega) (mi_l k14.1 (by decide) (mq_187 _)) (fun x22 ex22 _ _ => ?_)
                      have fx22 := ex22.trans (k14.2.2.2 187 _ rfl)
                      have yEx22 : EV h ((300 * i5 + i12)).toNat := (hKS (i5).toNat (by omega)).1 _ (by omega) (by omega)
                      have yx22 : 0 ≤ x22 ∧ x22 ≤ 1000000000 := (by have q1 := yEx22; unfold EV at q1; omega)
                      refine A_pc (pc' := 81) rfl ?_
                      refine A_aload_n 0 d_MD_sample_81 rfl rfl ?_
                      refine A_getAv (z := some 188) T_ok d_MD_sample_82 f_MD_66 (mi_s k14.1 sf_170) (mi_r k14.1 rfm_30) ?_
                      refine A_iload d_MD_sample_85 rfl ?_
                      refine A_laloadn (lo := 0) (hi := 1000000000000) d_MD_sample_87 (mi_s k14.1 sf_188) (by omega) (by omega) (mi_l k14.1 (by decide) (mq_188 _)) (fun x24 ex24 _ _ => ?_)
                      have fx24 := ex24.trans (k14.2.2.2 188 _ rfl)
                      have yx24 : 1 ≤ x24 ∧ x24 ≤ 1000000 := (by have q1 := yEx22; unfold EV at q1; omega)
                      refine A_aload_n 0 d_MD_sample_88 rfl rfl ?_
                      refine A_getAv (z := some 189) T_ok d_MD_sample_89 f_MD_69 (mi_s k14.1 sf_170) (mi_r k14.1 rfm_31) ?_
                      refine A_pc (pc' := 92) rfl ?_
                      refine A_iload d_MD_sample_92 rfl ?_
                      refine A_laloadn (lo := 0) (hi := 4294967296) d_MD_sample_94 (mi_s k14.1 sf_189) (by omega) (by omega) (mi_l k14.1 (by decide) (mq_189 _)) (fun x26 ex26 _ _ => ?_)
                      have fx26 := ex26.trans (k14.2.2.2 189 _ rfl)
                      have yx26 : 1 ≤ x26 ∧ x26 ≤ 1000000000 := (by have q1 := yEx22; unfold EV at q1; omega)
                      refine A_aload_n 0 d_MD_sample_95 rfl rfl ?_
                      refine A_getAv (z := some 190) T_ok d_MD_sample_96 f_MD_72 (mi_s k14.1 sf_170) (mi_r k14.1 rfm_32) ?_
                      refine A_iload d_MD_sample_99 rfl ?_
                      refine A_laloadn (lo := 0) (hi := 137438953472) d_MD_sample_101 (mi_s k14.1 sf_190) (by omega) (by omega) (mi_l k14.1 (by decide) (mq_190 _)) (fun x28 ex28 _ _ => ?_)
                      have fx28 := ex28.trans (k14.2.2.2 190 _ rfl)
                      have yx28 : 1 ≤ x28 ∧ x28 ≤ 1000000 := (by have q1 := yEx22; unfold EV at q1; omega)
                      refine A_pc (pc' := 102) rfl ?_
                      refine A_callV4 m_MD_sum T_ok d_MD_sample_102 l_MD_458 k_MD_sum (mi_s k14.1 sf_170) rfl (by decide +kernel) (by decide) (Nat.le_of_ble_eq_true rfl) (s_MD_sum k14.1 (by omega) (by omega) (by omega) (by omega) (by omega) (by omega) (by omega) (by omega)) (fun r h29 hq => ?_)
                      obtain ⟨rfl, xk30, k30⟩ := hq
                      have k31 := kM_t k14 k30 (pm_s (by decide) (by decide))
                      refine A_ldc2 (z := 2) d_MD_sample_105 cst_MD_452 rfl ?_
                      refine A_aload_n 0 d_MD_sample_108 rfl rfl ?_
                      refine A_getLf T_ok d_MD_sample_109 f_MD_385 (mi_s k31.1 sf_170) (fun x32 ex32 _ _ => ?_)
                      refine A_lmulw d_MD_sample_112 (fun x33 _ _ _ => ?_)
                      refine A_lstore (L' := [some (av_R (some 170)), some (av_I a1), some (av_I a2), some (av_D i11), none, some (av_I i5), some (av_I i12), some (av_I (300 * i5 + i12)), some (av_L x33), none, none, none, none, none, none, none, none]) d_MD_sample_113 (Nat.le_of_ble_eq_true rfl) rfl ?_
                      refine A_pc (pc' := 115) rfl ?_
                      refine A_aload_n 0 d_MD_sample_115 rfl rfl ?_
                      refine A_getLf T_ok d_MD_sample_116 f_MD_388 (mi_s k31.1 sf_170) (fun x34 ex34 _ _ => ?_)
                      refine A_lstore (L' := [some (av_R (some 170)), some (av_I a1), some (av_I a2), some (av_D i11), none, some (av_I i5), some (av_I i12), some (av_I (300 * i5 + i12)), some (av_L x33), none, some (av_L x34), none, none, none, none, none, none]) d_MD_sample_119 (Nat.le_of_ble_eq_true rfl) rfl ?_
                      refine A_aload_n 0 d_MD_sample_121 rfl rfl ?_
                      refine A_iload_n 1 d_MD_sample_122 rfl rfl ?_
                      refine A_i2l d_MD_sample_123 ?_
                      refine A_pc (pc' := 124) rfl ?_
                      refine A_iload_n 2 d_MD_sample_124 rfl rfl ?_
                      refine A_i2l d_MD_sample_125 ?_
                      refine A_callV2 m_MD_fraction T_ok d_MD_sample_126 l_MD_391 k_MD_fraction (mi_s k31.1 sf_170) rfl (by decide +kernel) (by decide) (Nat.le_of_ble_eq_true rfl) (s_MD_fraction k31.1 (by omega) (by omega) (by omega) (by omega)) (fun r h35 hq => ?_)
                      obtain ⟨rfl, xk36, k36⟩ := hq
                      have k37 := kM_t k31 k36 (pm_s (by decide) (by decide))
                      refine A_aload_n 0 d_MD_sample_129 rfl rfl ?_
                      refine A_aload_n 0 d_MD_sample_130 rfl rfl ?_
                      refine A_getLf T_ok d_MD_sample_131 f_MD_385 (mi_s k37.1 sf_170) (fun x38 ex38 _ _ => ?_)
                      refine A_aload_n 0 d_MD_sample_134 rfl rfl ?_
                      refine A_getLf T_ok d_MD_sample_135 f_MD_388 (mi_s k37.1 sf_170) (fun x39 ex39 _ _ => ?_)
                      refine A_pc (pc' := 138) rfl ?_
                      refine A_ldc2 (z := 2) d_MD_sample_138 cst_MD_452 rfl ?_
                      refine A_aload_n 0 d_MD_sample_141 rfl rfl ?_
                      refine A_getAv (z := some 187) T_ok d_MD_sample_142 f_MD_63 (mi_s k37.1 sf_170) (mi_r k37.1 rfm_29) ?_
                      refine A_iload d_MD_sample_145 rfl ?_
                      refine A_laloadv (z := x22) d_MD_sample_147 (mi_s k37.1 sf_187) (by omega) (by omega) ((k36.2.2.2 _ _ rfl).trans ((k30.2.2.2 _ _ rfl).trans ex22.symm)) ?_
                      refine A_lmulv (z := (2 * x22)) d_MD_sample_148 (w64_to (by omega) (by unfold i64; omega)) ?_
                      refine A_pc (pc' := 149) rfl ?_
                      refine A_aload_n 0 d_MD_sample_149 rfl rfl ?_
                      refine A_getAv (z := some 188) T_ok d_MD_sample_150 f_MD_66 (mi_s k37.1 sf_170) (mi_r k37.1 rfm_30) ?_
                      refine A_iload d_MD_sample_153 rfl ?_
                      refine A_laloadv (z := x24) d_MD_sample_155 (mi_s k37.1 sf_188) (by omega) (by omega) ((k36.2.2.2 _ _ rfl).trans ((k30.2.2.2 _ _ rfl).trans ex24.symm)) ?_
                      refine A_callV4 m_MD_compare T_ok d_MD_sample_156 l_MD_500 k_MD_compare (mi_s k37.1 sf_170) rfl (by decide +kernel) (by decide) (Nat.le_of_ble_eq_true rfl) (s_MD_compare  ) (fun r h44 hq => ?_)
                      obtain ⟨x46, rfl, ⟨_, _⟩, rfl⟩ := hq
                      refine A_if_lt (tgt := 272) d_MD_sample_159 (by decide) (fun c47 => ?_) (fun c47 => ?_)
                      · refine A_iincv (z := (i12 + 1)) (L' := [some (av_R (some 170)), some (av_I a1), some (av_I a2), some (av_D i11), none, some (av_I i5), some (av_I (i12 + 1)), some (av_I (300 * i5 + i12)), some (av_L x33), none, some (av_L x34), none, none, none, none, none, none]) d_MD_sample_272 rfl (w32_to (by omega) (by unfold i32; omega)) rfl ?_
                        refine A_goto (tgt := 37) d_MD_sample_275 (by decide) ?_
                        refine A_free (L' := [some (av_R (some 170)), some (av_I a1), some (av_I a2), some (av_D i11), none, some (av_I i5), some (av_I (i12 + 1)), none, none, none, none, none, none, none, none, none, none]) (And.intro rfl (And.intro rfl (And.intro rfl (And.intro rfl (And.intro rfl (And.intro rfl trivial)))))) ?_
                        exact ih37 (i12 + 1) i11 h35 (by omega) (by omega) (fbn_n hinv (by omega)) k37 (by omega)
                      · refine A_aload_n 0 d_MD_sample_162 rfl rfl ?_
                        refine A_aload_n 0 d_MD_sample_163 rfl rfl ?_
                        refine A_getLv (z := x38) T_ok d_MD_sample_164 f_MD_385 (mi_s k37.1 sf_170) ex38.symm ?_
                        refine A_aload_n 0 d_MD_sample_167 rfl rfl ?_
                        refine A_getLv (z := x39) T_ok d_MD_sample_168 f_MD_388 (mi_s k37.1 sf_170) ex39.symm ?_
                        refine A_pc (pc' := 171) rfl ?_
                        refine A_lload d_MD_sample_171 rfl ?_
                        refine A_lload d_MD_sample_173 rfl ?_
                        refine A_callV4 m_MD_compare T_ok d_MD_sample_175 l_MD_500 k_MD_compare (mi_s k37.1 sf_170) rfl (by decide +kernel) (by decide) (Nat.le_of_ble_eq_true rfl) (s_MD_compare  ) (fun r h50 hq => ?_)
                        obtain ⟨x52, rfl, ⟨_, _⟩, rfl⟩ := hq
                        refine A_if_lt (tgt := 184) d_MD_sample_178 (by decide) (fun c53 => ?_) (fun c53 => ?_)
                        · refine A_aload_n 0 d_MD_sample_184 rfl rfl ?_
                          refine A_aload_n 0 d_MD_sample_185 rfl rfl ?_
                          refine A_getLv (z := x38) T_ok d_MD_sample_186 f_MD_385 (mi_s k37.1 sf_170) ex38.symm ?_
                          refine A_aload_n 0 d_MD_sample_189 rfl rfl ?_
                          refine A_getLv (z := x39) T_ok d_MD_sample_190 f_MD_388 (mi_s k37.1 sf_170) ex39.symm ?_
                          refine A_pc (pc' := 193) rfl ?_
                          refine A_ldc2 (z := (-2)) d_MD_sample_193 cst_MD_608 rfl ?_
                          refine A_aload_n 0 d_MD_sample_196 rfl rfl ?_
                          refine A_getAv (z := some 187) T_ok d_MD_sample_197 f_MD_63 (mi_s k37.1 sf_170) (mi_r k37.1 rfm_29) ?_
                          refine A_iload d_MD_sample_200 rfl ?_
                          refine A_laloadv (z := x22) d_MD_sample_202 (mi_s k37.1 sf_187) (by omega) (by omega) ((k36.2.2.2 _ _ rfl).trans ((k30.2.2.2 _ _ rfl).trans ex22.symm)) ?_
                          refine A_lmulv (z := ((-2) * x22)) d_MD_sample_203 (w64_to (by omega) (by unfold i64; omega)) ?_
                          refine A_pc (pc' := 204) rfl ?_
                          refine A_aload_n 0 d_MD_sample_204 rfl rfl ?_
                          refine A_getAv (z := some 188) T_ok d_MD_sample_205 f_MD_66 (mi_s k37.1 sf_170) (mi_r k37.1 rfm_30) ?_
                          refine A_iload d_MD_sample_208 rfl ?_
                          refine A_laloadv (z := x24) d_MD_sample_210 (mi_s k37.1 sf_188) (by omega) (by omega) ((k36.2.2.2 _ _ rfl).trans ((k30.2.2.2 _ _ rfl).trans ex24.symm)) ?_
                          refine A_callV4 m_MD_sum T_ok d_MD_sample_211 l_MD_458 k_MD_sum (mi_s k37.1 sf_170) rfl (by decide +kernel) (by decide) (Nat.le_of_ble_eq_true rfl) (s_MD_sum k37.1 (by omega) (by omega) (by omega) (by omega) (by omega) (by omega) (by omega) (by omega)) (fun r h60 hq => ?_)
                          obtain ⟨rfl, xk61, k61⟩ := hq
                          have k62 := kM_t k37 k61 (pm_s (by decide) (by decide))
                          refine A_aload_n 0 d_MD_sample_214 rfl rfl ?_
                          refine A_getLf T_ok d_MD_sample_215 f_MD_385 (mi_s k62.1 sf_170) (fun x63 ex63 _ _ => ?_)
                          refine A_lstore (L' := [some (av_R (some 170)), some (av_I a1), some (av_I a2), some (av_D i11), none, some (av_I i5), some (av_I i12), some (av_I (300 * i5 + i12)), some (av_L x33), none, some (av_L x34), none, some (av_L x63), none, none, none, none]) d_MD_sample_218 (Nat.le_of_ble_eq_true rfl) rfl ?_
                          refine A_aload_n 0 d_MD_sample_220 rfl rfl ?_
                          refine A_getLf T_ok d_MD_sample_221 f_MD_388 (mi_s k62.1 sf_170) (fun x64 ex64 _ _ => ?_)
                          refine A_pc (pc' := 224) rfl ?_
                          refine A_lstore (L' := [some (av_R (some 170)), some (av_I a1), some (av_I a2), some (av_D i11), none, some (av_I i5), some (av_I i12), some (av_I (300 * i5 + i12)), some (av_L x33), none, some (av_L x34), none, some (av_L x63), none, some (av_L x64), none, none]) d_MD_sample_224 (Nat.le_of_ble_eq_true rfl) rfl ?_
                          refine A_iconst d_MD_sample_226 rfl ?_
                          refine A_istore (L' := [some (av_R (some 170)), some (av_I a1), some (av_I a2), some (av_D i11), none, some (av_I i5), some (av_I i12), some (av_I (300 * i5 + i12)), some (av_L x33), none, some (av_L x34), none, some (av_L x63), none, some (av_L x64), none, some (av_I 0)]) d_MD_sample_227 (Nat.le_of_ble_eq_true rfl) rfl ?_
                          have lp229 : ∀ (n : Nat) (i66 : Int) (i65 : UInt64) (h67 : ah_T) , 0 ≤ i66 → i66 ≤ 4 → fbn i65 (1 + 1200 * (i5).toNat + 4 * (i12).toNat + (i66).toNat) 193 → kM (pm [65, 66] []) h h67 → (5 - i66).toNat < n → aw G (rm_R 4 0 0) m_MD_sample 0 0 229 [some (av_R (some 170)), some (av_I a1), some (av_I a2), some (av_D i65), none, some (av_I i5), some (av_I i12), some (av_I (300 * i5 + i12)), some (av_L x33), none, some (av_L x34), none, some (av_L x63), none, some (av_L x64), none, some (av_I i66)] [] h67 (fun r h' => ∃ z, r = some (av_D z) ∧ kM (pm [65, 66] []) h h') := by
                            intro n
                            induction n with
                            | zero => intro i66 i65 h67 _ _ _ _ hm; omega
                            | succ n ih229 =>
                              intro i66 i65 h67 hl0 hl1 hinv k68 hm
                              refine A_iload d_MD_sample_229 rfl ?_
                              refine A_aload_n 0 d_MD_sample_231 rfl rfl ?_
                              refine A_getAv (z := some 191) T_ok d_MD_sample_232 f_MD_75 (mi_s k68.1 sf_170) (mi_r k68.1 rfm_33) ?_
                              refine A_iload d_MD_sample_235 rfl ?_
                              refine A_ialoadn (lo := 0) (hi := 4) d_MD_sample_237 (mi_s k68.1 sf_191) (by omega) (by omega) (mi_g k68.1 (by decide) (mr_191 _)) (fun x70 ex70 _ _ => ?_)
                              refine A_pc (pc' := 238) rfl ?_
                              refine A_icmp_ge (tgt := 272) d_MD_sample_238 (by decide) (fun c71 => ?_) (fun c71 => ?_)
                              · refine A_iincv (z := (i12 + 1)) (L' := [some (av_R (some 170)), some (av_I a1), some (av_I a2), some (av_D i65), none, some (av_I i5), some (av_I (i12 + 1)), some (av_I (300 * i5 + i12)), some (av_L x33), none, some (av_L x34), none, some (av_L x63), none, some (av_L x64), none, some (av_I i66)]) d_MD_sample_272 rfl (w32_to (by omega) (by unfold i32; omega)) rfl ?_
                                refine A_goto (tgt := 37) d_MD_sample_275 (by decide) ?_
                                refine A_free (L' := [some (av_R (some 170)), some (av_I a1), some (av_I a2), some (av_D i65), none, some (av_I i5), some (av_I (i12 + 1)), none, none, none, none, none, none, none, none, none, none]) (And.intro rfl (And.intro rfl (And.intro rfl (And.intro rfl (And.intro rfl (And.intro rfl trivial)))))) ?_
                                exact ih37 (i12 + 1) i65 h67 (by omega) (by omega) (fbn_n hinv (by omega)) k68 (by omega)
                              · refine A_dload_n 3 d_MD_sample_241 rfl rfl ?_
                                refine A_aload_n 0 d_MD_sample_242 rfl rfl ?_
                                refine A_aload_n 0 d_MD_sample_243 rfl rfl ?_
                                refine A_getAv (z := some 192) T_ok d_MD_sample_244 f_MD_78 (mi_s k68.1 sf_170) (mi_r k68.1 rfm_34) ?_
                                refine A_iconst d_MD_sample_247 rfl ?_
                                refine A_pc (pc' := 248) rfl ?_
                                refine A_iload d_MD_sample_248 rfl ?_
                                refine A_imulv (z := (1200 * i5 + 4 * i12)) d_MD_sample_250 (w32_to (by omega) (by unfold i32; omega)) ?_
                                refine A_iload d_MD_sample_251 rfl ?_
                                refine A_iaddv (z := (1200 * i5 + 4 * i12 + i66)) d_MD_sample_253 (w32_to (by omega) (by unfold i32; omega)) ?_
                                refine A_ialoadn (lo := (-2)) (hi := 109) d_MD_sample_254 (mi_s k68.1 sf_192) (by omega) (by omega) (mi_g k68.1 (by decide) (mr_192 _)) (fun x73 ex73 _ _ => ?_)
                                refine A_lload d_MD_sample_255 rfl ?_
                                refine A_pc (pc' := 257) rfl ?_
                                refine A_lload d_MD_sample_257 rfl ?_
                                refine A_iload d_MD_sample_259 rfl ?_
                                refine A_callV4 m_MD_sound T_ok d_MD_sample_261 l_MD_610 k_MD_sound (mi_s k68.1 sf_170) rfl (by decide +kernel) (by decide) (Nat.le_of_ble_eq_true rfl) (s_MD_sound k68.1 (by omega) (by omega) (by omega) (by omega) (by omega) (by omega) (EV_s ((hKS (i5).toNat (by omega)).1 _ (by omega) (by omega)) (by intro a ha; simp only [List.mem_cons, List.not_mem_nil, or_false] at ha; rcases ha with rfl | rfl | rfl | rfl <;> exact k68.2.2.2 _ _ rfl))) (fun r h74 hq => ?_)
                                obtain ⟨d76, rfl, xd76, k75⟩ := hq
                                have k77 := kM_t k68 k75 (pm_s (by decide) (by decide))
                                have b78 := fp_add hinv xd76 (by omega) (by decide)
                                refine A_dadd d_MD_sample_264 b78.2 ?_
                                refine A_dstore_n 3 (L' := [some (av_R (some 170)), some (av_I a1), some (av_I a2), some (av_D (FP.dadd i65 d76)), none, some (av_I i5), some (av_I i12), some (av_I (300 * i5 + i12)), some (av_L x33), none, some (av_L x34), none, some (av_L x63), none, some (av_L x64), none, some (av_I i66)]) d_MD_sample_265 rfl (Nat.le_of_ble_eq_true rfl) rfl ?_
                                refine A_iincv (z := (i66 + 1)) (L' := [some (av_R (some 170)), some (av_I a1), some (av_I a2), some (av_D (FP.dadd i65 d76)), none, some (av_I i5), some (av_I i12), some (av_I (300 * i5 + i12)), some (av_L x33), none, some (av_L x34), none, some (av_L x63), none, some (av_L x64), none, some (av_I (i66 + 1))]) d_MD_sample_266 rfl (w32_to (by omega) (by unfold i32; omega)) rfl ?_
                                refine A_goto (tgt := 229) d_MD_sample_269 (by decide) ?_
                                exact ih229 (i66 + 1) (FP.dadd i65 d76) h74 (by omega) (by omega) (fbn_n b78.1 (by omega)) k77 (by omega)
                          exact lp229 _ 0 i11 h60 (by omega) (by omega) (fbn_n hinv (by omega)) k62 (Nat.lt_succ_self _)
                        · refine A_goto (tgt := 272) d_MD_sample_181 (by decide) ?_
                          refine A_iincv (z := (i12 + 1)) (L' := [some (av_R (some 170)), some (av_I a1), some (av_I a2), some (av_D i11), none, some (av_I i5), some (av_I (i12 + 1)), some (av_I (300 * i5 + i12)), some (av_L x33), none, some (av_L x34), none, none, none, none, none, none]) d_MD_sample_272 rfl (w32_to (by omega) (by unfold i32; omega)) rfl ?_
                          refine A_goto (tgt := 37) d_MD_sample_275 (by decide) ?_
                          refine A_free (L' := [some (av_R (some 170)), some (av_I a1), some (av_I a2), some (av_D i11), none, some (av_I i5), some (av_I (i12 + 1)), none, none, none, none, none, none, none, none, none, none]) (And.intro rfl (And.intro rfl (And.intro rfl (And.intro rfl (And.intro rfl (And.intro rfl trivial)))))) ?_
                          exact ih37 (i12 + 1) i11 h35 (by omega) (by omega) (fbn_n hinv (by omega)) k37 (by omega)
                    · refine A_goto (tgt := 272) d_MD_sample_70 (by decide) ?_
                      refine A_iincv (z := (i12 + 1)) (L' := [some (av_R (some 170)), some (av_I a1), some (av_I a2), some (av_D i11), none, some (av_I i5), some (av_I (i12 + 1)), some (av_I (300 * i5 + i12)), none, none, none, none, none, none, none, none, none]) d_MD_sample_272 rfl (w32_to (by omega) (by unfold i32; omega)) rfl ?_
                      refine A_goto (tgt := 37) d_MD_sample_275 (by decide) ?_
                      refine A_free (L' := [some (av_R (some 170)), some (av_I a1), some (av_I a2), some (av_D i11), none, some (av_I i5), some (av_I (i12 + 1)), none, none, none, none, none, none, none, none, none, none]) (And.intro rfl (And.intro rfl (And.intro rfl (And.intro rfl (And.intro rfl (And.intro rfl trivial)))))) ?_
                      exact ih37 (i12 + 1) i11 h13 (by omega) (by omega) (fbn_n hinv (by omega)) k14 (by omega)
              exact lp37 _ 0 i4 h6 (by omega) (by omega) (fbn_n hinv (by omega)) k7 (Nat.lt_succ_self _)
        exact lp23 _ 0 FP.dconst0 h (by omega) (by omega) (fbn_n (fbn_T (U := 193) fb_0 (by decide)) (by omega)) k0 (Nat.lt_succ_self _)
      · refine A_dconst_0 d_MD_sample_16 ?_
        exact A_dret d_MD_sample_17 (by decide) rfl ⟨_, rfl, k0⟩
