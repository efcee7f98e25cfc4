/-! ===== the reference's methods, 361 ===== -/
def m_MD_sound : mr_T := (⟨"PlainMusicModel", "sound", "(IJJI)D"⟩, prog_14_method_96_code, 31, some .double)
theorem d_MD_sound_0 : decode prog_14_method_96_code 0 = .ok (.aload_n 0, 1) := by decide +kernel
theorem d_MD_sound_1 : decode prog_14_method_96_code 1 = .ok (.iload_n 1, 1) := by decide +kernel
theorem d_MD_sound_2 : decode prog_14_method_96_code 2 = .ok (.invokevirtual 535, 3) := by decide +kernel
theorem d_MD_sound_5 : decode prog_14_method_96_code 5 = .ok (.istore 7, 2) := by decide +kernel
theorem d_MD_sound_7 : decode prog_14_method_96_code 7 = .ok (.iload_n 1, 1) := by decide +kernel
theorem d_MD_sound_8 : decode prog_14_method_96_code 8 = .ok (.iload 7, 2) := by decide +kernel
theorem d_MD_sound_10 : decode prog_14_method_96_code 10 = .ok (.isub, 1) := by decide +kernel
theorem d_MD_sound_11 : decode prog_14_method_96_code 11 = .ok (.bipush 12, 2) := by decide +kernel
theorem d_MD_sound_13 : decode prog_14_method_96_code 13 = .ok (.idiv, 1) := by decide +kernel
theorem d_MD_sound_14 : decode prog_14_method_96_code 14 = .ok (.istore 8, 2) := by decide +kernel
theorem d_MD_sound_16 : decode prog_14_method_96_code 16 = .ok (.aload_n 0, 1) := by decide +kernel
theorem d_MD_sound_17 : decode prog_14_method_96_code 17 = .ok (.iload 7, 2) := by decide +kernel
theorem d_MD_sound_19 : decode prog_14_method_96_code 19 = .ok (.invokevirtual 614, 3) := by decide +kernel
theorem k_MD_ratioTop : mt_OK m_MD_ratioTop 1 1 := ⟨gwi_2207, gwi_146, ⟨by decide +kernel, by decide +kernel, by decide +kernel⟩, fun h => absurd h (by decide), fun _ => ⟨gwi_2206, gwi_130⟩, fun h => absurd h (by decide)⟩
theorem l_MD_614 : ml_OK "PlainMusicModel" 614 ⟨"PlainMusicModel", "ratioTop", "(I)I"⟩ := Or.inl gwi_2204
theorem d_MD_sound_22 : decode prog_14_method_96_code 22 = .ok (.i2l, 1) := by decide +kernel
theorem d_MD_sound_23 : decode prog_14_method_96_code 23 = .ok (.ldc2_w 617, 3) := by decide +kernel
theorem cst_MD_617 : Cond.constantLong "PlainMusicModel" 617 (Int64.ofInt 16) ∈ gw := gwi_2208
theorem d_MD_sound_26 : decode prog_14_method_96_code 26 = .ok (.lmul, 1) := by decide +kernel
theorem d_MD_sound_27 : decode prog_14_method_96_code 27 = .ok (.lstore 9, 2) := by decide +kernel
theorem d_MD_sound_29 : decode prog_14_method_96_code 29 = .ok (.aload_n 0, 1) := by decide +kernel
theorem d_MD_sound_30 : decode prog_14_method_96_code 30 = .ok (.iload 7, 2) := by decide +kernel
theorem d_MD_sound_32 : decode prog_14_method_96_code 32 = .ok (.invokevirtual 619, 3) := by decide +kernel
theorem k_MD_ratioLow : mt_OK m_MD_ratioLow 1 1 := ⟨gwi_2212, gwi_146, ⟨by decide +kernel, by decide +kernel, by decide +kernel⟩, fun h => absurd h (by decide), fun _ => ⟨gwi_2211, gwi_131⟩, fun h => absurd h (by decide)⟩
theorem l_MD_619 : ml_OK "PlainMusicModel" 619 ⟨"PlainMusicModel", "ratioLow", "(I)I"⟩ := Or.inl gwi_2209
theorem d_MD_sound_35 : decode prog_14_method_96_code 35 = .ok (.i2l, 1) := by decide +kernel
theorem d_MD_sound_36 : decode prog_14_method_96_code 36 = .ok (.lstore 11, 2) := by decide +kernel
theorem d_MD_sound_38 : decode prog_14_method_96_code 38 = .ok (.iconst 0, 1) := by decide +kernel
theorem d_MD_sound_39 : decode prog_14_method_96_code 39 = .ok (.istore 13, 2) := by decide +kernel
theorem d_MD_sound_41 : decode prog_14_method_96_code 41 = .ok (.iload 13, 2) := by decide +kernel
theorem d_MD_sound_43 : decode prog_14_method_96_code 43 = .ok (.iload 8, 2) := by decide +kernel
theorem d_MD_sound_45 : decode prog_14_method_96_code 45 = .ok (.if_icmp .ge 17, 3) := by decide +kernel
theorem d_MD_sound_62 : decode prog_14_method_96_code 62 = .ok (.iload 8, 2) := by decide +kernel
theorem d_MD_sound_64 : decode prog_14_method_96_code 64 = .ok (.istore 13, 2) := by decide +kernel
theorem d_MD_sound_66 : decode prog_14_method_96_code 66 = .ok (.iload 13, 2) := by decide +kernel
theorem d_MD_sound_68 : decode prog_14_method_96_code 68 = .ok (.ifCond .ge 17, 3) := by decide +kernel
theorem d_MD_sound_85 : decode prog_14_method_96_code 85 = .ok (.aload_n 0, 1) := by decide +kernel
theorem d_MD_sound_86 : decode prog_14_method_96_code 86 = .ok (.lload 9, 2) := by decide +kernel
theorem d_MD_sound_88 : decode prog_14_method_96_code 88 = .ok (.lload 11, 2) := by decide +kernel
theorem d_MD_sound_90 : decode prog_14_method_96_code 90 = .ok (.invokevirtual 391, 3) := by decide +kernel
theorem d_MD_sound_93 : decode prog_14_method_96_code 93 = .ok (.aload_n 0, 1) := by decide +kernel
theorem d_MD_sound_94 : decode prog_14_method_96_code 94 = .ok (.getfield 385, 3) := by decide +kernel
theorem d_MD_sound_97 : decode prog_14_method_96_code 97 = .ok (.lstore 9, 2) := by decide +kernel
theorem d_MD_sound_99 : decode prog_14_method_96_code 99 = .ok (.aload_n 0, 1) := by decide +kernel
theorem d_MD_sound_100 : decode prog_14_method_96_code 100 = .ok (.getfield 388, 3) := by decide +kernel
theorem d_MD_sound_103 : decode prog_14_method_96_code 103 = .ok (.lstore 11, 2) := by decide +kernel
theorem d_MD_sound_105 : decode prog_14_method_96_code 105 = .ok (.aload_n 0, 1) := by decide +kernel
theorem d_MD_sound_106 : decode prog_14_method_96_code 106 = .ok (.lload 9, 2) := by decide +kernel
theorem d_MD_sound_108 : decode prog_14_method_96_code 108 = .ok (.lload 4, 2) := by decide +kernel
theorem d_MD_sound_110 : decode prog_14_method_96_code 110 = .ok (.invokevirtual 381, 3) := by decide +kernel
theorem d_MD_sound_113 : decode prog_14_method_96_code 113 = .ok (.lstore 13, 2) := by decide +kernel
theorem d_MD_sound_115 : decode prog_14_method_96_code 115 = .ok (.lload 9, 2) := by decide +kernel
theorem d_MD_sound_117 : decode prog_14_method_96_code 117 = .ok (.lload 13, 2) := by decide +kernel
theorem d_MD_sound_119 : decode prog_14_method_96_code 119 = .ok (.ldiv, 1) := by decide +kernel
theorem d_MD_sound_120 : decode prog_14_method_96_code 120 = .ok (.lstore 15, 2) := by decide +kernel
theorem d_MD_sound_122 : decode prog_14_method_96_code 122 = .ok (.lload 4, 2) := by decide +kernel
theorem d_MD_sound_124 : decode prog_14_method_96_code 124 = .ok (.lload 13, 2) := by decide +kernel
theorem d_MD_sound_126 : decode prog_14_method_96_code 126 = .ok (.ldiv, 1) := by decide +kernel
theorem d_MD_sound_127 : decode prog_14_method_96_code 127 = .ok (.lload 11, 2) := by decide +kernel
theorem d_MD_sound_129 : decode prog_14_method_96_code 129 = .ok (.lmul, 1) := by decide +kernel
theorem d_MD_sound_130 : decode prog_14_method_96_code 130 = .ok (.lstore 17, 2) := by decide +kernel
theorem d_MD_sound_132 : decode prog_14_method_96_code 132 = .ok (.aload_n 0, 1) := by decide +kernel
theorem d_MD_sound_133 : decode prog_14_method_96_code 133 = .ok (.lload 15, 2) := by decide +kernel
theorem d_MD_sound_135 : decode prog_14_method_96_code 135 = .ok (.lload_n 2, 1) := by decide +kernel
theorem d_MD_sound_136 : decode prog_14_method_96_code 136 = .ok (.lload 17, 2) := by decide +kernel
theorem d_MD_sound_138 : decode prog_14_method_96_code 138 = .ok (.invokevirtual 622, 3) := by decide +kernel
theorem k_MD_product : mt_OK m_MD_product 3 1 := ⟨gwi_2216, gwi_146, ⟨by decide +kernel, by decide +kernel, by decide +kernel⟩, fun h => absurd h (by decide), fun _ => ⟨gwi_2215, gwi_132⟩, fun h => absurd h (by decide)⟩
theorem l_MD_622 : ml_OK "PlainMusicModel" 622 ⟨"PlainMusicModel", "product", "(JJJ)J"⟩ := Or.inl gwi_2213
theorem d_MD_sound_141 : decode prog_14_method_96_code 141 = .ok (.lstore 19, 2) := by decide +kernel
theorem d_MD_sound_143 : decode prog_14_method_96_code 143 = .ok (.aload_n 0, 1) := by decide +kernel
theorem d_MD_sound_144 : decode prog_14_method_96_code 144 = .ok (.lload 19, 2) := by decide +kernel
theorem d_MD_sound_146 : decode prog_14_method_96_code 146 = .ok (.lload 17, 2) := by decide +kernel
theorem d_MD_sound_148 : decode prog_14_method_96_code 148 = .ok (.invokevirtual 391, 3) := by decide +kernel
theorem d_MD_sound_151 : decode prog_14_method_96_code 151 = .ok (.aload_n 0, 1) := by decide +kernel
theorem d_MD_sound_152 : decode prog_14_method_96_code 152 = .ok (.getfield 385, 3) := by decide +kernel
theorem d_MD_sound_155 : decode prog_14_method_96_code 155 = .ok (.l2d, 1) := by decide +kernel
theorem d_MD_sound_156 : decode prog_14_method_96_code 156 = .ok (.aload_n 0, 1) := by decide +kernel
theorem d_MD_sound_157 : decode prog_14_method_96_code 157 = .ok (.getfield 388, 3) := by decide +kernel
theorem d_MD_sound_160 : decode prog_14_method_96_code 160 = .ok (.l2d, 1) := by decide +kernel
theorem d_MD_sound_161 : decode prog_14_method_96_code 161 = .ok (.ddiv, 1) := by decide +kernel
theorem d_MD_sound_162 : decode prog_14_method_96_code 162 = .ok (.dstore 21, 2) := by decide +kernel
theorem d_MD_sound_164 : decode prog_14_method_96_code 164 = .ok (.dload 21, 2) := by decide +kernel
theorem d_MD_sound_166 : decode prog_14_method_96_code 166 = .ok (.ldc2_w 626, 3) := by decide +kernel
theorem cst_MD_626 : Cond.constantDouble "PlainMusicModel" 626 4598175219545276416 ∈ gw := gwi_2217
theorem d_MD_sound_169 : decode prog_14_method_96_code 169 = .ok (.dcmp .g, 1) := by decide +kernel
theorem d_MD_sound_170 : decode prog_14_method_96_code 170 = .ok (.ifCond .ge 12, 3) := by decide +kernel
theorem d_MD_sound_182 : decode prog_14_method_96_code 182 = .ok (.dload 21, 2) := by decide +kernel
theorem d_MD_sound_184 : decode prog_14_method_96_code 184 = .ok (.ldc2_w 630, 3) := by decide +kernel
theorem cst_MD_630 : Cond.constantDouble "PlainMusicModel" 630 4604930618986332160 ∈ gw := gwi_2219
theorem d_MD_sound_187 : decode prog_14_method_96_code 187 = .ok (.dcmp .g, 1) := by decide +kernel
theorem d_MD_sound_188 : decode prog_14_method_96_code 188 = .ok (.ifCond .ge 16, 3) := by decide +kernel
theorem d_MD_sound_204 : decode prog_14_method_96_code 204 = .ok (.ldc2_w 628, 3) := by decide +kernel
theorem cst_MD_628 : Cond.constantDouble "PlainMusicModel" 628 4616189618054758400 ∈ gw := gwi_2218
theorem d_MD_sound_207 : decode prog_14_method_96_code 207 = .ok (.dload 21, 2) := by decide +kernel
theorem d_MD_sound_209 : decode prog_14_method_96_code 209 = .ok (.dmul, 1) := by decide +kernel
theorem d_MD_sound_210 : decode prog_14_method_96_code 210 = .ok (.ldc2_w 628, 3) := by decide +kernel
theorem d_MD_sound_213 : decode prog_14_method_96_code 213 = .ok (.dsub, 1) := by decide +kernel
theorem d_MD_sound_214 : decode prog_14_method_96_code 214 = .ok (.dstore 23, 2) := by decide +kernel
theorem d_MD_sound_216 : decode prog_14_method_96_code 216 = .ok (.lload_n 2, 1) := by decide +kernel
theorem d_MD_sound_217 : decode prog_14_method_96_code 217 = .ok (.l2d, 1) := by decide +kernel
theorem d_MD_sound_218 : decode prog_14_method_96_code 218 = .ok (.lload 4, 2) := by decide +kernel
theorem d_MD_sound_220 : decode prog_14_method_96_code 220 = .ok (.l2d, 1) := by decide +kernel
theorem d_MD_sound_221 : decode prog_14_method_96_code 221 = .ok (.ddiv, 1) := by decide +kernel
theorem d_MD_sound_222 : decode prog_14_method_96_code 222 = .ok (.dstore 25, 2) := by decide +kernel
theorem d_MD_sound_224 : decode prog_14_method_96_code 224 = .ok (.aload_n 0, 1) := by decide +kernel
theorem d_MD_sound_225 : decode prog_14_method_96_code 225 = .ok (.ldc2_w 452, 3) := by decide +kernel
theorem d_MD_sound_228 : decode prog_14_method_96_code 228 = .ok (.aload_n 0, 1) := by decide +kernel
theorem d_MD_sound_229 : decode prog_14_method_96_code 229 = .ok (.getfield 69, 3) := by decide +kernel
theorem d_MD_sound_232 : decode prog_14_method_96_code 232 = .ok (.iload 6, 2) := by decide +kernel
theorem d_MD_sound_234 : decode prog_14_method_96_code 234 = .ok (.laload, 1) := by decide +kernel
theorem d_MD_sound_235 : decode prog_14_method_96_code 235 = .ok (.lmul, 1) := by decide +kernel
theorem d_MD_sound_236 : decode prog_14_method_96_code 236 = .ok (.aload_n 0, 1) := by decide +kernel
theorem d_MD_sound_237 : decode prog_14_method_96_code 237 = .ok (.getfield 72, 3) := by decide +kernel
theorem d_MD_sound_240 : decode prog_14_method_96_code 240 = .ok (.iload 6, 2) := by decide +kernel
theorem d_MD_sound_242 : decode prog_14_method_96_code 242 = .ok (.laload, 1) := by decide +kernel
theorem d_MD_sound_243 : decode prog_14_method_96_code 243 = .ok (.invokevirtual 391, 3) := by decide +kernel
theorem d_MD_sound_246 : decode prog_14_method_96_code 246 = .ok (.aload_n 0, 1) := by decide +kernel
theorem d_MD_sound_247 : decode prog_14_method_96_code 247 = .ok (.getfield 385, 3) := by decide +kernel
theorem d_MD_sound_250 : decode prog_14_method_96_code 250 = .ok (.l2d, 1) := by decide +kernel
theorem d_MD_sound_251 : decode prog_14_method_96_code 251 = .ok (.aload_n 0, 1) := by decide +kernel
theorem d_MD_sound_252 : decode prog_14_method_96_code 252 = .ok (.getfield 388, 3) := by decide +kernel
theorem d_MD_sound_255 : decode prog_14_method_96_code 255 = .ok (.l2d, 1) := by decide +kernel
theorem d_MD_sound_256 : decode prog_14_method_96_code 256 = .ok (.ddiv, 1) := by decide +kernel
theorem d_MD_sound_257 : decode prog_14_method_96_code 257 = .ok (.dstore 27, 2) := by decide +kernel
theorem d_MD_sound_259 : decode prog_14_method_96_code 259 = .ok (.dconst 1, 1) := by decide +kernel
theorem d_MD_sound_260 : decode prog_14_method_96_code 260 = .ok (.dload 25, 2) := by decide +kernel
theorem d_MD_sound_262 : decode prog_14_method_96_code 262 = .ok (.dload 27, 2) := by decide +kernel
theorem d_MD_sound_264 : decode prog_14_method_96_code 264 = .ok (.ddiv, 1) := by decide +kernel
theorem d_MD_sound_265 : decode prog_14_method_96_code 265 = .ok (.dsub, 1) := by decide +kernel
theorem d_MD_sound_266 : decode prog_14_method_96_code 266 = .ok (.dstore 29, 2) := by decide +kernel
theorem d_MD_sound_268 : decode prog_14_method_96_code 268 = .ok (.ldc2_w 626, 3) := by decide +kernel
theorem d_MD_sound_271 : decode prog_14_method_96_code 271 = .ok (.dload 23, 2) := by decide +kernel
theorem d_MD_sound_273 : decode prog_14_method_96_code 273 = .ok (.dmul, 1) := by decide +kernel
theorem d_MD_sound_274 : decode prog_14_method_96_code 274 = .ok (.dload 29, 2) := by decide +kernel
theorem d_MD_sound_276 : decode prog_14_method_96_code 276 = .ok (.dmul, 1) := by decide +kernel
theorem d_MD_sound_277 : decode prog_14_method_96_code 277 = .ok (.dreturn, 1) := by decide +kernel
theorem d_MD_sound_191 : decode prog_14_method_96_code 191 = .ok (.ldc2_w 632, 3) := by decide +kernel
theorem cst_MD_632 : Cond.constantDouble "PlainMusicModel" 632 4611686018427387904 ∈ gw := gwi_2220
theorem d_MD_sound_194 : decode prog_14_method_96_code 194 = .ok (.ldc2_w 628, 3) := by decide +kernel
theorem d_MD_sound_197 : decode prog_14_method_96_code 197 = .ok (.dload 21, 2) := by decide +kernel
theorem d_MD_sound_199 : decode prog_14_method_96_code 199 = .ok (.dmul, 1) := by decide +kernel
theorem d_MD_sound_200 : decode prog_14_method_96_code 200 = .ok (.dsub, 1) := by decide +kernel
theorem d_MD_sound_201 : decode prog_14_method_96_code 201 = .ok (.goto 13, 3) := by decide +kernel
theorem d_MD_sound_173 : decode prog_14_method_96_code 173 = .ok (.ldc2_w 628, 3) := by decide +kernel
theorem d_MD_sound_176 : decode prog_14_method_96_code 176 = .ok (.dload 21, 2) := by decide +kernel
theorem d_MD_sound_178 : decode prog_14_method_96_code 178 = .ok (.dmul, 1) := by decide +kernel
theorem d_MD_sound_179 : decode prog_14_method_96_code 179 = .ok (.goto 35, 3) := by decide +kernel
theorem d_MD_sound_71 : decode prog_14_method_96_code 71 = .ok (.ldc2_w 452, 3) := by decide +kernel
theorem d_MD_sound_74 : decode prog_14_method_96_code 74 = .ok (.lload 11, 2) := by decide +kernel
theorem d_MD_sound_76 : decode prog_14_method_96_code 76 = .ok (.lmul, 1) := by decide +kernel
theorem d_MD_sound_77 : decode prog_14_method_96_code 77 = .ok (.lstore 11, 2) := by decide +kernel
theorem d_MD_sound_79 : decode prog_14_method_96_code 79 = .ok (.iinc 13 1, 3) := by decide +kernel
theorem d_MD_sound_82 : decode prog_14_method_96_code 82 = .ok (.goto (-16), 3) := by decide +kernel
theorem d_MD_sound_48 : decode prog_14_method_96_code 48 = .ok (.ldc2_w 452, 3) := by decide +kernel
theorem d_MD_sound_51 : decode prog_14_method_96_code 51 = .ok (.lload 9, 2) := by decide +kernel
theorem d_MD_sound_53 : decode prog_14_method_96_code 53 = .ok (.lmul, 1) := by decide +kernel
theorem d_MD_sound_54 : decode prog_14_method_96_code 54 = .ok (.lstore 9, 2) := by decide +kernel
theorem d_MD_sound_56 : decode prog_14_method_96_code 56 = .ok (.iinc 13 1, 3) := by decide +kernel
theorem d_MD_sound_59 : decode prog_14_method_96_code 59 = .ok (.goto (-18), 3) := by decide +kernel
set_option maxHeartbeats 8000000 in
theorem s_MD_sound {G : cx_T} {h : ah_T} (hx : mi h) {a1 : Int} {a2 : Int} {a3 : Int} {a4 : Int} (la1 : (-2) ≤ a1) (ua1 : a1 ≤ 109) (la3 : 1 ≤ a3) (ua3 : a3 ≤ 1000000000000) (la4 : 0 ≤ a4) (ua4 : a4 ≤ 1199) (he : EV h a4.toNat) : con G 2 0 0 m_MD_sound [av_R (some 170), av_I a1, av_L a2, av_L a3, av_I a4] h (fun r h' => ∃ z, r = some (av_D z) ∧ (fbn z 1 193) ∧ kM (pm [65, 66] []) h h') := by
  refine con_of (L := [some (av_R (some 170)), some (av_I a1), some (av_L a2), none, some (av_L a3), none, some (av_I a4), none, none, none, none, none, none, none, none, none, none, none, none, none, none, none, none, none, none, none, none, none, none, none, none]) (by decide +kernel) (Nat.le_of_ble_eq_true rfl) rfl ?_
  have k0 : kM (pm [65, 66] []) h h := kM_0 hx
  refine A_locL 2 rfl (fun ra => ?_)
  obtain ⟨_, _⟩ := ra
  refine A_aload_n 0 d_MD_sound_0 rfl rfl ?_
  refine A_iload_n 1 d_MD_sound_1 rfl rfl ?_
  refine A_callV1 m_MD_modulo T_ok d_MD_sound_2 l_MD_535 k_MD_modulo (mi_s k0.1 sf_170) rfl (by decide +kernel) (by decide) (Nat.le_of_ble_eq_true rfl) (s_MD_modulo k0.1 ) (fun r h1 hq => ?_)
  obtain ⟨x3, rfl, ⟨_, _⟩, rfl⟩ := hq
  refine A_istore (L' := [some (av_R (some 170)), some (av_I a1), some (av_L a2), none, some (av_L a3), none, some (av_I a4), some (av_I x3), none, none, none, none, none, none, none, none, none, none, none, none, none, none, none, none, none, none, none, none, none, none, none]) d_MD_sound_5 (Nat.le_of_ble_eq_true rfl) rfl ?_
  refine A_iload_n 1 d_MD_sound_7 rfl rfl ?_
  refine A_iload d_MD_sound_8 rfl ?_
  refine A_isubv (z := (a1 - x3)) d_MD_sound_10 (w32_to (by omega) (by unfold i32; omega)) ?_
  refine A_bipush d_MD_sound_11 rfl ?_
  refine A_pc (pc' := 13) rfl ?_
  refine A_idivc d_MD_sound_13 (by decide) (fun x4 ex4 _ _ => ?_)
  have bx4 := div_p ex4 (by unfold i32; omega) (by omega)
  have yo : -2 ≤ x4 ∧ x4 ≤ 9 := (by omega)
  refine A_istore (L' := [some (av_R (some 170)), some (av_I a1), some (av_L a2), none, some (av_L a3), none, some (av_I a4), some (av_I x3), some (av_I x4), none, none, none, none, none, none, none, none, none, none, none, none, none, none, none, none, none, none, none, none, none, none]) d_MD_sound_14 (Nat.le_of_ble_eq_true rfl) rfl ?_
  refine A_aload_n 0 d_MD_sound_16 rfl rfl ?_
  refine A_iload d_MD_sound_17 rfl ?_
  refine A_callV1 m_MD_ratioTop T_ok d_MD_sound_19 l_MD_614 k_MD_ratioTop (mi_s k0.1 sf_170) rfl (by decide +kernel) (by decide) (Nat.le_of_ble_eq_true rfl) (s_MD_ratioTop  ) (fun r h5 hq => ?_)
  obtain ⟨x7, rfl, ⟨_, _⟩, rfl⟩ := hq
  refine A_i2l d_MD_sound_22 ?_
  refine A_ldc2 (z := 16) d_MD_sound_23 cst_MD_617 rfl ?_
  refine A_lmulv (z := (16 * x7)) d_MD_sound_26 (w64_to (by omega) (by unfold i64; omega)) ?_
  refine A_lstore (L' := [some (av_R (some 170)), some (av_I a1), some (av_L a2), none, some (av_L a3), none, some (av_I a4), some (av_I x3), some (av_I x4), some (av_L (16 * x7)), none, none, none, none, none, none, none, none, none, none, none, none, none, none, none, none, none, none, none, none, none]) d_MD_sound_27 (Nat.le_of_ble_eq_true rfl) rfl ?_
  refine A_aload_n 0 d_MD_sound_29 rfl rfl ?_
  refine A_pc (pc' := 30) rfl ?_
  refine A_iload d_MD_sound_30 rfl ?_
  refine A_callV1 m_MD_ratioLow T_ok d_MD_sound_32 l_MD_619 k_MD_ratioLow (mi_s k0.1 sf_170) rfl (by decide +kernel) (by decide) (Nat.le_of_ble_eq_true rfl) (s_MD_ratioLow  ) (fun r h8 hq => ?_)
  obtain ⟨x10, rfl, ⟨_, _⟩, rfl⟩ := hq
  refine A_i2l d_MD_sound_35 ?_
  refine A_lstore (L' := [some (av_R (some 170)), some (av_I a1), some (av_L a2), none, some (av_L a3), none, some (av_I a4), some (av_I x3), some (av_I x4), some (av_L (16 * x7)), none, some (av_L x10), none, none, none, none, none, none, none, none, none, none, none, none, none, none, none, none, none, none, none]) d_MD_sound_36 (Nat.le_of_ble_eq_true rfl) rfl ?_
  refine A_iconst d_MD_sound_38 rfl ?_
  refine A_istore (L' := [some (av_R (some 170)), some (av_I a1), some (av_L a2), none, some (av_L a3), none, some (av_I a4), some (av_I x3), some (av_I x4), some (av_L (16 * x7)), none, some (av_L x10), none, some (av_I 0), none, none, none, none, none, none, none, none, none, none, none, none, none, none, none, none, none]) d_MD_sound_39 (Nat.le_of_ble_eq_true rfl) rfl ?_
  have lp41 : ∀ (n : Nat) (i11 i12 : Int) , 1 ≤ i11 → i11 ≤ 368640 → 0 ≤ i12 → i12 ≤ 9 → (1 ≤ i11 ∧ i11 ≤ 720 * p2 i12 ∧ 0 ≤ i12) → (10 - i12).toNat < n → aw G (rm_R 2 0 0) m_MD_sound 0 0 41 [some (av_R (some 170)), some (av_I a1), some (av_L a2), none, some (av_L a3), none, some (av_I a4), some (av_I x3), some (av_I x4), some (av_L i11), none, some (av_L x10), none, some (av_I i12), none, none, none, none, none, none, none, none, none, none, none, none, none, none, none, none, none] [] h (fun r h' => ∃ z, r = some (av_D z) ∧ (fbn z 1 193) ∧ kM (pm [65, 66] []) h h') := by
    intro n
    induction n with
    | zero => intro i11 i12 _ _ _ _ _ hm; omega
    | succ n ih41 =>
      intro i11 i12 hl0 hl1 hl2 hl3 hinv hm
      refine A_iload d_MD_sound_41 rfl ?_
      refine A_iload d_MD_sound_43 rfl ?_
      refine A_icmp_ge (tgt := 62) d_MD_sound_45 (by decide) (fun c13 => ?_) (fun c13 => ?_)
      · refine A_iload d_MD_sound_62 rfl ?_
        refine A_istore (L' := [some (av_R (some 170)), some (av_I a1), some (av_L a2), none, some (av_L a3), none, some (av_I a4), some (av_I x3), some (av_I x4), some (av_L i11), none, some (av_L x10), none, some (av_I x4), none, none, none, none, none, none, none, none, none, none, none, none, none, none, none, none, none]) d_MD_sound_64 (Nat.le_of_ble_eq_true rfl) rfl ?_
        have lp66 : ∀ (n : Nat) (i14 i15 : Int) , 1 ≤ i14 → i14 ≤ 128 → (-2) ≤ i15 → i15 ≤ 9 → (1 ≤ i14 ∧ i14 ≤ 32 * p2 (i15 + 2) ∧ -2 ≤ i15) → (10 - i15).toNat < n → aw G (rm_R 2 0 0) m_MD_sound 0 0 66 [some (av_R (some 170)), some (av_I a1), some (av_L a2), none, some (av_L a3), none, some (av_I a4), some (av_I x3), some (av_I x4), some (av_L i11), none, some (av_L i14), none, some (av_I i15), none, none, none, none, none, none, none, none, none, none, none, none, none, none, none, none, none] [] h (fun r h' => ∃ z, r = some (av_D z) ∧ (fbn z 1 193) ∧ kM (pm [65, 66] []) h h') := by
          intro n
          induction n with
          | zero => intro i14 i15 _ _ _ _ _ hm; omega
          | succ n ih66 =>
            intro i14 i15 hl0 hl1 hl2 hl3 hinv hm
            refine A_iload d_MD_sound_66 rfl ?_
            refine A_if_ge (tgt := 85) d_MD_sound_68 (by decide) (fun c16 => ?_) (fun c16 => ?_)
            · refine A_aload_n 0 d_MD_sound_85 rfl rfl ?_
              refine A_lload d_MD_sound_86 rfl ?_
              refine A_lload d_MD_sound_88 rfl ?_
              refine A_callV2 m_MD_fraction T_ok d_MD_sound_90 l_MD_391 k_MD_fraction (mi_s k0.1 sf_170) rfl (by decide +kernel) (by decide) (Nat.le_of_ble_eq_true rfl) (s_MD_fraction k0.1 (by omega) (by omega) (by omega) (by omega)) (fun r h17 hq => ?_)
              obtain ⟨rfl, xk18, k18⟩ := hq
              have k19 := kM_t k0 k18 (pm_s (by decide) (by decide))
              refine A_aload_n 0 d_MD_sound_93 rfl rfl ?_
              refine A_getLf T_ok d_MD_sound_94 f_MD_385 (mi_s k19.1 sf_170) (fun x20 ex20 _ _ => ?_)
              have ytx20 : 1 ≤ x20 ∧ x20 ≤ 4611686018427387904 := (by omega)
              refine A_lstore (L' := [some (av_R (some 170)), some (av_I a1), some (av_L a2), none, some (av_L a3), none, some (av_I a4), some (av_I x3), some (av_I x4), some (av_L x20), none, some (av_L i14), none, some (av_I i15), none, none, none, none, none, none, none, none, none, none, none, none, none, none, none, none, none]) d_MD_sound_97 (Nat.le_of_ble_eq_true rfl) rfl ?_
              refine A_aload_n 0 d_MD_sound_99 rfl rfl ?_
              refine A_getLf T_ok d_MD_sound_100 f_MD_388 (mi_s k19.1 sf_170) (fun x21 ex21 _ _ => ?_)
              have ytx21 : 1 ≤ x21 ∧ x21 ≤ 128 := (by omega)
              refine A_pc (pc' := 103) rfl ?_
              refine A_lstore (L' := [some (av_R (some 170)), some (av_I a1), some (av_L a2), none, some (av_L a3), none, some (av_I a4), some (av_I x3), some (av_I x4), some (av_L x20), none, some (av_L x21), none, some (av_I i15), none, none, none, none, none, none, none, none, none, none, none, none, none, none, none, none, none]) d_MD_sound_103 (Nat.le_of_ble_eq_true rfl) rfl ?_
              refine A_aload_n 0 d_MD_sound_105 rfl rfl ?_
              refine A_lload d_MD_sound_106 rfl ?_
              refine A_lload d_MD_sound_108 rfl ?_
              refine A_callV2 m_MD_divisor T_ok d_MD_sound_110 l_MD_381 k_MD_divisor (mi_s k19.1 sf_170) rfl (by decide +kernel) (by decide) (Nat.le_of_ble_eq_true rfl) (s_MD_divisor  (by omega) (by omega) (by omega) (by omega) (by omega)) (fun r h22 hq => ?_)
              obtain ⟨x24, rfl, ⟨_, _⟩, xx24, rfl⟩ := hq
              refine A_lstore (L' := [some (av_R (some 170)), some (av_I a1), some (av_L a2), none, some (av_L a3), none, some (av_I a4), some (av_I x3), some (av_I x4), some (av_L x20), none, some (av_L x21), none, some (av_L x24), none, none, none, none, none, none, none, none, none, none, none, none, none, none, none, none, none]) d_MD_sound_113 (Nat.le_of_ble_eq_true rfl) rfl ?_
              refine A_lload d_MD_sound_115 rfl ?_
              refine A_lload d_MD_sound_117 rfl ?_
              refine A_ldivc d_MD_sound_119 (by omega) (fun x25 ex25 _ _ => ?_)
              have bx25 := div_nn64 ex25 (by omega) (by omega) (by omega)
              refine A_lstore (L' := [some (av_R (some 170)), some (av_I a1), some (av_L a2), none, some (av_L a3), none, some (av_I a4), some (av_I x3), some (av_I x4), some (av_L x20), none, some (av_L x21), none, some (av_L x24), none, some (av_L x25), none, none, none, none, none, none, none, none, none, none, none, none, none, none, none]) d_MD_sound_120 (Nat.le_of_ble_eq_true rfl) rfl ?_
              have yd : x24 ≤ a3 := (by have q1 := xx24; have q2 := Int.gcd_le_right (a := x20) (b := a3) (by omega); omega)
              refine A_pc (pc' := 122) rfl ?_
              refine A_lload d_MD_sound_122 rfl ?_
              refine A_lload d_MD_sound_124 rfl ?_
              refine A_ldivc d_MD_sound_126 (by omega) (fun x26 ex26 _ _ => ?_)
              have bx26 := div_nn64 ex26 (by omega) (by omega) (by omega)
              have yvx26 : 1 ≤ x26 ∧ x26 ≤ 1000000000000 := (by have q1 := div_ge1 bx26.2.2 (by omega) yd; omega)
              refine A_lload d_MD_sound_127 rfl ?_
              refine A_lmulw d_MD_sound_129 (fun x27 ex27 _ _ => ?_)
              have bx27 := mul_pp64 (ux := 1000000000000) (uy := 128) ex27 (by omega) (by omega) (by omega) (by omega) (by decide)
              refine A_lstore (L' := [some (av_R (some 170)), some (av_I a1), some (av_L a2), none, some (av_L a3), none, some (av_I a4), some (av_I x3), some (av_I x4), some (av_L x20), none, some (av_L x21), none, some (av_L x24), none, some (av_L x25), none, some (av_L x27), none, none, none, none, none, none, none, none, none, none, none, none, none]) d_MD_sound_130 (Nat.le_of_ble_eq_true rfl) rfl ?_
              refine A_pc (pc' := 132) rfl ?_
              refine A_aload_n 0 d_MD_sound_132 rfl rfl ?_
              refine A_lload d_MD_sound_133 rfl ?_
              refine A_lload_n 2 d_MD_sound_135 rfl rfl ?_
              refine A_lload d_MD_sound_136 rfl ?_
              refine A_callV3 m_MD_product T_ok d_MD_sound_138 l_MD_622 k_MD_product (mi_s k19.1 sf_170) rfl (by decide +kernel) (by decide) (Nat.le_of_ble_eq_true rfl) (s_MD_product  (by omega) (by omega) (by omega) (by omega)) (fun r h28 hq => ?_)
              obtain ⟨x30, rfl, ⟨_, _⟩, xx30, rfl⟩ := hq
              refine A_lstore (L' := [some (av_R (some 170)), some (av_I a1), some (av_L a2), none, some (av_L a3), none, some (av_I a4), some (av_I x3), some (av_I x4), some (av_L x20), none, some (av_L x21), none, some (av_L x24), none, some (av_L x25), none, some (av_L x27), none, some (av_L x30), none, none, none, none, none, none, none, none, none, none, none]) d_MD_sound_141 (Nat.le_of_ble_eq_true rfl) rfl ?_
              refine A_aload_n 0 d_MD_sound_143 rfl rfl ?_
              refine A_lload d_MD_sound_144 rfl ?_
              refine A_lload d_MD_sound_146 rfl ?_
              refine A_callV2 m_MD_fraction T_ok d_MD_sound_148 l_MD_391 k_MD_fraction (mi_s k19.1 sf_170) rfl (by decide +kernel) (by decide) (Nat.le_of_ble_eq_true rfl) (s_MD_fraction k19.1 (by omega) (by omega) (by omega) (by omega)) (fun r h31 hq => ?_)
              obtain ⟨rfl, xk32, k32⟩ := hq
              have k33 := kM_t k19 k32 (pm_s (by decide) (by decide))
              refine A_aload_n 0 d_MD_sound_151 rfl rfl ?_
              refine A_getLf T_ok d_MD_sound_152 f_MD_385 (mi_s k33.1 sf_170) (fun x34 ex34 _ _ => ?_)
              refine A_l2d d_MD_sound_155 ?_
              have b35 := fp_l2d x34 (by unfold i64; omega)
              refine A_aload_n 0 d_MD_sound_156 rfl rfl ?_
              refine A_getLf T_ok d_MD_sound_157 f_MD_388 (mi_s k33.1 sf_170) (fun x36 ex36 _ _ => ?_)
              have ytx36 : 1 ≤ x36 ∧ x36 ≤ 200000000000000 := (by omega)
              refine A_pc (pc' := 160) rfl ?_
              refine A_l2d d_MD_sound_160 ?_
              have b37 := fp_l2d x36 (by unfold i64; omega)
              have b38 := fp_div b35.1 (b37.2 (by omega)) (by omega) (by decide)
              refine A_ddiv d_MD_sound_161 b38.2.1 ?_
              refine A_dstore (L' := [some (av_R (some 170)), some (av_I a1), some (av_L a2), none, some (av_L a3), none, some (av_I a4), some (av_I x3), some (av_I x4), some (av_L x20), none, some (av_L x21), none, some (av_L x24), none, some (av_L x25), none, some (av_L x27), none, some (av_L x30), none, some (av_D (FP.ddiv (FP.l2d (Int64.ofInt x34)) (FP.l2d (Int64.ofInt x36)))), none, none, none, none, none, none, none, none, none]) d_MD_sound_162 (Nat.le_of_ble_eq_true rfl) rfl ?_
              refine A_dload d_MD_sound_164 rfl ?_
              refine A_ldc2d (z := 4598175219545276416) d_MD_sound_166 cst_MD_626 ?_
              refine A_dcmp d_MD_sound_169 ?_
              refine A_nrI (fun x39 ex39 _ _ => ?_)
              refine A_pc (pc' := 170) rfl ?_
              refine A_if_ge (tgt := 182) d_MD_sound_170 (by decide) (fun c40 => ?_) (fun c40 => ?_)
              · refine A_dload d_MD_sound_182 rfl ?_
                refine A_ldc2d (z := 4604930618986332160) d_MD_sound_184 cst_MD_630 ?_
                refine A_dcmp d_MD_sound_187 ?_
                refine A_nrI (fun x41 ex41 _ _ => ?_)
                refine A_if_ge (tgt := 204) d_MD_sound_188 (by decide) (fun c42 => ?_) (fun c42 => ?_)
                · refine A_ldc2d (z := 4616189618054758400) d_MD_sound_204 cst_MD_628 ?_
                  refine A_dload d_MD_sound_207 rfl ?_
                  have b43 := fp_mul fb_4 b38.1 (by decide)
                  refine A_dmul d_MD_sound_209 b43.2 ?_
                  refine A_ldc2d (z := 4616189618054758400) d_MD_sound_210 cst_MD_628 ?_
                  have b44 := fp_sub b43.1 (fbn_T (U := 65) fb_4 (by decide)) (by omega) (by decide)
                  refine A_dsub d_MD_sound_213 b44.2 ?_
                  refine A_pc (pc' := 214) rfl ?_
                  refine A_dstore (L' := [some (av_R (some 170)), some (av_I a1), some (av_L a2), none, some (av_L a3), none, some (av_I a4), some (av_I x3), some (av_I x4), some (av_L x20), none, some (av_L x21), none, some (av_L x24), none, some (av_L x25), none, some (av_L x27), none, some (av_L x30), none, some (av_D (FP.ddiv (FP.l2d (Int64.ofInt x34)) (FP.l2d (Int64.ofInt x36)))), none, some (av_D (FP.dsub (FP.dmul 4616189618054758400 (FP.ddiv (FP.l2d (Int64.ofInt x34)) (FP.l2d (Int64.ofInt x36)))) 4616189618054758400)), none, none, none, none, none, none, none]) d_MD_sound_214 (Nat.le_of_ble_eq_true rfl) rfl ?_
                  refine A_lload_n 2 d_MD_sound_216 rfl rfl ?_
                  refine A_l2d d_MD_sound_217 ?_
                  have b45 := fp_l2d a2 (by unfold i64; omega)
                  refine A_lload d_MD_sound_218 rfl ?_
                  refine A_l2d d_MD_sound_220 ?_
                  have b46 := fp_l2d a3 (by unfold i64; omega)
                  have b47 := fp_div b45.1 (b46.2 (by omega)) (by omega) (by decide)
                  refine A_ddiv d_MD_sound_221 b47.2.1 ?_
                  refine A_pc (pc' := 222) rfl ?_
                  refine A_dstore (L' := [some (av_R (some 170)), some (av_I a1), some (av_L a2), none, some (av_L a3), none, some (av_I a4), some (av_I x3), some (av_I x4), some (av_L x20), none, some (av_L x21), none, some (av_L x24), none, some (av_L x25), none, some (av_L x27), none, some (av_L x30), none, some (av_D (FP.ddiv (FP.l2d (Int64.ofInt x34)) (FP.l2d (Int64.ofInt x36)))), none, some (av_D (FP.dsub (FP.dmul 4616189618054758400 (FP.ddiv (FP.l2d (Int64.ofInt x34)) (FP.l2d (Int64.ofInt x36)))) 4616189618054758400)), none, some (av_D (FP.ddiv (FP.l2d (Int64.ofInt a2)) (FP.l2d (Int64.ofInt a3)))), none, none, none, none, none]) d_MD_sound_222 (Nat.le_of_ble_eq_true rfl) rfl ?_
                  refine A_aload_n 0 d_MD_sound_224 rfl rfl ?_
                  refine A_ldc2 (z := 2) d_MD_sound_225 cst_MD_452 rfl ?_
                  refine A_aload_n 0 d_MD_sound_228 rfl rfl ?_
                  refine A_getAv (z := some 189) T_ok d_MD_sound_229 f_MD_69 (mi_s k33.1 sf_170) (mi_r k33.1 rfm_31) ?_
                  refine A_iload d_MD_sound_232 rfl ?_
                  refine A_pc (pc' := 234) rfl ?_
                  refine A_laloadn (lo := 0) (hi := 4294967296) d_MD_sound_234 (mi_s k33.1 sf_189) (by omega) (by omega) (mi_l k33.1 (by decide) (mq_189 _)) (fun x49 ex49 _ _ => ?_)
                  have fx49 := ex49.trans (k33.2.2.2 189 _ rfl)
                  have yx49 : 1 ≤ x49 ∧ x49 ≤ 1000000000 := (by have q1 := he; unfold EV at q1; omega)
                  refine A_lmulv (z := (2 * x49)) d_MD_sound_235 (w64_to (by omega) (by unfold i64; omega)) ?_
                  refine A_aload_n 0 d_MD_sound_236 rfl rfl ?_
                  refine A_getAv (z := some 190) T_ok d_MD_sound_237 f_MD_72 (mi_s k33.1 sf_170) (mi_r k33.1 rfm_32) ?_
                  refine A_iload d_MD_sound_240 rfl ?_
                  refine A_laloadn (lo := 0) (hi := 137438953472) d_MD_sound_242 (mi_s k33.1 sf_190) (by omega) (by omega) (mi_l k33.1 (by decide) (mq_190 _)) (fun x51 ex51 _ _ => ?_)
                  have fx51 := ex51.trans (k33.2.2.2 190 _ rfl)
                  have yx51 : 1 ≤ x51 ∧ x51 ≤ 1000000 := (by have q1 := he; unfold EV at q1; omega)
                  refine A_pc (pc' := 243) rfl ?_
                  refine A_callV2 m_MD_fraction T_ok d_MD_sound_243 l_MD_391 k_MD_fraction (mi_s k33.1 sf_170) rfl (by decide +kernel) (by decide) (Nat.le_of_ble_eq_true rfl) (s_MD_fraction k33.1 (by omega) (by omega) (by omega) (by omega)) (fun r h52 hq => ?_)
                  obtain ⟨rfl, xk53, k53⟩ := hq
                  have k54 := kM_t k33 k53 (pm_s (by decide) (by decide))
                  refine A_aload_n 0 d_MD_sound_246 rfl rfl ?_
                  refine A_getLf T_ok d_MD_sound_247 f_MD_385 (mi_s k54.1 sf_170) (fun x55 ex55 _ _ => ?_)
                  have ytx55 : 1 ≤ x55 ∧ x55 ≤ 2000000000 := (by omega)
                  refine A_l2d d_MD_sound_250 ?_
                  have b56 := fp_l2d x55 (by unfold i64; omega)
                  refine A_aload_n 0 d_MD_sound_251 rfl rfl ?_
                  refine A_getLf T_ok d_MD_sound_252 f_MD_388 (mi_s k54.1 sf_170) (fun x57 ex57 _ _ => ?_)
                  have ytx57 : 1 ≤ x57 ∧ x57 ≤ 1000000 := (by omega)
                  refine A_pc (pc' := 255) rfl ?_
                  refine A_l2d d_MD_sound_255 ?_
                  have b58 := fp_l2d x57 (by unfold i64; omega)
                  have b59 := fp_div b56.1 (b58.2 (by omega)) (by omega) (by decide)
                  refine A_ddiv d_MD_sound_256 b59.2.1 ?_
                  refine A_dstore (L' := [some (av_R (some 170)), some (av_I a1), some (av_L a2), none, some (av_L a3), none, some (av_I a4), some (av_I x3), some (av_I x4), some (av_L x20), none, some (av_L x21), none, some (av_L x24), none, some (av_L x25), none, some (av_L x27), none, some (av_L x30), none, some (av_D (FP.ddiv (FP.l2d (Int64.ofInt x34)) (FP.l2d (Int64.ofInt x36)))), none, some (av_D (FP.dsub (FP.dmul 4616189618054758400 (FP.ddiv (FP.l2d (Int64.ofInt x34)) (FP.l2d (Int64.ofInt x36)))) 4616189618054758400)), none, some (av_D (FP.ddiv (FP.l2d (Int64.ofInt a2)) (FP.l2d (Int64.ofInt a3)))), none, some (av_D (FP.ddiv (FP.l2d (Int64.ofInt x55)) (FP.l2d (Int64.ofInt x57)))), none, none, none]) d_MD_sound_257 (Nat.le_of_ble_eq_true rfl) rfl ?_
                  refine A_dconst_1 d_MD_sound_259 ?_
                  refine A_dload d_MD_sound_260 rfl ?_
                  refine A_dload d_MD_sound_262 rfl ?_
                  refine A_pc (pc' := 264) rfl ?_
                  have b60 := fp_div b47.1 (b59.2.2 0 63 (by decide) (b56.2 (by omega)) b58.1) (by omega) (by decide)
                  refine A_ddiv d_MD_sound_264 b60.2.1 ?_
                  have b61 := fp_sub (fbn_T (U := 126) fb_1 (by decide)) b60.1 (by omega) (by decide)
                  refine A_dsub d_MD_sound_265 b61.2 ?_
                  refine A_dstore (L' := [some (av_R (some 170)), some (av_I a1), some (av_L a2), none, some (av_L a3), none, some (av_I a4), some (av_I x3), some (av_I x4), some (av_L x20), none, some (av_L x21), none, some (av_L x24), none, some (av_L x25), none, some (av_L x27), none, some (av_L x30), none, some (av_D (FP.ddiv (FP.l2d (Int64.ofInt x34)) (FP.l2d (Int64.ofInt x36)))), none, some (av_D (FP.dsub (FP.dmul 4616189618054758400 (FP.ddiv (FP.l2d (Int64.ofInt x34)) (FP.l2d (Int64.ofInt x36)))) 4616189618054758400)), none, some (av_D (FP.ddiv (FP.l2d (Int64.ofInt a2)) (FP.l2d (Int64.ofInt a3)))), none, some (av_D (FP.ddiv (FP.l2d (Int64.ofInt x55)) (FP.l2d (Int64.ofInt x57)))), none, some (av_D (FP.dsub FP.dconst1 (FP.ddiv (FP.ddiv (FP.l2d (Int64.ofInt a2)) (FP.l2d (Int64.ofInt a3))) (FP.ddiv (FP.l2d (Int64.ofInt x55)) (FP.l2d (Int64.ofInt x57)))))), none]) d_MD_sound_266 (Nat.le_of_ble_eq_true rfl) rfl ?_
                  refine A_ldc2d (z := 4598175219545276416) d_MD_sound_268 cst_MD_626 ?_
                  refine A_dload d_MD_sound_271 rfl ?_
                  have b62 := fp_mul fb_q (fbn_2 b44.1) (by decide)
                  refine A_dmul d_MD_sound_273 b62.2 ?_
                  refine A_pc (pc' := 274) rfl ?_
                  refine A_dload d_MD_sound_274 rfl ?_
                  have b63 := fp_mul b62.1 (fbn_2 b61.1) (by decide)
                  refine A_dmul d_MD_sound_276 b63.2 ?_
                  exact A_dret d_MD_sound_277 (by decide) rfl ⟨_, rfl, (fbn_n (fbn_T (U := 193) b63.1 (by decide)) (by omega)), k54⟩
                · refine A_ldc2d (z := 4611686018427387904) d_MD_sound_191 cst_MD_632 ?_
                  refine A_ldc2d (z := 4616189618054758400) d_MD_sound_194 cst_MD_628 ?_
                  refine A_dload d_MD_sound_197 rfl ?_
                  have b64 := fp_mul fb_4 b38.1 (by decide)
                  refine A_dmul d_MD_sound_199 b64.2 ?_
                  have b65 := fp_sub (fbn_T (U := 65) fb_2 (by decide)) b64.1 (by omega) (by decide)
                  refine A_dsub d_MD_sound_200 b65.2 ?_
                  refine A_pc (pc' := 201) rfl ?_
                  refine A_goto (tgt := 214) d_MD_sound_201 (by decide) ?_
                  refine A_dstore (L' := [some (av_R (some 170)), some (av_I a1), some (av_L a2), none, some (av_L a3), none, some (av_I a4), some (av_I x3), some (av_I x4), some (av_L x20), none, some (av_L x21), none, some (av_L x24), none, some (av_L x25), none, some (av_L x27), none, some (av_L x30), none, some (av_D (FP.ddiv (FP.l2d (Int64.ofInt x34)) (FP.l2d (Int64.ofInt x36)))), none, some (av_D (FP.dsub 4611686018427387904 (FP.dmul 4616189618054758400 (FP.ddiv (FP.l2d (Int64.ofInt x34)) (FP.l2d (Int64.ofInt x36)))))), none, none, none, none, none, none, none]) d_MD_sound_214 (Nat.le_of_ble_eq_true rfl) rfl ?_
                  refine A_lload_n 2 d_MD_sound_216 rfl rfl ?_
                  refine A_l2d d_MD_sound_217 ?_
                  have b66 := fp_l2d a2 (by unfold i64; omega)
                  refine A_lload d_MD_sound_218 rfl ?_
                  refine A_l2d d_MD_sound_220 ?_
                  have b67 := fp_l2d a3 (by unfold i64; omega)
                  refine A_pc (pc' := 221) rfl ?_
                  have b68 := fp_div b66.1 (b67.2 (by omega)) (by omega) (by decide)
                  refine A_ddiv d_MD_sound_221 b68.2.1 ?_
                  refine A_dstore (L' := [some (av_R (some 170)), some (av_I a1), some (av_L a2), none, some (av_L a3), none, some (av_I a4), some (av_I x3), some (av_I x4), some (av_L x20), none, some (av_L x21), none, some (av_L x24), none, some (av_L x25), none, some (av_L x27), none, some (av_L x30), none, some (av_D (FP.ddiv (FP.l2d (Int64.ofInt x34)) (FP.l2d (Int64.ofInt x36)))), none, some (av_D (FP.dsub 4611686018427387904 (FP.dmul 4616189618054758400 (FP.ddiv (FP.l2d (Int64.ofInt x34)) (FP.l2d (Int64.ofInt x36)))))), none, some (av_D (FP.ddiv (FP.l2d (Int64.ofInt a2)) (FP.l2d (Int64.ofInt a3)))), none, none, none, none, none]) d_MD_sound_222 (Nat.le_of_ble_eq_true rfl) rfl ?_
                  refine A_aload_n 0 d_MD_sound_224 rfl rfl ?_
                  refine A_ldc2 (z := 2) d_MD_sound_225 cst_MD_452 rfl ?_
                  refine A_aload_n 0 d_MD_sound_228 rfl rfl ?_
                  refine A_getAv (z := some 189) T_ok d_MD_sound_229 f_MD_69 (mi_s k33.1 sf_170) (mi_r k33.1 rfm_31) ?_
                  refine A_pc (pc' := 232) rfl ?_
                  refine A_iload d_MD_sound_232 rfl ?_
                  refine A_laloadn (lo := 0) (hi := 4294967296) d_MD_sound_234 (mi_s k33.1 sf_189) (by omega) (by omega) (mi_l k33.1 (by decide) (mq_189 _)) (fun x70 ex70 _ _ => ?_)
                  have fx70 := ex70.trans (k33.2.2.2 189 _ rfl)
                  have yx70 : 1 ≤ x70 ∧ x70 ≤ 1000000000 := (by have q1 := he; unfold EV at q1; omega)
                  refine A_lmulv (z := (2 * x70)) d_MD_sound_235 (w64_to (by omega) (by unfold i64; omega)) ?_
                  refine A_aload_n 0 d_MD_sound_236 rfl rfl ?_
                  refine A_getAv (z := some 190) T_ok d_MD_sound_237 f_MD_72 (mi_s k33.1 sf_170) (mi_r k33.1 rfm_32) ?_
                  refine A_iload d_MD_sound_240 rfl ?_
                  refine A_pc (pc' := 242) rfl ?_
                  refine A_laloadn (lo := 0) (hi := 137438953472) d_MD_sound_242 (mi_s k33.1 sf_190) (by omega) (by omega) (mi_l k33.1 (by decide) (mq_190 _)) (fun x72 ex72 _ _ => ?_)
                  have fx72 := ex72.trans (k33.2.2.2 190 _ rfl)
                  have yx72 : 1 ≤ x72 ∧ x72 ≤ 1000000 := (by have q1 := he; unfold EV at q1; omega)
                  refine A_callV2 m_MD_fraction T_ok d_MD_sound_243 l_MD_391 k_MD_fraction (mi_s k33.1 sf_170) rfl (by decide +kernel) (by decide) (Nat.le_of_ble_eq_true rfl) (s_MD_fraction k33.1 (by omega) (by omega) (by omega) (by omega)) (fun r h73 hq => ?_)
                  obtain ⟨rfl, xk74, k74⟩ := hq
                  have k75 := kM_t k33 k74 (pm_s (by decide) (by decide))
                  refine A_aload_n 0 d_MD_sound_246 rfl rfl ?_
                  refine A_getLf T_ok d_MD_sound_247 f_MD_385 (mi_s k75.1 sf_170) (fun x76 ex76 _ _ => ?_)
                  have ytx76 : 1 ≤ x76 ∧ x76 ≤ 2000000000 := (by omega)
                  refine A_l2d d_MD_sound_250 ?_
                  have b77 := fp_l2d x76 (by unfold i64; omega)
                  refine A_aload_n 0 d_MD_sound_251 rfl rfl ?_
                  refine A_getLf T_ok d_MD_sound_252 f_MD_388 (mi_s k75.1 sf_170) (fun x78 ex78 _ _ => ?_)
                  have ytx78 : 1 ≤ x78 ∧ x78 ≤ 1000000 := (by omega)
                  refine A_pc (pc' := 255) rfl ?_
                  refine A_l2d d_MD_sound_255 ?_
                  have b79 := fp_l2d x78 (by unfold i64; omega)
                  have b80 := fp_div b77.1 (b79.2 (by omega)) (by omega) (by decide)
                  refine A_ddiv d_MD_sound_256 b80.2.1 ?_
                  refine A_dstore (L' := [some (av_R (some 170)), some (av_I a1), some (av_L a2), none, some (av_L a3), none, some (av_I a4), some (av_I x3), some (av_I x4), some (av_L x20), none, some (av_L x21), none, some (av_L x24), none, some (av_L x25), none, some (av_L x27), none, some (av_L x30), none, some (av_D (FP.ddiv (FP.l2d (Int64.ofInt x34)) (FP.l2d (Int64.ofInt x36)))), none, some (av_D (FP.dsub 4611686018427387904 (FP.dmul 4616189618054758400 (FP.ddiv (FP.l2d (Int64.ofInt x34)) (FP.l2d (Int64.ofInt x36)))))), none, some (av_D (FP.ddiv (FP.l2d (Int64.ofInt a2)) (FP.l2d (Int64.ofInt a3)))), none, some (av_D (FP.ddiv (FP.l2d (Int64.ofInt x76)) (FP.l2d (Int64.ofInt x78)))), none, none, none]) d_MD_sound_257 (Nat.le_of_ble_eq_true rfl) rfl ?_
                  refine A_dconst_1 d_MD_sound_259 ?_
                  refine A_dload d_MD_sound_260 rfl ?_
                  refine A_dload d_MD_sound_262 rfl ?_
                  refine A_pc (pc' := 264) rfl ?_
                  have b81 := fp_div b68.1 (b80.2.2 0 63 (by decide) (b77.2 (by omega)) b79.1) (by omega) (by decide)
                  refine A_ddiv d_MD_sound_264 b81.2.1 ?_
                  have b82 := fp_sub (fbn_T (U := 126) fb_1 (by decide)) b81.1 (by omega) (by decide)
                  refine A_dsub d_MD_sound_265 b82.2 ?_
                  refine A_dstore (L' := [some (av_R (some 170)), some (av_I a1), some (av_L a2), none, some (av_L a3), none, some (av_I a4), some (av_I x3), some (av_I x4), some (av_L x20), none, some (av_L x21), none, some (av_L x24), none, some (av_L x25), none, some (av_L x27), none, some (av_L x30), none, some (av_D (FP.ddiv (FP.l2d (Int64.ofInt x34)) (FP.l2d (Int64.ofInt x36)))), none, some (av_D (FP.dsub 4611686018427387904 (FP.dmul 4616189618054758400 (FP.ddiv (FP.l2d (Int64.ofInt x34)) (FP.l2d (Int64.ofInt x36)))))), none, some (av_D (FP.ddiv (FP.l2d (Int64.ofInt a2)) (FP.l2d (Int64.ofInt a3)))), none, some (av_D (FP.ddiv (FP.l2d (Int64.ofInt x76)) (FP.l2d (Int64.ofInt x78)))), none, some (av_D (FP.dsub FP.dconst1 (FP.ddiv (FP.ddiv (FP.l2d (Int64.ofInt a2)) (FP.l2d (Int64.ofInt a3))) (FP.ddiv (FP.l2d (Int64.ofInt x76)) (FP.l2d (Int64.ofInt x78)))))), none]) d_MD_sound_266 (Nat.le_of_ble_eq_true rfl) rfl ?_
                  refine A_ldc2d (z := 4598175219545276416) d_MD_sound_268 cst_MD_626 ?_
                  refine A_dload d_MD_sound_271 rfl ?_
                  have b83 := fp_mul fb_q (fbn_2 b65.1) (by decide)
                  refine A_dmul d_MD_sound_273 b83.2 ?_
                  refine A_pc (pc' := 274) rfl ?_
                  refine A_dload d_MD_sound_274 rfl ?_
                  have b84 := fp_mul b83.1 (fbn_2 b82.1) (by decide)
                  refine A_dmul d_MD_sound_276 b84.2 ?_
                  exact A_dret d_MD_sound_277 (by decide) rfl ⟨_, rfl, (fbn_n (fbn_T (U := 193) b84.1 (by decide)) (by omega)), k75⟩
              · refine A_ldc2d (z := 4616189618054758400) d_MD_sound_173 cst_MD_628 ?_
                refine A_dload d_MD_sound_176 rfl ?_
                have b85 := fp_mul fb_4 b38.1 (by decide)
                refine A_dmul d_MD_sound_178 b85.2 ?_
                refine A_goto (tgt := 214) d_MD_sound_179 (by decide) ?_
                refine A_dstore (L' := [some (av_R (some 170)), some (av_I a1), some (av_L a2), none, some (av_L a3), none, some (av_I a4), some (av_I x3), some (av_I x4), some (av_L x20), none, some (av_L x21), none, some (av_L x24), none, some (av_L x25), none, some (av_L x27), none, some (av_L x30), none, some (av_D (FP.ddiv (FP.l2d (Int64.ofInt x34)) (FP.l2d (Int64.ofInt x36)))), none, some (av_D (FP.dmul 4616189618054758400 (FP.ddiv (FP.l2d (Int64.ofInt x34)) (FP.l2d (Int64.ofInt x36))))), none, none, none, none, none, none, none]) d_MD_sound_214 (Nat.le_of_ble_eq_true rfl) rfl ?_
                refine A_lload_n 2 d_MD_sound_216 rfl rfl ?_
                refine A_l2d d_MD_sound_217 ?_
                have b86 := fp_l2d a2 (by unfold i64; omega)
                refine A_lload d_MD_sound_218 rfl ?_
                refine A_l2d d_MD_sound_220 ?_
                have b87 := fp_l2d a3 (by unfold i64; omega)
                refine A_pc (pc' := 221) rfl ?_
                have b88 := fp_div b86.1 (b87.2 (by omega)) (by omega) (by decide)
                refine A_ddiv d_MD_sound_221 b88.2.1 ?_
                refine A_dstore (L' := [some (av_R (some 170)), some (av_I a1), some (av_L a2), none, some (av_L a3), none, some (av_I a4), some (av_I x3), some (av_I x4), some (av_L x20), none, some (av_L x21), none, some (av_L x24), none, some (av_L x25), none, some (av_L x27), none, some (av_L x30), none, some (av_D (FP.ddiv (FP.l2d (Int64.ofInt x34)) (FP.l2d (Int64.ofInt x36)))), none, some (av_D (FP.dmul 4616189618054758400 (FP.ddiv (FP.l2d (Int64.ofInt x34)) (FP.l2d (Int64.ofInt x36))))), none, some (av_D (FP.ddiv (FP.l2d (Int64.ofInt a2)) (FP.l2d (Int64.ofInt a3)))), none, none, none, none, none]) d_MD_sound_222 (Nat.le_of_ble_eq_true rfl) rfl ?_
                refine A_aload_n 0 d_MD_sound_224 rfl rfl ?_
                refine A_ldc2 (z := 2) d_MD_sound_225 cst_MD_452 rfl ?_
                refine A_aload_n 0 d_MD_sound_228 rfl rfl ?_
                refine A_getAv (z := some 189) T_ok d_MD_sound_229 f_MD_69 (mi_s k33.1 sf_170) (mi_r k33.1 rfm_31) ?_
                refine A_pc (pc' := 232) rfl ?_
                refine A_iload d_MD_sound_232 rfl ?_
                refine A_laloadn (lo := 0) (hi := 4294967296) d_MD_sound_234 (mi_s k33.1 sf_189) (by omega) (by omega) (mi_l k33.1 (by decide) (mq_189 _)) (fun x90 ex90 _ _ => ?_)
                have fx90 := ex90.trans (k33.2.2.2 189 _ rfl)
                have yx90 : 1 ≤ x90 ∧ x90 ≤ 1000000000 := (by have q1 := he; unfold EV at q1; omega)
                refine A_lmulv (z := (2 * x90)) d_MD_sound_235 (w64_to (by omega) (by unfold i64; omega)) ?_
                refine A_aload_n 0 d_MD_sound_236 rfl rfl ?_
                refine A_getAv (z := some 190) T_ok d_MD_sound_237 f_MD_72 (mi_s k33.1 sf_170) (mi_r k33.1 rfm_32) ?_
                refine A_iload d_MD_sound_240 rfl ?_
                refine A_pc (pc' := 242) rfl ?_
                refine A_laloadn (lo := 0) (hi := 137438953472) d_MD_sound_242 (mi_s k33.1 sf_190) (by omega) (by omega) (mi_l k33.1 (by decide) (mq_190 _)) (fun x92 ex92 _ _ => ?_)
                have fx92 := ex92.trans (k33.2.2.2 190 _ rfl)
                have yx92 : 1 ≤ x92 ∧ x92 ≤ 1000000 := (by have q1 := he; unfold EV at q1; omega)
                refine A_callV2 m_MD_fraction T_ok d_MD_sound_243 l_MD_391 k_MD_fraction (mi_s k33.1 sf_170) rfl (by decide +kernel) (by decide) (Nat.le_of_ble_eq_true rfl) (s_MD_fraction k33.1 (by omega) (by omega) (by omega) (by omega)) (fun r h93 hq => ?_)
                obtain ⟨rfl, xk94, k94⟩ := hq
                have k95 := kM_t k33 k94 (pm_s (by decide) (by decide))
                refine A_aload_n 0 d_MD_sound_246 rfl rfl ?_
                refine A_getLf T_ok d_MD_sound_247 f_MD_385 (mi_s k95.1 sf_170) (fun x96 ex96 _ _ => ?_)
                have ytx96 : 1 ≤ x96 ∧ x96 ≤ 2000000000 := (by omega)
                refine A_l2d d_MD_sound_250 ?_
                have b97 := fp_l2d x96 (by unfold i64; omega)
                refine A_aload_n 0 d_MD_sound_251 rfl rfl ?_
                refine A_getLf T_ok d_MD_sound_252 f_MD_388 (mi_s k95.1 sf_170) (fun x98 ex98 _ _ => ?_)
                have ytx98 : 1 ≤ x98 ∧ x98 ≤ 1000000 := (by omega)
                refine A_pc (pc' := 255) rfl ?_
                refine A_l2d d_MD_sound_255 ?_
                have b99 := fp_l2d x98 (by unfold i64; omega)
                have b100 := fp_div b97.1 (b99.2 (by omega)) (by omega) (by decide)
                refine A_ddiv d_MD_sound_256 b100.2.1 ?_
                refine A_dstore (L' := [some (av_R (some 170)), some (av_I a1), some (av_L a2), none, some (av_L a3), none, some (av_I a4), some (av_I x3), some (av_I x4), some (av_L x20), none, some (av_L x21), none, some (av_L x24), none, some (av_L x25), none, some (av_L x27), none, some (av_L x30), none, some (av_D (FP.ddiv (FP.l2d (Int64.ofInt x34)) (FP.l2d (Int64.ofInt x36)))), none, some (av_D (FP.dmul 4616189618054758400 (FP.ddiv (FP.l2d (Int64.ofInt x34)) (FP.l2d (Int64.ofInt x36))))), none, some (av_D (FP.ddiv (FP.l2d (Int64.ofInt a2)) (FP.l2d (Int64.ofInt a3)))), none, some (av_D (FP.ddiv (FP.l2d (Int64.ofInt x96)) (FP.l2d (Int64.ofInt x98)))), none, none, none]) d_MD_sound_257 (Nat.le_of_ble_eq_true rfl) rfl ?_
                refine A_dconst_1 d_MD_sound_259 ?_
                refine A_dload d_MD_sound_260 rfl ?_
                refine A_dload d_MD_sound_262 rfl ?_
                refine A_pc (pc' := 264) rfl ?_
                have b101 := fp_div b88.1 (b100.2.2 0 63 (by decide) (b97.2 (by omega)) b99.1) (by omega) (by decide)
                refine A_ddiv d_MD_sound_264 b101.2.1 ?_
                have b102 := fp_sub (fbn_T (U := 126) fb_1 (by decide)) b101.1 (by omega) (by decide)
                refine A_dsub d_MD_sound_265 b102.2 ?_
                refine A_dstore (L' := [some (av_R (some 170)), some (av_I a1), some (av_L a2), none, some (av_L a3), none, some (av_I a4), some (av_I x3), some (av_I x4), some (av_L x20), none, some (av_L x21), none, some (av_L x24), none, some (av_L x25), none, some (av_L x27), none, some (av_L x30), none, some (av_D (FP.ddiv (FP.l2d (Int64.ofInt x34)) (FP.l2d (Int64.ofInt x36)))), none, some (av_D (FP.dmul 4616189618054758400 (FP.ddiv (FP.l2d (Int64.ofInt x34)) (FP.l2d (Int64.ofInt x36))))), none, some (av_D (FP.ddiv (FP.l2d (Int64.ofInt a2)) (FP.l2d (Int64.ofInt a3)))), none, some (av_D (FP.ddiv (FP.l2d (Int64.ofInt x96)) (FP.l2d (Int64.ofInt x98)))), none, some (av_D (FP.dsub FP.dconst1 (FP.ddiv (FP.ddiv (FP.l2d (Int64.ofInt a2)) (FP.l2d (Int64.ofInt a3))) (FP.ddiv (FP.l2d (Int64.ofInt x96)) (FP.l2d (Int64.ofInt x98)))))), none]) d_MD_sound_266 (Nat.le_of_ble_eq_true rfl) rfl ?_
                refine A_ldc2d (z := 4598175219545276416) d_MD_sound_268 cst_MD_626 ?_
                refine A_dload d_MD_sound_271 rfl ?_
                have b103 := fp_mul fb_q b85.1 (by decide)
                refine A_dmul d_MD_sound_273 b103.2 ?_
                refine A_pc (pc' := 274) rfl ?_
                refine A_dload d_MD_sound_274 rfl ?_
                have b104 := fp_mul b103.1 (fbn_2 b102.1) (by decide)
                refine A_dmul d_MD_sound_276 b104.2 ?_
                exact A_dret d_MD_sound_277 (by decide) rfl ⟨_, rfl, (fbn_n (fbn_T (U := 193) b104.1 (by decide)) (by omega)), k95⟩
            · have yp := p2_s (i := i15 + 2) (by omega)
              have yq := p2_2 (i := i15 + 2) (by omega) (by omega)
              have yr : i14 ≤ 64 := (by omega)
              rw [show i15 + 2 + 1 = i15 + 1 + 2 by omega] at yp
              refine A_ldc2 (z := 2) d_MD_sound_71 cst_MD_452 rfl ?_
              refine A_lload d_MD_sound_74 rfl ?_
              refine A_lmulv (z := (2 * i14)) d_MD_sound_76 (w64_to (by omega) (by unfold i64; omega)) ?_
              refine A_lstore (L' := [some (av_R (some 170)), some (av_I a1), some (av_L a2), none, some (av_L a3), none, some (av_I a4), some (av_I x3), some (av_I x4), some (av_L i11), none, some (av_L (2 * i14)), none, some (av_I i15), none, none, none, none, none, none, none, none, none, none, none, none, none, none, none, none, none]) d_MD_sound_77 (Nat.le_of_ble_eq_true rfl) rfl ?_
              refine A_iincv (z := (i15 + 1)) (L' := [some (av_R (some 170)), some (av_I a1), some (av_L a2), none, some (av_L a3), none, some (av_I a4), some (av_I x3), some (av_I x4), some (av_L i11), none, some (av_L (2 * i14)), none, some (av_I (i15 + 1)), none, none, none, none, none, none, none, none, none, none, none, none, none, none, none, none, none]) d_MD_sound_79 rfl (w32_to (by omega) (by unfold i32; omega)) rfl ?_
              refine A_pc (pc' := 82) rfl ?_
              refine A_goto (tgt := 66) d_MD_sound_82 (by decide) ?_
              exact ih66 (2 * i14) (i15 + 1) (by omega) (by omega) (by omega) (by omega) (by have q0 := p2_1 (i := (i15 + 1) + 2); omega) (by omega)
        exact lp66 _ x10 x4 (by omega) (by omega) (by omega) (by omega) (by have q0 := p2_1 (i := x4 + 2); omega) (Nat.lt_succ_self _)
      · have yp := p2_s (i := i12) (by omega)
        have yq := p2_le (i := i12) (by omega)
        have yr : i11 ≤ 184320 := (by omega)
        refine A_ldc2 (z := 2) d_MD_sound_48 cst_MD_452 rfl ?_
        refine A_lload d_MD_sound_51 rfl ?_
        refine A_lmulv (z := (2 * i11)) d_MD_sound_53 (w64_to (by omega) (by unfold i64; omega)) ?_
        refine A_lstore (L' := [some (av_R (some 170)), some (av_I a1), some (av_L a2), none, some (av_L a3), none, some (av_I a4), some (av_I x3), some (av_I x4), some (av_L (2 * i11)), none, some (av_L x10), none, some (av_I i12), none, none, none, none, none, none, none, none, none, none, none, none, none, none, none, none, none]) d_MD_sound_54 (Nat.le_of_ble_eq_true rfl) rfl ?_
        refine A_iincv (z := (i12 + 1)) (L' := [some (av_R (some 170)), some (av_I a1), some (av_L a2), none, some (av_L a3), none, some (av_I a4), some (av_I x3), some (av_I x4), some (av_L (2 * i11)), none, some (av_L x10), none, some (av_I (i12 + 1)), none, none, none, none, none, none, none, none, none, none, none, none, none, none, none, none, none]) d_MD_sound_56 rfl (w32_to (by omega) (by unfold i32; omega)) rfl ?_
        refine A_pc (pc' := 59) rfl ?_
        refine A_goto (tgt := 41) d_MD_sound_59 (by decide) ?_
        exact ih41 (2 * i11) (i12 + 1) (by omega) (by omega) (by omega) (by omega) (by have q0 := p2_0; omega) (by omega)
  exact lp41 _ (16 * x7) 0 (by omega) (by omega) (by omega) (by omega) (by have q0 := p2_0; omega) (Nat.lt_succ_self _)
