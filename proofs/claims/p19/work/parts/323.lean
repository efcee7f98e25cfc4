/-! ===== the reference's methods, 323 ===== -/
def m_MD_next : mr_T := (⟨"PlainMusicModel", "next", "()Z"⟩, prog_14_method_10_code, 4, some .boolean)
theorem d_MD_next_0 : decode prog_14_method_10_code 0 = .ok (.iconst 0, 1) := by decide +kernel
theorem d_MD_next_1 : decode prog_14_method_10_code 1 = .ok (.istore_n 1, 1) := by decide +kernel
theorem d_MD_next_2 : decode prog_14_method_10_code 2 = .ok (.aload_n 0, 1) := by decide +kernel
theorem d_MD_next_3 : decode prog_14_method_10_code 3 = .ok (.getfield 252, 3) := by decide +kernel
theorem d_MD_next_6 : decode prog_14_method_10_code 6 = .ok (.aload_n 0, 1) := by decide +kernel
theorem d_MD_next_7 : decode prog_14_method_10_code 7 = .ok (.getfield 249, 3) := by decide +kernel
theorem d_MD_next_10 : decode prog_14_method_10_code 10 = .ok (.if_icmp .ge 128, 3) := by decide +kernel
theorem d_MD_next_138 : decode prog_14_method_10_code 138 = .ok (.aload_n 0, 1) := by decide +kernel
theorem d_MD_next_139 : decode prog_14_method_10_code 139 = .ok (.aload_n 0, 1) := by decide +kernel
theorem d_MD_next_140 : decode prog_14_method_10_code 140 = .ok (.getfield 252, 3) := by decide +kernel
theorem d_MD_next_143 : decode prog_14_method_10_code 143 = .ok (.putfield 242, 3) := by decide +kernel
theorem d_MD_next_146 : decode prog_14_method_10_code 146 = .ok (.aload_n 0, 1) := by decide +kernel
theorem d_MD_next_147 : decode prog_14_method_10_code 147 = .ok (.getfield 252, 3) := by decide +kernel
theorem d_MD_next_150 : decode prog_14_method_10_code 150 = .ok (.aload_n 0, 1) := by decide +kernel
theorem d_MD_next_151 : decode prog_14_method_10_code 151 = .ok (.getfield 249, 3) := by decide +kernel
theorem d_MD_next_154 : decode prog_14_method_10_code 154 = .ok (.if_icmp .ne 10, 3) := by decide +kernel
theorem d_MD_next_164 : decode prog_14_method_10_code 164 = .ok (.aload_n 0, 1) := by decide +kernel
theorem d_MD_next_165 : decode prog_14_method_10_code 165 = .ok (.getfield 7, 3) := by decide +kernel
theorem d_MD_next_168 : decode prog_14_method_10_code 168 = .ok (.aload_n 0, 1) := by decide +kernel
theorem d_MD_next_169 : decode prog_14_method_10_code 169 = .ok (.getfield 252, 3) := by decide +kernel
theorem d_MD_next_172 : decode prog_14_method_10_code 172 = .ok (.iaload, 1) := by decide +kernel
theorem d_MD_next_173 : decode prog_14_method_10_code 173 = .ok (.istore_n 2, 1) := by decide +kernel
theorem d_MD_next_174 : decode prog_14_method_10_code 174 = .ok (.iload_n 2, 1) := by decide +kernel
theorem d_MD_next_175 : decode prog_14_method_10_code 175 = .ok (.bipush 65, 2) := by decide +kernel
theorem d_MD_next_177 : decode prog_14_method_10_code 177 = .ok (.if_icmp .lt 17, 3) := by decide +kernel
theorem d_MD_next_194 : decode prog_14_method_10_code 194 = .ok (.aload_n 0, 1) := by decide +kernel
theorem d_MD_next_195 : decode prog_14_method_10_code 195 = .ok (.iload_n 2, 1) := by decide +kernel
theorem d_MD_next_196 : decode prog_14_method_10_code 196 = .ok (.invokevirtual 258, 3) := by decide +kernel
theorem d_MD_next_199 : decode prog_14_method_10_code 199 = .ok (.ifCond .eq 10, 3) := by decide +kernel
theorem d_MD_next_209 : decode prog_14_method_10_code 209 = .ok (.aload_n 0, 1) := by decide +kernel
theorem d_MD_next_210 : decode prog_14_method_10_code 210 = .ok (.iload_n 2, 1) := by decide +kernel
theorem d_MD_next_211 : decode prog_14_method_10_code 211 = .ok (.invokevirtual 265, 3) := by decide +kernel
theorem d_MD_next_214 : decode prog_14_method_10_code 214 = .ok (.ifCond .eq 10, 3) := by decide +kernel
theorem d_MD_next_224 : decode prog_14_method_10_code 224 = .ok (.iload_n 2, 1) := by decide +kernel
theorem d_MD_next_225 : decode prog_14_method_10_code 225 = .ok (.bipush 59, 2) := by decide +kernel
theorem d_MD_next_227 : decode prog_14_method_10_code 227 = .ok (.if_icmp .eq 75, 3) := by decide +kernel
theorem d_MD_next_302 : decode prog_14_method_10_code 302 = .ok (.iconst 1, 1) := by decide +kernel
theorem d_MD_next_303 : decode prog_14_method_10_code 303 = .ok (.goto 4, 3) := by decide +kernel
theorem d_MD_next_307 : decode prog_14_method_10_code 307 = .ok (.istore_n 3, 1) := by decide +kernel
theorem d_MD_next_308 : decode prog_14_method_10_code 308 = .ok (.aload_n 0, 1) := by decide +kernel
theorem d_MD_next_309 : decode prog_14_method_10_code 309 = .ok (.iload_n 3, 1) := by decide +kernel
theorem d_MD_next_310 : decode prog_14_method_10_code 310 = .ok (.ifCond .eq 7, 3) := by decide +kernel
theorem d_MD_next_313 : decode prog_14_method_10_code 313 = .ok (.iconst 5, 1) := by decide +kernel
theorem d_MD_next_314 : decode prog_14_method_10_code 314 = .ok (.goto 5, 3) := by decide +kernel
theorem d_MD_next_319 : decode prog_14_method_10_code 319 = .ok (.putfield 239, 3) := by decide +kernel
theorem d_MD_next_322 : decode prog_14_method_10_code 322 = .ok (.aload_n 0, 1) := by decide +kernel
theorem d_MD_next_323 : decode prog_14_method_10_code 323 = .ok (.iload_n 2, 1) := by decide +kernel
theorem d_MD_next_324 : decode prog_14_method_10_code 324 = .ok (.putfield 271, 3) := by decide +kernel
theorem d_MD_next_327 : decode prog_14_method_10_code 327 = .ok (.aload_n 0, 1) := by decide +kernel
theorem d_MD_next_328 : decode prog_14_method_10_code 328 = .ok (.dup, 1) := by decide +kernel
theorem d_MD_next_329 : decode prog_14_method_10_code 329 = .ok (.getfield 252, 3) := by decide +kernel
theorem d_MD_next_332 : decode prog_14_method_10_code 332 = .ok (.iconst 1, 1) := by decide +kernel
theorem d_MD_next_333 : decode prog_14_method_10_code 333 = .ok (.iadd, 1) := by decide +kernel
theorem d_MD_next_334 : decode prog_14_method_10_code 334 = .ok (.putfield 252, 3) := by decide +kernel
theorem d_MD_next_337 : decode prog_14_method_10_code 337 = .ok (.iconst 1, 1) := by decide +kernel
theorem d_MD_next_338 : decode prog_14_method_10_code 338 = .ok (.ireturn, 1) := by decide +kernel
theorem d_MD_next_230 : decode prog_14_method_10_code 230 = .ok (.iload_n 2, 1) := by decide +kernel
theorem d_MD_next_231 : decode prog_14_method_10_code 231 = .ok (.bipush 58, 2) := by decide +kernel
theorem d_MD_next_233 : decode prog_14_method_10_code 233 = .ok (.if_icmp .eq 69, 3) := by decide +kernel
theorem d_MD_next_236 : decode prog_14_method_10_code 236 = .ok (.iload_n 2, 1) := by decide +kernel
theorem d_MD_next_237 : decode prog_14_method_10_code 237 = .ok (.bipush 47, 2) := by decide +kernel
theorem d_MD_next_239 : decode prog_14_method_10_code 239 = .ok (.if_icmp .eq 63, 3) := by decide +kernel
theorem d_MD_next_242 : decode prog_14_method_10_code 242 = .ok (.iload_n 2, 1) := by decide +kernel
theorem d_MD_next_243 : decode prog_14_method_10_code 243 = .ok (.bipush 124, 2) := by decide +kernel
theorem d_MD_next_245 : decode prog_14_method_10_code 245 = .ok (.if_icmp .eq 57, 3) := by decide +kernel
theorem d_MD_next_248 : decode prog_14_method_10_code 248 = .ok (.iload_n 2, 1) := by decide +kernel
theorem d_MD_next_249 : decode prog_14_method_10_code 249 = .ok (.bipush 91, 2) := by decide +kernel
theorem d_MD_next_251 : decode prog_14_method_10_code 251 = .ok (.if_icmp .eq 51, 3) := by decide +kernel
theorem d_MD_next_254 : decode prog_14_method_10_code 254 = .ok (.iload_n 2, 1) := by decide +kernel
theorem d_MD_next_255 : decode prog_14_method_10_code 255 = .ok (.bipush 93, 2) := by decide +kernel
theorem d_MD_next_257 : decode prog_14_method_10_code 257 = .ok (.if_icmp .eq 45, 3) := by decide +kernel
theorem d_MD_next_260 : decode prog_14_method_10_code 260 = .ok (.iload_n 2, 1) := by decide +kernel
theorem d_MD_next_261 : decode prog_14_method_10_code 261 = .ok (.bipush 123, 2) := by decide +kernel
theorem d_MD_next_263 : decode prog_14_method_10_code 263 = .ok (.if_icmp .eq 39, 3) := by decide +kernel
theorem d_MD_next_266 : decode prog_14_method_10_code 266 = .ok (.iload_n 2, 1) := by decide +kernel
theorem d_MD_next_267 : decode prog_14_method_10_code 267 = .ok (.bipush 125, 2) := by decide +kernel
theorem d_MD_next_269 : decode prog_14_method_10_code 269 = .ok (.if_icmp .eq 33, 3) := by decide +kernel
theorem d_MD_next_272 : decode prog_14_method_10_code 272 = .ok (.iload_n 2, 1) := by decide +kernel
theorem d_MD_next_273 : decode prog_14_method_10_code 273 = .ok (.bipush 60, 2) := by decide +kernel
theorem d_MD_next_275 : decode prog_14_method_10_code 275 = .ok (.if_icmp .eq 27, 3) := by decide +kernel
theorem d_MD_next_278 : decode prog_14_method_10_code 278 = .ok (.iload_n 2, 1) := by decide +kernel
theorem d_MD_next_279 : decode prog_14_method_10_code 279 = .ok (.bipush 62, 2) := by decide +kernel
theorem d_MD_next_281 : decode prog_14_method_10_code 281 = .ok (.if_icmp .eq 21, 3) := by decide +kernel
theorem d_MD_next_284 : decode prog_14_method_10_code 284 = .ok (.iload_n 2, 1) := by decide +kernel
theorem d_MD_next_285 : decode prog_14_method_10_code 285 = .ok (.bipush 61, 2) := by decide +kernel
theorem d_MD_next_287 : decode prog_14_method_10_code 287 = .ok (.if_icmp .eq 15, 3) := by decide +kernel
theorem d_MD_next_290 : decode prog_14_method_10_code 290 = .ok (.iload_n 2, 1) := by decide +kernel
theorem d_MD_next_291 : decode prog_14_method_10_code 291 = .ok (.bipush 46, 2) := by decide +kernel
theorem d_MD_next_293 : decode prog_14_method_10_code 293 = .ok (.if_icmp .eq 9, 3) := by decide +kernel
theorem d_MD_next_296 : decode prog_14_method_10_code 296 = .ok (.iload_n 2, 1) := by decide +kernel
theorem d_MD_next_297 : decode prog_14_method_10_code 297 = .ok (.bipush 126, 2) := by decide +kernel
theorem d_MD_next_299 : decode prog_14_method_10_code 299 = .ok (.if_icmp .ne 7, 3) := by decide +kernel
theorem d_MD_next_306 : decode prog_14_method_10_code 306 = .ok (.iconst 0, 1) := by decide +kernel
theorem d_MD_next_317 : decode prog_14_method_10_code 317 = .ok (.bipush 6, 2) := by decide +kernel
theorem d_MD_next_217 : decode prog_14_method_10_code 217 = .ok (.aload_n 0, 1) := by decide +kernel
theorem d_MD_next_218 : decode prog_14_method_10_code 218 = .ok (.invokevirtual 268, 3) := by decide +kernel
theorem k_MD_number : mt_OK m_MD_number 0 1 := ⟨gwi_1873, gwi_146, ⟨by decide +kernel, by decide +kernel, by decide +kernel⟩, fun h => absurd h (by decide), fun _ => ⟨gwi_1872, gwi_68⟩, fun h => absurd h (by decide)⟩
theorem l_MD_268 : ml_OK "PlainMusicModel" 268 ⟨"PlainMusicModel", "number", "()V"⟩ := Or.inl gwi_1870
theorem d_MD_next_221 : decode prog_14_method_10_code 221 = .ok (.goto 116, 3) := by decide +kernel
theorem d_MD_next_202 : decode prog_14_method_10_code 202 = .ok (.aload_n 0, 1) := by decide +kernel
theorem d_MD_next_203 : decode prog_14_method_10_code 203 = .ok (.invokevirtual 262, 3) := by decide +kernel
theorem k_MD_word : mt_OK m_MD_word 0 1 := ⟨gwi_1859, gwi_146, ⟨by decide +kernel, by decide +kernel, by decide +kernel⟩, fun h => absurd h (by decide), fun _ => ⟨gwi_1858, gwi_66⟩, fun h => absurd h (by decide)⟩
theorem l_MD_262 : ml_OK "PlainMusicModel" 262 ⟨"PlainMusicModel", "word", "()V"⟩ := Or.inl gwi_1856
theorem d_MD_next_206 : decode prog_14_method_10_code 206 = .ok (.goto 131, 3) := by decide +kernel
theorem d_MD_next_180 : decode prog_14_method_10_code 180 = .ok (.iload_n 2, 1) := by decide +kernel
theorem d_MD_next_181 : decode prog_14_method_10_code 181 = .ok (.bipush 71, 2) := by decide +kernel
theorem d_MD_next_183 : decode prog_14_method_10_code 183 = .ok (.if_icmp .gt 11, 3) := by decide +kernel
theorem d_MD_next_186 : decode prog_14_method_10_code 186 = .ok (.aload_n 0, 1) := by decide +kernel
theorem d_MD_next_187 : decode prog_14_method_10_code 187 = .ok (.iload_n 2, 1) := by decide +kernel
theorem d_MD_next_188 : decode prog_14_method_10_code 188 = .ok (.invokevirtual 255, 3) := by decide +kernel
theorem k_MD_pitch : mt_OK m_MD_pitch 1 1 := ⟨gwi_1843, gwi_146, ⟨by decide +kernel, by decide +kernel, by decide +kernel⟩, fun h => absurd h (by decide), fun _ => ⟨gwi_1842, gwi_62⟩, fun h => absurd h (by decide)⟩
theorem l_MD_255 : ml_OK "PlainMusicModel" 255 ⟨"PlainMusicModel", "pitch", "(I)V"⟩ := Or.inl gwi_1840
theorem d_MD_next_191 : decode prog_14_method_10_code 191 = .ok (.goto 146, 3) := by decide +kernel
theorem d_MD_next_157 : decode prog_14_method_10_code 157 = .ok (.aload_n 0, 1) := by decide +kernel
theorem d_MD_next_158 : decode prog_14_method_10_code 158 = .ok (.iconst 0, 1) := by decide +kernel
theorem d_MD_next_159 : decode prog_14_method_10_code 159 = .ok (.putfield 239, 3) := by decide +kernel
theorem d_MD_next_162 : decode prog_14_method_10_code 162 = .ok (.iconst 1, 1) := by decide +kernel
theorem d_MD_next_163 : decode prog_14_method_10_code 163 = .ok (.ireturn, 1) := by decide +kernel
theorem d_MD_next_13 : decode prog_14_method_10_code 13 = .ok (.iload_n 1, 1) := by decide +kernel
theorem d_MD_next_14 : decode prog_14_method_10_code 14 = .ok (.ifCond .ne 73, 3) := by decide +kernel
theorem d_MD_next_87 : decode prog_14_method_10_code 87 = .ok (.aload_n 0, 1) := by decide +kernel
theorem d_MD_next_88 : decode prog_14_method_10_code 88 = .ok (.getfield 7, 3) := by decide +kernel
theorem d_MD_next_91 : decode prog_14_method_10_code 91 = .ok (.aload_n 0, 1) := by decide +kernel
theorem d_MD_next_92 : decode prog_14_method_10_code 92 = .ok (.getfield 252, 3) := by decide +kernel
theorem d_MD_next_95 : decode prog_14_method_10_code 95 = .ok (.iaload, 1) := by decide +kernel
theorem d_MD_next_96 : decode prog_14_method_10_code 96 = .ok (.bipush 10, 2) := by decide +kernel
theorem d_MD_next_98 : decode prog_14_method_10_code 98 = .ok (.if_icmp .eq 25, 3) := by decide +kernel
theorem d_MD_next_123 : decode prog_14_method_10_code 123 = .ok (.iconst 0, 1) := by decide +kernel
theorem d_MD_next_124 : decode prog_14_method_10_code 124 = .ok (.istore_n 1, 1) := by decide +kernel
theorem d_MD_next_125 : decode prog_14_method_10_code 125 = .ok (.aload_n 0, 1) := by decide +kernel
theorem d_MD_next_126 : decode prog_14_method_10_code 126 = .ok (.dup, 1) := by decide +kernel
theorem d_MD_next_127 : decode prog_14_method_10_code 127 = .ok (.getfield 252, 3) := by decide +kernel
theorem d_MD_next_130 : decode prog_14_method_10_code 130 = .ok (.iconst 1, 1) := by decide +kernel
theorem d_MD_next_131 : decode prog_14_method_10_code 131 = .ok (.iadd, 1) := by decide +kernel
theorem d_MD_next_132 : decode prog_14_method_10_code 132 = .ok (.putfield 252, 3) := by decide +kernel
theorem d_MD_next_135 : decode prog_14_method_10_code 135 = .ok (.goto (-133), 3) := by decide +kernel
theorem d_MD_next_101 : decode prog_14_method_10_code 101 = .ok (.iload_n 1, 1) := by decide +kernel
theorem d_MD_next_102 : decode prog_14_method_10_code 102 = .ok (.ifCond .ne 17, 3) := by decide +kernel
theorem d_MD_next_119 : decode prog_14_method_10_code 119 = .ok (.iconst 1, 1) := by decide +kernel
theorem d_MD_next_120 : decode prog_14_method_10_code 120 = .ok (.goto 4, 3) := by decide +kernel
theorem d_MD_next_17 : decode prog_14_method_10_code 17 = .ok (.aload_n 0, 1) := by decide +kernel
theorem d_MD_next_18 : decode prog_14_method_10_code 18 = .ok (.getfield 7, 3) := by decide +kernel
theorem d_MD_next_21 : decode prog_14_method_10_code 21 = .ok (.aload_n 0, 1) := by decide +kernel
theorem d_MD_next_22 : decode prog_14_method_10_code 22 = .ok (.getfield 252, 3) := by decide +kernel
theorem d_MD_next_25 : decode prog_14_method_10_code 25 = .ok (.iaload, 1) := by decide +kernel
theorem d_MD_next_26 : decode prog_14_method_10_code 26 = .ok (.bipush 9, 2) := by decide +kernel
theorem d_MD_next_28 : decode prog_14_method_10_code 28 = .ok (.if_icmp .eq 59, 3) := by decide +kernel
theorem d_MD_next_105 : decode prog_14_method_10_code 105 = .ok (.aload_n 0, 1) := by decide +kernel
theorem d_MD_next_106 : decode prog_14_method_10_code 106 = .ok (.getfield 7, 3) := by decide +kernel
theorem d_MD_next_109 : decode prog_14_method_10_code 109 = .ok (.aload_n 0, 1) := by decide +kernel
theorem d_MD_next_110 : decode prog_14_method_10_code 110 = .ok (.getfield 252, 3) := by decide +kernel
theorem d_MD_next_113 : decode prog_14_method_10_code 113 = .ok (.iaload, 1) := by decide +kernel
theorem d_MD_next_114 : decode prog_14_method_10_code 114 = .ok (.bipush 37, 2) := by decide +kernel
theorem d_MD_next_116 : decode prog_14_method_10_code 116 = .ok (.if_icmp .ne 7, 3) := by decide +kernel
theorem d_MD_next_31 : decode prog_14_method_10_code 31 = .ok (.aload_n 0, 1) := by decide +kernel
theorem d_MD_next_32 : decode prog_14_method_10_code 32 = .ok (.getfield 7, 3) := by decide +kernel
theorem d_MD_next_35 : decode prog_14_method_10_code 35 = .ok (.aload_n 0, 1) := by decide +kernel
theorem d_MD_next_36 : decode prog_14_method_10_code 36 = .ok (.getfield 252, 3) := by decide +kernel
theorem d_MD_next_39 : decode prog_14_method_10_code 39 = .ok (.iaload, 1) := by decide +kernel
theorem d_MD_next_40 : decode prog_14_method_10_code 40 = .ok (.bipush 10, 2) := by decide +kernel
theorem d_MD_next_42 : decode prog_14_method_10_code 42 = .ok (.if_icmp .eq 45, 3) := by decide +kernel
theorem d_MD_next_45 : decode prog_14_method_10_code 45 = .ok (.aload_n 0, 1) := by decide +kernel
theorem d_MD_next_46 : decode prog_14_method_10_code 46 = .ok (.getfield 7, 3) := by decide +kernel
theorem d_MD_next_49 : decode prog_14_method_10_code 49 = .ok (.aload_n 0, 1) := by decide +kernel
theorem d_MD_next_50 : decode prog_14_method_10_code 50 = .ok (.getfield 252, 3) := by decide +kernel
theorem d_MD_next_53 : decode prog_14_method_10_code 53 = .ok (.iaload, 1) := by decide +kernel
theorem d_MD_next_54 : decode prog_14_method_10_code 54 = .ok (.bipush 13, 2) := by decide +kernel
theorem d_MD_next_56 : decode prog_14_method_10_code 56 = .ok (.if_icmp .eq 31, 3) := by decide +kernel
theorem d_MD_next_59 : decode prog_14_method_10_code 59 = .ok (.aload_n 0, 1) := by decide +kernel
theorem d_MD_next_60 : decode prog_14_method_10_code 60 = .ok (.getfield 7, 3) := by decide +kernel
theorem d_MD_next_63 : decode prog_14_method_10_code 63 = .ok (.aload_n 0, 1) := by decide +kernel
theorem d_MD_next_64 : decode prog_14_method_10_code 64 = .ok (.getfield 252, 3) := by decide +kernel
theorem d_MD_next_67 : decode prog_14_method_10_code 67 = .ok (.iaload, 1) := by decide +kernel
theorem d_MD_next_68 : decode prog_14_method_10_code 68 = .ok (.bipush 32, 2) := by decide +kernel
theorem d_MD_next_70 : decode prog_14_method_10_code 70 = .ok (.if_icmp .eq 17, 3) := by decide +kernel
theorem d_MD_next_73 : decode prog_14_method_10_code 73 = .ok (.aload_n 0, 1) := by decide +kernel
theorem d_MD_next_74 : decode prog_14_method_10_code 74 = .ok (.getfield 7, 3) := by decide +kernel
theorem d_MD_next_77 : decode prog_14_method_10_code 77 = .ok (.aload_n 0, 1) := by decide +kernel
theorem d_MD_next_78 : decode prog_14_method_10_code 78 = .ok (.getfield 252, 3) := by decide +kernel
theorem d_MD_next_81 : decode prog_14_method_10_code 81 = .ok (.iaload, 1) := by decide +kernel
theorem d_MD_next_82 : decode prog_14_method_10_code 82 = .ok (.bipush 37, 2) := by decide +kernel
theorem d_MD_next_84 : decode prog_14_method_10_code 84 = .ok (.if_icmp .ne 54, 3) := by decide +kernel
def m_MD_isSign : mr_T := (⟨"PlainMusicModel", "isSign", "(I)Z"⟩, prog_14_method_15_code, 2, some .boolean)
theorem d_MD_isSign_0 : decode prog_14_method_15_code 0 = .ok (.aload_n 0, 1) := by decide +kernel
theorem d_MD_isSign_1 : decode prog_14_method_15_code 1 = .ok (.getfield 239, 3) := by decide +kernel
theorem d_MD_isSign_4 : decode prog_14_method_15_code 4 = .ok (.iconst 5, 1) := by decide +kernel
theorem d_MD_isSign_5 : decode prog_14_method_15_code 5 = .ok (.if_icmp .ne 15, 3) := by decide +kernel
theorem d_MD_isSign_20 : decode prog_14_method_15_code 20 = .ok (.iconst 0, 1) := by decide +kernel
theorem d_MD_isSign_21 : decode prog_14_method_15_code 21 = .ok (.ireturn, 1) := by decide +kernel
theorem d_MD_isSign_8 : decode prog_14_method_15_code 8 = .ok (.aload_n 0, 1) := by decide +kernel
theorem d_MD_isSign_9 : decode prog_14_method_15_code 9 = .ok (.getfield 271, 3) := by decide +kernel
theorem d_MD_isSign_12 : decode prog_14_method_15_code 12 = .ok (.iload_n 1, 1) := by decide +kernel
theorem d_MD_isSign_13 : decode prog_14_method_15_code 13 = .ok (.if_icmp .ne 7, 3) := by decide +kernel
theorem d_MD_isSign_16 : decode prog_14_method_15_code 16 = .ok (.iconst 1, 1) := by decide +kernel
theorem d_MD_isSign_17 : decode prog_14_method_15_code 17 = .ok (.goto 4, 3) := by decide +kernel
def m_MD_isWord : mr_T := (⟨"PlainMusicModel", "isWord", "(I)Z"⟩, prog_14_method_16_code, 2, some .boolean)
theorem d_MD_isWord_0 : decode prog_14_method_16_code 0 = .ok (.aload_n 0, 1) := by decide +kernel
theorem d_MD_isWord_1 : decode prog_14_method_16_code 1 = .ok (.getfield 239, 3) := by decide +kernel
theorem d_MD_isWord_4 : decode prog_14_method_16_code 4 = .ok (.iconst 4, 1) := by decide +kernel
theorem d_MD_isWord_5 : decode prog_14_method_16_code 5 = .ok (.if_icmp .ne 15, 3) := by decide +kernel
theorem d_MD_isWord_20 : decode prog_14_method_16_code 20 = .ok (.iconst 0, 1) := by decide +kernel
theorem d_MD_isWord_21 : decode prog_14_method_16_code 21 = .ok (.ireturn, 1) := by decide +kernel
theorem d_MD_isWord_8 : decode prog_14_method_16_code 8 = .ok (.aload_n 0, 1) := by decide +kernel
theorem d_MD_isWord_9 : decode prog_14_method_16_code 9 = .ok (.getfield 271, 3) := by decide +kernel
theorem d_MD_isWord_12 : decode prog_14_method_16_code 12 = .ok (.iload_n 1, 1) := by decide +kernel
theorem d_MD_isWord_13 : decode prog_14_method_16_code 13 = .ok (.if_icmp .ne 7, 3) := by decide +kernel
theorem d_MD_isWord_16 : decode prog_14_method_16_code 16 = .ok (.iconst 1, 1) := by decide +kernel
theorem d_MD_isWord_17 : decode prog_14_method_16_code 17 = .ok (.goto 4, 3) := by decide +kernel
theorem s_MD_next {G : cx_T} {h : ah_T} (hx : mi h)  (hse : h.2.1 170 3 ≤ h.2.1 170 2) : con G 2 0 0 m_MD_next [av_R (some 170)] h (fun r h' => ∃ z, r = some (av_I z) ∧ (1 ≤ z ∧ z ≤ 1) ∧ (h.2.1 170 3 ≤ h'.2.1 170 3 ∧ h'.2.1 170 3 ≤ h.2.1 170 2 ∧ (h'.2.1 170 4 ≠ 0 → h'.2.1 170 4 ≠ 6 → h.2.1 170 3 < h'.2.1 170 3) ∧ (h'.2.1 170 4 = 0 → h'.2.1 170 3 = h.2.1 170 2)) ∧ kM (pm [3, 4, 5, 6, 7, 8, 9, 10] []) h h') := by
  refine con_of (L := [some (av_R (some 170)), none, none, none]) (by decide +kernel) (Nat.le_of_ble_eq_true rfl) rfl ?_
  have k0 : kM (pm [3, 4, 5, 6, 7, 8, 9, 10] []) h h := kM_0 hx
  obtain ⟨sd1, esd1⟩ : ∃ x, x = h.2.1 170 3 := ⟨_, rfl⟩
  have rsd1 : 0 ≤ sd1 ∧ sd1 ≤ 2000 := (by rw [esd1]; exact mi_g k0.1 (by decide) mr_170_3)
  obtain ⟨sd2, esd2⟩ : ∃ x, x = h.2.1 170 2 := ⟨_, rfl⟩
  have rsd2 : 0 ≤ sd2 ∧ sd2 ≤ 2000 := (by rw [esd2]; exact mi_g k0.1 (by decide) mr_170_2)
  refine A_iconst d_MD_next_0 rfl ?_
  refine A_istore_n 1 (L' := [some (av_R (some 170)), some (av_I 0), none, none]) d_MD_next_1 rfl (Nat.le_of_ble_eq_true rfl) rfl ?_
  have lp2 : ∀ (n : Nat) (i3 : Int) (h4 : ah_T) , 0 ≤ i3 → i3 ≤ 1 → h.2.1 170 3 ≤ h4.2.1 170 3 ∧ h4.2.1 170 3 ≤ h.2.1 170 2 → kM (pm [3, 4, 5, 6, 7, 8, 9, 10] []) h h4 → (2001 - h4.2.1 170 3).toNat < n → aw G (rm_R 2 0 0) m_MD_next 0 0 2 [some (av_R (some 170)), some (av_I i3), none, none] [] h4 (fun r h' => ∃ z, r = some (av_I z) ∧ (1 ≤ z ∧ z ≤ 1) ∧ (h.2.1 170 3 ≤ h'.2.1 170 3 ∧ h'.2.1 170 3 ≤ h.2.1 170 2 ∧ (h'.2.1 170 4 ≠ 0 → h'.2.1 170 4 ≠ 6 → h.2.1 170 3 < h'.2.1 170 3) ∧ (h'.2.1 170 4 = 0 → h'.2.1 170 3 = h.2.1 170 2)) ∧ kM (pm [3, 4, 5, 6, 7, 8, 9, 10] []) h h') := by
    intro n
    induction n with
    | zero => intro i3 h4 _ _ _ _ hm; omega
    | succ n ih2 =>
      intro i3 h4 hl0 hl1 hinv k5 hm
      obtain ⟨sd6, esd6⟩ : ∃ x, x = h4.2.1 170 3 := ⟨_, rfl⟩
      have rsd6 : 0 ≤ sd6 ∧ sd6 ≤ 2000 := (by rw [esd6]; exact mi_g k5.1 (by decide) mr_170_3)
      refine A_aload_n 0 d_MD_next_2 rfl rfl ?_
      refine A_getIv (z := sd6) T_ok d_MD_next_3 f_MD_252 (mi_s k5.1 sf_170) esd6.symm ?_
      refine A_aload_n 0 d_MD_next_6 rfl rfl ?_
      refine A_getIv (z := sd2) T_ok d_MD_next_7 f_MD_249 (mi_s k5.1 sf_170) ((k5.2.2.1 _ _ rfl).trans esd2.symm) ?_
      have jp138 : aw G (rm_R 2 0 0) m_MD_next 0 0 138 [some (av_R (some 170)), some (av_I i3), none, none] [] h4 (fun r h' => ∃ z, r = some (av_I z) ∧ (1 ≤ z ∧ z ≤ 1) ∧ (h.2.1 170 3 ≤ h'.2.1 170 3 ∧ h'.2.1 170 3 ≤ h.2.1 170 2 ∧ (h'.2.1 170 4 ≠ 0 → h'.2.1 170 4 ≠ 6 → h.2.1 170 3 < h'.2.1 170 3) ∧ (h'.2.1 170 4 = 0 → h'.2.1 170 3 = h.2.1 170 2)) ∧ kM (pm [3, 4, 5, 6, 7, 8, 9, 10] []) h h') := by
        refine A_aload_n 0 d_MD_next_138 rfl rfl ?_
        refine A_aload_n 0 d_MD_next_139 rfl rfl ?_
        refine A_getIv (z := sd6) T_ok d_MD_next_140 f_MD_252 (mi_s k5.1 sf_170) esd6.symm ?_
        refine A_putIk (KR := kM (pm [3, 4, 5, 6, 7, 8, 9, 10] []) h) T_ok d_MD_next_143 f_MD_242 (mi_s k5.1 sf_170) fin_f (kM_i k5 (by decide) (by decide) mr_170_5 (by omega) (by omega)) (fun h10 k11 eh10 => ?_)
        refine A_aload_n 0 d_MD_next_146 rfl rfl ?_
        refine A_pc (pc' := 147) rfl ?_
        refine A_getIv (z := sd6) T_ok d_MD_next_147 f_MD_252 (mi_s k11.1 sf_170) ((eh10.1 _ _ (fun _ => by decide)).trans esd6.symm) ?_
        refine A_aload_n 0 d_MD_next_150 rfl rfl ?_
        refine A_getIv (z := sd2) T_ok d_MD_next_151 f_MD_249 (mi_s k11.1 sf_170) ((eh10.1 _ _ (fun _ => by decide)).trans ((k5.2.2.1 _ _ rfl).trans esd2.symm)) ?_
        refine A_icmp_ne (tgt := 164) d_MD_next_154 (by decide) (fun c14 => ?_) (fun c14 => ?_)
        · refine A_aload_n 0 d_MD_next_164 rfl rfl ?_
          refine A_getAv (z := some 171) T_ok d_MD_next_165 f_MD_7 (mi_s k11.1 sf_170) (mi_r k11.1 rfm_0) ?_
          refine A_aload_n 0 d_MD_next_168 rfl rfl ?_
          refine A_getIv (z := sd6) T_ok d_MD_next_169 f_MD_252 (mi_s k11.1 sf_170) ((eh10.1 _ _ (fun _ => by decide)).trans esd6.symm) ?_
          refine A_ialoadn (lo := 0) (hi := 255) d_MD_next_172 (mi_s k11.1 sf_171) (by omega) (by omega) (mi_g k11.1 (by decide) (mr_171 _)) (fun x17 ex17 _ _ => ?_)
          refine A_pc (pc' := 173) rfl ?_
          refine A_istore_n 2 (L' := [some (av_R (some 170)), some (av_I i3), some (av_I x17), none]) d_MD_next_173 rfl (Nat.le_of_ble_eq_true rfl) rfl ?_
          refine A_iload_n 2 d_MD_next_174 rfl rfl ?_
          refine A_bipush d_MD_next_175 rfl ?_
          have jp194 : aw G (rm_R 2 0 0) m_MD_next 0 0 194 [some (av_R (some 170)), some (av_I i3), some (av_I x17), none] [] h10 (fun r h' => ∃ z, r = some (av_I z) ∧ (1 ≤ z ∧ z ≤ 1) ∧ (h.2.1 170 3 ≤ h'.2.1 170 3 ∧ h'.2.1 170 3 ≤ h.2.1 170 2 ∧ (h'.2.1 170 4 ≠ 0 → h'.2.1 170 4 ≠ 6 → h.2.1 170 3 < h'.2.1 170 3) ∧ (h'.2.1 170 4 = 0 → h'.2.1 170 3 = h.2.1 170 2)) ∧ kM (pm [3, 4, 5, 6, 7, 8, 9, 10] []) h h') := by
            refine A_aload_n 0 d_MD_next_194 rfl rfl ?_
            refine A_iload_n 2 d_MD_next_195 rfl rfl ?_
            have zf19 := ((eh10.1 _ _ (fun _ => by decide)).trans esd6.symm)
            have zf20 := ((eh10.1 _ _ (fun _ => by decide)).trans ((k5.2.2.1 _ _ rfl).trans esd2.symm))
            refine A_callV1 m_MD_isSmall T_ok d_MD_next_196 l_MD_258 k_MD_isSmall (mi_s k11.1 sf_170) rfl (by decide +kernel) (by decide) (Nat.le_of_ble_eq_true rfl) (s_MD_isSmall k11.1 ) (fun r h18 hq => ?_)
            obtain ⟨x22, rfl, bx22, xx22, rfl⟩ := hq
            refine A_if_eq (tgt := 209) d_MD_next_199 (by decide) (fun c23 => ?_) (fun c23 => ?_)
            · refine A_aload_n 0 d_MD_next_209 rfl rfl ?_
              refine A_iload_n 2 d_MD_next_210 rfl rfl ?_
              have zf25 := ((eh10.1 _ _ (fun _ => by decide)).trans esd6.symm)
              have zf26 := ((eh10.1 _ _ (fun _ => by decide)).trans ((k5.2.2.1 _ _ rfl).trans esd2.symm))
              refine A_callV1 m_MD_isDigit T_ok d_MD_next_211 l_MD_265 k_MD_isDigit (mi_s k11.1 sf_170) rfl (by decide +kernel) (by decide) (Nat.le_of_ble_eq_true rfl) (s_MD_isDigit k11.1 ) (fun r h24 hq => ?_)
              obtain ⟨x28, rfl, bx28, xx28, rfl⟩ := hq
              refine A_if_eq (tgt := 224) d_MD_next_214 (by decide) (fun c29 => ?_) (fun c29 => ?_)
              · refine A_iload_n 2 d_MD_next_224 rfl rfl ?_
                refine A_bipush d_MD_next_225 rfl ?_
                have jp302 : aw G (rm_R 2 0 0) m_MD_next 0 0 302 [some (av_R (some 170)), some (av_I i3), some (av_I x17), none] [] h10 (fun r h' => ∃ z, r = some (av_I z) ∧ (1 ≤ z ∧ z ≤ 1) ∧ (h.2.1 170 3 ≤ h'.2.1 170 3 ∧ h'.2.1 170 3 ≤ h.2.1 170 2 ∧ (h'.2.1 170 4 ≠ 0 → h'.2.1 170 4 ≠ 6 → h.2.1 170 3 < h'.2.1 170 3) ∧ (h'.2.1 170 4 = 0 → h'.2.1 170 3 = h.2.1 170 2)) ∧ kM (pm [3, 4, 5, 6, 7, 8, 9, 10] []) h h') := by
                  refine A_iconst d_MD_next_302 rfl ?_
                  refine A_goto (tgt := 307) d_MD_next_303 (by decide) ?_
                  refine A_istore_n 3 (L' := [some (av_R (some 170)), some (av_I i3), some (av_I x17), some (av_I 1)]) d_MD_next_307 rfl (Nat.le_of_ble_eq_true rfl) rfl ?_
                  refine A_aload_n 0 d_MD_next_308 rfl rfl ?_
                  refine A_iload_n 3 d_MD_next_309 rfl rfl ?_
                  refine A_if_eq (tgt := 317) d_MD_next_310 (by decide) (fun c => absurd c (by decide)) (fun _ => ?_)
                  refine A_iconst d_MD_next_313 rfl ?_
                  refine A_goto (tgt := 319) d_MD_next_314 (by decide) ?_
                  refine A_putIk (KR := kM (pm [3, 4, 5, 6, 7, 8, 9, 10] []) h) T_ok d_MD_next_319 f_MD_239 (mi_s k11.1 sf_170) fin_f (kM_i k11 (by decide) (by decide) mr_170_4 (by omega) (by omega)) (fun h31 k32 eh31 => ?_)
                  refine A_aload_n 0 d_MD_next_322 rfl rfl ?_
                  refine A_iload_n 2 d_MD_next_323 rfl rfl ?_
                  refine A_putIk (KR := kM (pm [3, 4, 5, 6, 7, 8, 9, 10] []) h) T_ok d_MD_next_324 f_MD_271 (mi_s k32.1 sf_170) fin_f (kM_i k32 (by decide) (by decide) mr_170_6 (by omega) (by omega)) (fun h33 k34 eh33 => ?_)
                  refine A_aload_n 0 d_MD_next_327 rfl rfl ?_
                  refine A_pc (pc' := 328) rfl ?_
                  refine A_dupR d_MD_next_328 ?_
                  refine A_getIv (z := sd6) T_ok d_MD_next_329 f_MD_252 (mi_s k34.1 sf_170) ((eh33.1 _ _ (fun _ => by decide)).trans ((eh31.1 _ _ (fun _ => by decide)).trans ((eh10.1 _ _ (fun _ => by decide)).trans esd6.symm))) ?_
                  refine A_iconst d_MD_next_332 rfl ?_
                  refine A_iaddv (z := (sd6 + 1)) d_MD_next_333 (w32_to (by omega) (by unfold i32; omega)) ?_
                  refine A_putIk (KR := kM (pm [3, 4, 5, 6, 7, 8, 9, 10] []) h) T_ok d_MD_next_334 f_MD_252 (mi_s k34.1 sf_170) fin_f (kM_i k34 (by decide) (by decide) mr_170_3 (by omega) (by omega)) (fun h36 k37 eh36 => ?_)
                  refine A_iconst d_MD_next_337 rfl ?_
                  refine A_pc (pc' := 338) rfl ?_
                  exact A_zret d_MD_next_338 (by decide) rfl (by omega) ⟨_, rfl, ⟨by omega, by omega⟩, (by have qq0 := eh36.2.1; have qq1 := ((eh36.1 _ _ (fun _ => by decide)).trans ((eh33.1 _ _ (fun _ => by decide)).trans ((eh31.1 _ _ (fun _ => by decide)).trans ((eh10.1 _ _ (fun _ => by decide)).trans ((k5.2.2.1 _ _ rfl).trans esd2.symm))))); have qq2 := ((eh36.1 _ _ (fun _ => by decide)).trans ((eh33.1 _ _ (fun _ => by decide)).trans eh31.2.1)); exact ⟨by omega, by omega, by omega, by omega⟩), k37⟩
                have jp307 : ∀ (j38 : Int) , 0 ≤ j38 → j38 ≤ 1 → aw G (rm_R 2 0 0) m_MD_next 0 0 307 [some (av_R (some 170)), some (av_I i3), some (av_I x17), none] [av_I j38] h10 (fun r h' => ∃ z, r = some (av_I z) ∧ (1 ≤ z ∧ z ≤ 1) ∧ (h.2.1 170 3 ≤ h'.2.1 170 3 ∧ h'.2.1 170 3 ≤ h.2.1 170 2 ∧ (h'.2.1 170 4 ≠ 0 → h'.2.1 170 4 ≠ 6 → h.2.1 170 3 < h'.2.1 170 3) ∧ (h'.2.1 170 4 = 0 → h'.2.1 170 3 = h.2.1 170 2)) ∧ kM (pm [3, 4, 5, 6, 7, 8, 9, 10] []) h h') := by
                  intro j38  _ _ 
                  refine A_istore_n 3 (L' := [some (av_R (some 170)), some (av_I i3), some (av_I x17), some (av_I j38)]) d_MD_next_307 rfl (Nat.le_of_ble_eq_true rfl) rfl ?_
                  refine A_aload_n 0 d_MD_next_308 rfl rfl ?_
                  refine A_iload_n 3 d_MD_next_309 rfl rfl ?_
                  have jp319 : ∀ (j39 : Int) , 5 ≤ j39 → j39 ≤ 6 → aw G (rm_R 2 0 0) m_MD_next 0 0 319 [some (av_R (some 170)), some (av_I i3), some (av_I x17), some (av_I j38)] [av_I j39, av_R (some 170)] h10 (fun r h' => ∃ z, r = some (av_I z) ∧ (1 ≤ z ∧ z ≤ 1) ∧ (h.2.1 170 3 ≤ h'.2.1 170 3 ∧ h'.2.1 170 3 ≤ h.2.1 170 2 ∧ (h'.2.1 170 4 ≠ 0 → h'.2.1 170 4 ≠ 6 → h.2.1 170 3 < h'.2.1 170 3) ∧ (h'.2.1 170 4 = 0 → h'.2.1 170 3 = h.2.1 170 2)) ∧ kM (pm [3, 4, 5, 6, 7, 8, 9, 10] []) h h') := by
                    intro j39  _ _ 
                    refine A_putIk (KR := kM (pm [3, 4, 5, 6, 7, 8, 9, 10] []) h) T_ok d_MD_next_319 f_MD_239 (mi_s k11.1 sf_170) fin_f (kM_i k11 (by decide) (by decide) mr_170_4 (by omega) (by omega)) (fun h40 k41 eh40 => ?_)
                    refine A_aload_n 0 d_MD_next_322 rfl rfl ?_
                    refine A_iload_n 2 d_MD_next_323 rfl rfl ?_
                    refine A_putIk (KR := kM (pm [3, 4, 5, 6, 7, 8, 9, 10] []) h) T_ok d_MD_next_324 f_MD_271 (mi_s k41.1 sf_170) fin_f (kM_i k41 (by decide) (by decide) mr_170_6 (by omega) (by omega)) (fun h42 k43 eh42 => ?_)
                    refine A_aload_n 0 d_MD_next_327 rfl rfl ?_
                    refine A_pc (pc' := 328) rfl ?_
                    refine A_dupR d_MD_next_328 ?_
                    refine A_getIv (z := sd6) T_ok d_MD_next_329 f_MD_252 (mi_s k43.1 sf_170) ((eh42.1 _ _ (fun _ => by decide)).trans ((eh40.1 _ _ (fun _ => by decide)).trans ((eh10.1 _ _ (fun _ => by decide)).trans esd6.symm))) ?_
                    refine A_iconst d_MD_next_332 rfl ?_
                    refine A_iaddv (z := (sd6 + 1)) d_MD_next_333 (w32_to (by omega) (by unfold i32; omega)) ?_
                    refine A_putIk (KR := kM (pm [3, 4, 5, 6, 7, 8, 9, 10] []) h) T_ok d_MD_next_334 f_MD_252 (mi_s k43.1 sf_170) fin_f (kM_i k43 (by decide) (by decide) mr_170_3 (by omega) (by omega)) (fun h45 k46 eh45 => ?_)
                    refine A_iconst d_MD_next_337 rfl ?_
                    refine A_pc (pc' := 338) rfl ?_
                    exact A_zret d_MD_next_338 (by decide) rfl (by omega) ⟨_, rfl, ⟨by omega, by omega⟩, (by have qq0 := eh45.2.1; have qq1 := ((eh45.1 _ _ (fun _ => by decide)).trans ((eh42.1 _ _ (fun _ => by decide)).trans ((eh40.1 _ _ (fun _ => by decide)).trans ((eh10.1 _ _ (fun _ => by decide)).trans ((k5.2.2.1 _ _ rfl).trans esd2.symm))))); have qq2 := ((eh45.1 _ _ (fun _ => by decide)).trans ((eh42.1 _ _ (fun _ => by decide)).trans eh40.2.1)); exact ⟨by omega, by omega, by omega, by omega⟩), k46⟩
                  refine A_if_eq (tgt := 317) d_MD_next_310 (by decide) (fun c47 => ?_) (fun c47 => ?_)
                  · refine A_bipush d_MD_next_317 rfl ?_
                    refine A_pc (pc' := 319) rfl ?_
                    exact jp319 6 (by omega) (by omega)
                  · refine A_iconst d_MD_next_313 rfl ?_
                    refine A_goto (tgt := 319) d_MD_next_314 (by decide) ?_
                    refine A_pc (pc' := 319) rfl ?_
                    exact jp319 5 (by omega) (by omega)
                refine A_icmp_eq (tgt := 302) d_MD_next_227 (by decide) (fun c48 => ?_) (fun c48 => ?_)
                · refine A_pc (pc' := 302) rfl ?_
                  exact jp302 
                · refine A_iload_n 2 d_MD_next_230 rfl rfl ?_
                  refine A_bipush d_MD_next_231 rfl ?_
                  refine A_icmp_eq (tgt := 302) d_MD_next_233 (by decide) (fun c49 => ?_) (fun c49 => ?_)
                  · refine A_pc (pc' := 302) rfl ?_
                    exact jp302 
                  · refine A_iload_n 2 d_MD_next_236 rfl rfl ?_
                    refine A_bipush d_MD_next_237 rfl ?_
                    refine A_icmp_eq (tgt := 302) d_MD_next_239 (by decide) (fun c50 => ?_) (fun c50 => ?_)
                    · refine A_pc (pc' := 302) rfl ?_
                      exact jp302 
                    · refine A_iload_n 2 d_MD_next_242 rfl rfl ?_
                      refine A_bipush d_MD_next_243 rfl ?_
                      refine A_icmp_eq (tgt := 302) d_MD_next_245 (by decide) (fun c51 => ?_) (fun c51 => ?_)
                      · refine A_pc (pc' := 302) rfl ?_
                        exact jp302 
                      · refine A_iload_n 2 d_MD_next_248 rfl rfl ?_
                        refine A_bipush d_MD_next_249 rfl ?_
                        refine A_icmp_eq (tgt := 302) d_MD_next_251 (by decide) (fun c52 => ?_) (fun c52 => ?_)
                        · refine A_pc (pc' := 302) rfl ?_
                          exact jp302 
                        · refine A_iload_n 2 d_MD_next_254 rfl rfl ?_
                          refine A_bipush d_MD_next_255 rfl ?_
                          refine A_icmp_eq (tgt := 302) d_MD_next_257 (by decide) (fun c53 => ?_) (fun c53 => ?_)
                          · refine A_pc (pc' := 302) rfl ?_
                            exact jp302 
                          · refine A_iload_n 2 d_MD_next_260 rfl rfl ?_
                            refine A_bipush d_MD_next_261 rfl ?_
                            refine A_icmp_eq (tgt := 302) d_MD_next_263 (by decide) (fun c54 => ?_) (fun c54 => ?_)
                            · refine A_pc (pc' := 302) rfl ?_
                              exact jp302 
                            · refine A_iload_n 2 d_MD_next_266 rfl rfl ?_
                              refine A_bipush d_MD_next_267 rfl ?_
                              refine A_icmp_eq (tgt := 302) d_MD_next_269 (by decide) (fun c55 => ?_) (fun c55 => ?_)
                              · refine A_pc (pc' := 302) rfl ?_
                                exact jp302 
                              · refine A_iload_n 2 d_MD_next_272 rfl rfl ?_
                                refine A_bipush d_MD_next_273 rfl ?_
                                refine A_icmp_eq (tgt := 302) d_MD_next_275 (by decide) (fun c56 => ?_) (fun c56 => ?_)
                                · refine A_pc (pc' := 302) rfl ?_
                                  exact jp302 
                                · refine A_iload_n 2 d_MD_next_278 rfl rfl ?_
                                  refine A_bipush d_MD_next_279 rfl ?_
                                  refine A_icmp_eq (tgt := 302) d_MD_next_281 (by decide) (fun c57 => ?_) (fun c57 => ?_)
                                  · refine A_pc (pc' := 302) rfl ?_
                                    exact jp302 
                                  · refine A_iload_n 2 d_MD_next_284 rfl rfl ?_
                                    refine A_bipush d_MD_next_285 rfl ?_
                                    refine A_icmp_eq (tgt := 302) d_MD_next_287 (by decide) (fun c58 => ?_) (fun c58 => ?_)
                                    · refine A_pc (pc' := 302) rfl ?_
                                      exact jp302 
                                    · refine A_iload_n 2 d_MD_next_290 rfl rfl ?_
                                      refine A_bipush d_MD_next_291 rfl ?_
                                      refine A_icmp_eq (tgt := 302) d_MD_next_293 (by decide) (fun c59 => ?_) (fun c59 => ?_)
                                      · refine A_pc (pc' := 302) rfl ?_
                                        exact jp302 
                                      · refine A_iload_n 2 d_MD_next_296 rfl rfl ?_
                                        refine A_bipush d_MD_next_297 rfl ?_
                                        refine A_icmp_ne (tgt := 306) d_MD_next_299 (by decide) (fun c60 => ?_) (fun c60 => ?_)
                                        · refine A_iconst d_MD_next_306 rfl ?_
                                          refine A_pc (pc' := 307) rfl ?_
                                          exact jp307 0 (by omega) (by omega)
                                        · refine A_pc (pc' := 302) rfl ?_
                                          exact jp302 
              · refine A_aload_n 0 d_MD_next_217 rfl rfl ?_
                have zf62 := ((eh10.1 _ _ (fun _ => by decide)).trans esd6.symm)
                have zf63 := ((eh10.1 _ _ (fun _ => by decide)).trans ((k5.2.2.1 _ _ rfl).trans esd2.symm))
                refine A_callV0 m_MD_number T_ok d_MD_next_218 l_MD_268 k_MD_number (mi_s k11.1 sf_170) rfl (by decide +kernel) (by decide) (Nat.le_of_ble_eq_true rfl) (s_MD_number k11.1 (by have qq0 := ((eh10.1 _ _ (fun _ => by decide)).trans esd6.symm); have qq1 := ((eh10.1 _ _ (fun _ => by decide)).trans ((k5.2.2.1 _ _ rfl).trans esd2.symm)); omega) (by rw [((eh10.1 _ _ (fun _ => by decide)).trans esd6.symm), ex17.symm]; exact ⟨by omega, by omega⟩)) (fun r h61 hq => ?_)
                obtain ⟨rfl, xk64, k64⟩ := hq
                have k65 := kM_t k11 k64 (pm_s (by decide) (by decide))
                obtain ⟨sd66, esd66⟩ : ∃ x, x = h61.2.1 170 3 := ⟨_, rfl⟩
                have rsd66 : 0 ≤ sd66 ∧ sd66 ≤ 2000 := (by rw [esd66]; exact mi_g k65.1 (by decide) mr_170_3)
                refine A_goto (tgt := 337) d_MD_next_221 (by decide) ?_
                refine A_iconst d_MD_next_337 rfl ?_
                exact A_zret d_MD_next_338 (by decide) rfl (by omega) ⟨_, rfl, ⟨by omega, by omega⟩, (by have qq0 := esd66.symm; have qq1 := ((k64.2.2.1 _ _ rfl).trans ((eh10.1 _ _ (fun _ => by decide)).trans ((k5.2.2.1 _ _ rfl).trans esd2.symm))); exact ⟨by omega, by omega, by omega, by omega⟩), k65⟩
            · refine A_aload_n 0 d_MD_next_202 rfl rfl ?_
              have zf68 := ((eh10.1 _ _ (fun _ => by decide)).trans esd6.symm)
              have zf69 := ((eh10.1 _ _ (fun _ => by decide)).trans ((k5.2.2.1 _ _ rfl).trans esd2.symm))
              refine A_callV0 m_MD_word T_ok d_MD_next_203 l_MD_262 k_MD_word (mi_s k11.1 sf_170) rfl (by decide +kernel) (by decide) (Nat.le_of_ble_eq_true rfl) (s_MD_word k11.1 (by have qq0 := ((eh10.1 _ _ (fun _ => by decide)).trans esd6.symm); have qq1 := ((eh10.1 _ _ (fun _ => by decide)).trans ((k5.2.2.1 _ _ rfl).trans esd2.symm)); omega) (by rw [((eh10.1 _ _ (fun _ => by decide)).trans esd6.symm), ex17.symm]; exact ⟨by omega, by omega⟩)) (fun r h67 hq => ?_)
              obtain ⟨rfl, xk70, k70⟩ := hq
              have k71 := kM_t k11 k70 (pm_s (by decide) (by decide))
              obtain ⟨sd72, esd72⟩ : ∃ x, x = h67.2.1 170 3 := ⟨_, rfl⟩
              have rsd72 : 0 ≤ sd72 ∧ sd72 ≤ 2000 := (by rw [esd72]; exact mi_g k71.1 (by decide) mr_170_3)
              refine A_goto (tgt := 337) d_MD_next_206 (by decide) ?_
              refine A_iconst d_MD_next_337 rfl ?_
              exact A_zret d_MD_next_338 (by decide) rfl (by omega) ⟨_, rfl, ⟨by omega, by omega⟩, (by have qq0 := esd72.symm; have qq1 := ((k70.2.2.1 _ _ rfl).trans ((eh10.1 _ _ (fun _ => by decide)).trans ((k5.2.2.1 _ _ rfl).trans esd2.symm))); exact ⟨by omega, by omega, by omega, by omega⟩), k71⟩
          have jp337 : ∀ (h73 : ah_T) , (sd1 ≤ h73.2.1 170 3 ∧ h73.2.1 170 3 ≤ sd2 ∧ (h73.2.1 170 4 ≠ 0 → h73.2.1 170 4 ≠ 6 → sd1 < h73.2.1 170 3) ∧ (h73.2.1 170 4 = 0 → h73.2.1 170 3 = sd2)) → kM (pm [3, 4, 5, 6, 7, 8, 9, 10] []) h h73 → aw G (rm_R 2 0 0) m_MD_next 0 0 337 [some (av_R (some 170)), some (av_I i3), some (av_I x17), none] [] h73 (fun r h' => ∃ z, r = some (av_I z) ∧ (1 ≤ z ∧ z ≤ 1) ∧ (h.2.1 170 3 ≤ h'.2.1 170 3 ∧ h'.2.1 170 3 ≤ h.2.1 170 2 ∧ (h'.2.1 170 4 ≠ 0 → h'.2.1 170 4 ≠ 6 → h.2.1 170 3 < h'.2.1 170 3) ∧ (h'.2.1 170 4 = 0 → h'.2.1 170 3 = h.2.1 170 2)) ∧ kM (pm [3, 4, 5, 6, 7, 8, 9, 10] []) h h') := by
            intro  h73  jf337 k74
            obtain ⟨sd75, esd75⟩ : ∃ x, x = h73.2.1 170 3 := ⟨_, rfl⟩
            have rsd75 : 0 ≤ sd75 ∧ sd75 ≤ 2000 := (by rw [esd75]; exact mi_g k74.1 (by decide) mr_170_3)
            refine A_iconst d_MD_next_337 rfl ?_
            exact A_zret d_MD_next_338 (by decide) rfl (by omega) ⟨_, rfl, ⟨by omega, by omega⟩, (by have qq0 := esd75.symm; have qq1 := ((k74.2.2.1 _ _ rfl).trans esd2.symm); exact ⟨by omega, by omega, by omega, by omega⟩), k74⟩
          refine A_icmp_lt (tgt := 194) d_MD_next_177 (by decide) (fun c76 => ?_) (fun c76 => ?_)
          · refine A_pc (pc' := 194) rfl ?_
            exact jp194 
          · refine A_iload_n 2 d_MD_next_180 rfl rfl ?_
            refine A_bipush d_MD_next_181 rfl ?_
            refine A_icmp_gt (tgt := 194) d_MD_next_183 (by decide) (fun c77 => ?_) (fun c77 => ?_)
            · refine A_pc (pc' := 194) rfl ?_
              exact jp194 
            · refine A_aload_n 0 d_MD_next_186 rfl rfl ?_
              refine A_iload_n 2 d_MD_next_187 rfl rfl ?_
              have zf79 := ((eh10.1 _ _ (fun _ => by decide)).trans esd6.symm)
              have zf80 := ((eh10.1 _ _ (fun _ => by decide)).trans ((k5.2.2.1 _ _ rfl).trans esd2.symm))
              refine A_callV1 m_MD_pitch T_ok d_MD_next_188 l_MD_255 k_MD_pitch (mi_s k11.1 sf_170) rfl (by decide +kernel) (by decide) (Nat.le_of_ble_eq_true rfl) (s_MD_pitch k11.1 (by omega) (by omega) (by have qq0 := ((eh10.1 _ _ (fun _ => by decide)).trans esd6.symm); have qq1 := ((eh10.1 _ _ (fun _ => by decide)).trans ((k5.2.2.1 _ _ rfl).trans esd2.symm)); omega)) (fun r h78 hq => ?_)
              obtain ⟨rfl, xk81, k81⟩ := hq
              have k82 := kM_t k11 k81 (pm_s (by decide) (by decide))
              obtain ⟨sd83, esd83⟩ : ∃ x, x = h78.2.1 170 3 := ⟨_, rfl⟩
              have rsd83 : 0 ≤ sd83 ∧ sd83 ≤ 2000 := (by rw [esd83]; exact mi_g k82.1 (by decide) mr_170_3)
              refine A_goto (tgt := 337) d_MD_next_191 (by decide) ?_
              refine A_pc (pc' := 337) rfl ?_
              exact jp337 h78 (by have qq0 := esd83.symm; have qq1 := ((k81.2.2.1 _ _ rfl).trans ((eh10.1 _ _ (fun _ => by decide)).trans ((k5.2.2.1 _ _ rfl).trans esd2.symm))); omega) k82
        · refine A_aload_n 0 d_MD_next_157 rfl rfl ?_
          refine A_iconst d_MD_next_158 rfl ?_
          refine A_putIk (KR := kM (pm [3, 4, 5, 6, 7, 8, 9, 10] []) h) T_ok d_MD_next_159 f_MD_239 (mi_s k11.1 sf_170) fin_f (kM_i k11 (by decide) (by decide) mr_170_4 (by omega) (by omega)) (fun h84 k85 eh84 => ?_)
          refine A_iconst d_MD_next_162 rfl ?_
          exact A_zret d_MD_next_163 (by decide) rfl (by omega) ⟨_, rfl, ⟨by omega, by omega⟩, (by have qq0 := ((eh84.1 _ _ (fun _ => by decide)).trans ((eh10.1 _ _ (fun _ => by decide)).trans esd6.symm)); have qq1 := ((eh84.1 _ _ (fun _ => by decide)).trans ((eh10.1 _ _ (fun _ => by decide)).trans ((k5.2.2.1 _ _ rfl).trans esd2.symm))); have qq2 := eh84.2.1; exact ⟨by omega, by omega, by omega, by omega⟩), k85⟩
      refine A_icmp_ge (tgt := 138) d_MD_next_10 (by decide) (fun c86 => ?_) (fun c86 => ?_)
      · refine A_pc (pc' := 138) rfl ?_
        exact jp138 
      · refine A_iload_n 1 d_MD_next_13 rfl rfl ?_
        have jp87 : aw G (rm_R 2 0 0) m_MD_next 0 0 87 [some (av_R (some 170)), some (av_I i3), none, none] [] h4 (fun r h' => ∃ z, r = some (av_I z) ∧ (1 ≤ z ∧ z ≤ 1) ∧ (h.2.1 170 3 ≤ h'.2.1 170 3 ∧ h'.2.1 170 3 ≤ h.2.1 170 2 ∧ (h'.2.1 170 4 ≠ 0 → h'.2.1 170 4 ≠ 6 → h.2.1 170 3 < h'.2.1 170 3) ∧ (h'.2.1 170 4 = 0 → h'.2.1 170 3 = h.2.1 170 2)) ∧ kM (pm [3, 4, 5, 6, 7, 8, 9, 10] []) h h') := by
          refine A_aload_n 0 d_MD_next_87 rfl rfl ?_
          refine A_getAv (z := some 171) T_ok d_MD_next_88 f_MD_7 (mi_s k5.1 sf_170) (mi_r k5.1 rfm_0) ?_
          refine A_aload_n 0 d_MD_next_91 rfl rfl ?_
          refine A_getIv (z := sd6) T_ok d_MD_next_92 f_MD_252 (mi_s k5.1 sf_170) esd6.symm ?_
          refine A_ialoadn (lo := 0) (hi := 255) d_MD_next_95 (mi_s k5.1 sf_171) (by omega) (by omega) (mi_g k5.1 (by decide) (mr_171 _)) (fun x89 ex89 _ _ => ?_)
          refine A_pc (pc' := 96) rfl ?_
          refine A_bipush d_MD_next_96 rfl ?_
          have jp123 : aw G (rm_R 2 0 0) m_MD_next 0 0 123 [some (av_R (some 170)), some (av_I i3), none, none] [] h4 (fun r h' => ∃ z, r = some (av_I z) ∧ (1 ≤ z ∧ z ≤ 1) ∧ (h.2.1 170 3 ≤ h'.2.1 170 3 ∧ h'.2.1 170 3 ≤ h.2.1 170 2 ∧ (h'.2.1 170 4 ≠ 0 → h'.2.1 170 4 ≠ 6 → h.2.1 170 3 < h'.2.1 170 3) ∧ (h'.2.1 170 4 = 0 → h'.2.1 170 3 = h.2.1 170 2)) ∧ kM (pm [3, 4, 5, 6, 7, 8, 9, 10] []) h h') := by
            refine A_iconst d_MD_next_123 rfl ?_
            refine A_istore_n 1 (L' := [some (av_R (some 170)), some (av_I 0), none, none]) d_MD_next_124 rfl (Nat.le_of_ble_eq_true rfl) rfl ?_
            refine A_aload_n 0 d_MD_next_125 rfl rfl ?_
            refine A_dupR d_MD_next_126 ?_
            refine A_getIv (z := sd6) T_ok d_MD_next_127 f_MD_252 (mi_s k5.1 sf_170) esd6.symm ?_
            refine A_pc (pc' := 130) rfl ?_
            refine A_iconst d_MD_next_130 rfl ?_
            refine A_iaddv (z := (sd6 + 1)) d_MD_next_131 (w32_to (by omega) (by unfold i32; omega)) ?_
            refine A_putIk (KR := kM (pm [3, 4, 5, 6, 7, 8, 9, 10] []) h) T_ok d_MD_next_132 f_MD_252 (mi_s k5.1 sf_170) fin_f (kM_i k5 (by decide) (by decide) mr_170_3 (by omega) (by omega)) (fun h91 k92 eh91 => ?_)
            refine A_goto (tgt := 2) d_MD_next_135 (by decide) ?_
            exact ih2 0 h91 (by omega) (by omega) (by have qq0 := eh91.2.1; have qq1 := ((eh91.1 _ _ (fun _ => by decide)).trans ((k5.2.2.1 _ _ rfl).trans esd2.symm)); omega) k92 (by have qq0 := eh91.2.1; omega)
          have jp124 : ∀ (j93 : Int) , 0 ≤ j93 → j93 ≤ 1 → aw G (rm_R 2 0 0) m_MD_next 0 0 124 [some (av_R (some 170)), some (av_I i3), none, none] [av_I j93] h4 (fun r h' => ∃ z, r = some (av_I z) ∧ (1 ≤ z ∧ z ≤ 1) ∧ (h.2.1 170 3 ≤ h'.2.1 170 3 ∧ h'.2.1 170 3 ≤ h.2.1 170 2 ∧ (h'.2.1 170 4 ≠ 0 → h'.2.1 170 4 ≠ 6 → h.2.1 170 3 < h'.2.1 170 3) ∧ (h'.2.1 170 4 = 0 → h'.2.1 170 3 = h.2.1 170 2)) ∧ kM (pm [3, 4, 5, 6, 7, 8, 9, 10] []) h h') := by
            intro j93  _ _ 
            refine A_istore_n 1 (L' := [some (av_R (some 170)), some (av_I j93), none, none]) d_MD_next_124 rfl (Nat.le_of_ble_eq_true rfl) rfl ?_
            refine A_aload_n 0 d_MD_next_125 rfl rfl ?_
            refine A_dupR d_MD_next_126 ?_
            refine A_getIv (z := sd6) T_ok d_MD_next_127 f_MD_252 (mi_s k5.1 sf_170) esd6.symm ?_
            refine A_iconst d_MD_next_130 rfl ?_
            refine A_pc (pc' := 131) rfl ?_
            refine A_iaddv (z := (sd6 + 1)) d_MD_next_131 (w32_to (by omega) (by unfold i32; omega)) ?_
            refine A_putIk (KR := kM (pm [3, 4, 5, 6, 7, 8, 9, 10] []) h) T_ok d_MD_next_132 f_MD_252 (mi_s k5.1 sf_170) fin_f (kM_i k5 (by decide) (by decide) mr_170_3 (by omega) (by omega)) (fun h95 k96 eh95 => ?_)
            refine A_goto (tgt := 2) d_MD_next_135 (by decide) ?_
            exact ih2 j93 h95 (by omega) (by omega) (by have qq0 := eh95.2.1; have qq1 := ((eh95.1 _ _ (fun _ => by decide)).trans ((k5.2.2.1 _ _ rfl).trans esd2.symm)); omega) k96 (by have qq0 := eh95.2.1; omega)
          refine A_icmp_eq (tgt := 123) d_MD_next_98 (by decide) (fun c97 => ?_) (fun c97 => ?_)
          · refine A_pc (pc' := 123) rfl ?_
            exact jp123 
          · refine A_iload_n 1 d_MD_next_101 rfl rfl ?_
            have jp119 : aw G (rm_R 2 0 0) m_MD_next 0 0 119 [some (av_R (some 170)), some (av_I i3), none, none] [] h4 (fun r h' => ∃ z, r = some (av_I z) ∧ (1 ≤ z ∧ z ≤ 1) ∧ (h.2.1 170 3 ≤ h'.2.1 170 3 ∧ h'.2.1 170 3 ≤ h.2.1 170 2 ∧ (h'.2.1 170 4 ≠ 0 → h'.2.1 170 4 ≠ 6 → h.2.1 170 3 < h'.2.1 170 3) ∧ (h'.2.1 170 4 = 0 → h'.2.1 170 3 = h.2.1 170 2)) ∧ kM (pm [3, 4, 5, 6, 7, 8, 9, 10] []) h h') := by
              refine A_iconst d_MD_next_119 rfl ?_
              refine A_goto (tgt := 124) d_MD_next_120 (by decide) ?_
              refine A_pc (pc' := 124) rfl ?_
              exact jp124 1 (by omega) (by omega)
            refine A_if_ne (tgt := 119) d_MD_next_102 (by decide) (fun c98 => ?_) (fun c98 => ?_)
            · refine A_pc (pc' := 119) rfl ?_
              exact jp119 
            · refine A_aload_n 0 d_MD_next_105 rfl rfl ?_
              refine A_getAv (z := some 171) T_ok d_MD_next_106 f_MD_7 (mi_s k5.1 sf_170) (mi_r k5.1 rfm_0) ?_
              refine A_aload_n 0 d_MD_next_109 rfl rfl ?_
              refine A_getIv (z := sd6) T_ok d_MD_next_110 f_MD_252 (mi_s k5.1 sf_170) esd6.symm ?_
              refine A_ialoadv (z := x89) d_MD_next_113 (mi_s k5.1 sf_171) (by omega) (by omega) ex89.symm ?_
              refine A_pc (pc' := 114) rfl ?_
              refine A_bipush d_MD_next_114 rfl ?_
              refine A_icmp_ne (tgt := 123) d_MD_next_116 (by decide) (fun c102 => ?_) (fun c102 => ?_)
              · refine A_pc (pc' := 123) rfl ?_
                exact jp123 
              · refine A_pc (pc' := 119) rfl ?_
                exact jp119 
        refine A_if_ne (tgt := 87) d_MD_next_14 (by decide) (fun c103 => ?_) (fun c103 => ?_)
        · refine A_pc (pc' := 87) rfl ?_
          exact jp87 
        · refine A_aload_n 0 d_MD_next_17 rfl rfl ?_
          refine A_getAv (z := some 171) T_ok d_MD_next_18 f_MD_7 (mi_s k5.1 sf_170) (mi_r k5.1 rfm_0) ?_
          refine A_aload_n 0 d_MD_next_21 rfl rfl ?_
          refine A_getIv (z := sd6) T_ok d_MD_next_22 f_MD_252 (mi_s k5.1 sf_170) esd6.symm ?_
          refine A_ialoadn (lo := 0) (hi := 255) d_MD_next_25 (mi_s k5.1 sf_171) (by omega) (by omega) (mi_g k5.1 (by decide) (mr_171 _)) (fun x106 ex106 _ _ => ?_)
          refine A_pc (pc' := 26) rfl ?_
          refine A_bipush d_MD_next_26 rfl ?_
          refine A_icmp_eq (tgt := 87) d_MD_next_28 (by decide) (fun c107 => ?_) (fun c107 => ?_)
          · refine A_pc (pc' := 87) rfl ?_
            exact jp87 
          · refine A_aload_n 0 d_MD_next_31 rfl rfl ?_
            refine A_getAv (z := some 171) T_ok d_MD_next_32 f_MD_7 (mi_s k5.1 sf_170) (mi_r k5.1 rfm_0) ?_
            refine A_aload_n 0 d_MD_next_35 rfl rfl ?_
            refine A_getIv (z := sd6) T_ok d_MD_next_36 f_MD_252 (mi_s k5.1 sf_170) esd6.symm ?_
            refine A_ialoadv (z := x106) d_MD_next_39 (mi_s k5.1 sf_171) (by omega) (by omega) ex106.symm ?_
            refine A_pc (pc' := 40) rfl ?_
            refine A_bipush d_MD_next_40 rfl ?_
            refine A_icmp_eq (tgt := 87) d_MD_next_42 (by decide) (fun c111 => ?_) (fun c111 => ?_)
            · refine A_pc (pc' := 87) rfl ?_
              exact jp87 
            · refine A_aload_n 0 d_MD_next_45 rfl rfl ?_
              refine A_getAv (z := some 171) T_ok d_MD_next_46 f_MD_7 (mi_s k5.1 sf_170) (mi_r k5.1 rfm_0) ?_
              refine A_aload_n 0 d_MD_next_49 rfl rfl ?_
              refine A_getIv (z := sd6) T_ok d_MD_next_50 f_MD_252 (mi_s k5.1 sf_170) esd6.symm ?_
              refine A_ialoadv (z := x106) d_MD_next_53 (mi_s k5.1 sf_171) (by omega) (by omega) ex106.symm ?_
              refine A_pc (pc' := 54) rfl ?_
              refine A_bipush d_MD_next_54 rfl ?_
              refine A_icmp_eq (tgt := 87) d_MD_next_56 (by decide) (fun c115 => ?_) (fun c115 => ?_)
              · refine A_pc (pc' := 87) rfl ?_
                exact jp87 
              · refine A_aload_n 0 d_MD_next_59 rfl rfl ?_
                refine A_getAv (z := some 171) T_ok d_MD_next_60 f_MD_7 (mi_s k5.1 sf_170) (mi_r k5.1 rfm_0) ?_
                refine A_aload_n 0 d_MD_next_63 rfl rfl ?_
                refine A_getIv (z := sd6) T_ok d_MD_next_64 f_MD_252 (mi_s k5.1 sf_170) esd6.symm ?_
                refine A_ialoadv (z := x106) d_MD_next_67 (mi_s k5.1 sf_171) (by omega) (by omega) ex106.symm ?_
                refine A_pc (pc' := 68) rfl ?_
                refine A_bipush d_MD_next_68 rfl ?_
                refine A_icmp_eq (tgt := 87) d_MD_next_70 (by decide) (fun c119 => ?_) (fun c119 => ?_)
                · refine A_pc (pc' := 87) rfl ?_
                  exact jp87 
                · refine A_aload_n 0 d_MD_next_73 rfl rfl ?_
                  refine A_getAv (z := some 171) T_ok d_MD_next_74 f_MD_7 (mi_s k5.1 sf_170) (mi_r k5.1 rfm_0) ?_
                  refine A_aload_n 0 d_MD_next_77 rfl rfl ?_
                  refine A_getIv (z := sd6) T_ok d_MD_next_78 f_MD_252 (mi_s k5.1 sf_170) esd6.symm ?_
                  refine A_ialoadv (z := x106) d_MD_next_81 (mi_s k5.1 sf_171) (by omega) (by omega) ex106.symm ?_
                  refine A_pc (pc' := 82) rfl ?_
                  refine A_bipush d_MD_next_82 rfl ?_
                  refine A_icmp_ne (tgt := 138) d_MD_next_84 (by decide) (fun c123 => ?_) (fun c123 => ?_)
                  · refine A_pc (pc' := 138) rfl ?_
                    exact jp138 
                  · refine A_pc (pc' := 87) rfl ?_
                    exact jp87 
  exact lp2 _ 0 h (by omega) (by omega) (by have qq0 := esd1.symm; have qq1 := esd2.symm; omega) k0 (Nat.lt_succ_self _)
theorem s_MD_isSign {G : cx_T} {h : ah_T} (hx : mi h) {a1 : Int}  : con G 0 0 0 m_MD_isSign [av_R (some 170), av_I a1] h (fun r h' => ∃ z, r = some (av_I z) ∧ (z = 0 ∨ z = 1) ∧ (z = 1 → h.2.1 170 4 = 5 ∧ h.2.1 170 6 = a1) ∧ h = h') := by
  refine con_of (L := [some (av_R (some 170)), some (av_I a1)]) (by decide +kernel) (Nat.le_of_ble_eq_true rfl) rfl ?_
  refine A_locI 1 rfl (fun ra => ?_)
  obtain ⟨_, _⟩ := ra
  refine A_aload_n 0 d_MD_isSign_0 rfl rfl ?_
  refine A_getIn (lo := 0) (hi := 6) T_ok d_MD_isSign_1 f_MD_239 (mi_s hx sf_170) (mi_g hx (by decide) mr_170_4) (fun x1 ex1 _ _ => ?_)
  refine A_iconst d_MD_isSign_4 rfl ?_
  refine A_icmp_ne (tgt := 20) d_MD_isSign_5 (by decide) (fun c2 => ?_) (fun c2 => ?_)
  · refine A_iconst d_MD_isSign_20 rfl ?_
    exact A_zret d_MD_isSign_21 (by decide) rfl (by omega) ⟨_, rfl, by omega, (fun _ => by have qq0 := ex1.symm; omega), rfl⟩
  · refine A_aload_n 0 d_MD_isSign_8 rfl rfl ?_
    refine A_getIn (lo := 0) (hi := 9999) T_ok d_MD_isSign_9 f_MD_271 (mi_s hx sf_170) (mi_g hx (by decide) mr_170_6) (fun x3 ex3 _ _ => ?_)
    refine A_iload_n 1 d_MD_isSign_12 rfl rfl ?_
    refine A_icmp_ne (tgt := 20) d_MD_isSign_13 (by decide) (fun c4 => ?_) (fun c4 => ?_)
    · refine A_iconst d_MD_isSign_20 rfl ?_
      exact A_zret d_MD_isSign_21 (by decide) rfl (by omega) ⟨_, rfl, by omega, (fun _ => by have qq0 := ex1.symm; have qq1 := ex3.symm; omega), rfl⟩
    · refine A_iconst d_MD_isSign_16 rfl ?_
      refine A_goto (tgt := 21) d_MD_isSign_17 (by decide) ?_
      exact A_zret d_MD_isSign_21 (by decide) rfl (by omega) ⟨_, rfl, by omega, (fun _ => by have qq0 := ex1.symm; have qq1 := ex3.symm; omega), rfl⟩
theorem s_MD_isWord {G : cx_T} {h : ah_T} (hx : mi h) {a1 : Int}  : con G 0 0 0 m_MD_isWord [av_R (some 170), av_I a1] h (fun r h' => ∃ z, r = some (av_I z) ∧ (z = 0 ∨ z = 1) ∧ (z = 1 → h.2.1 170 4 = 4 ∧ h.2.1 170 6 = a1) ∧ h = h') := by
  refine con_of (L := [some (av_R (some 170)), some (av_I a1)]) (by decide +kernel) (Nat.le_of_ble_eq_true rfl) rfl ?_
  refine A_locI 1 rfl (fun ra => ?_)
  obtain ⟨_, _⟩ := ra
  refine A_aload_n 0 d_MD_isWord_0 rfl rfl ?_
  refine A_getIn (lo := 0) (hi := 6) T_ok d_MD_isWord_1 f_MD_239 (mi_s hx sf_170) (mi_g hx (by decide) mr_170_4) (fun x1 ex1 _ _ => ?_)
  refine A_iconst d_MD_isWord_4 rfl ?_
  refine A_icmp_ne (tgt := 20) d_MD_isWord_5 (by decide) (fun c2 => ?_) (fun c2 => ?_)
  · refine A_iconst d_MD_isWord_20 rfl ?_
    exact A_zret d_MD_isWord_21 (by decide) rfl (by omega) ⟨_, rfl, by omega, (fun _ => by have qq0 := ex1.symm; omega), rfl⟩
  · refine A_aload_n 0 d_MD_isWord_8 rfl rfl ?_
    refine A_getIn (lo := 0) (hi := 9999) T_ok d_MD_isWord_9 f_MD_271 (mi_s hx sf_170) (mi_g hx (by decide) mr_170_6) (fun x3 ex3 _ _ => ?_)
    refine A_iload_n 1 d_MD_isWord_12 rfl rfl ?_
    refine A_icmp_ne (tgt := 20) d_MD_isWord_13 (by decide) (fun c4 => ?_) (fun c4 => ?_)
    · refine A_iconst d_MD_isWord_20 rfl ?_
      exact A_zret d_MD_isWord_21 (by decide) rfl (by omega) ⟨_, rfl, by omega, (fun _ => by have qq0 := ex1.symm; have qq1 := ex3.symm; omega), rfl⟩
    · refine A_iconst d_MD_isWord_16 rfl ?_
      refine A_goto (tgt := 21) d_MD_isWord_17 (by decide) ?_
      exact A_zret d_MD_isWord_21 (by decide) rfl (by omega) ⟨_, rfl, by omega, (fun _ => by have qq0 := ex1.symm; have qq1 := ex3.symm; omega), rfl⟩
