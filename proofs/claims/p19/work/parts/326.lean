/-! ===== the reference's methods, 326 ===== -/
def m_MD_soundPart : mr_T := (⟨"PlainMusicModel", "soundPart", "()Z"⟩, prog_14_method_29_code, 3, some .boolean)
theorem d_MD_soundPart_0 : decode prog_14_method_29_code 0 = .ok (.aload_n 0, 1) := by decide +kernel
theorem d_MD_soundPart_1 : decode prog_14_method_29_code 1 = .ok (.getfield 354, 3) := by decide +kernel
theorem d_MD_soundPart_4 : decode prog_14_method_29_code 4 = .ok (.istore_n 1, 1) := by decide +kernel
theorem d_MD_soundPart_5 : decode prog_14_method_29_code 5 = .ok (.aload_n 0, 1) := by decide +kernel
theorem d_MD_soundPart_6 : decode prog_14_method_29_code 6 = .ok (.iconst 0, 1) := by decide +kernel
theorem d_MD_soundPart_7 : decode prog_14_method_29_code 7 = .ok (.invokevirtual 369, 3) := by decide +kernel
theorem d_MD_soundPart_10 : decode prog_14_method_29_code 10 = .ok (.aload_n 0, 1) := by decide +kernel
theorem d_MD_soundPart_11 : decode prog_14_method_29_code 11 = .ok (.getfield 115, 3) := by decide +kernel
theorem d_MD_soundPart_14 : decode prog_14_method_29_code 14 = .ok (.iload_n 1, 1) := by decide +kernel
theorem d_MD_soundPart_15 : decode prog_14_method_29_code 15 = .ok (.iconst 0, 1) := by decide +kernel
theorem d_MD_soundPart_16 : decode prog_14_method_29_code 16 = .ok (.iastore, 1) := by decide +kernel
theorem d_MD_soundPart_17 : decode prog_14_method_29_code 17 = .ok (.aload_n 0, 1) := by decide +kernel
theorem d_MD_soundPart_18 : decode prog_14_method_29_code 18 = .ok (.getfield 124, 3) := by decide +kernel
theorem d_MD_soundPart_21 : decode prog_14_method_29_code 21 = .ok (.iload_n 1, 1) := by decide +kernel
theorem d_MD_soundPart_22 : decode prog_14_method_29_code 22 = .ok (.iconst 0, 1) := by decide +kernel
theorem d_MD_soundPart_23 : decode prog_14_method_29_code 23 = .ok (.iastore, 1) := by decide +kernel
theorem d_MD_soundPart_24 : decode prog_14_method_29_code 24 = .ok (.aload_n 0, 1) := by decide +kernel
theorem d_MD_soundPart_25 : decode prog_14_method_29_code 25 = .ok (.iconst 5, 1) := by decide +kernel
theorem d_MD_soundPart_26 : decode prog_14_method_29_code 26 = .ok (.invokevirtual 326, 3) := by decide +kernel
theorem k_MD_isWord : mt_OK m_MD_isWord 1 1 := ⟨gwi_1877, gwi_146, ⟨by decide +kernel, by decide +kernel, by decide +kernel⟩, fun h => absurd h (by decide), fun _ => ⟨gwi_1876, gwi_69⟩, fun h => absurd h (by decide)⟩
theorem l_MD_326 : ml_OK "PlainMusicModel" 326 ⟨"PlainMusicModel", "isWord", "(I)Z"⟩ := Or.inl gwi_1874
theorem d_MD_soundPart_29 : decode prog_14_method_29_code 29 = .ok (.istore_n 2, 1) := by decide +kernel
theorem d_MD_soundPart_30 : decode prog_14_method_29_code 30 = .ok (.iload_n 2, 1) := by decide +kernel
theorem d_MD_soundPart_31 : decode prog_14_method_29_code 31 = .ok (.ifCond .eq 41, 3) := by decide +kernel
theorem d_MD_soundPart_72 : decode prog_14_method_29_code 72 = .ok (.aload_n 0, 1) := by decide +kernel
theorem d_MD_soundPart_73 : decode prog_14_method_29_code 73 = .ok (.getfield 239, 3) := by decide +kernel
theorem d_MD_soundPart_76 : decode prog_14_method_29_code 76 = .ok (.iconst 1, 1) := by decide +kernel
theorem d_MD_soundPart_77 : decode prog_14_method_29_code 77 = .ok (.if_icmp .ne 13, 3) := by decide +kernel
theorem d_MD_soundPart_90 : decode prog_14_method_29_code 90 = .ok (.aload_n 0, 1) := by decide +kernel
theorem d_MD_soundPart_91 : decode prog_14_method_29_code 91 = .ok (.invokevirtual 309, 3) := by decide +kernel
theorem d_MD_soundPart_94 : decode prog_14_method_29_code 94 = .ok (.pop, 1) := by decide +kernel
theorem d_MD_soundPart_95 : decode prog_14_method_29_code 95 = .ok (.aload_n 0, 1) := by decide +kernel
theorem d_MD_soundPart_96 : decode prog_14_method_29_code 96 = .ok (.getfield 239, 3) := by decide +kernel
theorem d_MD_soundPart_99 : decode prog_14_method_29_code 99 = .ok (.iconst 1, 1) := by decide +kernel
theorem d_MD_soundPart_100 : decode prog_14_method_29_code 100 = .ok (.if_icmp .eq 8, 3) := by decide +kernel
theorem d_MD_soundPart_108 : decode prog_14_method_29_code 108 = .ok (.aload_n 0, 1) := by decide +kernel
theorem d_MD_soundPart_109 : decode prog_14_method_29_code 109 = .ok (.getfield 115, 3) := by decide +kernel
theorem d_MD_soundPart_112 : decode prog_14_method_29_code 112 = .ok (.iload_n 1, 1) := by decide +kernel
theorem d_MD_soundPart_113 : decode prog_14_method_29_code 113 = .ok (.iaload, 1) := by decide +kernel
theorem d_MD_soundPart_114 : decode prog_14_method_29_code 114 = .ok (.iconst 4, 1) := by decide +kernel
theorem d_MD_soundPart_115 : decode prog_14_method_29_code 115 = .ok (.if_icmp .ne 13, 3) := by decide +kernel
theorem d_MD_soundPart_128 : decode prog_14_method_29_code 128 = .ok (.aload_n 0, 1) := by decide +kernel
theorem d_MD_soundPart_129 : decode prog_14_method_29_code 129 = .ok (.getfield 115, 3) := by decide +kernel
theorem d_MD_soundPart_132 : decode prog_14_method_29_code 132 = .ok (.iload_n 1, 1) := by decide +kernel
theorem d_MD_soundPart_133 : decode prog_14_method_29_code 133 = .ok (.iaload, 1) := by decide +kernel
theorem d_MD_soundPart_134 : decode prog_14_method_29_code 134 = .ok (.ifCond .le 51, 3) := by decide +kernel
theorem d_MD_soundPart_185 : decode prog_14_method_29_code 185 = .ok (.aload_n 0, 1) := by decide +kernel
theorem d_MD_soundPart_186 : decode prog_14_method_29_code 186 = .ok (.iload_n 1, 1) := by decide +kernel
theorem d_MD_soundPart_187 : decode prog_14_method_29_code 187 = .ok (.invokevirtual 378, 3) := by decide +kernel
theorem k_MD_pitchOf : mt_OK m_MD_pitchOf 1 1 := ⟨gwi_1925, gwi_146, ⟨by decide +kernel, by decide +kernel, by decide +kernel⟩, fun h => absurd h (by decide), fun _ => ⟨gwi_1924, gwi_81⟩, fun h => absurd h (by decide)⟩
theorem l_MD_378 : ml_OK "PlainMusicModel" 378 ⟨"PlainMusicModel", "pitchOf", "(I)Z"⟩ := Or.inl gwi_1922
theorem d_MD_soundPart_190 : decode prog_14_method_29_code 190 = .ok (.ifCond .ne 5, 3) := by decide +kernel
theorem d_MD_soundPart_195 : decode prog_14_method_29_code 195 = .ok (.aload_n 0, 1) := by decide +kernel
theorem d_MD_soundPart_196 : decode prog_14_method_29_code 196 = .ok (.bipush 62, 2) := by decide +kernel
theorem d_MD_soundPart_198 : decode prog_14_method_29_code 198 = .ok (.invokevirtual 306, 3) := by decide +kernel
theorem d_MD_soundPart_201 : decode prog_14_method_29_code 201 = .ok (.ifCond .eq (-106), 3) := by decide +kernel
theorem d_MD_soundPart_204 : decode prog_14_method_29_code 204 = .ok (.aload_n 0, 1) := by decide +kernel
theorem d_MD_soundPart_205 : decode prog_14_method_29_code 205 = .ok (.invokevirtual 309, 3) := by decide +kernel
theorem d_MD_soundPart_208 : decode prog_14_method_29_code 208 = .ok (.pop, 1) := by decide +kernel
theorem d_MD_soundPart_209 : decode prog_14_method_29_code 209 = .ok (.aload_n 0, 1) := by decide +kernel
theorem d_MD_soundPart_210 : decode prog_14_method_29_code 210 = .ok (.getfield 239, 3) := by decide +kernel
theorem d_MD_soundPart_213 : decode prog_14_method_29_code 213 = .ok (.iconst 3, 1) := by decide +kernel
theorem d_MD_soundPart_214 : decode prog_14_method_29_code 214 = .ok (.if_icmp .eq 8, 3) := by decide +kernel
theorem d_MD_soundPart_222 : decode prog_14_method_29_code 222 = .ok (.aload_n 0, 1) := by decide +kernel
theorem d_MD_soundPart_223 : decode prog_14_method_29_code 223 = .ok (.aload_n 0, 1) := by decide +kernel
theorem d_MD_soundPart_224 : decode prog_14_method_29_code 224 = .ok (.getfield 271, 3) := by decide +kernel
theorem d_MD_soundPart_227 : decode prog_14_method_29_code 227 = .ok (.bipush 64, 2) := by decide +kernel
theorem d_MD_soundPart_229 : decode prog_14_method_29_code 229 = .ok (.invokevirtual 347, 3) := by decide +kernel
theorem d_MD_soundPart_232 : decode prog_14_method_29_code 232 = .ok (.ifCond .ne 13, 3) := by decide +kernel
theorem d_MD_soundPart_245 : decode prog_14_method_29_code 245 = .ok (.aload_n 0, 1) := by decide +kernel
theorem d_MD_soundPart_246 : decode prog_14_method_29_code 246 = .ok (.getfield 109, 3) := by decide +kernel
theorem d_MD_soundPart_249 : decode prog_14_method_29_code 249 = .ok (.iload_n 1, 1) := by decide +kernel
theorem d_MD_soundPart_250 : decode prog_14_method_29_code 250 = .ok (.aload_n 0, 1) := by decide +kernel
theorem d_MD_soundPart_251 : decode prog_14_method_29_code 251 = .ok (.getfield 271, 3) := by decide +kernel
theorem d_MD_soundPart_254 : decode prog_14_method_29_code 254 = .ok (.iastore, 1) := by decide +kernel
theorem d_MD_soundPart_255 : decode prog_14_method_29_code 255 = .ok (.aload_n 0, 1) := by decide +kernel
theorem d_MD_soundPart_256 : decode prog_14_method_29_code 256 = .ok (.invokevirtual 309, 3) := by decide +kernel
theorem d_MD_soundPart_259 : decode prog_14_method_29_code 259 = .ok (.pop, 1) := by decide +kernel
theorem d_MD_soundPart_260 : decode prog_14_method_29_code 260 = .ok (.aload_n 0, 1) := by decide +kernel
theorem d_MD_soundPart_261 : decode prog_14_method_29_code 261 = .ok (.getfield 130, 3) := by decide +kernel
theorem rfm_52 : (52, 209) ∈ mf_L := by decide +kernel
theorem d_MD_soundPart_264 : decode prog_14_method_29_code 264 = .ok (.iload_n 1, 1) := by decide +kernel
theorem d_MD_soundPart_265 : decode prog_14_method_29_code 265 = .ok (.iconst 0, 1) := by decide +kernel
theorem d_MD_soundPart_266 : decode prog_14_method_29_code 266 = .ok (.iastore, 1) := by decide +kernel
theorem sf_209 : sh_L[209]? = some (0, 2100) := by decide +kernel
theorem mr_209 (k : Nat) : mr 209 k = (0, 3) := rfl
theorem d_MD_soundPart_267 : decode prog_14_method_29_code 267 = .ok (.aload_n 0, 1) := by decide +kernel
theorem d_MD_soundPart_268 : decode prog_14_method_29_code 268 = .ok (.bipush 46, 2) := by decide +kernel
theorem d_MD_soundPart_270 : decode prog_14_method_29_code 270 = .ok (.invokevirtual 306, 3) := by decide +kernel
theorem d_MD_soundPart_273 : decode prog_14_method_29_code 273 = .ok (.ifCond .eq 41, 3) := by decide +kernel
theorem d_MD_soundPart_314 : decode prog_14_method_29_code 314 = .ok (.aload_n 0, 1) := by decide +kernel
theorem d_MD_soundPart_315 : decode prog_14_method_29_code 315 = .ok (.getfield 127, 3) := by decide +kernel
theorem rfm_51 : (51, 208) ∈ mf_L := by decide +kernel
theorem d_MD_soundPart_318 : decode prog_14_method_29_code 318 = .ok (.iload_n 1, 1) := by decide +kernel
theorem d_MD_soundPart_319 : decode prog_14_method_29_code 319 = .ok (.aload_n 0, 1) := by decide +kernel
theorem d_MD_soundPart_320 : decode prog_14_method_29_code 320 = .ok (.bipush 126, 2) := by decide +kernel
theorem d_MD_soundPart_322 : decode prog_14_method_29_code 322 = .ok (.invokevirtual 306, 3) := by decide +kernel
theorem d_MD_soundPart_325 : decode prog_14_method_29_code 325 = .ok (.bastore, 1) := by decide +kernel
theorem sf_208 : sh_L[208]? = some (2, 2100) := by decide +kernel
theorem mr_208 (k : Nat) : mr 208 k = ((-2147483648), 2147483647) := rfl
theorem d_MD_soundPart_326 : decode prog_14_method_29_code 326 = .ok (.aload_n 0, 1) := by decide +kernel
theorem d_MD_soundPart_327 : decode prog_14_method_29_code 327 = .ok (.getfield 127, 3) := by decide +kernel
theorem d_MD_soundPart_330 : decode prog_14_method_29_code 330 = .ok (.iload_n 1, 1) := by decide +kernel
theorem d_MD_soundPart_331 : decode prog_14_method_29_code 331 = .ok (.baload, 1) := by decide +kernel
theorem d_MD_soundPart_332 : decode prog_14_method_29_code 332 = .ok (.ifCond .ne 5, 3) := by decide +kernel
theorem d_MD_soundPart_337 : decode prog_14_method_29_code 337 = .ok (.iload_n 2, 1) := by decide +kernel
theorem d_MD_soundPart_338 : decode prog_14_method_29_code 338 = .ok (.ifCond .eq 16, 3) := by decide +kernel
theorem d_MD_soundPart_354 : decode prog_14_method_29_code 354 = .ok (.aload_n 0, 1) := by decide +kernel
theorem d_MD_soundPart_355 : decode prog_14_method_29_code 355 = .ok (.invokevirtual 309, 3) := by decide +kernel
theorem d_MD_soundPart_358 : decode prog_14_method_29_code 358 = .ok (.ireturn, 1) := by decide +kernel
theorem d_MD_soundPart_335 : decode prog_14_method_29_code 335 = .ok (.iconst 1, 1) := by decide +kernel
theorem d_MD_soundPart_336 : decode prog_14_method_29_code 336 = .ok (.ireturn, 1) := by decide +kernel
theorem d_MD_soundPart_276 : decode prog_14_method_29_code 276 = .ok (.aload_n 0, 1) := by decide +kernel
theorem d_MD_soundPart_277 : decode prog_14_method_29_code 277 = .ok (.getfield 130, 3) := by decide +kernel
theorem d_MD_soundPart_280 : decode prog_14_method_29_code 280 = .ok (.iload_n 1, 1) := by decide +kernel
theorem d_MD_soundPart_281 : decode prog_14_method_29_code 281 = .ok (.iaload, 1) := by decide +kernel
theorem d_MD_soundPart_282 : decode prog_14_method_29_code 282 = .ok (.iconst 3, 1) := by decide +kernel
theorem d_MD_soundPart_283 : decode prog_14_method_29_code 283 = .ok (.if_icmp .ne 13, 3) := by decide +kernel
theorem d_MD_soundPart_296 : decode prog_14_method_29_code 296 = .ok (.aload_n 0, 1) := by decide +kernel
theorem d_MD_soundPart_297 : decode prog_14_method_29_code 297 = .ok (.getfield 130, 3) := by decide +kernel
theorem d_MD_soundPart_300 : decode prog_14_method_29_code 300 = .ok (.iload_n 1, 1) := by decide +kernel
theorem d_MD_soundPart_301 : decode prog_14_method_29_code 301 = .ok (.dup2, 1) := by decide +kernel
theorem d_MD_soundPart_302 : decode prog_14_method_29_code 302 = .ok (.iaload, 1) := by decide +kernel
theorem d_MD_soundPart_303 : decode prog_14_method_29_code 303 = .ok (.iconst 1, 1) := by decide +kernel
theorem d_MD_soundPart_304 : decode prog_14_method_29_code 304 = .ok (.iadd, 1) := by decide +kernel
theorem d_MD_soundPart_305 : decode prog_14_method_29_code 305 = .ok (.iastore, 1) := by decide +kernel
theorem d_MD_soundPart_306 : decode prog_14_method_29_code 306 = .ok (.aload_n 0, 1) := by decide +kernel
theorem d_MD_soundPart_307 : decode prog_14_method_29_code 307 = .ok (.invokevirtual 309, 3) := by decide +kernel
theorem d_MD_soundPart_310 : decode prog_14_method_29_code 310 = .ok (.pop, 1) := by decide +kernel
theorem d_MD_soundPart_311 : decode prog_14_method_29_code 311 = .ok (.goto (-44), 3) := by decide +kernel
theorem d_MD_soundPart_286 : decode prog_14_method_29_code 286 = .ok (.aload_n 0, 1) := by decide +kernel
theorem d_MD_soundPart_287 : decode prog_14_method_29_code 287 = .ok (.iconst 3, 1) := by decide +kernel
theorem d_MD_soundPart_288 : decode prog_14_method_29_code 288 = .ok (.aload_n 0, 1) := by decide +kernel
theorem d_MD_soundPart_289 : decode prog_14_method_29_code 289 = .ok (.getfield 242, 3) := by decide +kernel
theorem d_MD_soundPart_292 : decode prog_14_method_29_code 292 = .ok (.invokevirtual 245, 3) := by decide +kernel
theorem d_MD_soundPart_295 : decode prog_14_method_29_code 295 = .ok (.ireturn, 1) := by decide +kernel
theorem d_MD_soundPart_235 : decode prog_14_method_29_code 235 = .ok (.aload_n 0, 1) := by decide +kernel
theorem d_MD_soundPart_236 : decode prog_14_method_29_code 236 = .ok (.iconst 5, 1) := by decide +kernel
theorem d_MD_soundPart_237 : decode prog_14_method_29_code 237 = .ok (.aload_n 0, 1) := by decide +kernel
theorem d_MD_soundPart_238 : decode prog_14_method_29_code 238 = .ok (.getfield 242, 3) := by decide +kernel
theorem d_MD_soundPart_241 : decode prog_14_method_29_code 241 = .ok (.invokevirtual 245, 3) := by decide +kernel
theorem d_MD_soundPart_244 : decode prog_14_method_29_code 244 = .ok (.ireturn, 1) := by decide +kernel
theorem d_MD_soundPart_217 : decode prog_14_method_29_code 217 = .ok (.aload_n 0, 1) := by decide +kernel
theorem d_MD_soundPart_218 : decode prog_14_method_29_code 218 = .ok (.invokevirtual 313, 3) := by decide +kernel
theorem d_MD_soundPart_221 : decode prog_14_method_29_code 221 = .ok (.ireturn, 1) := by decide +kernel
theorem d_MD_soundPart_193 : decode prog_14_method_29_code 193 = .ok (.iconst 0, 1) := by decide +kernel
theorem d_MD_soundPart_194 : decode prog_14_method_29_code 194 = .ok (.ireturn, 1) := by decide +kernel
theorem d_MD_soundPart_137 : decode prog_14_method_29_code 137 = .ok (.aload_n 0, 1) := by decide +kernel
theorem d_MD_soundPart_138 : decode prog_14_method_29_code 138 = .ok (.getfield 284, 3) := by decide +kernel
theorem d_MD_soundPart_141 : decode prog_14_method_29_code 141 = .ok (.aload_n 0, 1) := by decide +kernel
theorem d_MD_soundPart_142 : decode prog_14_method_29_code 142 = .ok (.getfield 118, 3) := by decide +kernel
theorem d_MD_soundPart_145 : decode prog_14_method_29_code 145 = .ok (.iconst 4, 1) := by decide +kernel
theorem d_MD_soundPart_146 : decode prog_14_method_29_code 146 = .ok (.iload_n 1, 1) := by decide +kernel
theorem d_MD_soundPart_147 : decode prog_14_method_29_code 147 = .ok (.imul, 1) := by decide +kernel
theorem d_MD_soundPart_148 : decode prog_14_method_29_code 148 = .ok (.aload_n 0, 1) := by decide +kernel
theorem d_MD_soundPart_149 : decode prog_14_method_29_code 149 = .ok (.getfield 115, 3) := by decide +kernel
theorem d_MD_soundPart_152 : decode prog_14_method_29_code 152 = .ok (.iload_n 1, 1) := by decide +kernel
theorem d_MD_soundPart_153 : decode prog_14_method_29_code 153 = .ok (.iaload, 1) := by decide +kernel
theorem d_MD_soundPart_154 : decode prog_14_method_29_code 154 = .ok (.iadd, 1) := by decide +kernel
theorem d_MD_soundPart_155 : decode prog_14_method_29_code 155 = .ok (.iconst 1, 1) := by decide +kernel
theorem d_MD_soundPart_156 : decode prog_14_method_29_code 156 = .ok (.isub, 1) := by decide +kernel
theorem d_MD_soundPart_157 : decode prog_14_method_29_code 157 = .ok (.iaload, 1) := by decide +kernel
theorem d_MD_soundPart_158 : decode prog_14_method_29_code 158 = .ok (.if_icmp .gt 27, 3) := by decide +kernel
theorem d_MD_soundPart_161 : decode prog_14_method_29_code 161 = .ok (.aload_n 0, 1) := by decide +kernel
theorem d_MD_soundPart_162 : decode prog_14_method_29_code 162 = .ok (.aload_n 0, 1) := by decide +kernel
theorem d_MD_soundPart_163 : decode prog_14_method_29_code 163 = .ok (.getfield 360, 3) := by decide +kernel
theorem d_MD_soundPart_166 : decode prog_14_method_29_code 166 = .ok (.sipush 300, 3) := by decide +kernel
theorem d_MD_soundPart_169 : decode prog_14_method_29_code 169 = .ok (.if_icmp .ne 7, 3) := by decide +kernel
theorem d_MD_soundPart_176 : decode prog_14_method_29_code 176 = .ok (.iconst 4, 1) := by decide +kernel
theorem d_MD_soundPart_177 : decode prog_14_method_29_code 177 = .ok (.aload_n 0, 1) := by decide +kernel
theorem d_MD_soundPart_178 : decode prog_14_method_29_code 178 = .ok (.getfield 242, 3) := by decide +kernel
theorem d_MD_soundPart_181 : decode prog_14_method_29_code 181 = .ok (.invokevirtual 245, 3) := by decide +kernel
theorem d_MD_soundPart_184 : decode prog_14_method_29_code 184 = .ok (.ireturn, 1) := by decide +kernel
theorem d_MD_soundPart_172 : decode prog_14_method_29_code 172 = .ok (.iconst 3, 1) := by decide +kernel
theorem d_MD_soundPart_173 : decode prog_14_method_29_code 173 = .ok (.goto 4, 3) := by decide +kernel
theorem d_MD_soundPart_118 : decode prog_14_method_29_code 118 = .ok (.aload_n 0, 1) := by decide +kernel
theorem d_MD_soundPart_119 : decode prog_14_method_29_code 119 = .ok (.iconst 3, 1) := by decide +kernel
theorem d_MD_soundPart_120 : decode prog_14_method_29_code 120 = .ok (.aload_n 0, 1) := by decide +kernel
theorem d_MD_soundPart_121 : decode prog_14_method_29_code 121 = .ok (.getfield 242, 3) := by decide +kernel
theorem d_MD_soundPart_124 : decode prog_14_method_29_code 124 = .ok (.invokevirtual 245, 3) := by decide +kernel
theorem d_MD_soundPart_127 : decode prog_14_method_29_code 127 = .ok (.ireturn, 1) := by decide +kernel
theorem d_MD_soundPart_103 : decode prog_14_method_29_code 103 = .ok (.aload_n 0, 1) := by decide +kernel
theorem d_MD_soundPart_104 : decode prog_14_method_29_code 104 = .ok (.invokevirtual 313, 3) := by decide +kernel
theorem d_MD_soundPart_107 : decode prog_14_method_29_code 107 = .ok (.ireturn, 1) := by decide +kernel
theorem d_MD_soundPart_80 : decode prog_14_method_29_code 80 = .ok (.aload_n 0, 1) := by decide +kernel
theorem d_MD_soundPart_81 : decode prog_14_method_29_code 81 = .ok (.iload_n 1, 1) := by decide +kernel
theorem d_MD_soundPart_82 : decode prog_14_method_29_code 82 = .ok (.invokevirtual 378, 3) := by decide +kernel
theorem d_MD_soundPart_85 : decode prog_14_method_29_code 85 = .ok (.ifCond .ne 124, 3) := by decide +kernel
theorem d_MD_soundPart_88 : decode prog_14_method_29_code 88 = .ok (.iconst 0, 1) := by decide +kernel
theorem d_MD_soundPart_89 : decode prog_14_method_29_code 89 = .ok (.ireturn, 1) := by decide +kernel
theorem d_MD_soundPart_34 : decode prog_14_method_29_code 34 = .ok (.aload_n 0, 1) := by decide +kernel
theorem d_MD_soundPart_35 : decode prog_14_method_29_code 35 = .ok (.getfield 360, 3) := by decide +kernel
theorem d_MD_soundPart_38 : decode prog_14_method_29_code 38 = .ok (.sipush 300, 3) := by decide +kernel
theorem d_MD_soundPart_41 : decode prog_14_method_29_code 41 = .ok (.if_icmp .ne 13, 3) := by decide +kernel
theorem d_MD_soundPart_54 : decode prog_14_method_29_code 54 = .ok (.aload_n 0, 1) := by decide +kernel
theorem d_MD_soundPart_55 : decode prog_14_method_29_code 55 = .ok (.dup, 1) := by decide +kernel
theorem d_MD_soundPart_56 : decode prog_14_method_29_code 56 = .ok (.getfield 360, 3) := by decide +kernel
theorem d_MD_soundPart_59 : decode prog_14_method_29_code 59 = .ok (.iconst 1, 1) := by decide +kernel
theorem d_MD_soundPart_60 : decode prog_14_method_29_code 60 = .ok (.iadd, 1) := by decide +kernel
theorem d_MD_soundPart_61 : decode prog_14_method_29_code 61 = .ok (.putfield 360, 3) := by decide +kernel
theorem d_MD_soundPart_64 : decode prog_14_method_29_code 64 = .ok (.aload_n 0, 1) := by decide +kernel
theorem d_MD_soundPart_65 : decode prog_14_method_29_code 65 = .ok (.invokevirtual 309, 3) := by decide +kernel
theorem d_MD_soundPart_68 : decode prog_14_method_29_code 68 = .ok (.pop, 1) := by decide +kernel
theorem d_MD_soundPart_69 : decode prog_14_method_29_code 69 = .ok (.goto 140, 3) := by decide +kernel
theorem d_MD_soundPart_341 : decode prog_14_method_29_code 341 = .ok (.aload_n 0, 1) := by decide +kernel
theorem d_MD_soundPart_342 : decode prog_14_method_29_code 342 = .ok (.bipush 7, 2) := by decide +kernel
theorem d_MD_soundPart_344 : decode prog_14_method_29_code 344 = .ok (.aload_n 0, 1) := by decide +kernel
theorem d_MD_soundPart_345 : decode prog_14_method_29_code 345 = .ok (.getfield 242, 3) := by decide +kernel
theorem d_MD_soundPart_348 : decode prog_14_method_29_code 348 = .ok (.invokevirtual 245, 3) := by decide +kernel
theorem d_MD_soundPart_351 : decode prog_14_method_29_code 351 = .ok (.goto 7, 3) := by decide +kernel
theorem d_MD_soundPart_44 : decode prog_14_method_29_code 44 = .ok (.aload_n 0, 1) := by decide +kernel
theorem d_MD_soundPart_45 : decode prog_14_method_29_code 45 = .ok (.iconst 3, 1) := by decide +kernel
theorem d_MD_soundPart_46 : decode prog_14_method_29_code 46 = .ok (.aload_n 0, 1) := by decide +kernel
theorem d_MD_soundPart_47 : decode prog_14_method_29_code 47 = .ok (.getfield 242, 3) := by decide +kernel
theorem d_MD_soundPart_50 : decode prog_14_method_29_code 50 = .ok (.invokevirtual 245, 3) := by decide +kernel
theorem d_MD_soundPart_53 : decode prog_14_method_29_code 53 = .ok (.ireturn, 1) := by decide +kernel
set_option maxHeartbeats 8000000 in
theorem s_MD_soundPart {G : cx_T} {h : ah_T} (hx : mi h)  (hse : h.2.1 170 3 ≤ h.2.1 170 2) (hps : h.2.1 170 43 ≤ h.2.1 170 3 ∧ (h.2.1 170 4 ≠ 0 → h.2.1 170 4 ≠ 6 → h.2.1 170 43 + 1 ≤ h.2.1 170 3)) (hgd : h.2.1 170 4 ≠ 0 ∧ h.2.1 170 4 ≠ 6) (hVH : VHx h) : con G 4 0 0 m_MD_soundPart [av_R (some 170)] h (fun r h' => ∃ z, r = some (av_I z) ∧ (z = 0 ∨ z = 1) ∧ (z = 1 → (h.2.1 170 3 ≤ h'.2.1 170 3 ∧ h'.2.1 170 3 ≤ h.2.1 170 2 ∧ (h'.2.1 170 4 ≠ 0 → h'.2.1 170 4 ≠ 6 → h.2.1 170 3 < h'.2.1 170 3) ∧ (h'.2.1 170 4 = 0 → h'.2.1 170 3 = h.2.1 170 2)) ∧ (h'.2.1 170 43 ≤ h'.2.1 170 3 ∧ (h'.2.1 170 4 ≠ 0 → h'.2.1 170 4 ≠ 6 → h'.2.1 170 43 + 1 ≤ h'.2.1 170 3)) ∧ VHx h') ∧ kM (pm [3, 4, 5, 6, 7, 8, 9, 10, 11, 12, 43, 64] [201, 202, 204, 205, 206, 207, 208, 209]) h h') := by
  refine con_of (L := [some (av_R (some 170)), none, none]) (by decide +kernel) (Nat.le_of_ble_eq_true rfl) rfl ?_
  have hpA := hps.1
  have hpB := hps.2 hgd.1 hgd.2
  have k0 : kM (pm [3, 4, 5, 6, 7, 8, 9, 10, 11, 12, 43, 64] [201, 202, 204, 205, 206, 207, 208, 209]) h h := kM_0 hx
  obtain ⟨sd1, esd1⟩ : ∃ x, x = h.2.1 170 3 := ⟨_, rfl⟩
  have rsd1 : 0 ≤ sd1 ∧ sd1 ≤ 2000 := (by rw [esd1]; exact mi_g k0.1 (by decide) mr_170_3)
  obtain ⟨sd2, esd2⟩ : ∃ x, x = h.2.1 170 2 := ⟨_, rfl⟩
  have rsd2 : 0 ≤ sd2 ∧ sd2 ≤ 2000 := (by rw [esd2]; exact mi_g k0.1 (by decide) mr_170_2)
  obtain ⟨sd3, esd3⟩ : ∃ x, x = h.2.1 170 43 := ⟨_, rfl⟩
  have rsd3 : 0 ≤ sd3 ∧ sd3 ≤ 2001 := (by rw [esd3]; exact mi_g k0.1 (by decide) mr_170_43)
  obtain ⟨sd4, esd4⟩ : ∃ x, x = h.2.1 170 63 := ⟨_, rfl⟩
  have rsd4 : 0 ≤ sd4 ∧ sd4 ≤ 7 := (by rw [esd4]; exact mi_g k0.1 (by decide) mr_170_63)
  obtain ⟨sd5, esd5⟩ : ∃ x, x = h.2.1 170 4 := ⟨_, rfl⟩
  have rsd5 : 0 ≤ sd5 ∧ sd5 ≤ 6 := (by rw [esd5]; exact mi_g k0.1 (by decide) mr_170_4)
  refine A_aload_n 0 d_MD_soundPart_0 rfl rfl ?_
  refine A_getIv (z := sd3) T_ok d_MD_soundPart_1 f_MD_354 (mi_s k0.1 sf_170) esd3.symm ?_
  refine A_istore_n 1 (L' := [some (av_R (some 170)), some (av_I sd3), none]) d_MD_soundPart_4 rfl (Nat.le_of_ble_eq_true rfl) rfl ?_
  refine A_aload_n 0 d_MD_soundPart_5 rfl rfl ?_
  refine A_iconst d_MD_soundPart_6 rfl ?_
  refine A_pc (pc' := 7) rfl ?_
  have zf8 := esd1.symm
  have zf9 := esd2.symm
  have zf10 := esd3.symm
  have zf11 := esd4.symm
  have zf12 := esd5.symm
  refine A_callV1 m_MD_put T_ok d_MD_soundPart_7 l_MD_369 k_MD_put (mi_s k0.1 sf_170) rfl (by decide +kernel) (by decide) (Nat.le_of_ble_eq_true rfl) (s_MD_put k0.1 (by first | (clear hps hgd; omega) | omega) (by first | (clear hps hgd; omega) | omega) esd3.symm (by first | (clear hps hgd; omega) | omega)) (fun r h7 hq => ?_)
  obtain ⟨rfl, xk13, k13⟩ := hq
  have k14 := kM_t k0 k13 (pm_s (by decide) (by decide))
  refine A_aload_n 0 d_MD_soundPart_10 rfl rfl ?_
  refine A_getAv (z := some 204) T_ok d_MD_soundPart_11 f_MD_115 (mi_s k14.1 sf_170) (mi_r k14.1 rfm_47) ?_
  refine A_iload_n 1 d_MD_soundPart_14 rfl rfl ?_
  refine A_iconst d_MD_soundPart_15 rfl ?_
  refine A_iastorek (KR := kM (pm [3, 4, 5, 6, 7, 8, 9, 10, 11, 12, 43, 64] [201, 202, 204, 205, 206, 207, 208, 209]) h) d_MD_soundPart_16 (mi_s k14.1 sf_204) (by first | (clear hps hgd; omega) | omega) (by first | (clear hps hgd; omega) | omega) (kM_i k14 (by decide) rfl (mr_204 _) (by first | (clear hps hgd; omega) | omega) (by first | (clear hps hgd; omega) | omega)) (fun h16 k17 eh16 => ?_)
  refine A_pc (pc' := 17) rfl ?_
  refine A_aload_n 0 d_MD_soundPart_17 rfl rfl ?_
  refine A_getAv (z := some 207) T_ok d_MD_soundPart_18 f_MD_124 (mi_s k17.1 sf_170) (mi_r k17.1 rfm_50) ?_
  refine A_iload_n 1 d_MD_soundPart_21 rfl rfl ?_
  refine A_iconst d_MD_soundPart_22 rfl ?_
  refine A_iastorek (KR := kM (pm [3, 4, 5, 6, 7, 8, 9, 10, 11, 12, 43, 64] [201, 202, 204, 205, 206, 207, 208, 209]) h) d_MD_soundPart_23 (mi_s k17.1 sf_207) (by first | (clear hps hgd; omega) | omega) (by first | (clear hps hgd; omega) | omega) (kM_i k17 (by decide) rfl (mr_207 _) (by first | (clear hps hgd; omega) | omega) (by first | (clear hps hgd; omega) | omega)) (fun h19 k20 eh19 => ?_)
  refine A_aload_n 0 d_MD_soundPart_24 rfl rfl ?_
  refine A_pc (pc' := 25) rfl ?_
  refine A_iconst d_MD_soundPart_25 rfl ?_
  have zf22 := ((eh19.1 _ _ (fun q => absurd q (by decide))).trans ((eh16.1 _ _ (fun q => absurd q (by decide))).trans ((k13.2.2.1 _ _ rfl).trans esd1.symm)))
  have zf23 := ((eh19.1 _ _ (fun q => absurd q (by decide))).trans ((eh16.1 _ _ (fun q => absurd q (by decide))).trans ((k13.2.2.1 _ _ rfl).trans esd2.symm)))
  have zf24 := ((eh19.1 _ _ (fun q => absurd q (by decide))).trans ((eh16.1 _ _ (fun q => absurd q (by decide))).trans xk13.1))
  have zf25 := ((eh19.1 _ _ (fun q => absurd q (by decide))).trans ((eh16.1 _ _ (fun q => absurd q (by decide))).trans ((k13.2.2.1 _ _ rfl).trans esd4.symm)))
  have zf26 := ((eh19.1 _ _ (fun q => absurd q (by decide))).trans ((eh16.1 _ _ (fun q => absurd q (by decide))).trans ((k13.2.2.1 _ _ rfl).trans esd5.symm)))
  refine A_callV1 m_MD_isWord T_ok d_MD_soundPart_26 l_MD_326 k_MD_isWord (mi_s k20.1 sf_170) rfl (by decide +kernel) (by decide) (Nat.le_of_ble_eq_true rfl) (s_MD_isWord k20.1 ) (fun r h21 hq => ?_)
  obtain ⟨x28, rfl, bx28, xx28, rfl⟩ := hq
  refine A_istore_n 2 (L' := [some (av_R (some 170)), some (av_I sd3), some (av_I x28)]) d_MD_soundPart_29 rfl (Nat.le_of_ble_eq_true rfl) rfl ?_
  refine A_iload_n 2 d_MD_soundPart_30 rfl rfl ?_
  refine A_if_eq (tgt := 72) d_MD_soundPart_31 (by decide) (fun c29 => ?_) (fun c29 => ?_)
  · refine A_aload_n 0 d_MD_soundPart_72 rfl rfl ?_
    refine A_getIv (z := sd5) T_ok d_MD_soundPart_73 f_MD_239 (mi_s k20.1 sf_170) ((eh19.1 _ _ (fun q => absurd q (by decide))).trans ((eh16.1 _ _ (fun q => absurd q (by decide))).trans ((k13.2.2.1 _ _ rfl).trans esd5.symm))) ?_
    refine A_iconst d_MD_soundPart_76 rfl ?_
    refine A_icmp_ne (tgt := 90) d_MD_soundPart_77 (by decide) (fun c31 => ?_) (fun c31 => ?_)
    · refine A_aload_n 0 d_MD_soundPart_90 rfl rfl ?_
      have zf33 := ((eh19.1 _ _ (fun q => absurd q (by decide))).trans ((eh16.1 _ _ (fun q => absurd q (by decide))).trans ((k13.2.2.1 _ _ rfl).trans esd1.symm)))
      have zf34 := ((eh19.1 _ _ (fun q => absurd q (by decide))).trans ((eh16.1 _ _ (fun q => absurd q (by decide))).trans ((k13.2.2.1 _ _ rfl).trans esd2.symm)))
      have zf35 := ((eh19.1 _ _ (fun q => absurd q (by decide))).trans ((eh16.1 _ _ (fun q => absurd q (by decide))).trans xk13.1))
      have zf36 := ((eh19.1 _ _ (fun q => absurd q (by decide))).trans ((eh16.1 _ _ (fun q => absurd q (by decide))).trans ((k13.2.2.1 _ _ rfl).trans esd4.symm)))
      have zf37 := ((eh19.1 _ _ (fun q => absurd q (by decide))).trans ((eh16.1 _ _ (fun q => absurd q (by decide))).trans ((k13.2.2.1 _ _ rfl).trans esd5.symm)))
      refine A_callV0 m_MD_next T_ok d_MD_soundPart_91 l_MD_309 k_MD_next (mi_s k20.1 sf_170) rfl (by decide +kernel) (by decide) (Nat.le_of_ble_eq_true rfl) (s_MD_next k20.1 (by have qq0 := ((eh19.1 _ _ (fun q => absurd q (by decide))).trans ((eh16.1 _ _ (fun q => absurd q (by decide))).trans ((k13.2.2.1 _ _ rfl).trans esd1.symm))); have qq1 := ((eh19.1 _ _ (fun q => absurd q (by decide))).trans ((eh16.1 _ _ (fun q => absurd q (by decide))).trans ((k13.2.2.1 _ _ rfl).trans esd2.symm))); first | (clear hps hgd; omega) | omega)) (fun r h32 hq => ?_)
      obtain ⟨x39, rfl, ⟨_, _⟩, xx39, k38⟩ := hq
      have xa39 := xx39.1
      have xb39 := xx39.2.1
      have k40 := kM_t k20 k38 (pm_s (by decide) (by decide))
      obtain ⟨sd41, esd41⟩ : ∃ x, x = h32.2.1 170 3 := ⟨_, rfl⟩
      have rsd41 : 0 ≤ sd41 ∧ sd41 ≤ 2000 := (by rw [esd41]; exact mi_g k40.1 (by decide) mr_170_3)
      obtain ⟨sd42, esd42⟩ : ∃ x, x = h32.2.1 170 4 := ⟨_, rfl⟩
      have rsd42 : 0 ≤ sd42 ∧ sd42 ≤ 6 := (by rw [esd42]; exact mi_g k40.1 (by decide) mr_170_4)
      refine A_popI d_MD_soundPart_94 ?_
      have lp95 : ∀ (n : Nat) (h43 : ah_T) , (h.2.1 170 3 ≤ h43.2.1 170 3 ∧ h43.2.1 170 3 ≤ h.2.1 170 2 ∧ (h43.2.1 170 4 ≠ 0 → h43.2.1 170 4 ≠ 6 → h.2.1 170 3 < h43.2.1 170 3) ∧ (h43.2.1 170 4 = 0 → h43.2.1 170 3 = h.2.1 170 2)) ∧ SI h h43 sd3 ∧ (h43.2.1 170 43 ≤ h43.2.1 170 3 ∧ (h43.2.1 170 4 ≠ 0 → h43.2.1 170 4 ≠ 6 → h43.2.1 170 43 + 1 ≤ h43.2.1 170 3)) → kM (pm [3, 4, 5, 6, 7, 8, 9, 10, 11, 12, 43, 64] [201, 202, 204, 205, 206, 207, 208, 209]) h h43 → (mu h43).toNat < n → aw G (rm_R 4 0 0) m_MD_soundPart 0 0 95 [some (av_R (some 170)), some (av_I sd3), some (av_I x28)] [] h43 (fun r h' => ∃ z, r = some (av_I z) ∧ (z = 0 ∨ z = 1) ∧ (z = 1 → (h.2.1 170 3 ≤ h'.2.1 170 3 ∧ h'.2.1 170 3 ≤ h.2.1 170 2 ∧ (h'.2.1 170 4 ≠ 0 → h'.2.1 170 4 ≠ 6 → h.2.1 170 3 < h'.2.1 170 3) ∧ (h'.2.1 170 4 = 0 → h'.2.1 170 3 = h.2.1 170 2)) ∧ (h'.2.1 170 43 ≤ h'.2.1 170 3 ∧ (h'.2.1 170 4 ≠ 0 → h'.2.1 170 4 ≠ 6 → h'.2.1 170 43 + 1 ≤ h'.2.1 170 3)) ∧ VHx h') ∧ kM (pm [3, 4, 5, 6, 7, 8, 9, 10, 11, 12, 43, 64] [201, 202, 204, 205, 206, 207, 208, 209]) h h') := by
        intro n
        induction n with
        | zero => intro h43 _ _ hm; omega
        | succ n ih95 =>
          intro h43  hinv k44 hm
          have hvA := hinv.1.1
          have hvB := hinv.1.2.1
          have hvC := hinv.2.2.1
          obtain ⟨sd45, esd45⟩ : ∃ x, x = h43.2.1 170 3 := ⟨_, rfl⟩
          have rsd45 : 0 ≤ sd45 ∧ sd45 ≤ 2000 := (by rw [esd45]; exact mi_g k44.1 (by decide) mr_170_3)
          obtain ⟨sd46, esd46⟩ : ∃ x, x = h43.2.1 170 4 := ⟨_, rfl⟩
          have rsd46 : 0 ≤ sd46 ∧ sd46 ≤ 6 := (by rw [esd46]; exact mi_g k44.1 (by decide) mr_170_4)
          refine A_aload_n 0 d_MD_soundPart_95 rfl rfl ?_
          refine A_getIv (z := sd46) T_ok d_MD_soundPart_96 f_MD_239 (mi_s k44.1 sf_170) esd46.symm ?_
          refine A_iconst d_MD_soundPart_99 rfl ?_
          refine A_icmp_eq (tgt := 108) d_MD_soundPart_100 (by decide) (fun c48 => ?_) (fun c48 => ?_)
          · refine A_aload_n 0 d_MD_soundPart_108 rfl rfl ?_
            refine A_getAv (z := some 204) T_ok d_MD_soundPart_109 f_MD_115 (mi_s k44.1 sf_170) (mi_r k44.1 rfm_47) ?_
            refine A_iload_n 1 d_MD_soundPart_112 rfl rfl ?_
            refine A_ialoadn (lo := 0) (hi := 4) d_MD_soundPart_113 (mi_s k44.1 sf_204) (by first | (clear hps hgd hinv; omega) | omega) (by first | (clear hps hgd hinv; omega) | omega) (mi_g k44.1 (by decide) (mr_204 _)) (fun x50 ex50 _ _ => ?_)
            refine A_iconst d_MD_soundPart_114 rfl ?_
            refine A_pc (pc' := 115) rfl ?_
            refine A_icmp_ne (tgt := 128) d_MD_soundPart_115 (by decide) (fun c51 => ?_) (fun c51 => ?_)
            · refine A_aload_n 0 d_MD_soundPart_128 rfl rfl ?_
              refine A_getAv (z := some 204) T_ok d_MD_soundPart_129 f_MD_115 (mi_s k44.1 sf_170) (mi_r k44.1 rfm_47) ?_
              refine A_iload_n 1 d_MD_soundPart_132 rfl rfl ?_
              refine A_ialoadv (z := x50) d_MD_soundPart_133 (mi_s k44.1 sf_204) (by first | (clear hps hgd hinv; omega) | omega) (by first | (clear hps hgd hinv; omega) | omega) ex50.symm ?_
              refine A_if_le (tgt := 185) d_MD_soundPart_134 (by decide) (fun c54 => ?_) (fun c54 => ?_)
              · refine A_aload_n 0 d_MD_soundPart_185 rfl rfl ?_
                refine A_iload_n 1 d_MD_soundPart_186 rfl rfl ?_
                have zf56 := esd45.symm
                have zf57 := ((k44.2.2.1 _ _ rfl).trans esd2.symm)
                have zf58 := hinv.2.1.1
                have zf59 := ((k44.2.2.1 _ _ rfl).trans esd4.symm)
                have zf60 := esd46.symm
                refine A_callV1 m_MD_pitchOf T_ok d_MD_soundPart_187 l_MD_378 k_MD_pitchOf (mi_s k44.1 sf_170) rfl (by decide +kernel) (by decide) (Nat.le_of_ble_eq_true rfl) (s_MD_pitchOf k44.1 (by first | (clear hps hgd hinv; omega) | omega) (by first | (clear hps hgd hinv; omega) | omega) (by have qq0 := esd45.symm; have qq1 := ((k44.2.2.1 _ _ rfl).trans esd2.symm); first | (clear hps hgd hinv; omega) | omega) (by have qp := ex50.symm; first | (clear hps hgd hinv; omega) | omega)) (fun r h55 hq => ?_)
                obtain ⟨x62, rfl, bx62, xx62, k61⟩ := hq
                have k63 := kM_t k44 k61 (pm_s (by decide) (by decide))
                obtain ⟨sd64, esd64⟩ : ∃ x, x = h55.2.1 170 3 := ⟨_, rfl⟩
                have rsd64 : 0 ≤ sd64 ∧ sd64 ≤ 2000 := (by rw [esd64]; exact mi_g k63.1 (by decide) mr_170_3)
                obtain ⟨sd65, esd65⟩ : ∃ x, x = h55.2.1 170 4 := ⟨_, rfl⟩
                have rsd65 : 0 ≤ sd65 ∧ sd65 ≤ 6 := (by rw [esd65]; exact mi_g k63.1 (by decide) mr_170_4)
                refine A_if_ne (tgt := 195) d_MD_soundPart_190 (by decide) (fun c66 => ?_) (fun c66 => ?_)
                · refine A_aload_n 0 d_MD_soundPart_195 rfl rfl ?_
                  refine A_bipush d_MD_soundPart_196 rfl ?_
                  have zf68 := esd64.symm
                  have zf69 := ((k61.2.2.1 _ _ rfl).trans ((k44.2.2.1 _ _ rfl).trans esd2.symm))
                  have zf70 := ((k61.2.2.1 _ _ rfl).trans hinv.2.1.1)
                  have zf71 := ((k61.2.2.1 _ _ rfl).trans ((k44.2.2.1 _ _ rfl).trans esd4.symm))
                  have zf72 := esd65.symm
                  refine A_callV1 m_MD_isSign T_ok d_MD_soundPart_198 l_MD_306 k_MD_isSign (mi_s k63.1 sf_170) rfl (by decide +kernel) (by decide) (Nat.le_of_ble_eq_true rfl) (s_MD_isSign k63.1 ) (fun r h67 hq => ?_)
                  obtain ⟨x74, rfl, bx74, xx74, rfl⟩ := hq
                  refine A_if_eq (tgt := 95) d_MD_soundPart_201 (by decide) (fun c75 => ?_) (fun c75 => ?_)
                  · exact ih95 h55 ⟨(by have qq0 := esd64.symm; have qq1 := ((k61.2.2.1 _ _ rfl).trans ((k44.2.2.1 _ _ rfl).trans esd2.symm)); have qq2 := esd65.symm; exact ⟨by first | (clear hps hgd hinv; omega) | omega, by first | (clear hps hgd hinv; omega) | omega, by first | (clear hps hgd hinv; omega) | omega, by first | (clear hps hgd hinv; omega) | omega⟩), ⟨((k61.2.2.1 _ _ rfl).trans hinv.2.1.1), (fun k hk => ((k61.2.2.1 201 k rfl).trans (hinv.2.1.2.1 k hk))), ((k61.2.2.1 _ _ rfl).trans hinv.2.1.2.2.1), (fun k hk => ((k61.2.2.1 202 k rfl).trans (hinv.2.1.2.2.2 k hk)))⟩, (by have qq0 := esd64.symm; have qq1 := ((k61.2.2.1 _ _ rfl).trans ((k44.2.2.1 _ _ rfl).trans esd2.symm)); have qq2 := esd65.symm; have qq3 := ((k61.2.2.1 _ _ rfl).trans hinv.2.1.1); exact ⟨by first | (clear hps hgd hinv; omega) | omega, by first | (clear hps hgd hinv; omega) | omega⟩)⟩ k63 (by have qq0 := esd64.symm; have qq1 := esd65.symm; have qh0 := ((k44.2.2.1 _ _ rfl).trans esd2.symm); have qh1 := esd45.symm; have qe0 := ((k61.2.2.1 _ _ rfl).trans ((k44.2.2.1 _ _ rfl).trans esd2.symm)); first | exact mu_dec (h0 := h43) (h1 := h55) hm (by first | (clear hps hgd hinv; omega) | omega) (by first | (clear hps hgd hinv; omega) | omega) (by first | (clear hps hgd hinv; omega) | omega) (by first | (clear hps hgd hinv; omega) | omega) (by first | (clear hps hgd hinv; omega) | omega) (fun _ _ => by first | (clear hps hgd hinv; omega) | omega) | (have mm0 := mu_f h43; have mm1 := mu_f h55; first | (clear hps hgd hinv; omega) | omega))
                  · refine A_aload_n 0 d_MD_soundPart_204 rfl rfl ?_
                    have zf77 := esd64.symm
                    have zf78 := ((k61.2.2.1 _ _ rfl).trans ((k44.2.2.1 _ _ rfl).trans esd2.symm))
                    have zf79 := ((k61.2.2.1 _ _ rfl).trans hinv.2.1.1)
                    have zf80 := ((k61.2.2.1 _ _ rfl).trans ((k44.2.2.1 _ _ rfl).trans esd4.symm))
                    have zf81 := esd65.symm
                    refine A_callV0 m_MD_next T_ok d_MD_soundPart_205 l_MD_309 k_MD_next (mi_s k63.1 sf_170) rfl (by decide +kernel) (by decide) (Nat.le_of_ble_eq_true rfl) (s_MD_next k63.1 (by have qq0 := esd64.symm; have qq1 := ((k61.2.2.1 _ _ rfl).trans ((k44.2.2.1 _ _ rfl).trans esd2.symm)); first | (clear hps hgd hinv; omega) | omega)) (fun r h76 hq => ?_)
                    obtain ⟨x83, rfl, ⟨_, _⟩, xx83, k82⟩ := hq
                    have xa83 := xx83.1
                    have xb83 := xx83.2.1
                    have k84 := kM_t k63 k82 (pm_s (by decide) (by decide))
                    obtain ⟨sd85, esd85⟩ : ∃ x, x = h76.2.1 170 3 := ⟨_, rfl⟩
                    have rsd85 : 0 ≤ sd85 ∧ sd85 ≤ 2000 := (by rw [esd85]; exact mi_g k84.1 (by decide) mr_170_3)
                    obtain ⟨sd86, esd86⟩ : ∃ x, x = h76.2.1 170 4 := ⟨_, rfl⟩
                    have rsd86 : 0 ≤ sd86 ∧ sd86 ≤ 6 := (by rw [esd86]; exact mi_g k84.1 (by decide) mr_170_4)
                    refine A_popI d_MD_soundPart_208 ?_
                    refine A_aload_n 0 d_MD_soundPart_209 rfl rfl ?_
                    refine A_getIv (z := sd86) T_ok d_MD_soundPart_210 f_MD_239 (mi_s k84.1 sf_170) esd86.symm ?_
                    refine A_iconst d_MD_soundPart_213 rfl ?_
                    refine A_icmp_eq (tgt := 222) d_MD_soundPart_214 (by decide) (fun c88 => ?_) (fun c88 => ?_)
                    · refine A_aload_n 0 d_MD_soundPart_222 rfl rfl ?_
                      refine A_aload_n 0 d_MD_soundPart_223 rfl rfl ?_
                      refine A_getIn (lo := 0) (hi := 9999) T_ok d_MD_soundPart_224 f_MD_271 (mi_s k84.1 sf_170) (mi_g k84.1 (by decide) mr_170_6) (fun x89 ex89 _ _ => ?_)
                      refine A_bipush d_MD_soundPart_227 rfl ?_
                      refine A_callV2 m_MD_isPower T_ok d_MD_soundPart_229 l_MD_347 k_MD_isPower (mi_s k84.1 sf_170) rfl (by decide +kernel) (by decide) (Nat.le_of_ble_eq_true rfl) (s_MD_isPower  ) (fun r h90 hq => ?_)
                      obtain ⟨x92, rfl, bx92, xx92, rfl⟩ := hq
                      refine A_if_ne (tgt := 245) d_MD_soundPart_232 (by decide) (fun c93 => ?_) (fun c93 => ?_)
                      · refine A_aload_n 0 d_MD_soundPart_245 rfl rfl ?_
                        refine A_getAv (z := some 202) T_ok d_MD_soundPart_246 f_MD_109 (mi_s k84.1 sf_170) (mi_r k84.1 rfm_45) ?_
                        refine A_iload_n 1 d_MD_soundPart_249 rfl rfl ?_
                        refine A_aload_n 0 d_MD_soundPart_250 rfl rfl ?_
                        refine A_getIv (z := x89) T_ok d_MD_soundPart_251 f_MD_271 (mi_s k84.1 sf_170) ex89.symm ?_
                        refine A_pc (pc' := 254) rfl ?_
                        refine A_iastorek (KR := kM (pm [3, 4, 5, 6, 7, 8, 9, 10, 11, 12, 43, 64] [201, 202, 204, 205, 206, 207, 208, 209]) h) d_MD_soundPart_254 (mi_s k84.1 sf_202) (by first | (clear xx39 hps hgd hinv; omega) | (clear xx39; omega) | omega) (by first | (clear xx39 hps hgd hinv; omega) | (clear xx39; omega) | omega) (kM_i k84 (by decide) rfl (mr_202 _) (by first | (clear xx39 hps hgd hinv; omega) | (clear xx39; omega) | omega) (by first | (clear xx39 hps hgd hinv; omega) | (clear xx39; omega) | omega)) (fun h96 k97 eh96 => ?_)
                        refine A_aload_n 0 d_MD_soundPart_255 rfl rfl ?_
                        have zf99 := ((eh96.1 _ _ (fun q => absurd q (by decide))).trans esd85.symm)
                        have zf100 := ((eh96.1 _ _ (fun q => absurd q (by decide))).trans ((k82.2.2.1 _ _ rfl).trans ((k61.2.2.1 _ _ rfl).trans ((k44.2.2.1 _ _ rfl).trans esd2.symm))))
                        have zf101 := ((eh96.1 _ _ (fun q => absurd q (by decide))).trans ((k82.2.2.1 _ _ rfl).trans ((k61.2.2.1 _ _ rfl).trans hinv.2.1.1)))
                        have zf102 := ((eh96.1 _ _ (fun q => absurd q (by decide))).trans ((k82.2.2.1 _ _ rfl).trans ((k61.2.2.1 _ _ rfl).trans ((k44.2.2.1 _ _ rfl).trans esd4.symm))))
                        have zf103 := ((eh96.1 _ _ (fun q => absurd q (by decide))).trans esd86.symm)
                        refine A_callV0 m_MD_next T_ok d_MD_soundPart_256 l_MD_309 k_MD_next (mi_s k97.1 sf_170) rfl (by decide +kernel) (by decide) (Nat.le_of_ble_eq_true rfl) (s_MD_next k97.1 (by have qq0 := ((eh96.1 _ _ (fun q => absurd q (by decide))).trans esd85.symm); have qq1 := ((eh96.1 _ _ (fun q => absurd q (by decide))).trans ((k82.2.2.1 _ _ rfl).trans ((k61.2.2.1 _ _ rfl).trans ((k44.2.2.1 _ _ rfl).trans esd2.symm)))); first | (clear xx39 hps hgd hinv; omega) | (clear xx39; omega) | omega)) (fun r h98 hq => ?_)
                        obtain ⟨x105, rfl, ⟨_, _⟩, xx105, k104⟩ := hq
                        have xa105 := xx105.1
                        have xb105 := xx105.2.1
                        have k106 := kM_t k97 k104 (pm_s (by decide) (by decide))
                        obtain ⟨sd107, esd107⟩ : ∃ x, x = h98.2.1 170 3 := ⟨_, rfl⟩
                        have rsd107 : 0 ≤ sd107 ∧ sd107 ≤ 2000 := (by rw [esd107]; exact mi_g k106.1 (by decide) mr_170_3)
                        obtain ⟨sd108, esd108⟩ : ∃ x, x = h98.2.1 170 4 := ⟨_, rfl⟩
                        have rsd108 : 0 ≤ sd108 ∧ sd108 ≤ 6 := (by rw [esd108]; exact mi_g k106.1 (by decide) mr_170_4)
                        refine A_popI d_MD_soundPart_259 ?_
                        refine A_aload_n 0 d_MD_soundPart_260 rfl rfl ?_
                        refine A_getAv (z := some 209) T_ok d_MD_soundPart_261 f_MD_130 (mi_s k106.1 sf_170) (mi_r k106.1 rfm_52) ?_
                        refine A_iload_n 1 d_MD_soundPart_264 rfl rfl ?_
                        refine A_iconst d_MD_soundPart_265 rfl ?_
                        refine A_pc (pc' := 266) rfl ?_
                        refine A_iastorek (KR := kM (pm [3, 4, 5, 6, 7, 8, 9, 10, 11, 12, 43, 64] [201, 202, 204, 205, 206, 207, 208, 209]) h) d_MD_soundPart_266 (mi_s k106.1 sf_209) (by first | (clear xx39 xx83 hps hgd hinv; omega) | (clear xx39 xx83; omega) | omega) (by first | (clear xx39 xx83 hps hgd hinv; omega) | (clear xx39 xx83; omega) | omega) (kM_i k106 (by decide) rfl (mr_209 _) (by first | (clear xx39 xx83 hps hgd hinv; omega) | (clear xx39 xx83; omega) | omega) (by first | (clear xx39 xx83 hps hgd hinv; omega) | (clear xx39 xx83; omega) | omega)) (fun h110 k111 eh110 => ?_)
                        have lp267 : ∀ (n : Nat) (h112 : ah_T) , (h.2.1 170 3 ≤ h112.2.1 170 3 ∧ h112.2.1 170 3 ≤ h.2.1 170 2 ∧ (h112.2.1 170 4 ≠ 0 → h112.2.1 170 4 ≠ 6 → h.2.1 170 3 < h112.2.1 170 3) ∧ (h112.2.1 170 4 = 0 → h112.2.1 170 3 = h.2.1 170 2)) ∧ SI h h112 sd3 ∧ (1 ≤ h112.2.1 202 (sd3).toNat ∧ h112.2.1 202 (sd3).toNat ≤ 64) ∧ (h112.2.1 170 43 ≤ h112.2.1 170 3 ∧ (h112.2.1 170 4 ≠ 0 → h112.2.1 170 4 ≠ 6 → h112.2.1 170 43 + 1 ≤ h112.2.1 170 3)) → kM (pm [3, 4, 5, 6, 7, 8, 9, 10, 11, 12, 43, 64] [201, 202, 204, 205, 206, 207, 208, 209]) h h112 → (mu h112).toNat < n → aw G (rm_R 4 0 0) m_MD_soundPart 0 0 267 [some (av_R (some 170)), some (av_I sd3), some (av_I x28)] [] h112 (fun r h' => ∃ z, r = some (av_I z) ∧ (z = 0 ∨ z = 1) ∧ (z = 1 → (h.2.1 170 3 ≤ h'.2.1 170 3 ∧ h'.2.1 170 3 ≤ h.2.1 170 2 ∧ (h'.2.1 170 4 ≠ 0 → h'.2.1 170 4 ≠ 6 → h.2.1 170 3 < h'.2.1 170 3) ∧ (h'.2.1 170 4 = 0 → h'.2.1 170 3 = h.2.1 170 2)) ∧ (h'.2.1 170 43 ≤ h'.2.1 170 3 ∧ (h'.2.1 170 4 ≠ 0 → h'.2.1 170 4 ≠ 6 → h'.2.1 170 43 + 1 ≤ h'.2.1 170 3)) ∧ VHx h') ∧ kM (pm [3, 4, 5, 6, 7, 8, 9, 10, 11, 12, 43, 64] [201, 202, 204, 205, 206, 207, 208, 209]) h h') := by
                          intro n
                          induction n with
                          | zero => intro h112 _ _ hm; omega
                          | succ n ih267 =>
                            clear hinv
                            intro h112  hinv k113 hm
                            have hvA := hinv.1.1
                            have hvB := hinv.1.2.1
                            have hvC := hinv.2.2.2.1
                            have hvD := hinv.2.2.1
                            obtain ⟨sd114, esd114⟩ : ∃ x, x = h112.2.1 170 3 := ⟨_, rfl⟩
                            have rsd114 : 0 ≤ sd114 ∧ sd114 ≤ 2000 := (by rw [esd114]; exact mi_g k113.1 (by decide) mr_170_3)
                            obtain ⟨sd115, esd115⟩ : ∃ x, x = h112.2.1 170 4 := ⟨_, rfl⟩
                            have rsd115 : 0 ≤ sd115 ∧ sd115 ≤ 6 := (by rw [esd115]; exact mi_g k113.1 (by decide) mr_170_4)
                            refine A_aload_n 0 d_MD_soundPart_267 rfl rfl ?_
                            refine A_bipush d_MD_soundPart_268 rfl ?_
                            have zf117 := esd114.symm
                            have zf118 := ((k113.2.2.1 _ _ rfl).trans esd2.symm)
                            have zf119 := hinv.2.1.1
                            have zf120 := ((k113.2.2.1 _ _ rfl).trans esd4.symm)
                            have zf121 := esd115.symm
                            refine A_callV1 m_MD_isSign T_ok d_MD_soundPart_270 l_MD_306 k_MD_isSign (mi_s k113.1 sf_170) rfl (by decide +kernel) (by decide) (Nat.le_of_ble_eq_true rfl) (s_MD_isSign k113.1 ) (fun r h116 hq => ?_)
                            obtain ⟨x123, rfl, bx123, xx123, rfl⟩ := hq
                            refine A_if_eq (tgt := 314) d_MD_soundPart_273 (by decide) (fun c124 => ?_) (fun c124 => ?_)
                            · refine A_aload_n 0 d_MD_soundPart_314 rfl rfl ?_
                              refine A_getAv (z := some 208) T_ok d_MD_soundPart_315 f_MD_127 (mi_s k113.1 sf_170) (mi_r k113.1 rfm_51) ?_
                              refine A_iload_n 1 d_MD_soundPart_318 rfl rfl ?_
                              refine A_aload_n 0 d_MD_soundPart_319 rfl rfl ?_
                              refine A_bipush d_MD_soundPart_320 rfl ?_
                              refine A_pc (pc' := 322) rfl ?_
                              have zf127 := esd114.symm
                              have zf128 := ((k113.2.2.1 _ _ rfl).trans esd2.symm)
                              have zf129 := hinv.2.1.1
                              have zf130 := ((k113.2.2.1 _ _ rfl).trans esd4.symm)
                              have zf131 := esd115.symm
                              refine A_callV1 m_MD_isSign T_ok d_MD_soundPart_322 l_MD_306 k_MD_isSign (mi_s k113.1 sf_170) rfl (by decide +kernel) (by decide) (Nat.le_of_ble_eq_true rfl) (s_MD_isSign k113.1 ) (fun r h126 hq => ?_)
                              obtain ⟨x133, rfl, bx133, xx133, rfl⟩ := hq
                              refine A_zastorek (KR := kM (pm [3, 4, 5, 6, 7, 8, 9, 10, 11, 12, 43, 64] [201, 202, 204, 205, 206, 207, 208, 209]) h) d_MD_soundPart_325 (mi_s k113.1 sf_208) (by first | (clear xx39 xx83 hps hgd hinv; omega) | (clear xx39 xx83; omega) | omega) (by first | (clear xx39 xx83 hps hgd hinv; omega) | (clear xx39 xx83; omega) | omega) (by first | (clear xx39 xx83 hps hgd hinv; omega) | (clear xx39 xx83; omega) | omega) (kM_i k113 (by decide) rfl (mr_208 _) (by first | (clear xx39 xx83 hps hgd hinv; omega) | (clear xx39 xx83; omega) | omega) (by first | (clear xx39 xx83 hps hgd hinv; omega) | (clear xx39 xx83; omega) | omega)) (fun h134 k135 eh134 => ?_)
                              refine A_aload_n 0 d_MD_soundPart_326 rfl rfl ?_
                              refine A_getAv (z := some 208) T_ok d_MD_soundPart_327 f_MD_127 (mi_s k135.1 sf_170) (mi_r k135.1 rfm_51) ?_
                              refine A_iload_n 1 d_MD_soundPart_330 rfl rfl ?_
                              refine A_zaloadn d_MD_soundPart_331 (mi_s k135.1 sf_208) (by first | (clear xx39 xx83 hps hgd hinv; omega) | (clear xx39 xx83; omega) | omega) (by first | (clear xx39 xx83 hps hgd hinv; omega) | (clear xx39 xx83; omega) | omega) (fun x137 ex137 bx137 => ?_)
                              refine A_pc (pc' := 332) rfl ?_
                              refine A_if_ne (tgt := 337) d_MD_soundPart_332 (by decide) (fun c138 => ?_) (fun c138 => ?_)
                              · refine A_iload_n 2 d_MD_soundPart_337 rfl rfl ?_
                                refine A_if_eq (tgt := 354) d_MD_soundPart_338 (by decide) (fun c139 => ?_) (fun c => False.elim (by first | (clear xx39 xx83 hps hgd hinv; omega) | (clear xx39 xx83; omega) | omega))
                                refine A_aload_n 0 d_MD_soundPart_354 rfl rfl ?_
                                have zf141 := ((eh134.1 _ _ (fun q => absurd q (by decide))).trans esd114.symm)
                                have zf142 := ((eh134.1 _ _ (fun q => absurd q (by decide))).trans ((k113.2.2.1 _ _ rfl).trans esd2.symm))
                                have zf143 := ((eh134.1 _ _ (fun q => absurd q (by decide))).trans hinv.2.1.1)
                                have zf144 := ((eh134.1 _ _ (fun q => absurd q (by decide))).trans ((k113.2.2.1 _ _ rfl).trans esd4.symm))
                                have zf145 := ((eh134.1 _ _ (fun q => absurd q (by decide))).trans esd115.symm)
                                refine A_callV0 m_MD_next T_ok d_MD_soundPart_355 l_MD_309 k_MD_next (mi_s k135.1 sf_170) rfl (by decide +kernel) (by decide) (Nat.le_of_ble_eq_true rfl) (s_MD_next k135.1 (by have qq0 := ((eh134.1 _ _ (fun q => absurd q (by decide))).trans esd114.symm); have qq1 := ((eh134.1 _ _ (fun q => absurd q (by decide))).trans ((k113.2.2.1 _ _ rfl).trans esd2.symm)); first | (clear xx39 xx83 hps hgd hinv; omega) | (clear xx39 xx83; omega) | omega)) (fun r h140 hq => ?_)
                                obtain ⟨x147, rfl, ⟨_, _⟩, xx147, k146⟩ := hq
                                have xa147 := xx147.1
                                have xb147 := xx147.2.1
                                have k148 := kM_t k135 k146 (pm_s (by decide) (by decide))
                                obtain ⟨sd149, esd149⟩ : ∃ x, x = h140.2.1 170 3 := ⟨_, rfl⟩
                                have rsd149 : 0 ≤ sd149 ∧ sd149 ≤ 2000 := (by rw [esd149]; exact mi_g k148.1 (by decide) mr_170_3)
                                obtain ⟨sd150, esd150⟩ : ∃ x, x = h140.2.1 170 4 := ⟨_, rfl⟩
                                have rsd150 : 0 ≤ sd150 ∧ sd150 ≤ 6 := (by rw [esd150]; exact mi_g k148.1 (by decide) mr_170_4)
                                exact A_zret d_MD_soundPart_358 (by decide) rfl (by first | (clear xx39 xx83 xx105 hps hgd hinv; omega) | (clear xx39 xx83 xx105; omega) | omega) ⟨_, rfl, by first | (clear xx39 xx83 xx105 hps hgd hinv; omega) | (clear xx39 xx83 xx105; omega) | omega, (fun _ => ⟨by have qq0 := esd149.symm; have qq1 := ((k146.2.2.1 _ _ rfl).trans ((eh134.1 _ _ (fun q => absurd q (by decide))).trans ((k113.2.2.1 _ _ rfl).trans esd2.symm))); have qq2 := esd150.symm; have qq3 := ((k146.2.2.1 _ _ rfl).trans ((eh134.1 _ _ (fun q => absurd q (by decide))).trans hinv.2.1.1)); exact ⟨by first | (clear xx39 xx83 xx105 hps hgd hinv; omega) | (clear xx39 xx83 xx105; omega) | omega, by first | (clear xx39 xx83 xx105 hps hgd hinv; omega) | (clear xx39 xx83 xx105; omega) | omega, by first | (clear xx39 xx83 xx105 hps hgd hinv; omega) | (clear xx39 xx83 xx105; omega) | omega, by first | (clear xx39 xx83 xx105 hps hgd hinv; omega) | (clear xx39 xx83 xx105; omega) | omega⟩, by have qq0 := esd149.symm; have qq1 := ((k146.2.2.1 _ _ rfl).trans ((eh134.1 _ _ (fun q => absurd q (by decide))).trans ((k113.2.2.1 _ _ rfl).trans esd2.symm))); have qq2 := esd150.symm; have qq3 := ((k146.2.2.1 _ _ rfl).trans ((eh134.1 _ _ (fun q => absurd q (by decide))).trans hinv.2.1.1)); exact ⟨by first | (clear xx39 xx83 xx105 hps hgd hinv; omega) | (clear xx39 xx83 xx105; omega) | omega, by first | (clear xx39 xx83 xx105 hps hgd hinv; omega) | (clear xx39 xx83 xx105; omega) | omega⟩, VH_s (x := sd3) hVH esd3.symm ((k146.2.2.1 _ _ rfl).trans ((eh134.1 _ _ (fun q => absurd q (by decide))).trans hinv.2.1.1)) (k148.2.2.1 170 63 rfl) (fun k hk => ((k146.2.2.1 201 k rfl).trans ((eh134.1 201 k (fun q => absurd q (by decide))).trans (hinv.2.1.2.1 k hk)))) (Or.inr ⟨((k146.2.2.1 _ _ rfl).trans ((eh134.1 _ _ (fun q => absurd q (by decide))).trans hinv.2.1.2.2.1)), (by have q1 := ((k146.2.2.1 202 (sd3).toNat rfl).trans (eh134.1 202 (sd3).toNat (fun q => absurd q (by decide)))); have q2 := hinv.2.2.1; exact ⟨by first | (clear xx39 xx83 xx105 hps hgd hinv; omega) | (clear xx39 xx83 xx105; omega) | omega, by first | (clear xx39 xx83 xx105 hps hgd hinv; omega) | (clear xx39 xx83 xx105; omega) | omega⟩)⟩) (fun k hk => ((k146.2.2.1 202 k rfl).trans ((eh134.1 202 k (fun q => absurd q (by decide))).trans (hinv.2.1.2.2.2 k hk)))) (by intro a ha; simp only [List.mem_cons, List.not_mem_nil, or_false] at ha; rcases ha with rfl | rfl | rfl | rfl | rfl | rfl | rfl | rfl <;> exact (funext (fun k => k148.2.2.1 _ k rfl)))⟩), k148⟩
                              · refine A_iconst d_MD_soundPart_335 rfl ?_
                                exact A_zret d_MD_soundPart_336 (by decide) rfl (by first | (clear xx39 xx83 hps hgd hinv; omega) | (clear xx39 xx83; omega) | omega) ⟨_, rfl, by first | (clear xx39 xx83 hps hgd hinv; omega) | (clear xx39 xx83; omega) | omega, (fun _ => ⟨by have qq0 := ((eh134.1 _ _ (fun q => absurd q (by decide))).trans esd114.symm); have qq1 := ((eh134.1 _ _ (fun q => absurd q (by decide))).trans ((k113.2.2.1 _ _ rfl).trans esd2.symm)); have qq2 := ((eh134.1 _ _ (fun q => absurd q (by decide))).trans esd115.symm); have qq3 := ((eh134.1 _ _ (fun q => absurd q (by decide))).trans hinv.2.1.1); exact ⟨by first | (clear xx39 xx83 hps hgd hinv; omega) | (clear xx39 xx83; omega) | omega, by first | (clear xx39 xx83 hps hgd hinv; omega) | (clear xx39 xx83; omega) | omega, by first | (clear xx39 xx83 hps hgd hinv; omega) | (clear xx39 xx83; omega) | omega, by first | (clear xx39 xx83 hps hgd hinv; omega) | (clear xx39 xx83; omega) | omega⟩, by have qq0 := ((eh134.1 _ _ (fun q => absurd q (by decide))).trans esd114.symm); have qq1 := ((eh134.1 _ _ (fun q => absurd q (by decide))).trans ((k113.2.2.1 _ _ rfl).trans esd2.symm)); have qq2 := ((eh134.1 _ _ (fun q => absurd q (by decide))).trans esd115.symm); have qq3 := ((eh134.1 _ _ (fun q => absurd q (by decide))).trans hinv.2.1.1); exact ⟨by first | (clear xx39 xx83 hps hgd hinv; omega) | (clear xx39 xx83; omega) | omega, by first | (clear xx39 xx83 hps hgd hinv; omega) | (clear xx39 xx83; omega) | omega⟩, VH_s (x := sd3) hVH esd3.symm ((eh134.1 _ _ (fun q => absurd q (by decide))).trans hinv.2.1.1) (k135.2.2.1 170 63 rfl) (fun k hk => ((eh134.1 201 k (fun q => absurd q (by decide))).trans (hinv.2.1.2.1 k hk))) (Or.inr ⟨((eh134.1 _ _ (fun q => absurd q (by decide))).trans hinv.2.1.2.2.1), (by have q1 := (eh134.1 202 (sd3).toNat (fun q => absurd q (by decide))); have q2 := hinv.2.2.1; exact ⟨by first | (clear xx39 xx83 hps hgd hinv; omega) | (clear xx39 xx83; omega) | omega, by first | (clear xx39 xx83 hps hgd hinv; omega) | (clear xx39 xx83; omega) | omega⟩)⟩) (fun k hk => ((eh134.1 202 k (fun q => absurd q (by decide))).trans (hinv.2.1.2.2.2 k hk))) (by intro a ha; simp only [List.mem_cons, List.not_mem_nil, or_false] at ha; rcases ha with rfl | rfl | rfl | rfl | rfl | rfl | rfl | rfl <;> exact (funext (fun k => k135.2.2.1 _ k rfl)))⟩), k135⟩
                            · refine A_aload_n 0 d_MD_soundPart_276 rfl rfl ?_
                              refine A_getAv (z := some 209) T_ok d_MD_soundPart_277 f_MD_130 (mi_s k113.1 sf_170) (mi_r k113.1 rfm_52) ?_
                              refine A_iload_n 1 d_MD_soundPart_280 rfl rfl ?_
                              refine A_ialoadn (lo := 0) (hi := 3) d_MD_soundPart_281 (mi_s k113.1 sf_209) (by first | (clear xx39 xx83 hps hgd hinv; omega) | (clear xx39 xx83; omega) | omega) (by first | (clear xx39 xx83 hps hgd hinv; omega) | (clear xx39 xx83; omega) | omega) (mi_g k113.1 (by decide) (mr_209 _)) (fun x152 ex152 _ _ => ?_)
                              refine A_iconst d_MD_soundPart_282 rfl ?_
                              refine A_pc (pc' := 283) rfl ?_
                              refine A_icmp_ne (tgt := 296) d_MD_soundPart_283 (by decide) (fun c153 => ?_) (fun c153 => ?_)
                              · refine A_aload_n 0 d_MD_soundPart_296 rfl rfl ?_
                                refine A_getAv (z := some 209) T_ok d_MD_soundPart_297 f_MD_130 (mi_s k113.1 sf_170) (mi_r k113.1 rfm_52) ?_
                                refine A_iload_n 1 d_MD_soundPart_300 rfl rfl ?_
                                refine A_dup2RI d_MD_soundPart_301 ?_
                                refine A_ialoadv (z := x152) d_MD_soundPart_302 (mi_s k113.1 sf_209) (by first | (clear xx39 xx83 hps hgd hinv; omega) | (clear xx39 xx83; omega) | omega) (by first | (clear xx39 xx83 hps hgd hinv; omega) | (clear xx39 xx83; omega) | omega) ex152.symm ?_
                                refine A_pc (pc' := 303) rfl ?_
                                refine A_iconst d_MD_soundPart_303 rfl ?_
                                refine A_iaddv (z := (x152 + 1)) d_MD_soundPart_304 (w32_to (by first | (clear xx39 xx83 hps hgd hinv; omega) | (clear xx39 xx83; omega) | omega) (by unfold i32; first | (clear xx39 xx83 hps hgd hinv; omega) | (clear xx39 xx83; omega) | omega)) ?_
                                refine A_iastorek (KR := kM (pm [3, 4, 5, 6, 7, 8, 9, 10, 11, 12, 43, 64] [201, 202, 204, 205, 206, 207, 208, 209]) h) d_MD_soundPart_305 (mi_s k113.1 sf_209) (by first | (clear xx39 xx83 hps hgd hinv; omega) | (clear xx39 xx83; omega) | omega) (by first | (clear xx39 xx83 hps hgd hinv; omega) | (clear xx39 xx83; omega) | omega) (kM_i k113 (by decide) rfl (mr_209 _) (by first | (clear xx39 xx83 hps hgd hinv; omega) | (clear xx39 xx83; omega) | omega) (by first | (clear xx39 xx83 hps hgd hinv; omega) | (clear xx39 xx83; omega) | omega)) (fun h156 k157 eh156 => ?_)
                                refine A_aload_n 0 d_MD_soundPart_306 rfl rfl ?_
                                have zf159 := ((eh156.1 _ _ (fun q => absurd q (by decide))).trans esd114.symm)
                                have zf160 := ((eh156.1 _ _ (fun q => absurd q (by decide))).trans ((k113.2.2.1 _ _ rfl).trans esd2.symm))
                                have zf161 := ((eh156.1 _ _ (fun q => absurd q (by decide))).trans hinv.2.1.1)
                                have zf162 := ((eh156.1 _ _ (fun q => absurd q (by decide))).trans ((k113.2.2.1 _ _ rfl).trans esd4.symm))
                                have zf163 := ((eh156.1 _ _ (fun q => absurd q (by decide))).trans esd115.symm)
                                refine A_callV0 m_MD_next T_ok d_MD_soundPart_307 l_MD_309 k_MD_next (mi_s k157.1 sf_170) rfl (by decide +kernel) (by decide) (Nat.le_of_ble_eq_true rfl) (s_MD_next k157.1 (by have qq0 := ((eh156.1 _ _ (fun q => absurd q (by decide))).trans esd114.symm); have qq1 := ((eh156.1 _ _ (fun q => absurd q (by decide))).trans ((k113.2.2.1 _ _ rfl).trans esd2.symm)); first | (clear xx39 xx83 hps hgd hinv; omega) | (clear xx39 xx83; omega) | omega)) (fun r h158 hq => ?_)
                                obtain ⟨x165, rfl, ⟨_, _⟩, xx165, k164⟩ := hq
                                have xa165 := xx165.1
                                have xb165 := xx165.2.1
                                have k166 := kM_t k157 k164 (pm_s (by decide) (by decide))
                                obtain ⟨sd167, esd167⟩ : ∃ x, x = h158.2.1 170 3 := ⟨_, rfl⟩
                                have rsd167 : 0 ≤ sd167 ∧ sd167 ≤ 2000 := (by rw [esd167]; exact mi_g k166.1 (by decide) mr_170_3)
                                obtain ⟨sd168, esd168⟩ : ∃ x, x = h158.2.1 170 4 := ⟨_, rfl⟩
                                have rsd168 : 0 ≤ sd168 ∧ sd168 ≤ 6 := (by rw [esd168]; exact mi_g k166.1 (by decide) mr_170_4)
                                refine A_popI d_MD_soundPart_310 ?_
                                refine A_goto (tgt := 267) d_MD_soundPart_311 (by decide) ?_
                                exact ih267 h158 ⟨(by have qq0 := esd167.symm; have qq1 := ((k164.2.2.1 _ _ rfl).trans ((eh156.1 _ _ (fun q => absurd q (by decide))).trans ((k113.2.2.1 _ _ rfl).trans esd2.symm))); have qq2 := esd168.symm; exact ⟨by first | (clear xx39 xx83 xx105 hps hgd hinv; omega) | (clear xx39 xx83 xx105; omega) | omega, by first | (clear xx39 xx83 xx105 hps hgd hinv; omega) | (clear xx39 xx83 xx105; omega) | omega, by first | (clear xx39 xx83 xx105 hps hgd hinv; omega) | (clear xx39 xx83 xx105; omega) | omega, by first | (clear xx39 xx83 xx105 hps hgd hinv; omega) | (clear xx39 xx83 xx105; omega) | omega⟩), ⟨((k164.2.2.1 _ _ rfl).trans ((eh156.1 _ _ (fun q => absurd q (by decide))).trans hinv.2.1.1)), (fun k hk => ((k164.2.2.1 201 k rfl).trans ((eh156.1 201 k (fun q => absurd q (by decide))).trans (hinv.2.1.2.1 k hk)))), ((k164.2.2.1 _ _ rfl).trans ((eh156.1 _ _ (fun q => absurd q (by decide))).trans hinv.2.1.2.2.1)), (fun k hk => ((k164.2.2.1 202 k rfl).trans ((eh156.1 202 k (fun q => absurd q (by decide))).trans (hinv.2.1.2.2.2 k hk))))⟩, (by have q1 := ((k164.2.2.1 202 (sd3).toNat rfl).trans (eh156.1 202 (sd3).toNat (fun q => absurd q (by decide)))); have q2 := hinv.2.2.1; exact ⟨by first | (clear xx39 xx83 xx105 hps hgd hinv; omega) | (clear xx39 xx83 xx105; omega) | omega, by first | (clear xx39 xx83 xx105 hps hgd hinv; omega) | (clear xx39 xx83 xx105; omega) | omega⟩), (by have qq0 := esd167.symm; have qq1 := ((k164.2.2.1 _ _ rfl).trans ((eh156.1 _ _ (fun q => absurd q (by decide))).trans ((k113.2.2.1 _ _ rfl).trans esd2.symm))); have qq2 := esd168.symm; have qq3 := ((k164.2.2.1 _ _ rfl).trans ((eh156.1 _ _ (fun q => absurd q (by decide))).trans hinv.2.1.1)); exact ⟨by first | (clear xx39 xx83 xx105 hps hgd hinv; omega) | (clear xx39 xx83 xx105; omega) | omega, by first | (clear xx39 xx83 xx105 hps hgd hinv; omega) | (clear xx39 xx83 xx105; omega) | omega⟩)⟩ k166 (by have qq0 := esd167.symm; have qq1 := esd168.symm; have qh0 := ((k113.2.2.1 _ _ rfl).trans esd2.symm); have qh1 := esd114.symm; have qe0 := ((k164.2.2.1 _ _ rfl).trans ((eh156.1 _ _ (fun q => absurd q (by decide))).trans ((k113.2.2.1 _ _ rfl).trans esd2.symm))); first | exact mu_dec (h0 := h112) (h1 := h158) hm (by first | (clear xx39 xx83 xx105 hps hgd hinv; omega) | (clear xx39 xx83 xx105; omega) | omega) (by first | (clear xx39 xx83 xx105 hps hgd hinv; omega) | (clear xx39 xx83 xx105; omega) | omega) (by first | (clear xx39 xx83 xx105 hps hgd hinv; omega) | (clear xx39 xx83 xx105; omega) | omega) (by first | (clear xx39 xx83 xx105 hps hgd hinv; omega) | (clear xx39 xx83 xx105; omega) | omega) (by first | (clear xx39 xx83 xx105 hps hgd hinv; omega) | (clear xx39 xx83 xx105; omega) | omega) (fun _ _ => by first | (clear xx39 xx83 xx105 hps hgd hinv; omega) | (clear xx39 xx83 xx105; omega) | omega) | (have mm0 := mu_f h112; have mm1 := mu_f h158; first | (clear xx39 xx83 xx105 hps hgd hinv; omega) | (clear xx39 xx83 xx105; omega) | omega))
                              · refine A_aload_n 0 d_MD_soundPart_286 rfl rfl ?_
                                refine A_iconst d_MD_soundPart_287 rfl ?_
                                refine A_aload_n 0 d_MD_soundPart_288 rfl rfl ?_
                                refine A_getIn (lo := 0) (hi := 2000) T_ok d_MD_soundPart_289 f_MD_242 (mi_s k113.1 sf_170) (mi_g k113.1 (by decide) mr_170_5) (fun x169 ex169 _ _ => ?_)
                                have zf171 := esd114.symm
                                have zf172 := ((k113.2.2.1 _ _ rfl).trans esd2.symm)
                                have zf173 := hinv.2.1.1
                                have zf174 := ((k113.2.2.1 _ _ rfl).trans esd4.symm)
                                have zf175 := esd115.symm
                                refine A_callV2 m_MD_wrong T_ok d_MD_soundPart_292 l_MD_245 k_MD_wrong (mi_s k113.1 sf_170) rfl (by decide +kernel) (by decide) (Nat.le_of_ble_eq_true rfl) (s_MD_wrong k113.1 (by first | (clear xx39 xx83 hps hgd hinv; omega) | (clear xx39 xx83; omega) | omega) (by first | (clear xx39 xx83 hps hgd hinv; omega) | (clear xx39 xx83; omega) | omega) (by first | (clear xx39 xx83 hps hgd hinv; omega) | (clear xx39 xx83; omega) | omega) (by first | (clear xx39 xx83 hps hgd hinv; omega) | (clear xx39 xx83; omega) | omega)) (fun r h170 hq => ?_)
                                obtain ⟨x177, rfl, ⟨_, _⟩, k176⟩ := hq
                                have k178 := kM_t k113 k176 (pm_s (by decide) (by decide))
                                obtain rfl : x177 = 0 := by first | (clear xx39 xx83 hps hgd hinv; omega) | (clear xx39 xx83; omega) | omega
                                exact A_zret d_MD_soundPart_295 (by decide) rfl (by first | (clear xx39 xx83 hps hgd hinv; omega) | (clear xx39 xx83; omega) | omega) ⟨_, rfl, by first | (clear xx39 xx83 hps hgd hinv; omega) | (clear xx39 xx83; omega) | omega, (fun q => absurd q (by decide)), k178⟩
                        exact lp267 _ h110 ⟨(by have qq0 := ((eh110.1 _ _ (fun q => absurd q (by decide))).trans esd107.symm); have qq1 := ((eh110.1 _ _ (fun q => absurd q (by decide))).trans ((k104.2.2.1 _ _ rfl).trans ((eh96.1 _ _ (fun q => absurd q (by decide))).trans ((k82.2.2.1 _ _ rfl).trans ((k61.2.2.1 _ _ rfl).trans ((k44.2.2.1 _ _ rfl).trans esd2.symm)))))); have qq2 := ((eh110.1 _ _ (fun q => absurd q (by decide))).trans esd108.symm); exact ⟨by first | (clear xx39 xx83 hps hgd; omega) | (clear xx39 xx83; omega) | omega, by first | (clear xx39 xx83 hps hgd; omega) | (clear xx39 xx83; omega) | omega, by first | (clear xx39 xx83 hps hgd; omega) | (clear xx39 xx83; omega) | omega, by first | (clear xx39 xx83 hps hgd; omega) | (clear xx39 xx83; omega) | omega⟩), ⟨((eh110.1 _ _ (fun q => absurd q (by decide))).trans ((k104.2.2.1 _ _ rfl).trans ((eh96.1 _ _ (fun q => absurd q (by decide))).trans ((k82.2.2.1 _ _ rfl).trans ((k61.2.2.1 _ _ rfl).trans hinv.2.1.1))))), (fun k hk => ((eh110.1 201 k (fun q => absurd q (by decide))).trans ((k104.2.2.1 201 k rfl).trans ((eh96.1 201 k (fun q => absurd q (by decide))).trans ((k82.2.2.1 201 k rfl).trans ((k61.2.2.1 201 k rfl).trans (hinv.2.1.2.1 k hk))))))), ((eh110.1 _ _ (fun q => absurd q (by decide))).trans ((k104.2.2.1 _ _ rfl).trans ((eh96.1 _ _ (fun q => absurd q (by decide))).trans ((k82.2.2.1 _ _ rfl).trans ((k61.2.2.1 _ _ rfl).trans hinv.2.1.2.2.1))))), (fun k hk => ((eh110.1 202 k (fun q => absurd q (by decide))).trans ((k104.2.2.1 202 k rfl).trans ((eh96.1 202 k (fun _ => hk)).trans ((k82.2.2.1 202 k rfl).trans ((k61.2.2.1 202 k rfl).trans (hinv.2.1.2.2.2 k hk)))))))⟩, (by have q1 := ((eh110.1 _ _ (fun q => absurd q (by decide))).trans ((k104.2.2.1 _ _ rfl).trans eh96.2.1)); exact ⟨by first | (clear xx39 xx83 hps hgd; omega) | (clear xx39 xx83; omega) | omega, by first | (clear xx39 xx83 hps hgd; omega) | (clear xx39 xx83; omega) | omega⟩), (by have qq0 := ((eh110.1 _ _ (fun q => absurd q (by decide))).trans esd107.symm); have qq1 := ((eh110.1 _ _ (fun q => absurd q (by decide))).trans ((k104.2.2.1 _ _ rfl).trans ((eh96.1 _ _ (fun q => absurd q (by decide))).trans ((k82.2.2.1 _ _ rfl).trans ((k61.2.2.1 _ _ rfl).trans ((k44.2.2.1 _ _ rfl).trans esd2.symm)))))); have qq2 := ((eh110.1 _ _ (fun q => absurd q (by decide))).trans esd108.symm); have qq3 := ((eh110.1 _ _ (fun q => absurd q (by decide))).trans ((k104.2.2.1 _ _ rfl).trans ((eh96.1 _ _ (fun q => absurd q (by decide))).trans ((k82.2.2.1 _ _ rfl).trans ((k61.2.2.1 _ _ rfl).trans hinv.2.1.1))))); exact ⟨by first | (clear xx39 xx83 hps hgd; omega) | (clear xx39 xx83; omega) | omega, by first | (clear xx39 xx83 hps hgd; omega) | (clear xx39 xx83; omega) | omega⟩)⟩ k111 (Nat.lt_succ_self _)
                      · refine A_aload_n 0 d_MD_soundPart_235 rfl rfl ?_
                        refine A_iconst d_MD_soundPart_236 rfl ?_
                        refine A_aload_n 0 d_MD_soundPart_237 rfl rfl ?_
                        refine A_getIn (lo := 0) (hi := 2000) T_ok d_MD_soundPart_238 f_MD_242 (mi_s k84.1 sf_170) (mi_g k84.1 (by decide) mr_170_5) (fun x179 ex179 _ _ => ?_)
                        have zf181 := esd85.symm
                        have zf182 := ((k82.2.2.1 _ _ rfl).trans ((k61.2.2.1 _ _ rfl).trans ((k44.2.2.1 _ _ rfl).trans esd2.symm)))
                        have zf183 := ((k82.2.2.1 _ _ rfl).trans ((k61.2.2.1 _ _ rfl).trans hinv.2.1.1))
                        have zf184 := ((k82.2.2.1 _ _ rfl).trans ((k61.2.2.1 _ _ rfl).trans ((k44.2.2.1 _ _ rfl).trans esd4.symm)))
                        have zf185 := esd86.symm
                        refine A_callV2 m_MD_wrong T_ok d_MD_soundPart_241 l_MD_245 k_MD_wrong (mi_s k84.1 sf_170) rfl (by decide +kernel) (by decide) (Nat.le_of_ble_eq_true rfl) (s_MD_wrong k84.1 (by first | (clear xx39 hps hgd; omega) | (clear xx39; omega) | omega) (by first | (clear xx39 hps hgd; omega) | (clear xx39; omega) | omega) (by first | (clear xx39 hps hgd; omega) | (clear xx39; omega) | omega) (by first | (clear xx39 hps hgd; omega) | (clear xx39; omega) | omega)) (fun r h180 hq => ?_)
                        obtain ⟨x187, rfl, ⟨_, _⟩, k186⟩ := hq
                        have k188 := kM_t k84 k186 (pm_s (by decide) (by decide))
                        obtain rfl : x187 = 0 := by first | (clear xx39 hps hgd; omega) | (clear xx39; omega) | omega
                        exact A_zret d_MD_soundPart_244 (by decide) rfl (by first | (clear xx39 hps hgd; omega) | (clear xx39; omega) | omega) ⟨_, rfl, by first | (clear xx39 hps hgd; omega) | (clear xx39; omega) | omega, (fun q => absurd q (by decide)), k188⟩
                    · refine A_aload_n 0 d_MD_soundPart_217 rfl rfl ?_
                      have zf190 := esd85.symm
                      have zf191 := ((k82.2.2.1 _ _ rfl).trans ((k61.2.2.1 _ _ rfl).trans ((k44.2.2.1 _ _ rfl).trans esd2.symm)))
                      have zf192 := ((k82.2.2.1 _ _ rfl).trans ((k61.2.2.1 _ _ rfl).trans hinv.2.1.1))
                      have zf193 := ((k82.2.2.1 _ _ rfl).trans ((k61.2.2.1 _ _ rfl).trans ((k44.2.2.1 _ _ rfl).trans esd4.symm)))
                      have zf194 := esd86.symm
                      refine A_callV0 m_MD_cant T_ok d_MD_soundPart_218 l_MD_313 k_MD_cant (mi_s k84.1 sf_170) rfl (by decide +kernel) (by decide) (Nat.le_of_ble_eq_true rfl) (s_MD_cant k84.1 ) (fun r h189 hq => ?_)
                      obtain ⟨x196, rfl, ⟨_, _⟩, k195⟩ := hq
                      have k197 := kM_t k84 k195 (pm_s (by decide) (by decide))
                      obtain rfl : x196 = 0 := by first | (clear xx39 hps hgd; omega) | (clear xx39; omega) | omega
                      exact A_zret d_MD_soundPart_221 (by decide) rfl (by first | (clear xx39 hps hgd; omega) | (clear xx39; omega) | omega) ⟨_, rfl, by first | (clear xx39 hps hgd; omega) | (clear xx39; omega) | omega, (fun q => absurd q (by decide)), k197⟩
                · refine A_iconst d_MD_soundPart_193 rfl ?_
                  exact A_zret d_MD_soundPart_194 (by decide) rfl (by first | (clear hps hgd; omega) | omega) ⟨_, rfl, by first | (clear hps hgd; omega) | omega, (fun q => absurd q (by decide)), k63⟩
              · refine A_aload_n 0 d_MD_soundPart_137 rfl rfl ?_
                refine A_getIn (lo := (-2)) (hi := 109) T_ok d_MD_soundPart_138 f_MD_284 (mi_s k44.1 sf_170) (mi_g k44.1 (by decide) mr_170_8) (fun x198 ex198 _ _ => ?_)
                refine A_aload_n 0 d_MD_soundPart_141 rfl rfl ?_
                refine A_getAv (z := some 205) T_ok d_MD_soundPart_142 f_MD_118 (mi_s k44.1 sf_170) (mi_r k44.1 rfm_48) ?_
                refine A_iconst d_MD_soundPart_145 rfl ?_
                refine A_pc (pc' := 146) rfl ?_
                refine A_iload_n 1 d_MD_soundPart_146 rfl rfl ?_
                refine A_imulv (z := (4 * sd3)) d_MD_soundPart_147 (w32_to (by first | (clear hps hgd; omega) | omega) (by unfold i32; first | (clear hps hgd; omega) | omega)) ?_
                refine A_aload_n 0 d_MD_soundPart_148 rfl rfl ?_
                refine A_getAv (z := some 204) T_ok d_MD_soundPart_149 f_MD_115 (mi_s k44.1 sf_170) (mi_r k44.1 rfm_47) ?_
                refine A_iload_n 1 d_MD_soundPart_152 rfl rfl ?_
                refine A_ialoadv (z := x50) d_MD_soundPart_153 (mi_s k44.1 sf_204) (by first | (clear hps hgd; omega) | omega) (by first | (clear hps hgd; omega) | omega) ex50.symm ?_
                refine A_pc (pc' := 154) rfl ?_
                refine A_iaddv (z := (4 * sd3 + x50)) d_MD_soundPart_154 (w32_to (by first | (clear hps hgd; omega) | omega) (by unfold i32; first | (clear hps hgd; omega) | omega)) ?_
                refine A_iconst d_MD_soundPart_155 rfl ?_
                refine A_isubv (z := (4 * sd3 + x50 - 1)) d_MD_soundPart_156 (w32_to (by first | (clear hps hgd; omega) | omega) (by unfold i32; first | (clear hps hgd; omega) | omega)) ?_
                refine A_ialoadn (lo := (-2)) (hi := 109) d_MD_soundPart_157 (mi_s k44.1 sf_205) (by first | (clear hps hgd; omega) | omega) (by first | (clear hps hgd; omega) | omega) (mi_g k44.1 (by decide) (mr_205 _)) (fun x202 ex202 _ _ => ?_)
                refine A_icmp_gt (tgt := 185) d_MD_soundPart_158 (by decide) (fun c203 => ?_) (fun c203 => ?_)
                · refine A_aload_n 0 d_MD_soundPart_185 rfl rfl ?_
                  refine A_iload_n 1 d_MD_soundPart_186 rfl rfl ?_
                  have zf205 := esd45.symm
                  have zf206 := ((k44.2.2.1 _ _ rfl).trans esd2.symm)
                  have zf207 := hinv.2.1.1
                  have zf208 := ((k44.2.2.1 _ _ rfl).trans esd4.symm)
                  have zf209 := esd46.symm
                  refine A_callV1 m_MD_pitchOf T_ok d_MD_soundPart_187 l_MD_378 k_MD_pitchOf (mi_s k44.1 sf_170) rfl (by decide +kernel) (by decide) (Nat.le_of_ble_eq_true rfl) (s_MD_pitchOf k44.1 (by first | (clear hps hgd; omega) | omega) (by first | (clear hps hgd; omega) | omega) (by have qq0 := esd45.symm; have qq1 := ((k44.2.2.1 _ _ rfl).trans esd2.symm); first | (clear hps hgd; omega) | omega) (by have qp := ex50.symm; first | (clear hps hgd; omega) | omega)) (fun r h204 hq => ?_)
                  obtain ⟨x211, rfl, bx211, xx211, k210⟩ := hq
                  have k212 := kM_t k44 k210 (pm_s (by decide) (by decide))
                  obtain ⟨sd213, esd213⟩ : ∃ x, x = h204.2.1 170 3 := ⟨_, rfl⟩
                  have rsd213 : 0 ≤ sd213 ∧ sd213 ≤ 2000 := (by rw [esd213]; exact mi_g k212.1 (by decide) mr_170_3)
                  obtain ⟨sd214, esd214⟩ : ∃ x, x = h204.2.1 170 4 := ⟨_, rfl⟩
                  have rsd214 : 0 ≤ sd214 ∧ sd214 ≤ 6 := (by rw [esd214]; exact mi_g k212.1 (by decide) mr_170_4)
                  refine A_if_ne (tgt := 195) d_MD_soundPart_190 (by decide) (fun c215 => ?_) (fun c215 => ?_)
                  · refine A_aload_n 0 d_MD_soundPart_195 rfl rfl ?_
                    refine A_bipush d_MD_soundPart_196 rfl ?_
                    have zf217 := esd213.symm
                    have zf218 := ((k210.2.2.1 _ _ rfl).trans ((k44.2.2.1 _ _ rfl).trans esd2.symm))
                    have zf219 := ((k210.2.2.1 _ _ rfl).trans hinv.2.1.1)
                    have zf220 := ((k210.2.2.1 _ _ rfl).trans ((k44.2.2.1 _ _ rfl).trans esd4.symm))
                    have zf221 := esd214.symm
                    refine A_callV1 m_MD_isSign T_ok d_MD_soundPart_198 l_MD_306 k_MD_isSign (mi_s k212.1 sf_170) rfl (by decide +kernel) (by decide) (Nat.le_of_ble_eq_true rfl) (s_MD_isSign k212.1 ) (fun r h216 hq => ?_)
                    obtain ⟨x223, rfl, bx223, xx223, rfl⟩ := hq
                    refine A_if_eq (tgt := 95) d_MD_soundPart_201 (by decide) (fun c224 => ?_) (fun c224 => ?_)
                    · exact ih95 h204 ⟨(by have qq0 := esd213.symm; have qq1 := ((k210.2.2.1 _ _ rfl).trans ((k44.2.2.1 _ _ rfl).trans esd2.symm)); have qq2 := esd214.symm; exact ⟨by first | (clear hps hgd; omega) | omega, by first | (clear hps hgd; omega) | omega, by first | (clear hps hgd; omega) | omega, by first | (clear hps hgd; omega) | omega⟩), ⟨((k210.2.2.1 _ _ rfl).trans hinv.2.1.1), (fun k hk => ((k210.2.2.1 201 k rfl).trans (hinv.2.1.2.1 k hk))), ((k210.2.2.1 _ _ rfl).trans hinv.2.1.2.2.1), (fun k hk => ((k210.2.2.1 202 k rfl).trans (hinv.2.1.2.2.2 k hk)))⟩, (by have qq0 := esd213.symm; have qq1 := ((k210.2.2.1 _ _ rfl).trans ((k44.2.2.1 _ _ rfl).trans esd2.symm)); have qq2 := esd214.symm; have qq3 := ((k210.2.2.1 _ _ rfl).trans hinv.2.1.1); exact ⟨by first | (clear hps hgd; omega) | omega, by first | (clear hps hgd; omega) | omega⟩)⟩ k212 (by have qq0 := esd213.symm; have qq1 := esd214.symm; have qh0 := ((k44.2.2.1 _ _ rfl).trans esd2.symm); have qh1 := esd45.symm; have qe0 := ((k210.2.2.1 _ _ rfl).trans ((k44.2.2.1 _ _ rfl).trans esd2.symm)); first | exact mu_dec (h0 := h43) (h1 := h204) hm (by first | (clear hps hgd; omega) | omega) (by first | (clear hps hgd; omega) | omega) (by first | (clear hps hgd; omega) | omega) (by first | (clear hps hgd; omega) | omega) (by first | (clear hps hgd; omega) | omega) (fun _ _ => by first | (clear hps hgd; omega) | omega) | (have mm0 := mu_f h43; have mm1 := mu_f h204; first | (clear hps hgd; omega) | omega))
                    · refine A_aload_n 0 d_MD_soundPart_204 rfl rfl ?_
                      have zf226 := esd213.symm
                      have zf227 := ((k210.2.2.1 _ _ rfl).trans ((k44.2.2.1 _ _ rfl).trans esd2.symm))
                      have zf228 := ((k210.2.2.1 _ _ rfl).trans hinv.2.1.1)
                      have zf229 := ((k210.2.2.1 _ _ rfl).trans ((k44.2.2.1 _ _ rfl).trans esd4.symm))
                      have zf230 := esd214.symm
                      refine A_callV0 m_MD_next T_ok d_MD_soundPart_205 l_MD_309 k_MD_next (mi_s k212.1 sf_170) rfl (by decide +kernel) (by decide) (Nat.le_of_ble_eq_true rfl) (s_MD_next k212.1 (by have qq0 := esd213.symm; have qq1 := ((k210.2.2.1 _ _ rfl).trans ((k44.2.2.1 _ _ rfl).trans esd2.symm)); first | (clear hps hgd; omega) | omega)) (fun r h225 hq => ?_)
                      obtain ⟨x232, rfl, ⟨_, _⟩, xx232, k231⟩ := hq
                      have xa232 := xx232.1
                      have xb232 := xx232.2.1
                      have k233 := kM_t k212 k231 (pm_s (by decide) (by decide))
                      obtain ⟨sd234, esd234⟩ : ∃ x, x = h225.2.1 170 3 := ⟨_, rfl⟩
                      have rsd234 : 0 ≤ sd234 ∧ sd234 ≤ 2000 := (by rw [esd234]; exact mi_g k233.1 (by decide) mr_170_3)
                      obtain ⟨sd235, esd235⟩ : ∃ x, x = h225.2.1 170 4 := ⟨_, rfl⟩
                      have rsd235 : 0 ≤ sd235 ∧ sd235 ≤ 6 := (by rw [esd235]; exact mi_g k233.1 (by decide) mr_170_4)
                      refine A_popI d_MD_soundPart_208 ?_
                      refine A_aload_n 0 d_MD_soundPart_209 rfl rfl ?_
                      refine A_getIv (z := sd235) T_ok d_MD_soundPart_210 f_MD_239 (mi_s k233.1 sf_170) esd235.symm ?_
                      refine A_iconst d_MD_soundPart_213 rfl ?_
                      refine A_icmp_eq (tgt := 222) d_MD_soundPart_214 (by decide) (fun c237 => ?_) (fun c237 => ?_)
                      · refine A_aload_n 0 d_MD_soundPart_222 rfl rfl ?_
                        refine A_aload_n 0 d_MD_soundPart_223 rfl rfl ?_
                        refine A_getIn (lo := 0) (hi := 9999) T_ok d_MD_soundPart_224 f_MD_271 (mi_s k233.1 sf_170) (mi_g k233.1 (by decide) mr_170_6) (fun x238 ex238 _ _ => ?_)
                        refine A_bipush d_MD_soundPart_227 rfl ?_
                        refine A_callV2 m_MD_isPower T_ok d_MD_soundPart_229 l_MD_347 k_MD_isPower (mi_s k233.1 sf_170) rfl (by decide +kernel) (by decide) (Nat.le_of_ble_eq_true rfl) (s_MD_isPower  ) (fun r h239 hq => ?_)
                        obtain ⟨x241, rfl, bx241, xx241, rfl⟩ := hq
                        refine A_if_ne (tgt := 245) d_MD_soundPart_232 (by decide) (fun c242 => ?_) (fun c242 => ?_)
                        · refine A_aload_n 0 d_MD_soundPart_245 rfl rfl ?_
                          refine A_getAv (z := some 202) T_ok d_MD_soundPart_246 f_MD_109 (mi_s k233.1 sf_170) (mi_r k233.1 rfm_45) ?_
                          refine A_iload_n 1 d_MD_soundPart_249 rfl rfl ?_
                          refine A_aload_n 0 d_MD_soundPart_250 rfl rfl ?_
                          refine A_getIv (z := x238) T_ok d_MD_soundPart_251 f_MD_271 (mi_s k233.1 sf_170) ex238.symm ?_
                          refine A_pc (pc' := 254) rfl ?_
                          refine A_iastorek (KR := kM (pm [3, 4, 5, 6, 7, 8, 9, 10, 11, 12, 43, 64] [201, 202, 204, 205, 206, 207, 208, 209]) h) d_MD_soundPart_254 (mi_s k233.1 sf_202) (by first | (clear xx39 hps hgd; omega) | (clear xx39; omega) | omega) (by first | (clear xx39 hps hgd; omega) | (clear xx39; omega) | omega) (kM_i k233 (by decide) rfl (mr_202 _) (by first | (clear xx39 hps hgd; omega) | (clear xx39; omega) | omega) (by first | (clear xx39 hps hgd; omega) | (clear xx39; omega) | omega)) (fun h245 k246 eh245 => ?_)
                          refine A_aload_n 0 d_MD_soundPart_255 rfl rfl ?_
                          have zf248 := ((eh245.1 _ _ (fun q => absurd q (by decide))).trans esd234.symm)
                          have zf249 := ((eh245.1 _ _ (fun q => absurd q (by decide))).trans ((k231.2.2.1 _ _ rfl).trans ((k210.2.2.1 _ _ rfl).trans ((k44.2.2.1 _ _ rfl).trans esd2.symm))))
                          have zf250 := ((eh245.1 _ _ (fun q => absurd q (by decide))).trans ((k231.2.2.1 _ _ rfl).trans ((k210.2.2.1 _ _ rfl).trans hinv.2.1.1)))
                          have zf251 := ((eh245.1 _ _ (fun q => absurd q (by decide))).trans ((k231.2.2.1 _ _ rfl).trans ((k210.2.2.1 _ _ rfl).trans ((k44.2.2.1 _ _ rfl).trans esd4.symm))))
                          have zf252 := ((eh245.1 _ _ (fun q => absurd q (by decide))).trans esd235.symm)
                          refine A_callV0 m_MD_next T_ok d_MD_soundPart_256 l_MD_309 k_MD_next (mi_s k246.1 sf_170) rfl (by decide +kernel) (by decide) (Nat.le_of_ble_eq_true rfl) (s_MD_next k246.1 (by have qq0 := ((eh245.1 _ _ (fun q => absurd q (by decide))).trans esd234.symm); have qq1 := ((eh245.1 _ _ (fun q => absurd q (by decide))).trans ((k231.2.2.1 _ _ rfl).trans ((k210.2.2.1 _ _ rfl).trans ((k44.2.2.1 _ _ rfl).trans esd2.symm)))); first | (clear xx39 hps hgd; omega) | (clear xx39; omega) | omega)) (fun r h247 hq => ?_)
                          obtain ⟨x254, rfl, ⟨_, _⟩, xx254, k253⟩ := hq
                          have xa254 := xx254.1
                          have xb254 := xx254.2.1
                          have k255 := kM_t k246 k253 (pm_s (by decide) (by decide))
                          obtain ⟨sd256, esd256⟩ : ∃ x, x = h247.2.1 170 3 := ⟨_, rfl⟩
                          have rsd256 : 0 ≤ sd256 ∧ sd256 ≤ 2000 := (by rw [esd256]; exact mi_g k255.1 (by decide) mr_170_3)
                          obtain ⟨sd257, esd257⟩ : ∃ x, x = h247.2.1 170 4 := ⟨_, rfl⟩
                          have rsd257 : 0 ≤ sd257 ∧ sd257 ≤ 6 := (by rw [esd257]; exact mi_g k255.1 (by decide) mr_170_4)
                          refine A_popI d_MD_soundPart_259 ?_
                          refine A_aload_n 0 d_MD_soundPart_260 rfl rfl ?_
                          refine A_getAv (z := some 209) T_ok d_MD_soundPart_261 f_MD_130 (mi_s k255.1 sf_170) (mi_r k255.1 rfm_52) ?_
                          refine A_iload_n 1 d_MD_soundPart_264 rfl rfl ?_
                          refine A_iconst d_MD_soundPart_265 rfl ?_
                          refine A_pc (pc' := 266) rfl ?_
                          refine A_iastorek (KR := kM (pm [3, 4, 5, 6, 7, 8, 9, 10, 11, 12, 43, 64] [201, 202, 204, 205, 206, 207, 208, 209]) h) d_MD_soundPart_266 (mi_s k255.1 sf_209) (by first | (clear xx39 xx232 hps hgd; omega) | (clear xx39 xx232; omega) | omega) (by first | (clear xx39 xx232 hps hgd; omega) | (clear xx39 xx232; omega) | omega) (kM_i k255 (by decide) rfl (mr_209 _) (by first | (clear xx39 xx232 hps hgd; omega) | (clear xx39 xx232; omega) | omega) (by first | (clear xx39 xx232 hps hgd; omega) | (clear xx39 xx232; omega) | omega)) (fun h259 k260 eh259 => ?_)
                          have lp267 : ∀ (n : Nat) (h261 : ah_T) , (h.2.1 170 3 ≤ h261.2.1 170 3 ∧ h261.2.1 170 3 ≤ h.2.1 170 2 ∧ (h261.2.1 170 4 ≠ 0 → h261.2.1 170 4 ≠ 6 → h.2.1 170 3 < h261.2.1 170 3) ∧ (h261.2.1 170 4 = 0 → h261.2.1 170 3 = h.2.1 170 2)) ∧ SI h h261 sd3 ∧ (1 ≤ h261.2.1 202 (sd3).toNat ∧ h261.2.1 202 (sd3).toNat ≤ 64) ∧ (h261.2.1 170 43 ≤ h261.2.1 170 3 ∧ (h261.2.1 170 4 ≠ 0 → h261.2.1 170 4 ≠ 6 → h261.2.1 170 43 + 1 ≤ h261.2.1 170 3)) → kM (pm [3, 4, 5, 6, 7, 8, 9, 10, 11, 12, 43, 64] [201, 202, 204, 205, 206, 207, 208, 209]) h h261 → (mu h261).toNat < n → aw G (rm_R 4 0 0) m_MD_soundPart 0 0 267 [some (av_R (some 170)), some (av_I sd3), some (av_I x28)] [] h261 (fun r h' => ∃ z, r = some (av_I z) ∧ (z = 0 ∨ z = 1) ∧ (z = 1 → (h.2.1 170 3 ≤ h'.2.1 170 3 ∧ h'.2.1 170 3 ≤ h.2.1 170 2 ∧ (h'.2.1 170 4 ≠ 0 → h'.2.1 170 4 ≠ 6 → h.2.1 170 3 < h'.2.1 170 3) ∧ (h'.2.1 170 4 = 0 → h'.2.1 170 3 = h.2.1 170 2)) ∧ (h'.2.1 170 43 ≤ h'.2.1 170 3 ∧ (h'.2.1 170 4 ≠ 0 → h'.2.1 170 4 ≠ 6 → h'.2.1 170 43 + 1 ≤ h'.2.1 170 3)) ∧ VHx h') ∧ kM (pm [3, 4, 5, 6, 7, 8, 9, 10, 11, 12, 43, 64] [201, 202, 204, 205, 206, 207, 208, 209]) h h') := by
                            intro n
                            induction n with
                            | zero => intro h261 _ _ hm; omega
                            | succ n ih267 =>
                              intro h261  hinv k262 hm
                              have hvA := hinv.1.1
                              have hvB := hinv.1.2.1
                              have hvC := hinv.2.2.2.1
                              have hvD := hinv.2.2.1
                              obtain ⟨sd263, esd263⟩ : ∃ x, x = h261.2.1 170 3 := ⟨_, rfl⟩
                              have rsd263 : 0 ≤ sd263 ∧ sd263 ≤ 2000 := (by rw [esd263]; exact mi_g k262.1 (by decide) mr_170_3)
                              obtain ⟨sd264, esd264⟩ : ∃ x, x = h261.2.1 170 4 := ⟨_, rfl⟩
                              have rsd264 : 0 ≤ sd264 ∧ sd264 ≤ 6 := (by rw [esd264]; exact mi_g k262.1 (by decide) mr_170_4)
                              refine A_aload_n 0 d_MD_soundPart_267 rfl rfl ?_
                              refine A_bipush d_MD_soundPart_268 rfl ?_
                              have zf266 := esd263.symm
                              have zf267 := ((k262.2.2.1 _ _ rfl).trans esd2.symm)
                              have zf268 := hinv.2.1.1
                              have zf269 := ((k262.2.2.1 _ _ rfl).trans esd4.symm)
                              have zf270 := esd264.symm
                              refine A_callV1 m_MD_isSign T_ok d_MD_soundPart_270 l_MD_306 k_MD_isSign (mi_s k262.1 sf_170) rfl (by decide +kernel) (by decide) (Nat.le_of_ble_eq_true rfl) (s_MD_isSign k262.1 ) (fun r h265 hq => ?_)
                              obtain ⟨x272, rfl, bx272, xx272, rfl⟩ := hq
                              refine A_if_eq (tgt := 314) d_MD_soundPart_273 (by decide) (fun c273 => ?_) (fun c273 => ?_)
                              · refine A_aload_n 0 d_MD_soundPart_314 rfl rfl ?_
                                refine A_getAv (z := some 208) T_ok d_MD_soundPart_315 f_MD_127 (mi_s k262.1 sf_170) (mi_r k262.1 rfm_51) ?_
                                refine A_iload_n 1 d_MD_soundPart_318 rfl rfl ?_
                                refine A_aload_n 0 d_MD_soundPart_319 rfl rfl ?_
                                refine A_bipush d_MD_soundPart_320 rfl ?_
                                refine A_pc (pc' := 322) rfl ?_
                                have zf276 := esd263.symm
                                have zf277 := ((k262.2.2.1 _ _ rfl).trans esd2.symm)
                                have zf278 := hinv.2.1.1
                                have zf279 := ((k262.2.2.1 _ _ rfl).trans esd4.symm)
                                have zf280 := esd264.symm
                                refine A_callV1 m_MD_isSign T_ok d_MD_soundPart_322 l_MD_306 k_MD_isSign (mi_s k262.1 sf_170) rfl (by decide +kernel) (by decide) (Nat.le_of_ble_eq_true rfl) (s_MD_isSign k262.1 ) (fun r h275 hq => ?_)
                                obtain ⟨x282, rfl, bx282, xx282, rfl⟩ := hq
                                refine A_zastorek (KR := kM (pm [3, 4, 5, 6, 7, 8, 9, 10, 11, 12, 43, 64] [201, 202, 204, 205, 206, 207, 208, 209]) h) d_MD_soundPart_325 (mi_s k262.1 sf_208) (by first | (clear xx39 xx232 hps hgd hinv; omega) | (clear xx39 xx232; omega) | omega) (by first | (clear xx39 xx232 hps hgd hinv; omega) | (clear xx39 xx232; omega) | omega) (by first | (clear xx39 xx232 hps hgd hinv; omega) | (clear xx39 xx232; omega) | omega) (kM_i k262 (by decide) rfl (mr_208 _) (by first | (clear xx39 xx232 hps hgd hinv; omega) | (clear xx39 xx232; omega) | omega) (by first | (clear xx39 xx232 hps hgd hinv; omega) | (clear xx39 xx232; omega) | omega)) (fun h283 k284 eh283 => ?_)
                                refine A_aload_n 0 d_MD_soundPart_326 rfl rfl ?_
                                refine A_getAv (z := some 208) T_ok d_MD_soundPart_327 f_MD_127 (mi_s k284.1 sf_170) (mi_r k284.1 rfm_51) ?_
                                refine A_iload_n 1 d_MD_soundPart_330 rfl rfl ?_
                                refine A_zaloadn d_MD_soundPart_331 (mi_s k284.1 sf_208) (by first | (clear xx39 xx232 hps hgd hinv; omega) | (clear xx39 xx232; omega) | omega) (by first | (clear xx39 xx232 hps hgd hinv; omega) | (clear xx39 xx232; omega) | omega) (fun x286 ex286 bx286 => ?_)
                                refine A_pc (pc' := 332) rfl ?_
                                refine A_if_ne (tgt := 337) d_MD_soundPart_332 (by decide) (fun c287 => ?_) (fun c287 => ?_)
                                · refine A_iload_n 2 d_MD_soundPart_337 rfl rfl ?_
                                  refine A_if_eq (tgt := 354) d_MD_soundPart_338 (by decide) (fun c288 => ?_) (fun c => False.elim (by first | (clear xx39 xx232 hps hgd hinv; omega) | (clear xx39 xx232; omega) | omega))
                                  refine A_aload_n 0 d_MD_soundPart_354 rfl rfl ?_
                                  have zf290 := ((eh283.1 _ _ (fun q => absurd q (by decide))).trans esd263.symm)
                                  have zf291 := ((eh283.1 _ _ (fun q => absurd q (by decide))).trans ((k262.2.2.1 _ _ rfl).trans esd2.symm))
                                  have zf292 := ((eh283.1 _ _ (fun q => absurd q (by decide))).trans hinv.2.1.1)
                                  have zf293 := ((eh283.1 _ _ (fun q => absurd q (by decide))).trans ((k262.2.2.1 _ _ rfl).trans esd4.symm))
                                  have zf294 := ((eh283.1 _ _ (fun q => absurd q (by decide))).trans esd264.symm)
                                  refine A_callV0 m_MD_next T_ok d_MD_soundPart_355 l_MD_309 k_MD_next (mi_s k284.1 sf_170) rfl (by decide +kernel) (by decide) (Nat.le_of_ble_eq_true rfl) (s_MD_next k284.1 (by have qq0 := ((eh283.1 _ _ (fun q => absurd q (by decide))).trans esd263.symm); have qq1 := ((eh283.1 _ _ (fun q => absurd q (by decide))).trans ((k262.2.2.1 _ _ rfl).trans esd2.symm)); first | (clear xx39 xx232 hps hgd hinv; omega) | (clear xx39 xx232; omega) | omega)) (fun r h289 hq => ?_)
                                  obtain ⟨x296, rfl, ⟨_, _⟩, xx296, k295⟩ := hq
                                  have xa296 := xx296.1
                                  have xb296 := xx296.2.1
                                  have k297 := kM_t k284 k295 (pm_s (by decide) (by decide))
                                  obtain ⟨sd298, esd298⟩ : ∃ x, x = h289.2.1 170 3 := ⟨_, rfl⟩
                                  have rsd298 : 0 ≤ sd298 ∧ sd298 ≤ 2000 := (by rw [esd298]; exact mi_g k297.1 (by decide) mr_170_3)
                                  obtain ⟨sd299, esd299⟩ : ∃ x, x = h289.2.1 170 4 := ⟨_, rfl⟩
                                  have rsd299 : 0 ≤ sd299 ∧ sd299 ≤ 6 := (by rw [esd299]; exact mi_g k297.1 (by decide) mr_170_4)
                                  exact A_zret d_MD_soundPart_358 (by decide) rfl (by first | (clear xx39 xx232 xx254 hps hgd hinv; omega) | (clear xx39 xx232 xx254; omega) | omega) ⟨_, rfl, by first | (clear xx39 xx232 xx254 hps hgd hinv; omega) | (clear xx39 xx232 xx254; omega) | omega, (fun _ => ⟨by have qq0 := esd298.symm; have qq1 := ((k295.2.2.1 _ _ rfl).trans ((eh283.1 _ _ (fun q => absurd q (by decide))).trans ((k262.2.2.1 _ _ rfl).trans esd2.symm))); have qq2 := esd299.symm; have qq3 := ((k295.2.2.1 _ _ rfl).trans ((eh283.1 _ _ (fun q => absurd q (by decide))).trans hinv.2.1.1)); exact ⟨by first | (clear xx39 xx232 xx254 hps hgd hinv; omega) | (clear xx39 xx232 xx254; omega) | omega, by first | (clear xx39 xx232 xx254 hps hgd hinv; omega) | (clear xx39 xx232 xx254; omega) | omega, by first | (clear xx39 xx232 xx254 hps hgd hinv; omega) | (clear xx39 xx232 xx254; omega) | omega, by first | (clear xx39 xx232 xx254 hps hgd hinv; omega) | (clear xx39 xx232 xx254; omega) | omega⟩, by have qq0 := esd298.symm; have qq1 := ((k295.2.2.1 _ _ rfl).trans ((eh283.1 _ _ (fun q => absurd q (by decide))).trans ((k262.2.2.1 _ _ rfl).trans esd2.symm))); have qq2 := esd299.symm; have qq3 := ((k295.2.2.1 _ _ rfl).trans ((eh283.1 _ _ (fun q => absurd q (by decide))).trans hinv.2.1.1)); exact ⟨by first | (clear xx39 xx232 xx254 hps hgd hinv; omega) | (clear xx39 xx232 xx254; omega) | omega, by first | (clear xx39 xx232 xx254 hps hgd hinv; omega) | (clear xx39 xx232 xx254; omega) | omega⟩, VH_s (x := sd3) hVH esd3.symm ((k295.2.2.1 _ _ rfl).trans ((eh283.1 _ _ (fun q => absurd q (by decide))).trans hinv.2.1.1)) (k297.2.2.1 170 63 rfl) (fun k hk => ((k295.2.2.1 201 k rfl).trans ((eh283.1 201 k (fun q => absurd q (by decide))).trans (hinv.2.1.2.1 k hk)))) (Or.inr ⟨((k295.2.2.1 _ _ rfl).trans ((eh283.1 _ _ (fun q => absurd q (by decide))).trans hinv.2.1.2.2.1)), (by have q1 := ((k295.2.2.1 202 (sd3).toNat rfl).trans (eh283.1 202 (sd3).toNat (fun q => absurd q (by decide)))); have q2 := hinv.2.2.1; exact ⟨by first | (clear xx39 xx232 xx254 hps hgd hinv; omega) | (clear xx39 xx232 xx254; omega) | omega, by first | (clear xx39 xx232 xx254 hps hgd hinv; omega) | (clear xx39 xx232 xx254; omega) | omega⟩)⟩) (fun k hk => ((k295.2.2.1 202 k rfl).trans ((eh283.1 202 k (fun q => absurd q (by decide))).trans (hinv.2.1.2.2.2 k hk)))) (by intro a ha; simp only [List.mem_cons, List.not_mem_nil, or_false] at ha; rcases ha with rfl | rfl | rfl | rfl | rfl | rfl | rfl | rfl <;> exact (funext (fun k => k297.2.2.1 _ k rfl)))⟩), k297⟩
                                · refine A_iconst d_MD_soundPart_335 rfl ?_
                                  exact A_zret d_MD_soundPart_336 (by decide) rfl (by first | (clear xx39 xx232 hps hgd hinv; omega) | (clear xx39 xx232; omega) | omega) ⟨_, rfl, by first | (clear xx39 xx232 hps hgd hinv; omega) | (clear xx39 xx232; omega) | omega, (fun _ => ⟨by have qq0 := ((eh283.1 _ _ (fun q => absurd q (by decide))).trans esd263.symm); have qq1 := ((eh283.1 _ _ (fun q => absurd q (by decide))).trans ((k262.2.2.1 _ _ rfl).trans esd2.symm)); have qq2 := ((eh283.1 _ _ (fun q => absurd q (by decide))).trans esd264.symm); have qq3 := ((eh283.1 _ _ (fun q => absurd q (by decide))).trans hinv.2.1.1); exact ⟨by first | (clear xx39 xx232 hps hgd hinv; omega) | (clear xx39 xx232; omega) | omega, by first | (clear xx39 xx232 hps hgd hinv; omega) | (clear xx39 xx232; omega) | omega, by first | (clear xx39 xx232 hps hgd hinv; omega) | (clear xx39 xx232; omega) | omega, by first | (clear xx39 xx232 hps hgd hinv; omega) | (clear xx39 xx232; omega) | omega⟩, by have qq0 := ((eh283.1 _ _ (fun q => absurd q (by decide))).trans esd263.symm); have qq1 := ((eh283.1 _ _ (fun q => absurd q (by decide))).trans ((k262.2.2.1 _ _ rfl).trans esd2.symm)); have qq2 := ((eh283.1 _ _ (fun q => absurd q (by decide))).trans esd264.symm); have qq3 := ((eh283.1 _ _ (fun q => absurd q (by decide))).trans hinv.2.1.1); exact ⟨by first | (clear xx39 xx232 hps hgd hinv; omega) | (clear xx39 xx232; omega) | omega, by first | (clear xx39 xx232 hps hgd hinv; omega) | (clear xx39 xx232; omega) | omega⟩, VH_s (x := sd3) hVH esd3.symm ((eh283.1 _ _ (fun q => absurd q (by decide))).trans hinv.2.1.1) (k284.2.2.1 170 63 rfl) (fun k hk => ((eh283.1 201 k (fun q => absurd q (by decide))).trans (hinv.2.1.2.1 k hk))) (Or.inr ⟨((eh283.1 _ _ (fun q => absurd q (by decide))).trans hinv.2.1.2.2.1), (by have q1 := (eh283.1 202 (sd3).toNat (fun q => absurd q (by decide))); have q2 := hinv.2.2.1; exact ⟨by first | (clear xx39 xx232 hps hgd hinv; omega) | (clear xx39 xx232; omega) | omega, by first | (clear xx39 xx232 hps hgd hinv; omega) | (clear xx39 xx232; omega) | omega⟩)⟩) (fun k hk => ((eh283.1 202 k (fun q => absurd q (by decide))).trans (hinv.2.1.2.2.2 k hk))) (by intro a ha; simp only [List.mem_cons, List.not_mem_nil, or_false] at ha; rcases ha with rfl | rfl | rfl | rfl | rfl | rfl | rfl | rfl <;> exact (funext (fun k => k284.2.2.1 _ k rfl)))⟩), k284⟩
                              · refine A_aload_n 0 d_MD_soundPart_276 rfl rfl ?_
                                refine A_getAv (z := some 209) T_ok d_MD_soundPart_277 f_MD_130 (mi_s k262.1 sf_170) (mi_r k262.1 rfm_52) ?_
                                refine A_iload_n 1 d_MD_soundPart_280 rfl rfl ?_
                                refine A_ialoadn (lo := 0) (hi := 3) d_MD_soundPart_281 (mi_s k262.1 sf_209) (by first | (clear xx39 xx232 hps hgd hinv; omega) | (clear xx39 xx232; omega) | omega) (by first | (clear xx39 xx232 hps hgd hinv; omega) | (clear xx39 xx232; omega) | omega) (mi_g k262.1 (by decide) (mr_209 _)) (fun x301 ex301 _ _ => ?_)
                                refine A_iconst d_MD_soundPart_282 rfl ?_
                                refine A_pc (pc' := 283) rfl ?_
                                refine A_icmp_ne (tgt := 296) d_MD_soundPart_283 (by decide) (fun c302 => ?_) (fun c302 => ?_)
                                · refine A_aload_n 0 d_MD_soundPart_296 rfl rfl ?_
                                  refine A_getAv (z := some 209) T_ok d_MD_soundPart_297 f_MD_130 (mi_s k262.1 sf_170) (mi_r k262.1 rfm_52) ?_
                                  refine A_iload_n 1 d_MD_soundPart_300 rfl rfl ?_
                                  refine A_dup2RI d_MD_soundPart_301 ?_
                                  refine A_ialoadv (z := x301) d_MD_soundPart_302 (mi_s k262.1 sf_209) (by first | (clear xx39 xx232 hps hgd hinv; omega) | (clear xx39 xx232; omega) | omega) (by first | (clear xx39 xx232 hps hgd hinv; omega) | (clear xx39 xx232; omega) | omega) ex301.symm ?_
                                  refine A_pc (pc' := 303) rfl ?_
                                  refine A_iconst d_MD_soundPart_303 rfl ?_
                                  refine A_iaddv (z := (x301 + 1)) d_MD_soundPart_304 (w32_to (by first | (clear xx39 xx232 hps hgd hinv; omega) | (clear xx39 xx232; omega) | omega) (by unfold i32; first | (clear xx39 xx232 hps hgd hinv; omega) | (clear xx39 xx232; omega) | omega)) ?_
                                  refine A_iastorek (KR := kM (pm [3, 4, 5, 6, 7, 8, 9, 10, 11, 12, 43, 64] [201, 202, 204, 205, 206, 207, 208, 209]) h) d_MD_soundPart_305 (mi_s k262.1 sf_209) (by first | (clear xx39 xx232 hps hgd hinv; omega) | (clear xx39 xx232; omega) | omega) (by first | (clear xx39 xx232 hps hgd hinv; omega) | (clear xx39 xx232; omega) | omega) (kM_i k262 (by decide) rfl (mr_209 _) (by first | (clear xx39 xx232 hps hgd hinv; omega) | (clear xx39 xx232; omega) | omega) (by first | (clear xx39 xx232 hps hgd hinv; omega) | (clear xx39 xx232; omega) | omega)) (fun h305 k306 eh305 => ?_)
                                  refine A_aload_n 0 d_MD_soundPart_306 rfl rfl ?_
                                  have zf308 := ((eh305.1 _ _ (fun q => absurd q (by decide))).trans esd263.symm)
                                  have zf309 := ((eh305.1 _ _ (fun q => absurd q (by decide))).trans ((k262.2.2.1 _ _ rfl).trans esd2.symm))
                                  have zf310 := ((eh305.1 _ _ (fun q => absurd q (by decide))).trans hinv.2.1.1)
                                  have zf311 := ((eh305.1 _ _ (fun q => absurd q (by decide))).trans ((k262.2.2.1 _ _ rfl).trans esd4.symm))
                                  have zf312 := ((eh305.1 _ _ (fun q => absurd q (by decide))).trans esd264.symm)
                                  refine A_callV0 m_MD_next T_ok d_MD_soundPart_307 l_MD_309 k_MD_next (mi_s k306.1 sf_170) rfl (by decide +kernel) (by decide) (Nat.le_of_ble_eq_true rfl) (s_MD_next k306.1 (by have qq0 := ((eh305.1 _ _ (fun q => absurd q (by decide))).trans esd263.symm); have qq1 := ((eh305.1 _ _ (fun q => absurd q (by decide))).trans ((k262.2.2.1 _ _ rfl).trans esd2.symm)); first | (clear xx39 xx232 hps hgd hinv; omega) | (clear xx39 xx232; omega) | omega)) (fun r h307 hq => ?_)
                                  obtain ⟨x314, rfl, ⟨_, _⟩, xx314, k313⟩ := hq
                                  have xa314 := xx314.1
                                  have xb314 := xx314.2.1
                                  have k315 := kM_t k306 k313 (pm_s (by decide) (by decide))
                                  obtain ⟨sd316, esd316⟩ : ∃ x, x = h307.2.1 170 3 := ⟨_, rfl⟩
                                  have rsd316 : 0 ≤ sd316 ∧ sd316 ≤ 2000 := (by rw [esd316]; exact mi_g k315.1 (by decide) mr_170_3)
                                  obtain ⟨sd317, esd317⟩ : ∃ x, x = h307.2.1 170 4 := ⟨_, rfl⟩
                                  have rsd317 : 0 ≤ sd317 ∧ sd317 ≤ 6 := (by rw [esd317]; exact mi_g k315.1 (by decide) mr_170_4)
                                  refine A_popI d_MD_soundPart_310 ?_
                                  refine A_goto (tgt := 267) d_MD_soundPart_311 (by decide) ?_
                                  exact ih267 h307 ⟨(by have qq0 := esd316.symm; have qq1 := ((k313.2.2.1 _ _ rfl).trans ((eh305.1 _ _ (fun q => absurd q (by decide))).trans ((k262.2.2.1 _ _ rfl).trans esd2.symm))); have qq2 := esd317.symm; exact ⟨by first | (clear xx39 xx232 xx254 hps hgd hinv; omega) | (clear xx39 xx232 xx254; omega) | omega, by first | (clear xx39 xx232 xx254 hps hgd hinv; omega) | (clear xx39 xx232 xx254; omega) | omega, by first | (clear xx39 xx232 xx254 hps hgd hinv; omega) | (clear xx39 xx232 xx254; omega) | omega, by first | (clear xx39 xx232 xx254 hps hgd hinv; omega) | (clear xx39 xx232 xx254; omega) | omega⟩), ⟨((k313.2.2.1 _ _ rfl).trans ((eh305.1 _ _ (fun q => absurd q (by decide))).trans hinv.2.1.1)), (fun k hk => ((k313.2.2.1 201 k rfl).trans ((eh305.1 201 k (fun q => absurd q (by decide))).trans (hinv.2.1.2.1 k hk)))), ((k313.2.2.1 _ _ rfl).trans ((eh305.1 _ _ (fun q => absurd q (by decide))).trans hinv.2.1.2.2.1)), (fun k hk => ((k313.2.2.1 202 k rfl).trans ((eh305.1 202 k (fun q => absurd q (by decide))).trans (hinv.2.1.2.2.2 k hk))))⟩, (by have q1 := ((k313.2.2.1 202 (sd3).toNat rfl).trans (eh305.1 202 (sd3).toNat (fun q => absurd q (by decide)))); have q2 := hinv.2.2.1; exact ⟨by first | (clear xx39 xx232 xx254 hps hgd hinv; omega) | (clear xx39 xx232 xx254; omega) | omega, by first | (clear xx39 xx232 xx254 hps hgd hinv; omega) | (clear xx39 xx232 xx254; omega) | omega⟩), (by have qq0 := esd316.symm; have qq1 := ((k313.2.2.1 _ _ rfl).trans ((eh305.1 _ _ (fun q => absurd q (by decide))).trans ((k262.2.2.1 _ _ rfl).trans esd2.symm))); have qq2 := esd317.symm; have qq3 := ((k313.2.2.1 _ _ rfl).trans ((eh305.1 _ _ (fun q => absurd q (by decide))).trans hinv.2.1.1)); exact ⟨by first | (clear xx39 xx232 xx254 hps hgd hinv; omega) | (clear xx39 xx232 xx254; omega) | omega, by first | (clear xx39 xx232 xx254 hps hgd hinv; omega) | (clear xx39 xx232 xx254; omega) | omega⟩)⟩ k315 (by have qq0 := esd316.symm; have qq1 := esd317.symm; have qh0 := ((k262.2.2.1 _ _ rfl).trans esd2.symm); have qh1 := esd263.symm; have qe0 := ((k313.2.2.1 _ _ rfl).trans ((eh305.1 _ _ (fun q => absurd q (by decide))).trans ((k262.2.2.1 _ _ rfl).trans esd2.symm))); first | exact mu_dec (h0 := h261) (h1 := h307) hm (by first | (clear xx39 xx232 xx254 hps hgd hinv; omega) | (clear xx39 xx232 xx254; omega) | omega) (by first | (clear xx39 xx232 xx254 hps hgd hinv; omega) | (clear xx39 xx232 xx254; omega) | omega) (by first | (clear xx39 xx232 xx254 hps hgd hinv; omega) | (clear xx39 xx232 xx254; omega) | omega) (by first | (clear xx39 xx232 xx254 hps hgd hinv; omega) | (clear xx39 xx232 xx254; omega) | omega) (by first | (clear xx39 xx232 xx254 hps hgd hinv; omega) | (clear xx39 xx232 xx254; omega) | omega) (fun _ _ => by first | (clear xx39 xx232 xx254 hps hgd hinv; omega) | (clear xx39 xx232 xx254; omega) | omega) | (have mm0 := mu_f h261; have mm1 := mu_f h307; first | (clear xx39 xx232 xx254 hps hgd hinv; omega) | (clear xx39 xx232 xx254; omega) | omega))
                                · refine A_aload_n 0 d_MD_soundPart_286 rfl rfl ?_
                                  refine A_iconst d_MD_soundPart_287 rfl ?_
                                  refine A_aload_n 0 d_MD_soundPart_288 rfl rfl ?_
                                  refine A_getIn (lo := 0) (hi := 2000) T_ok d_MD_soundPart_289 f_MD_242 (mi_s k262.1 sf_170) (mi_g k262.1 (by decide) mr_170_5) (fun x318 ex318 _ _ => ?_)
                                  have zf320 := esd263.symm
                                  have zf321 := ((k262.2.2.1 _ _ rfl).trans esd2.symm)
                                  have zf322 := hinv.2.1.1
                                  have zf323 := ((k262.2.2.1 _ _ rfl).trans esd4.symm)
                                  have zf324 := esd264.symm
                                  refine A_callV2 m_MD_wrong T_ok d_MD_soundPart_292 l_MD_245 k_MD_wrong (mi_s k262.1 sf_170) rfl (by decide +kernel) (by decide) (Nat.le_of_ble_eq_true rfl) (s_MD_wrong k262.1 (by first | (clear xx39 xx232 hps hgd hinv; omega) | (clear xx39 xx232; omega) | omega) (by first | (clear xx39 xx232 hps hgd hinv; omega) | (clear xx39 xx232; omega) | omega) (by first | (clear xx39 xx232 hps hgd hinv; omega) | (clear xx39 xx232; omega) | omega) (by first | (clear xx39 xx232 hps hgd hinv; omega) | (clear xx39 xx232; omega) | omega)) (fun r h319 hq => ?_)
                                  obtain ⟨x326, rfl, ⟨_, _⟩, k325⟩ := hq
                                  have k327 := kM_t k262 k325 (pm_s (by decide) (by decide))
                                  obtain rfl : x326 = 0 := by first | (clear xx39 xx232 hps hgd hinv; omega) | (clear xx39 xx232; omega) | omega
                                  exact A_zret d_MD_soundPart_295 (by decide) rfl (by first | (clear xx39 xx232 hps hgd hinv; omega) | (clear xx39 xx232; omega) | omega) ⟨_, rfl, by first | (clear xx39 xx232 hps hgd hinv; omega) | (clear xx39 xx232; omega) | omega, (fun q => absurd q (by decide)), k327⟩
                          exact lp267 _ h259 ⟨(by have qq0 := ((eh259.1 _ _ (fun q => absurd q (by decide))).trans esd256.symm); have qq1 := ((eh259.1 _ _ (fun q => absurd q (by decide))).trans ((k253.2.2.1 _ _ rfl).trans ((eh245.1 _ _ (fun q => absurd q (by decide))).trans ((k231.2.2.1 _ _ rfl).trans ((k210.2.2.1 _ _ rfl).trans ((k44.2.2.1 _ _ rfl).trans esd2.symm)))))); have qq2 := ((eh259.1 _ _ (fun q => absurd q (by decide))).trans esd257.symm); exact ⟨by first | (clear xx39 xx232 hps hgd; omega) | (clear xx39 xx232; omega) | omega, by first | (clear xx39 xx232 hps hgd; omega) | (clear xx39 xx232; omega) | omega, by first | (clear xx39 xx232 hps hgd; omega) | (clear xx39 xx232; omega) | omega, by first | (clear xx39 xx232 hps hgd; omega) | (clear xx39 xx232; omega) | omega⟩), ⟨((eh259.1 _ _ (fun q => absurd q (by decide))).trans ((k253.2.2.1 _ _ rfl).trans ((eh245.1 _ _ (fun q => absurd q (by decide))).trans ((k231.2.2.1 _ _ rfl).trans ((k210.2.2.1 _ _ rfl).trans hinv.2.1.1))))), (fun k hk => ((eh259.1 201 k (fun q => absurd q (by decide))).trans ((k253.2.2.1 201 k rfl).trans ((eh245.1 201 k (fun q => absurd q (by decide))).trans ((k231.2.2.1 201 k rfl).trans ((k210.2.2.1 201 k rfl).trans (hinv.2.1.2.1 k hk))))))), ((eh259.1 _ _ (fun q => absurd q (by decide))).trans ((k253.2.2.1 _ _ rfl).trans ((eh245.1 _ _ (fun q => absurd q (by decide))).trans ((k231.2.2.1 _ _ rfl).trans ((k210.2.2.1 _ _ rfl).trans hinv.2.1.2.2.1))))), (fun k hk => ((eh259.1 202 k (fun q => absurd q (by decide))).trans ((k253.2.2.1 202 k rfl).trans ((eh245.1 202 k (fun _ => hk)).trans ((k231.2.2.1 202 k rfl).trans ((k210.2.2.1 202 k rfl).trans (hinv.2.1.2.2.2 k hk)))))))⟩, (by have q1 := ((eh259.1 _ _ (fun q => absurd q (by decide))).trans ((k253.2.2.1 _ _ rfl).trans eh245.2.1)); exact ⟨by first | (clear xx39 xx232 hps hgd; omega) | (clear xx39 xx232; omega) | omega, by first | (clear xx39 xx232 hps hgd; omega) | (clear xx39 xx232; omega) | omega⟩), (by have qq0 := ((eh259.1 _ _ (fun q => absurd q (by decide))).trans esd256.symm); have qq1 := ((eh259.1 _ _ (fun q => absurd q (by decide))).trans ((k253.2.2.1 _ _ rfl).trans ((eh245.1 _ _ (fun q => absurd q (by decide))).trans ((k231.2.2.1 _ _ rfl).trans ((k210.2.2.1 _ _ rfl).trans ((k44.2.2.1 _ _ rfl).trans esd2.symm)))))); have qq2 := ((eh259.1 _ _ (fun q => absurd q (by decide))).trans esd257.symm); have qq3 := ((eh259.1 _ _ (fun q => absurd q (by decide))).trans ((k253.2.2.1 _ _ rfl).trans ((eh245.1 _ _ (fun q => absurd q (by decide))).trans ((k231.2.2.1 _ _ rfl).trans ((k210.2.2.1 _ _ rfl).trans hinv.2.1.1))))); exact ⟨by first | (clear xx39 xx232 hps hgd; omega) | (clear xx39 xx232; omega) | omega, by first | (clear xx39 xx232 hps hgd; omega) | (clear xx39 xx232; omega) | omega⟩)⟩ k260 (Nat.lt_succ_self _)
                        · refine A_aload_n 0 d_MD_soundPart_235 rfl rfl ?_
                          refine A_iconst d_MD_soundPart_236 rfl ?_
                          refine A_aload_n 0 d_MD_soundPart_237 rfl rfl ?_
                          refine A_getIn (lo := 0) (hi := 2000) T_ok d_MD_soundPart_238 f_MD_242 (mi_s k233.1 sf_170) (mi_g k233.1 (by decide) mr_170_5) (fun x328 ex328 _ _ => ?_)
                          have zf330 := esd234.symm
                          have zf331 := ((k231.2.2.1 _ _ rfl).trans ((k210.2.2.1 _ _ rfl).trans ((k44.2.2.1 _ _ rfl).trans esd2.symm)))
                          have zf332 := ((k231.2.2.1 _ _ rfl).trans ((k210.2.2.1 _ _ rfl).trans hinv.2.1.1))
                          have zf333 := ((k231.2.2.1 _ _ rfl).trans ((k210.2.2.1 _ _ rfl).trans ((k44.2.2.1 _ _ rfl).trans esd4.symm)))
                          have zf334 := esd235.symm
                          refine A_callV2 m_MD_wrong T_ok d_MD_soundPart_241 l_MD_245 k_MD_wrong (mi_s k233.1 sf_170) rfl (by decide +kernel) (by decide) (Nat.le_of_ble_eq_true rfl) (s_MD_wrong k233.1 (by first | (clear xx39 hps hgd; omega) | (clear xx39; omega) | omega) (by first | (clear xx39 hps hgd; omega) | (clear xx39; omega) | omega) (by first | (clear xx39 hps hgd; omega) | (clear xx39; omega) | omega) (by first | (clear xx39 hps hgd; omega) | (clear xx39; omega) | omega)) (fun r h329 hq => ?_)
                          obtain ⟨x336, rfl, ⟨_, _⟩, k335⟩ := hq
                          have k337 := kM_t k233 k335 (pm_s (by decide) (by decide))
                          obtain rfl : x336 = 0 := by first | (clear xx39 hps hgd; omega) | (clear xx39; omega) | omega
                          exact A_zret d_MD_soundPart_244 (by decide) rfl (by first | (clear xx39 hps hgd; omega) | (clear xx39; omega) | omega) ⟨_, rfl, by first | (clear xx39 hps hgd; omega) | (clear xx39; omega) | omega, (fun q => absurd q (by decide)), k337⟩
                      · refine A_aload_n 0 d_MD_soundPart_217 rfl rfl ?_
                        have zf339 := esd234.symm
                        have zf340 := ((k231.2.2.1 _ _ rfl).trans ((k210.2.2.1 _ _ rfl).trans ((k44.2.2.1 _ _ rfl).trans esd2.symm)))
                        have zf341 := ((k231.2.2.1 _ _ rfl).trans ((k210.2.2.1 _ _ rfl).trans hinv.2.1.1))
                        have zf342 := ((k231.2.2.1 _ _ rfl).trans ((k210.2.2.1 _ _ rfl).trans ((k44.2.2.1 _ _ rfl).trans esd4.symm)))
                        have zf343 := esd235.symm
                        refine A_callV0 m_MD_cant T_ok d_MD_soundPart_218 l_MD_313 k_MD_cant (mi_s k233.1 sf_170) rfl (by decide +kernel) (by decide) (Nat.le_of_ble_eq_true rfl) (s_MD_cant k233.1 ) (fun r h338 hq => ?_)
                        obtain ⟨x345, rfl, ⟨_, _⟩, k344⟩ := hq
                        have k346 := kM_t k233 k344 (pm_s (by decide) (by decide))
                        obtain rfl : x345 = 0 := by first | (clear xx39 hps hgd; omega) | (clear xx39; omega) | omega
                        exact A_zret d_MD_soundPart_221 (by decide) rfl (by first | (clear xx39 hps hgd; omega) | (clear xx39; omega) | omega) ⟨_, rfl, by first | (clear xx39 hps hgd; omega) | (clear xx39; omega) | omega, (fun q => absurd q (by decide)), k346⟩
                  · refine A_iconst d_MD_soundPart_193 rfl ?_
                    exact A_zret d_MD_soundPart_194 (by decide) rfl (by first | (clear hps hgd; omega) | omega) ⟨_, rfl, by first | (clear hps hgd; omega) | omega, (fun q => absurd q (by decide)), k212⟩
                · refine A_aload_n 0 d_MD_soundPart_161 rfl rfl ?_
                  refine A_aload_n 0 d_MD_soundPart_162 rfl rfl ?_
                  refine A_getIn (lo := 0) (hi := 300) T_ok d_MD_soundPart_163 f_MD_360 (mi_s k44.1 sf_170) (mi_g k44.1 (by decide) mr_170_64) (fun x347 ex347 _ _ => ?_)
                  refine A_sipush d_MD_soundPart_166 rfl ?_
                  refine A_icmp_ne (tgt := 176) d_MD_soundPart_169 (by decide) (fun c348 => ?_) (fun c348 => ?_)
                  · refine A_iconst d_MD_soundPart_176 rfl ?_
                    refine A_aload_n 0 d_MD_soundPart_177 rfl rfl ?_
                    refine A_getIn (lo := 0) (hi := 2000) T_ok d_MD_soundPart_178 f_MD_242 (mi_s k44.1 sf_170) (mi_g k44.1 (by decide) mr_170_5) (fun x349 ex349 _ _ => ?_)
                    have zf351 := esd45.symm
                    have zf352 := ((k44.2.2.1 _ _ rfl).trans esd2.symm)
                    have zf353 := hinv.2.1.1
                    have zf354 := ((k44.2.2.1 _ _ rfl).trans esd4.symm)
                    have zf355 := esd46.symm
                    refine A_callV2 m_MD_wrong T_ok d_MD_soundPart_181 l_MD_245 k_MD_wrong (mi_s k44.1 sf_170) rfl (by decide +kernel) (by decide) (Nat.le_of_ble_eq_true rfl) (s_MD_wrong k44.1 (by first | (clear hps hgd; omega) | omega) (by first | (clear hps hgd; omega) | omega) (by first | (clear hps hgd; omega) | omega) (by first | (clear hps hgd; omega) | omega)) (fun r h350 hq => ?_)
                    obtain ⟨x357, rfl, ⟨_, _⟩, k356⟩ := hq
                    have k358 := kM_t k44 k356 (pm_s (by decide) (by decide))
                    obtain rfl : x357 = 0 := by first | (clear hps hgd; omega) | omega
                    exact A_zret d_MD_soundPart_184 (by decide) rfl (by first | (clear hps hgd; omega) | omega) ⟨_, rfl, by first | (clear hps hgd; omega) | omega, (fun q => absurd q (by decide)), k358⟩
                  · refine A_iconst d_MD_soundPart_172 rfl ?_
                    refine A_goto (tgt := 177) d_MD_soundPart_173 (by decide) ?_
                    refine A_aload_n 0 d_MD_soundPart_177 rfl rfl ?_
                    refine A_getIn (lo := 0) (hi := 2000) T_ok d_MD_soundPart_178 f_MD_242 (mi_s k44.1 sf_170) (mi_g k44.1 (by decide) mr_170_5) (fun x359 ex359 _ _ => ?_)
                    have zf361 := esd45.symm
                    have zf362 := ((k44.2.2.1 _ _ rfl).trans esd2.symm)
                    have zf363 := hinv.2.1.1
                    have zf364 := ((k44.2.2.1 _ _ rfl).trans esd4.symm)
                    have zf365 := esd46.symm
                    refine A_callV2 m_MD_wrong T_ok d_MD_soundPart_181 l_MD_245 k_MD_wrong (mi_s k44.1 sf_170) rfl (by decide +kernel) (by decide) (Nat.le_of_ble_eq_true rfl) (s_MD_wrong k44.1 (by first | (clear hps hgd; omega) | omega) (by first | (clear hps hgd; omega) | omega) (by first | (clear hps hgd; omega) | omega) (by first | (clear hps hgd; omega) | omega)) (fun r h360 hq => ?_)
                    obtain ⟨x367, rfl, ⟨_, _⟩, k366⟩ := hq
                    have k368 := kM_t k44 k366 (pm_s (by decide) (by decide))
                    obtain rfl : x367 = 0 := by first | (clear hps hgd; omega) | omega
                    exact A_zret d_MD_soundPart_184 (by decide) rfl (by first | (clear hps hgd; omega) | omega) ⟨_, rfl, by first | (clear hps hgd; omega) | omega, (fun q => absurd q (by decide)), k368⟩
            · refine A_aload_n 0 d_MD_soundPart_118 rfl rfl ?_
              refine A_iconst d_MD_soundPart_119 rfl ?_
              refine A_aload_n 0 d_MD_soundPart_120 rfl rfl ?_
              refine A_getIn (lo := 0) (hi := 2000) T_ok d_MD_soundPart_121 f_MD_242 (mi_s k44.1 sf_170) (mi_g k44.1 (by decide) mr_170_5) (fun x369 ex369 _ _ => ?_)
              have zf371 := esd45.symm
              have zf372 := ((k44.2.2.1 _ _ rfl).trans esd2.symm)
              have zf373 := hinv.2.1.1
              have zf374 := ((k44.2.2.1 _ _ rfl).trans esd4.symm)
              have zf375 := esd46.symm
              refine A_callV2 m_MD_wrong T_ok d_MD_soundPart_124 l_MD_245 k_MD_wrong (mi_s k44.1 sf_170) rfl (by decide +kernel) (by decide) (Nat.le_of_ble_eq_true rfl) (s_MD_wrong k44.1 (by first | (clear hps hgd; omega) | omega) (by first | (clear hps hgd; omega) | omega) (by first | (clear hps hgd; omega) | omega) (by first | (clear hps hgd; omega) | omega)) (fun r h370 hq => ?_)
              obtain ⟨x377, rfl, ⟨_, _⟩, k376⟩ := hq
              have k378 := kM_t k44 k376 (pm_s (by decide) (by decide))
              obtain rfl : x377 = 0 := by first | (clear hps hgd; omega) | omega
              exact A_zret d_MD_soundPart_127 (by decide) rfl (by first | (clear hps hgd; omega) | omega) ⟨_, rfl, by first | (clear hps hgd; omega) | omega, (fun q => absurd q (by decide)), k378⟩
          · refine A_aload_n 0 d_MD_soundPart_103 rfl rfl ?_
            have zf380 := esd45.symm
            have zf381 := ((k44.2.2.1 _ _ rfl).trans esd2.symm)
            have zf382 := hinv.2.1.1
            have zf383 := ((k44.2.2.1 _ _ rfl).trans esd4.symm)
            have zf384 := esd46.symm
            refine A_callV0 m_MD_cant T_ok d_MD_soundPart_104 l_MD_313 k_MD_cant (mi_s k44.1 sf_170) rfl (by decide +kernel) (by decide) (Nat.le_of_ble_eq_true rfl) (s_MD_cant k44.1 ) (fun r h379 hq => ?_)
            obtain ⟨x386, rfl, ⟨_, _⟩, k385⟩ := hq
            have k387 := kM_t k44 k385 (pm_s (by decide) (by decide))
            obtain rfl : x386 = 0 := by first | (clear hps hgd; omega) | omega
            exact A_zret d_MD_soundPart_107 (by decide) rfl (by first | (clear hps hgd; omega) | omega) ⟨_, rfl, by first | (clear hps hgd; omega) | omega, (fun q => absurd q (by decide)), k387⟩
      exact lp95 _ h32 ⟨(by have qq0 := esd41.symm; have qq1 := ((k38.2.2.1 _ _ rfl).trans ((eh19.1 _ _ (fun q => absurd q (by decide))).trans ((eh16.1 _ _ (fun q => absurd q (by decide))).trans ((k13.2.2.1 _ _ rfl).trans esd2.symm)))); have qq2 := esd42.symm; exact ⟨by first | (clear hps hgd; omega) | omega, by first | (clear hps hgd; omega) | omega, by first | (clear hps hgd; omega) | omega, by first | (clear hps hgd; omega) | omega⟩), ⟨((k38.2.2.1 _ _ rfl).trans ((eh19.1 _ _ (fun q => absurd q (by decide))).trans ((eh16.1 _ _ (fun q => absurd q (by decide))).trans xk13.1))), (fun k hk => ((k38.2.2.1 201 k rfl).trans ((eh19.1 201 k (fun q => absurd q (by decide))).trans ((eh16.1 201 k (fun q => absurd q (by decide))).trans (xk13.2.1 k hk))))), ((k38.2.2.1 _ _ rfl).trans ((eh19.1 _ _ (fun q => absurd q (by decide))).trans ((eh16.1 _ _ (fun q => absurd q (by decide))).trans xk13.2.2))), (fun k hk => ((k38.2.2.1 202 k rfl).trans ((eh19.1 202 k (fun q => absurd q (by decide))).trans ((eh16.1 202 k (fun q => absurd q (by decide))).trans (k13.2.2.1 202 k rfl)))))⟩, (by have qq0 := esd41.symm; have qq1 := ((k38.2.2.1 _ _ rfl).trans ((eh19.1 _ _ (fun q => absurd q (by decide))).trans ((eh16.1 _ _ (fun q => absurd q (by decide))).trans ((k13.2.2.1 _ _ rfl).trans esd2.symm)))); have qq2 := esd42.symm; have qq3 := ((k38.2.2.1 _ _ rfl).trans ((eh19.1 _ _ (fun q => absurd q (by decide))).trans ((eh16.1 _ _ (fun q => absurd q (by decide))).trans xk13.1))); exact ⟨by first | (clear hps hgd; omega) | omega, by first | (clear hps hgd; omega) | omega⟩)⟩ k40 (Nat.lt_succ_self _)
    · refine A_aload_n 0 d_MD_soundPart_80 rfl rfl ?_
      refine A_iload_n 1 d_MD_soundPart_81 rfl rfl ?_
      have zf389 := ((eh19.1 _ _ (fun q => absurd q (by decide))).trans ((eh16.1 _ _ (fun q => absurd q (by decide))).trans ((k13.2.2.1 _ _ rfl).trans esd1.symm)))
      have zf390 := ((eh19.1 _ _ (fun q => absurd q (by decide))).trans ((eh16.1 _ _ (fun q => absurd q (by decide))).trans ((k13.2.2.1 _ _ rfl).trans esd2.symm)))
      have zf391 := ((eh19.1 _ _ (fun q => absurd q (by decide))).trans ((eh16.1 _ _ (fun q => absurd q (by decide))).trans xk13.1))
      have zf392 := ((eh19.1 _ _ (fun q => absurd q (by decide))).trans ((eh16.1 _ _ (fun q => absurd q (by decide))).trans ((k13.2.2.1 _ _ rfl).trans esd4.symm)))
      have zf393 := ((eh19.1 _ _ (fun q => absurd q (by decide))).trans ((eh16.1 _ _ (fun q => absurd q (by decide))).trans ((k13.2.2.1 _ _ rfl).trans esd5.symm)))
      refine A_callV1 m_MD_pitchOf T_ok d_MD_soundPart_82 l_MD_378 k_MD_pitchOf (mi_s k20.1 sf_170) rfl (by decide +kernel) (by decide) (Nat.le_of_ble_eq_true rfl) (s_MD_pitchOf k20.1 (by first | (clear hps hgd; omega) | omega) (by first | (clear hps hgd; omega) | omega) (by have qq0 := ((eh19.1 _ _ (fun q => absurd q (by decide))).trans ((eh16.1 _ _ (fun q => absurd q (by decide))).trans ((k13.2.2.1 _ _ rfl).trans esd1.symm))); have qq1 := ((eh19.1 _ _ (fun q => absurd q (by decide))).trans ((eh16.1 _ _ (fun q => absurd q (by decide))).trans ((k13.2.2.1 _ _ rfl).trans esd2.symm))); first | (clear hps hgd; omega) | omega) (by have qp := ((eh19.1 _ _ (fun q => absurd q (by decide))).trans eh16.2.1); first | (clear hps hgd; omega) | omega)) (fun r h388 hq => ?_)
      obtain ⟨x395, rfl, bx395, xx395, k394⟩ := hq
      have k396 := kM_t k20 k394 (pm_s (by decide) (by decide))
      obtain ⟨sd397, esd397⟩ : ∃ x, x = h388.2.1 170 3 := ⟨_, rfl⟩
      have rsd397 : 0 ≤ sd397 ∧ sd397 ≤ 2000 := (by rw [esd397]; exact mi_g k396.1 (by decide) mr_170_3)
      obtain ⟨sd398, esd398⟩ : ∃ x, x = h388.2.1 170 4 := ⟨_, rfl⟩
      have rsd398 : 0 ≤ sd398 ∧ sd398 ≤ 6 := (by rw [esd398]; exact mi_g k396.1 (by decide) mr_170_4)
      refine A_if_ne (tgt := 209) d_MD_soundPart_85 (by decide) (fun c399 => ?_) (fun c399 => ?_)
      · refine A_aload_n 0 d_MD_soundPart_209 rfl rfl ?_
        refine A_getIv (z := sd398) T_ok d_MD_soundPart_210 f_MD_239 (mi_s k396.1 sf_170) esd398.symm ?_
        refine A_iconst d_MD_soundPart_213 rfl ?_
        refine A_icmp_eq (tgt := 222) d_MD_soundPart_214 (by decide) (fun c401 => ?_) (fun c401 => ?_)
        · refine A_aload_n 0 d_MD_soundPart_222 rfl rfl ?_
          refine A_aload_n 0 d_MD_soundPart_223 rfl rfl ?_
          refine A_getIn (lo := 0) (hi := 9999) T_ok d_MD_soundPart_224 f_MD_271 (mi_s k396.1 sf_170) (mi_g k396.1 (by decide) mr_170_6) (fun x402 ex402 _ _ => ?_)
          refine A_bipush d_MD_soundPart_227 rfl ?_
          refine A_callV2 m_MD_isPower T_ok d_MD_soundPart_229 l_MD_347 k_MD_isPower (mi_s k396.1 sf_170) rfl (by decide +kernel) (by decide) (Nat.le_of_ble_eq_true rfl) (s_MD_isPower  ) (fun r h403 hq => ?_)
          obtain ⟨x405, rfl, bx405, xx405, rfl⟩ := hq
          refine A_if_ne (tgt := 245) d_MD_soundPart_232 (by decide) (fun c406 => ?_) (fun c406 => ?_)
          · refine A_aload_n 0 d_MD_soundPart_245 rfl rfl ?_
            refine A_getAv (z := some 202) T_ok d_MD_soundPart_246 f_MD_109 (mi_s k396.1 sf_170) (mi_r k396.1 rfm_45) ?_
            refine A_iload_n 1 d_MD_soundPart_249 rfl rfl ?_
            refine A_aload_n 0 d_MD_soundPart_250 rfl rfl ?_
            refine A_getIv (z := x402) T_ok d_MD_soundPart_251 f_MD_271 (mi_s k396.1 sf_170) ex402.symm ?_
            refine A_pc (pc' := 254) rfl ?_
            refine A_iastorek (KR := kM (pm [3, 4, 5, 6, 7, 8, 9, 10, 11, 12, 43, 64] [201, 202, 204, 205, 206, 207, 208, 209]) h) d_MD_soundPart_254 (mi_s k396.1 sf_202) (by first | (clear hps hgd; omega) | omega) (by first | (clear hps hgd; omega) | omega) (kM_i k396 (by decide) rfl (mr_202 _) (by first | (clear hps hgd; omega) | omega) (by first | (clear hps hgd; omega) | omega)) (fun h409 k410 eh409 => ?_)
            refine A_aload_n 0 d_MD_soundPart_255 rfl rfl ?_
            have zf412 := ((eh409.1 _ _ (fun q => absurd q (by decide))).trans esd397.symm)
            have zf413 := ((eh409.1 _ _ (fun q => absurd q (by decide))).trans ((k394.2.2.1 _ _ rfl).trans ((eh19.1 _ _ (fun q => absurd q (by decide))).trans ((eh16.1 _ _ (fun q => absurd q (by decide))).trans ((k13.2.2.1 _ _ rfl).trans esd2.symm)))))
            have zf414 := ((eh409.1 _ _ (fun q => absurd q (by decide))).trans ((k394.2.2.1 _ _ rfl).trans ((eh19.1 _ _ (fun q => absurd q (by decide))).trans ((eh16.1 _ _ (fun q => absurd q (by decide))).trans xk13.1))))
            have zf415 := ((eh409.1 _ _ (fun q => absurd q (by decide))).trans ((k394.2.2.1 _ _ rfl).trans ((eh19.1 _ _ (fun q => absurd q (by decide))).trans ((eh16.1 _ _ (fun q => absurd q (by decide))).trans ((k13.2.2.1 _ _ rfl).trans esd4.symm)))))
            have zf416 := ((eh409.1 _ _ (fun q => absurd q (by decide))).trans esd398.symm)
            refine A_callV0 m_MD_next T_ok d_MD_soundPart_256 l_MD_309 k_MD_next (mi_s k410.1 sf_170) rfl (by decide +kernel) (by decide) (Nat.le_of_ble_eq_true rfl) (s_MD_next k410.1 (by have qq0 := ((eh409.1 _ _ (fun q => absurd q (by decide))).trans esd397.symm); have qq1 := ((eh409.1 _ _ (fun q => absurd q (by decide))).trans ((k394.2.2.1 _ _ rfl).trans ((eh19.1 _ _ (fun q => absurd q (by decide))).trans ((eh16.1 _ _ (fun q => absurd q (by decide))).trans ((k13.2.2.1 _ _ rfl).trans esd2.symm))))); first | (clear hps hgd; omega) | omega)) (fun r h411 hq => ?_)
            obtain ⟨x418, rfl, ⟨_, _⟩, xx418, k417⟩ := hq
            have xa418 := xx418.1
            have xb418 := xx418.2.1
            have k419 := kM_t k410 k417 (pm_s (by decide) (by decide))
            obtain ⟨sd420, esd420⟩ : ∃ x, x = h411.2.1 170 3 := ⟨_, rfl⟩
            have rsd420 : 0 ≤ sd420 ∧ sd420 ≤ 2000 := (by rw [esd420]; exact mi_g k419.1 (by decide) mr_170_3)
            obtain ⟨sd421, esd421⟩ : ∃ x, x = h411.2.1 170 4 := ⟨_, rfl⟩
            have rsd421 : 0 ≤ sd421 ∧ sd421 ≤ 6 := (by rw [esd421]; exact mi_g k419.1 (by decide) mr_170_4)
            refine A_popI d_MD_soundPart_259 ?_
            refine A_aload_n 0 d_MD_soundPart_260 rfl rfl ?_
            refine A_getAv (z := some 209) T_ok d_MD_soundPart_261 f_MD_130 (mi_s k419.1 sf_170) (mi_r k419.1 rfm_52) ?_
            refine A_iload_n 1 d_MD_soundPart_264 rfl rfl ?_
            refine A_iconst d_MD_soundPart_265 rfl ?_
            refine A_pc (pc' := 266) rfl ?_
            refine A_iastorek (KR := kM (pm [3, 4, 5, 6, 7, 8, 9, 10, 11, 12, 43, 64] [201, 202, 204, 205, 206, 207, 208, 209]) h) d_MD_soundPart_266 (mi_s k419.1 sf_209) (by first | (clear hps hgd; omega) | omega) (by first | (clear hps hgd; omega) | omega) (kM_i k419 (by decide) rfl (mr_209 _) (by first | (clear hps hgd; omega) | omega) (by first | (clear hps hgd; omega) | omega)) (fun h423 k424 eh423 => ?_)
            have lp267 : ∀ (n : Nat) (h425 : ah_T) , (h.2.1 170 3 ≤ h425.2.1 170 3 ∧ h425.2.1 170 3 ≤ h.2.1 170 2 ∧ (h425.2.1 170 4 ≠ 0 → h425.2.1 170 4 ≠ 6 → h.2.1 170 3 < h425.2.1 170 3) ∧ (h425.2.1 170 4 = 0 → h425.2.1 170 3 = h.2.1 170 2)) ∧ SI h h425 sd3 ∧ (1 ≤ h425.2.1 202 (sd3).toNat ∧ h425.2.1 202 (sd3).toNat ≤ 64) ∧ (h425.2.1 170 43 ≤ h425.2.1 170 3 ∧ (h425.2.1 170 4 ≠ 0 → h425.2.1 170 4 ≠ 6 → h425.2.1 170 43 + 1 ≤ h425.2.1 170 3)) → kM (pm [3, 4, 5, 6, 7, 8, 9, 10, 11, 12, 43, 64] [201, 202, 204, 205, 206, 207, 208, 209]) h h425 → (mu h425).toNat < n → aw G (rm_R 4 0 0) m_MD_soundPart 0 0 267 [some (av_R (some 170)), some (av_I sd3), some (av_I x28)] [] h425 (fun r h' => ∃ z, r = some (av_I z) ∧ (z = 0 ∨ z = 1) ∧ (z = 1 → (h.2.1 170 3 ≤ h'.2.1 170 3 ∧ h'.2.1 170 3 ≤ h.2.1 170 2 ∧ (h'.2.1 170 4 ≠ 0 → h'.2.1 170 4 ≠ 6 → h.2.1 170 3 < h'.2.1 170 3) ∧ (h'.2.1 170 4 = 0 → h'.2.1 170 3 = h.2.1 170 2)) ∧ (h'.2.1 170 43 ≤ h'.2.1 170 3 ∧ (h'.2.1 170 4 ≠ 0 → h'.2.1 170 4 ≠ 6 → h'.2.1 170 43 + 1 ≤ h'.2.1 170 3)) ∧ VHx h') ∧ kM (pm [3, 4, 5, 6, 7, 8, 9, 10, 11, 12, 43, 64] [201, 202, 204, 205, 206, 207, 208, 209]) h h') := by
              intro n
              induction n with
              | zero => intro h425 _ _ hm; omega
              | succ n ih267 =>
                intro h425  hinv k426 hm
                have hvA := hinv.1.1
                have hvB := hinv.1.2.1
                have hvC := hinv.2.2.2.1
                have hvD := hinv.2.2.1
                obtain ⟨sd427, esd427⟩ : ∃ x, x = h425.2.1 170 3 := ⟨_, rfl⟩
                have rsd427 : 0 ≤ sd427 ∧ sd427 ≤ 2000 := (by rw [esd427]; exact mi_g k426.1 (by decide) mr_170_3)
                obtain ⟨sd428, esd428⟩ : ∃ x, x = h425.2.1 170 4 := ⟨_, rfl⟩
                have rsd428 : 0 ≤ sd428 ∧ sd428 ≤ 6 := (by rw [esd428]; exact mi_g k426.1 (by decide) mr_170_4)
                refine A_aload_n 0 d_MD_soundPart_267 rfl rfl ?_
                refine A_bipush d_MD_soundPart_268 rfl ?_
                have zf430 := esd427.symm
                have zf431 := ((k426.2.2.1 _ _ rfl).trans esd2.symm)
                have zf432 := hinv.2.1.1
                have zf433 := ((k426.2.2.1 _ _ rfl).trans esd4.symm)
                have zf434 := esd428.symm
                refine A_callV1 m_MD_isSign T_ok d_MD_soundPart_270 l_MD_306 k_MD_isSign (mi_s k426.1 sf_170) rfl (by decide +kernel) (by decide) (Nat.le_of_ble_eq_true rfl) (s_MD_isSign k426.1 ) (fun r h429 hq => ?_)
                obtain ⟨x436, rfl, bx436, xx436, rfl⟩ := hq
                refine A_if_eq (tgt := 314) d_MD_soundPart_273 (by decide) (fun c437 => ?_) (fun c437 => ?_)
                · refine A_aload_n 0 d_MD_soundPart_314 rfl rfl ?_
                  refine A_getAv (z := some 208) T_ok d_MD_soundPart_315 f_MD_127 (mi_s k426.1 sf_170) (mi_r k426.1 rfm_51) ?_
                  refine A_iload_n 1 d_MD_soundPart_318 rfl rfl ?_
                  refine A_aload_n 0 d_MD_soundPart_319 rfl rfl ?_
                  refine A_bipush d_MD_soundPart_320 rfl ?_
                  refine A_pc (pc' := 322) rfl ?_
                  have zf440 := esd427.symm
                  have zf441 := ((k426.2.2.1 _ _ rfl).trans esd2.symm)
                  have zf442 := hinv.2.1.1
                  have zf443 := ((k426.2.2.1 _ _ rfl).trans esd4.symm)
                  have zf444 := esd428.symm
                  refine A_callV1 m_MD_isSign T_ok d_MD_soundPart_322 l_MD_306 k_MD_isSign (mi_s k426.1 sf_170) rfl (by decide +kernel) (by decide) (Nat.le_of_ble_eq_true rfl) (s_MD_isSign k426.1 ) (fun r h439 hq => ?_)
                  obtain ⟨x446, rfl, bx446, xx446, rfl⟩ := hq
                  refine A_zastorek (KR := kM (pm [3, 4, 5, 6, 7, 8, 9, 10, 11, 12, 43, 64] [201, 202, 204, 205, 206, 207, 208, 209]) h) d_MD_soundPart_325 (mi_s k426.1 sf_208) (by first | (clear hps hgd hinv; omega) | omega) (by first | (clear hps hgd hinv; omega) | omega) (by first | (clear hps hgd hinv; omega) | omega) (kM_i k426 (by decide) rfl (mr_208 _) (by first | (clear hps hgd hinv; omega) | omega) (by first | (clear hps hgd hinv; omega) | omega)) (fun h447 k448 eh447 => ?_)
                  refine A_aload_n 0 d_MD_soundPart_326 rfl rfl ?_
                  refine A_getAv (z := some 208) T_ok d_MD_soundPart_327 f_MD_127 (mi_s k448.1 sf_170) (mi_r k448.1 rfm_51) ?_
                  refine A_iload_n 1 d_MD_soundPart_330 rfl rfl ?_
                  refine A_zaloadn d_MD_soundPart_331 (mi_s k448.1 sf_208) (by first | (clear hps hgd hinv; omega) | omega) (by first | (clear hps hgd hinv; omega) | omega) (fun x450 ex450 bx450 => ?_)
                  refine A_pc (pc' := 332) rfl ?_
                  refine A_if_ne (tgt := 337) d_MD_soundPart_332 (by decide) (fun c451 => ?_) (fun c451 => ?_)
                  · refine A_iload_n 2 d_MD_soundPart_337 rfl rfl ?_
                    refine A_if_eq (tgt := 354) d_MD_soundPart_338 (by decide) (fun c452 => ?_) (fun c => False.elim (by first | (clear hps hgd hinv; omega) | omega))
                    refine A_aload_n 0 d_MD_soundPart_354 rfl rfl ?_
                    have zf454 := ((eh447.1 _ _ (fun q => absurd q (by decide))).trans esd427.symm)
                    have zf455 := ((eh447.1 _ _ (fun q => absurd q (by decide))).trans ((k426.2.2.1 _ _ rfl).trans esd2.symm))
                    have zf456 := ((eh447.1 _ _ (fun q => absurd q (by decide))).trans hinv.2.1.1)
                    have zf457 := ((eh447.1 _ _ (fun q => absurd q (by decide))).trans ((k426.2.2.1 _ _ rfl).trans esd4.symm))
                    have zf458 := ((eh447.1 _ _ (fun q => absurd q (by decide))).trans esd428.symm)
                    refine A_callV0 m_MD_next T_ok d_MD_soundPart_355 l_MD_309 k_MD_next (mi_s k448.1 sf_170) rfl (by decide +kernel) (by decide) (Nat.le_of_ble_eq_true rfl) (s_MD_next k448.1 (by have qq0 := ((eh447.1 _ _ (fun q => absurd q (by decide))).trans esd427.symm); have qq1 := ((eh447.1 _ _ (fun q => absurd q (by decide))).trans ((k426.2.2.1 _ _ rfl).trans esd2.symm)); first | (clear hps hgd hinv; omega) | omega)) (fun r h453 hq => ?_)
                    obtain ⟨x460, rfl, ⟨_, _⟩, xx460, k459⟩ := hq
                    have xa460 := xx460.1
                    have xb460 := xx460.2.1
                    have k461 := kM_t k448 k459 (pm_s (by decide) (by decide))
                    obtain ⟨sd462, esd462⟩ : ∃ x, x = h453.2.1 170 3 := ⟨_, rfl⟩
                    have rsd462 : 0 ≤ sd462 ∧ sd462 ≤ 2000 := (by rw [esd462]; exact mi_g k461.1 (by decide) mr_170_3)
                    obtain ⟨sd463, esd463⟩ : ∃ x, x = h453.2.1 170 4 := ⟨_, rfl⟩
                    have rsd463 : 0 ≤ sd463 ∧ sd463 ≤ 6 := (by rw [esd463]; exact mi_g k461.1 (by decide) mr_170_4)
                    exact A_zret d_MD_soundPart_358 (by decide) rfl (by first | (clear xx418 hps hgd hinv; omega) | (clear xx418; omega) | omega) ⟨_, rfl, by first | (clear xx418 hps hgd hinv; omega) | (clear xx418; omega) | omega, (fun _ => ⟨by have qq0 := esd462.symm; have qq1 := ((k459.2.2.1 _ _ rfl).trans ((eh447.1 _ _ (fun q => absurd q (by decide))).trans ((k426.2.2.1 _ _ rfl).trans esd2.symm))); have qq2 := esd463.symm; have qq3 := ((k459.2.2.1 _ _ rfl).trans ((eh447.1 _ _ (fun q => absurd q (by decide))).trans hinv.2.1.1)); exact ⟨by first | (clear xx418 hps hgd hinv; omega) | (clear xx418; omega) | omega, by first | (clear xx418 hps hgd hinv; omega) | (clear xx418; omega) | omega, by first | (clear xx418 hps hgd hinv; omega) | (clear xx418; omega) | omega, by first | (clear xx418 hps hgd hinv; omega) | (clear xx418; omega) | omega⟩, by have qq0 := esd462.symm; have qq1 := ((k459.2.2.1 _ _ rfl).trans ((eh447.1 _ _ (fun q => absurd q (by decide))).trans ((k426.2.2.1 _ _ rfl).trans esd2.symm))); have qq2 := esd463.symm; have qq3 := ((k459.2.2.1 _ _ rfl).trans ((eh447.1 _ _ (fun q => absurd q (by decide))).trans hinv.2.1.1)); exact ⟨by first | (clear xx418 hps hgd hinv; omega) | (clear xx418; omega) | omega, by first | (clear xx418 hps hgd hinv; omega) | (clear xx418; omega) | omega⟩, VH_s (x := sd3) hVH esd3.symm ((k459.2.2.1 _ _ rfl).trans ((eh447.1 _ _ (fun q => absurd q (by decide))).trans hinv.2.1.1)) (k461.2.2.1 170 63 rfl) (fun k hk => ((k459.2.2.1 201 k rfl).trans ((eh447.1 201 k (fun q => absurd q (by decide))).trans (hinv.2.1.2.1 k hk)))) (Or.inr ⟨((k459.2.2.1 _ _ rfl).trans ((eh447.1 _ _ (fun q => absurd q (by decide))).trans hinv.2.1.2.2.1)), (by have q1 := ((k459.2.2.1 202 (sd3).toNat rfl).trans (eh447.1 202 (sd3).toNat (fun q => absurd q (by decide)))); have q2 := hinv.2.2.1; exact ⟨by first | (clear xx418 hps hgd hinv; omega) | (clear xx418; omega) | omega, by first | (clear xx418 hps hgd hinv; omega) | (clear xx418; omega) | omega⟩)⟩) (fun k hk => ((k459.2.2.1 202 k rfl).trans ((eh447.1 202 k (fun q => absurd q (by decide))).trans (hinv.2.1.2.2.2 k hk)))) (by intro a ha; simp only [List.mem_cons, List.not_mem_nil, or_false] at ha; rcases ha with rfl | rfl | rfl | rfl | rfl | rfl | rfl | rfl <;> exact (funext (fun k => k461.2.2.1 _ k rfl)))⟩), k461⟩
                  · refine A_iconst d_MD_soundPart_335 rfl ?_
                    exact A_zret d_MD_soundPart_336 (by decide) rfl (by first | (clear hps hgd hinv; omega) | omega) ⟨_, rfl, by first | (clear hps hgd hinv; omega) | omega, (fun _ => ⟨by have qq0 := ((eh447.1 _ _ (fun q => absurd q (by decide))).trans esd427.symm); have qq1 := ((eh447.1 _ _ (fun q => absurd q (by decide))).trans ((k426.2.2.1 _ _ rfl).trans esd2.symm)); have qq2 := ((eh447.1 _ _ (fun q => absurd q (by decide))).trans esd428.symm); have qq3 := ((eh447.1 _ _ (fun q => absurd q (by decide))).trans hinv.2.1.1); exact ⟨by first | (clear hps hgd hinv; omega) | omega, by first | (clear hps hgd hinv; omega) | omega, by first | (clear hps hgd hinv; omega) | omega, by first | (clear hps hgd hinv; omega) | omega⟩, by have qq0 := ((eh447.1 _ _ (fun q => absurd q (by decide))).trans esd427.symm); have qq1 := ((eh447.1 _ _ (fun q => absurd q (by decide))).trans ((k426.2.2.1 _ _ rfl).trans esd2.symm)); have qq2 := ((eh447.1 _ _ (fun q => absurd q (by decide))).trans esd428.symm); have qq3 := ((eh447.1 _ _ (fun q => absurd q (by decide))).trans hinv.2.1.1); exact ⟨by first | (clear hps hgd hinv; omega) | omega, by first | (clear hps hgd hinv; omega) | omega⟩, VH_s (x := sd3) hVH esd3.symm ((eh447.1 _ _ (fun q => absurd q (by decide))).trans hinv.2.1.1) (k448.2.2.1 170 63 rfl) (fun k hk => ((eh447.1 201 k (fun q => absurd q (by decide))).trans (hinv.2.1.2.1 k hk))) (Or.inr ⟨((eh447.1 _ _ (fun q => absurd q (by decide))).trans hinv.2.1.2.2.1), (by have q1 := (eh447.1 202 (sd3).toNat (fun q => absurd q (by decide))); have q2 := hinv.2.2.1; exact ⟨by first | (clear hps hgd hinv; omega) | omega, by first | (clear hps hgd hinv; omega) | omega⟩)⟩) (fun k hk => ((eh447.1 202 k (fun q => absurd q (by decide))).trans (hinv.2.1.2.2.2 k hk))) (by intro a ha; simp only [List.mem_cons, List.not_mem_nil, or_false] at ha; rcases ha with rfl | rfl | rfl | rfl | rfl | rfl | rfl | rfl <;> exact (funext (fun k => k448.2.2.1 _ k rfl)))⟩), k448⟩
                · refine A_aload_n 0 d_MD_soundPart_276 rfl rfl ?_
                  refine A_getAv (z := some 209) T_ok d_MD_soundPart_277 f_MD_130 (mi_s k426.1 sf_170) (mi_r k426.1 rfm_52) ?_
                  refine A_iload_n 1 d_MD_soundPart_280 rfl rfl ?_
                  refine A_ialoadn (lo := 0) (hi := 3) d_MD_soundPart_281 (mi_s k426.1 sf_209) (by first | (clear hps hgd hinv; omega) | omega) (by first | (clear hps hgd hinv; omega) | omega) (mi_g k426.1 (by decide) (mr_209 _)) (fun x465 ex465 _ _ => ?_)
                  refine A_iconst d_MD_soundPart_282 rfl ?_
                  refine A_pc (pc' := 283) rfl ?_
                  refine A_icmp_ne (tgt := 296) d_MD_soundPart_283 (by decide) (fun c466 => ?_) (fun c466 => ?_)
                  · refine A_aload_n 0 d_MD_soundPart_296 rfl rfl ?_
                    refine A_getAv (z := some 209) T_ok d_MD_soundPart_297 f_MD_130 (mi_s k426.1 sf_170) (mi_r k426.1 rfm_52) ?_
                    refine A_iload_n 1 d_MD_soundPart_300 rfl rfl ?_
                    refine A_dup2RI d_MD_soundPart_301 ?_
                    refine A_ialoadv (z := x465) d_MD_soundPart_302 (mi_s k426.1 sf_209) (by first | (clear hps hgd hinv; omega) | omega) (by first | (clear hps hgd hinv; omega) | omega) ex465.symm ?_
                    refine A_pc (pc' := 303) rfl ?_
                    refine A_iconst d_MD_soundPart_303 rfl ?_
                    refine A_iaddv (z := (x465 + 1)) d_MD_soundPart_304 (w32_to (by first | (clear hps hgd hinv; omega) | omega) (by unfold i32; first | (clear hps hgd hinv; omega) | omega)) ?_
                    refine A_iastorek (KR := kM (pm [3, 4, 5, 6, 7, 8, 9, 10, 11, 12, 43, 64] [201, 202, 204, 205, 206, 207, 208, 209]) h) d_MD_soundPart_305 (mi_s k426.1 sf_209) (by first | (clear hps hgd hinv; omega) | omega) (by first | (clear hps hgd hinv; omega) | omega) (kM_i k426 (by decide) rfl (mr_209 _) (by first | (clear hps hgd hinv; omega) | omega) (by first | (clear hps hgd hinv; omega) | omega)) (fun h469 k470 eh469 => ?_)
                    refine A_aload_n 0 d_MD_soundPart_306 rfl rfl ?_
                    have zf472 := ((eh469.1 _ _ (fun q => absurd q (by decide))).trans esd427.symm)
                    have zf473 := ((eh469.1 _ _ (fun q => absurd q (by decide))).trans ((k426.2.2.1 _ _ rfl).trans esd2.symm))
                    have zf474 := ((eh469.1 _ _ (fun q => absurd q (by decide))).trans hinv.2.1.1)
                    have zf475 := ((eh469.1 _ _ (fun q => absurd q (by decide))).trans ((k426.2.2.1 _ _ rfl).trans esd4.symm))
                    have zf476 := ((eh469.1 _ _ (fun q => absurd q (by decide))).trans esd428.symm)
                    refine A_callV0 m_MD_next T_ok d_MD_soundPart_307 l_MD_309 k_MD_next (mi_s k470.1 sf_170) rfl (by decide +kernel) (by decide) (Nat.le_of_ble_eq_true rfl) (s_MD_next k470.1 (by have qq0 := ((eh469.1 _ _ (fun q => absurd q (by decide))).trans esd427.symm); have qq1 := ((eh469.1 _ _ (fun q => absurd q (by decide))).trans ((k426.2.2.1 _ _ rfl).trans esd2.symm)); first | (clear hps hgd hinv; omega) | omega)) (fun r h471 hq => ?_)
                    obtain ⟨x478, rfl, ⟨_, _⟩, xx478, k477⟩ := hq
                    have xa478 := xx478.1
                    have xb478 := xx478.2.1
                    have k479 := kM_t k470 k477 (pm_s (by decide) (by decide))
                    obtain ⟨sd480, esd480⟩ : ∃ x, x = h471.2.1 170 3 := ⟨_, rfl⟩
                    have rsd480 : 0 ≤ sd480 ∧ sd480 ≤ 2000 := (by rw [esd480]; exact mi_g k479.1 (by decide) mr_170_3)
                    obtain ⟨sd481, esd481⟩ : ∃ x, x = h471.2.1 170 4 := ⟨_, rfl⟩
                    have rsd481 : 0 ≤ sd481 ∧ sd481 ≤ 6 := (by rw [esd481]; exact mi_g k479.1 (by decide) mr_170_4)
                    refine A_popI d_MD_soundPart_310 ?_
                    refine A_goto (tgt := 267) d_MD_soundPart_311 (by decide) ?_
                    exact ih267 h471 ⟨(by have qq0 := esd480.symm; have qq1 := ((k477.2.2.1 _ _ rfl).trans ((eh469.1 _ _ (fun q => absurd q (by decide))).trans ((k426.2.2.1 _ _ rfl).trans esd2.symm))); have qq2 := esd481.symm; exact ⟨by first | (clear xx418 hps hgd hinv; omega) | (clear xx418; omega) | omega, by first | (clear xx418 hps hgd hinv; omega) | (clear xx418; omega) | omega, by first | (clear xx418 hps hgd hinv; omega) | (clear xx418; omega) | omega, by first | (clear xx418 hps hgd hinv; omega) | (clear xx418; omega) | omega⟩), ⟨((k477.2.2.1 _ _ rfl).trans ((eh469.1 _ _ (fun q => absurd q (by decide))).trans hinv.2.1.1)), (fun k hk => ((k477.2.2.1 201 k rfl).trans ((eh469.1 201 k (fun q => absurd q (by decide))).trans (hinv.2.1.2.1 k hk)))), ((k477.2.2.1 _ _ rfl).trans ((eh469.1 _ _ (fun q => absurd q (by decide))).trans hinv.2.1.2.2.1)), (fun k hk => ((k477.2.2.1 202 k rfl).trans ((eh469.1 202 k (fun q => absurd q (by decide))).trans (hinv.2.1.2.2.2 k hk))))⟩, (by have q1 := ((k477.2.2.1 202 (sd3).toNat rfl).trans (eh469.1 202 (sd3).toNat (fun q => absurd q (by decide)))); have q2 := hinv.2.2.1; exact ⟨by first | (clear xx418 hps hgd hinv; omega) | (clear xx418; omega) | omega, by first | (clear xx418 hps hgd hinv; omega) | (clear xx418; omega) | omega⟩), (by have qq0 := esd480.symm; have qq1 := ((k477.2.2.1 _ _ rfl).trans ((eh469.1 _ _ (fun q => absurd q (by decide))).trans ((k426.2.2.1 _ _ rfl).trans esd2.symm))); have qq2 := esd481.symm; have qq3 := ((k477.2.2.1 _ _ rfl).trans ((eh469.1 _ _ (fun q => absurd q (by decide))).trans hinv.2.1.1)); exact ⟨by first | (clear xx418 hps hgd hinv; omega) | (clear xx418; omega) | omega, by first | (clear xx418 hps hgd hinv; omega) | (clear xx418; omega) | omega⟩)⟩ k479 (by have qq0 := esd480.symm; have qq1 := esd481.symm; have qh0 := ((k426.2.2.1 _ _ rfl).trans esd2.symm); have qh1 := esd427.symm; have qe0 := ((k477.2.2.1 _ _ rfl).trans ((eh469.1 _ _ (fun q => absurd q (by decide))).trans ((k426.2.2.1 _ _ rfl).trans esd2.symm))); first | exact mu_dec (h0 := h425) (h1 := h471) hm (by first | (clear xx418 hps hgd hinv; omega) | (clear xx418; omega) | omega) (by first | (clear xx418 hps hgd hinv; omega) | (clear xx418; omega) | omega) (by first | (clear xx418 hps hgd hinv; omega) | (clear xx418; omega) | omega) (by first | (clear xx418 hps hgd hinv; omega) | (clear xx418; omega) | omega) (by first | (clear xx418 hps hgd hinv; omega) | (clear xx418; omega) | omega) (fun _ _ => by first | (clear xx418 hps hgd hinv; omega) | (clear xx418; omega) | omega) | (have mm0 := mu_f h425; have mm1 := mu_f h471; first | (clear xx418 hps hgd hinv; omega) | (clear xx418; omega) | omega))
                  · refine A_aload_n 0 d_MD_soundPart_286 rfl rfl ?_
                    refine A_iconst d_MD_soundPart_287 rfl ?_
                    refine A_aload_n 0 d_MD_soundPart_288 rfl rfl ?_
                    refine A_getIn (lo := 0) (hi := 2000) T_ok d_MD_soundPart_289 f_MD_242 (mi_s k426.1 sf_170) (mi_g k426.1 (by decide) mr_170_5) (fun x482 ex482 _ _ => ?_)
                    have zf484 := esd427.symm
                    have zf485 := ((k426.2.2.1 _ _ rfl).trans esd2.symm)
                    have zf486 := hinv.2.1.1
                    have zf487 := ((k426.2.2.1 _ _ rfl).trans esd4.symm)
                    have zf488 := esd428.symm
                    refine A_callV2 m_MD_wrong T_ok d_MD_soundPart_292 l_MD_245 k_MD_wrong (mi_s k426.1 sf_170) rfl (by decide +kernel) (by decide) (Nat.le_of_ble_eq_true rfl) (s_MD_wrong k426.1 (by first | (clear hps hgd hinv; omega) | omega) (by first | (clear hps hgd hinv; omega) | omega) (by first | (clear hps hgd hinv; omega) | omega) (by first | (clear hps hgd hinv; omega) | omega)) (fun r h483 hq => ?_)
                    obtain ⟨x490, rfl, ⟨_, _⟩, k489⟩ := hq
                    have k491 := kM_t k426 k489 (pm_s (by decide) (by decide))
                    obtain rfl : x490 = 0 := by first | (clear hps hgd hinv; omega) | omega
                    exact A_zret d_MD_soundPart_295 (by decide) rfl (by first | (clear hps hgd hinv; omega) | omega) ⟨_, rfl, by first | (clear hps hgd hinv; omega) | omega, (fun q => absurd q (by decide)), k491⟩
            exact lp267 _ h423 ⟨(by have qq0 := ((eh423.1 _ _ (fun q => absurd q (by decide))).trans esd420.symm); have qq1 := ((eh423.1 _ _ (fun q => absurd q (by decide))).trans ((k417.2.2.1 _ _ rfl).trans ((eh409.1 _ _ (fun q => absurd q (by decide))).trans ((k394.2.2.1 _ _ rfl).trans ((eh19.1 _ _ (fun q => absurd q (by decide))).trans ((eh16.1 _ _ (fun q => absurd q (by decide))).trans ((k13.2.2.1 _ _ rfl).trans esd2.symm))))))); have qq2 := ((eh423.1 _ _ (fun q => absurd q (by decide))).trans esd421.symm); exact ⟨by first | (clear hps hgd; omega) | omega, by first | (clear hps hgd; omega) | omega, by first | (clear hps hgd; omega) | omega, by first | (clear hps hgd; omega) | omega⟩), ⟨((eh423.1 _ _ (fun q => absurd q (by decide))).trans ((k417.2.2.1 _ _ rfl).trans ((eh409.1 _ _ (fun q => absurd q (by decide))).trans ((k394.2.2.1 _ _ rfl).trans ((eh19.1 _ _ (fun q => absurd q (by decide))).trans ((eh16.1 _ _ (fun q => absurd q (by decide))).trans xk13.1)))))), (fun k hk => ((eh423.1 201 k (fun q => absurd q (by decide))).trans ((k417.2.2.1 201 k rfl).trans ((eh409.1 201 k (fun q => absurd q (by decide))).trans ((k394.2.2.1 201 k rfl).trans ((eh19.1 201 k (fun q => absurd q (by decide))).trans ((eh16.1 201 k (fun q => absurd q (by decide))).trans (xk13.2.1 k hk)))))))), ((eh423.1 _ _ (fun q => absurd q (by decide))).trans ((k417.2.2.1 _ _ rfl).trans ((eh409.1 _ _ (fun q => absurd q (by decide))).trans ((k394.2.2.1 _ _ rfl).trans ((eh19.1 _ _ (fun q => absurd q (by decide))).trans ((eh16.1 _ _ (fun q => absurd q (by decide))).trans xk13.2.2)))))), (fun k hk => ((eh423.1 202 k (fun q => absurd q (by decide))).trans ((k417.2.2.1 202 k rfl).trans ((eh409.1 202 k (fun _ => hk)).trans ((k394.2.2.1 202 k rfl).trans ((eh19.1 202 k (fun q => absurd q (by decide))).trans ((eh16.1 202 k (fun q => absurd q (by decide))).trans (k13.2.2.1 202 k rfl))))))))⟩, (by have q1 := ((eh423.1 _ _ (fun q => absurd q (by decide))).trans ((k417.2.2.1 _ _ rfl).trans eh409.2.1)); exact ⟨by first | (clear hps hgd; omega) | omega, by first | (clear hps hgd; omega) | omega⟩), (by have qq0 := ((eh423.1 _ _ (fun q => absurd q (by decide))).trans esd420.symm); have qq1 := ((eh423.1 _ _ (fun q => absurd q (by decide))).trans ((k417.2.2.1 _ _ rfl).trans ((eh409.1 _ _ (fun q => absurd q (by decide))).trans ((k394.2.2.1 _ _ rfl).trans ((eh19.1 _ _ (fun q => absurd q (by decide))).trans ((eh16.1 _ _ (fun q => absurd q (by decide))).trans ((k13.2.2.1 _ _ rfl).trans esd2.symm))))))); have qq2 := ((eh423.1 _ _ (fun q => absurd q (by decide))).trans esd421.symm); have qq3 := ((eh423.1 _ _ (fun q => absurd q (by decide))).trans ((k417.2.2.1 _ _ rfl).trans ((eh409.1 _ _ (fun q => absurd q (by decide))).trans ((k394.2.2.1 _ _ rfl).trans ((eh19.1 _ _ (fun q => absurd q (by decide))).trans ((eh16.1 _ _ (fun q => absurd q (by decide))).trans xk13.1)))))); exact ⟨by first | (clear hps hgd; omega) | omega, by first | (clear hps hgd; omega) | omega⟩)⟩ k424 (Nat.lt_succ_self _)
          · refine A_aload_n 0 d_MD_soundPart_235 rfl rfl ?_
            refine A_iconst d_MD_soundPart_236 rfl ?_
            refine A_aload_n 0 d_MD_soundPart_237 rfl rfl ?_
            refine A_getIn (lo := 0) (hi := 2000) T_ok d_MD_soundPart_238 f_MD_242 (mi_s k396.1 sf_170) (mi_g k396.1 (by decide) mr_170_5) (fun x492 ex492 _ _ => ?_)
            have zf494 := esd397.symm
            have zf495 := ((k394.2.2.1 _ _ rfl).trans ((eh19.1 _ _ (fun q => absurd q (by decide))).trans ((eh16.1 _ _ (fun q => absurd q (by decide))).trans ((k13.2.2.1 _ _ rfl).trans esd2.symm))))
            have zf496 := ((k394.2.2.1 _ _ rfl).trans ((eh19.1 _ _ (fun q => absurd q (by decide))).trans ((eh16.1 _ _ (fun q => absurd q (by decide))).trans xk13.1)))
            have zf497 := ((k394.2.2.1 _ _ rfl).trans ((eh19.1 _ _ (fun q => absurd q (by decide))).trans ((eh16.1 _ _ (fun q => absurd q (by decide))).trans ((k13.2.2.1 _ _ rfl).trans esd4.symm))))
            have zf498 := esd398.symm
            refine A_callV2 m_MD_wrong T_ok d_MD_soundPart_241 l_MD_245 k_MD_wrong (mi_s k396.1 sf_170) rfl (by decide +kernel) (by decide) (Nat.le_of_ble_eq_true rfl) (s_MD_wrong k396.1 (by first | (clear hps hgd; omega) | omega) (by first | (clear hps hgd; omega) | omega) (by first | (clear hps hgd; omega) | omega) (by first | (clear hps hgd; omega) | omega)) (fun r h493 hq => ?_)
            obtain ⟨x500, rfl, ⟨_, _⟩, k499⟩ := hq
            have k501 := kM_t k396 k499 (pm_s (by decide) (by decide))
            obtain rfl : x500 = 0 := by first | (clear hps hgd; omega) | omega
            exact A_zret d_MD_soundPart_244 (by decide) rfl (by first | (clear hps hgd; omega) | omega) ⟨_, rfl, by first | (clear hps hgd; omega) | omega, (fun q => absurd q (by decide)), k501⟩
        · refine A_aload_n 0 d_MD_soundPart_217 rfl rfl ?_
          have zf503 := esd397.symm
          have zf504 := ((k394.2.2.1 _ _ rfl).trans ((eh19.1 _ _ (fun q => absurd q (by decide))).trans ((eh16.1 _ _ (fun q => absurd q (by decide))).trans ((k13.2.2.1 _ _ rfl).trans esd2.symm))))
          have zf505 := ((k394.2.2.1 _ _ rfl).trans ((eh19.1 _ _ (fun q => absurd q (by decide))).trans ((eh16.1 _ _ (fun q => absurd q (by decide))).trans xk13.1)))
          have zf506 := ((k394.2.2.1 _ _ rfl).trans ((eh19.1 _ _ (fun q => absurd q (by decide))).trans ((eh16.1 _ _ (fun q => absurd q (by decide))).trans ((k13.2.2.1 _ _ rfl).trans esd4.symm))))
          have zf507 := esd398.symm
          refine A_callV0 m_MD_cant T_ok d_MD_soundPart_218 l_MD_313 k_MD_cant (mi_s k396.1 sf_170) rfl (by decide +kernel) (by decide) (Nat.le_of_ble_eq_true rfl) (s_MD_cant k396.1 ) (fun r h502 hq => ?_)
          obtain ⟨x509, rfl, ⟨_, _⟩, k508⟩ := hq
          have k510 := kM_t k396 k508 (pm_s (by decide) (by decide))
          obtain rfl : x509 = 0 := by first | (clear hps hgd; omega) | omega
          exact A_zret d_MD_soundPart_221 (by decide) rfl (by first | (clear hps hgd; omega) | omega) ⟨_, rfl, by first | (clear hps hgd; omega) | omega, (fun q => absurd q (by decide)), k510⟩
      · refine A_iconst d_MD_soundPart_88 rfl ?_
        exact A_zret d_MD_soundPart_89 (by decide) rfl (by first | (clear hps hgd; omega) | omega) ⟨_, rfl, by first | (clear hps hgd; omega) | omega, (fun q => absurd q (by decide)), k396⟩
  · refine A_aload_n 0 d_MD_soundPart_34 rfl rfl ?_
    refine A_getIn (lo := 0) (hi := 300) T_ok d_MD_soundPart_35 f_MD_360 (mi_s k20.1 sf_170) (mi_g k20.1 (by decide) mr_170_64) (fun x511 ex511 _ _ => ?_)
    refine A_sipush d_MD_soundPart_38 rfl ?_
    refine A_icmp_ne (tgt := 54) d_MD_soundPart_41 (by decide) (fun c512 => ?_) (fun c512 => ?_)
    · refine A_aload_n 0 d_MD_soundPart_54 rfl rfl ?_
      refine A_dupR d_MD_soundPart_55 ?_
      refine A_getIv (z := x511) T_ok d_MD_soundPart_56 f_MD_360 (mi_s k20.1 sf_170) ex511.symm ?_
      refine A_iconst d_MD_soundPart_59 rfl ?_
      refine A_iaddv (z := (x511 + 1)) d_MD_soundPart_60 (w32_to (by first | (clear hps hgd; omega) | omega) (by unfold i32; first | (clear hps hgd; omega) | omega)) ?_
      refine A_pc (pc' := 61) rfl ?_
      refine A_putIk (KR := kM (pm [3, 4, 5, 6, 7, 8, 9, 10, 11, 12, 43, 64] [201, 202, 204, 205, 206, 207, 208, 209]) h) T_ok d_MD_soundPart_61 f_MD_360 (mi_s k20.1 sf_170) fin_f (kM_i k20 (by decide) (by decide) mr_170_64 (by first | (clear hps hgd; omega) | omega) (by first | (clear hps hgd; omega) | omega)) (fun h514 k515 eh514 => ?_)
      refine A_aload_n 0 d_MD_soundPart_64 rfl rfl ?_
      have zf517 := ((eh514.1 _ _ (fun _ => by decide)).trans ((eh19.1 _ _ (fun q => absurd q (by decide))).trans ((eh16.1 _ _ (fun q => absurd q (by decide))).trans ((k13.2.2.1 _ _ rfl).trans esd1.symm))))
      have zf518 := ((eh514.1 _ _ (fun _ => by decide)).trans ((eh19.1 _ _ (fun q => absurd q (by decide))).trans ((eh16.1 _ _ (fun q => absurd q (by decide))).trans ((k13.2.2.1 _ _ rfl).trans esd2.symm))))
      have zf519 := ((eh514.1 _ _ (fun _ => by decide)).trans ((eh19.1 _ _ (fun q => absurd q (by decide))).trans ((eh16.1 _ _ (fun q => absurd q (by decide))).trans xk13.1)))
      have zf520 := ((eh514.1 _ _ (fun _ => by decide)).trans ((eh19.1 _ _ (fun q => absurd q (by decide))).trans ((eh16.1 _ _ (fun q => absurd q (by decide))).trans ((k13.2.2.1 _ _ rfl).trans esd4.symm))))
      have zf521 := ((eh514.1 _ _ (fun _ => by decide)).trans ((eh19.1 _ _ (fun q => absurd q (by decide))).trans ((eh16.1 _ _ (fun q => absurd q (by decide))).trans ((k13.2.2.1 _ _ rfl).trans esd5.symm))))
      refine A_callV0 m_MD_next T_ok d_MD_soundPart_65 l_MD_309 k_MD_next (mi_s k515.1 sf_170) rfl (by decide +kernel) (by decide) (Nat.le_of_ble_eq_true rfl) (s_MD_next k515.1 (by have qq0 := ((eh514.1 _ _ (fun _ => by decide)).trans ((eh19.1 _ _ (fun q => absurd q (by decide))).trans ((eh16.1 _ _ (fun q => absurd q (by decide))).trans ((k13.2.2.1 _ _ rfl).trans esd1.symm)))); have qq1 := ((eh514.1 _ _ (fun _ => by decide)).trans ((eh19.1 _ _ (fun q => absurd q (by decide))).trans ((eh16.1 _ _ (fun q => absurd q (by decide))).trans ((k13.2.2.1 _ _ rfl).trans esd2.symm)))); first | (clear hps hgd; omega) | omega)) (fun r h516 hq => ?_)
      obtain ⟨x523, rfl, ⟨_, _⟩, xx523, k522⟩ := hq
      have xa523 := xx523.1
      have xb523 := xx523.2.1
      have k524 := kM_t k515 k522 (pm_s (by decide) (by decide))
      obtain ⟨sd525, esd525⟩ : ∃ x, x = h516.2.1 170 3 := ⟨_, rfl⟩
      have rsd525 : 0 ≤ sd525 ∧ sd525 ≤ 2000 := (by rw [esd525]; exact mi_g k524.1 (by decide) mr_170_3)
      obtain ⟨sd526, esd526⟩ : ∃ x, x = h516.2.1 170 4 := ⟨_, rfl⟩
      have rsd526 : 0 ≤ sd526 ∧ sd526 ≤ 6 := (by rw [esd526]; exact mi_g k524.1 (by decide) mr_170_4)
      refine A_popI d_MD_soundPart_68 ?_
      refine A_goto (tgt := 209) d_MD_soundPart_69 (by decide) ?_
      refine A_aload_n 0 d_MD_soundPart_209 rfl rfl ?_
      refine A_getIv (z := sd526) T_ok d_MD_soundPart_210 f_MD_239 (mi_s k524.1 sf_170) esd526.symm ?_
      refine A_iconst d_MD_soundPart_213 rfl ?_
      refine A_icmp_eq (tgt := 222) d_MD_soundPart_214 (by decide) (fun c528 => ?_) (fun c528 => ?_)
      · refine A_aload_n 0 d_MD_soundPart_222 rfl rfl ?_
        refine A_aload_n 0 d_MD_soundPart_223 rfl rfl ?_
        refine A_getIn (lo := 0) (hi := 9999) T_ok d_MD_soundPart_224 f_MD_271 (mi_s k524.1 sf_170) (mi_g k524.1 (by decide) mr_170_6) (fun x529 ex529 _ _ => ?_)
        refine A_bipush d_MD_soundPart_227 rfl ?_
        refine A_callV2 m_MD_isPower T_ok d_MD_soundPart_229 l_MD_347 k_MD_isPower (mi_s k524.1 sf_170) rfl (by decide +kernel) (by decide) (Nat.le_of_ble_eq_true rfl) (s_MD_isPower  ) (fun r h530 hq => ?_)
        obtain ⟨x532, rfl, bx532, xx532, rfl⟩ := hq
        refine A_if_ne (tgt := 245) d_MD_soundPart_232 (by decide) (fun c533 => ?_) (fun c533 => ?_)
        · refine A_aload_n 0 d_MD_soundPart_245 rfl rfl ?_
          refine A_getAv (z := some 202) T_ok d_MD_soundPart_246 f_MD_109 (mi_s k524.1 sf_170) (mi_r k524.1 rfm_45) ?_
          refine A_iload_n 1 d_MD_soundPart_249 rfl rfl ?_
          refine A_aload_n 0 d_MD_soundPart_250 rfl rfl ?_
          refine A_getIv (z := x529) T_ok d_MD_soundPart_251 f_MD_271 (mi_s k524.1 sf_170) ex529.symm ?_
          refine A_pc (pc' := 254) rfl ?_
          refine A_iastorek (KR := kM (pm [3, 4, 5, 6, 7, 8, 9, 10, 11, 12, 43, 64] [201, 202, 204, 205, 206, 207, 208, 209]) h) d_MD_soundPart_254 (mi_s k524.1 sf_202) (by first | (clear hps hgd; omega) | omega) (by first | (clear hps hgd; omega) | omega) (kM_i k524 (by decide) rfl (mr_202 _) (by first | (clear hps hgd; omega) | omega) (by first | (clear hps hgd; omega) | omega)) (fun h536 k537 eh536 => ?_)
          refine A_aload_n 0 d_MD_soundPart_255 rfl rfl ?_
          have zf539 := ((eh536.1 _ _ (fun q => absurd q (by decide))).trans esd525.symm)
          have zf540 := ((eh536.1 _ _ (fun q => absurd q (by decide))).trans ((k522.2.2.1 _ _ rfl).trans ((eh514.1 _ _ (fun _ => by decide)).trans ((eh19.1 _ _ (fun q => absurd q (by decide))).trans ((eh16.1 _ _ (fun q => absurd q (by decide))).trans ((k13.2.2.1 _ _ rfl).trans esd2.symm))))))
          have zf541 := ((eh536.1 _ _ (fun q => absurd q (by decide))).trans ((k522.2.2.1 _ _ rfl).trans ((eh514.1 _ _ (fun _ => by decide)).trans ((eh19.1 _ _ (fun q => absurd q (by decide))).trans ((eh16.1 _ _ (fun q => absurd q (by decide))).trans xk13.1)))))
          have zf542 := ((eh536.1 _ _ (fun q => absurd q (by decide))).trans ((k522.2.2.1 _ _ rfl).trans ((eh514.1 _ _ (fun _ => by decide)).trans ((eh19.1 _ _ (fun q => absurd q (by decide))).trans ((eh16.1 _ _ (fun q => absurd q (by decide))).trans ((k13.2.2.1 _ _ rfl).trans esd4.symm))))))
          have zf543 := ((eh536.1 _ _ (fun q => absurd q (by decide))).trans esd526.symm)
          refine A_callV0 m_MD_next T_ok d_MD_soundPart_256 l_MD_309 k_MD_next (mi_s k537.1 sf_170) rfl (by decide +kernel) (by decide) (Nat.le_of_ble_eq_true rfl) (s_MD_next k537.1 (by have qq0 := ((eh536.1 _ _ (fun q => absurd q (by decide))).trans esd525.symm); have qq1 := ((eh536.1 _ _ (fun q => absurd q (by decide))).trans ((k522.2.2.1 _ _ rfl).trans ((eh514.1 _ _ (fun _ => by decide)).trans ((eh19.1 _ _ (fun q => absurd q (by decide))).trans ((eh16.1 _ _ (fun q => absurd q (by decide))).trans ((k13.2.2.1 _ _ rfl).trans esd2.symm)))))); first | (clear hps hgd; omega) | omega)) (fun r h538 hq => ?_)
          obtain ⟨x545, rfl, ⟨_, _⟩, xx545, k544⟩ := hq
          have xa545 := xx545.1
          have xb545 := xx545.2.1
          have k546 := kM_t k537 k544 (pm_s (by decide) (by decide))
          obtain ⟨sd547, esd547⟩ : ∃ x, x = h538.2.1 170 3 := ⟨_, rfl⟩
          have rsd547 : 0 ≤ sd547 ∧ sd547 ≤ 2000 := (by rw [esd547]; exact mi_g k546.1 (by decide) mr_170_3)
          obtain ⟨sd548, esd548⟩ : ∃ x, x = h538.2.1 170 4 := ⟨_, rfl⟩
          have rsd548 : 0 ≤ sd548 ∧ sd548 ≤ 6 := (by rw [esd548]; exact mi_g k546.1 (by decide) mr_170_4)
          refine A_popI d_MD_soundPart_259 ?_
          refine A_aload_n 0 d_MD_soundPart_260 rfl rfl ?_
          refine A_getAv (z := some 209) T_ok d_MD_soundPart_261 f_MD_130 (mi_s k546.1 sf_170) (mi_r k546.1 rfm_52) ?_
          refine A_iload_n 1 d_MD_soundPart_264 rfl rfl ?_
          refine A_iconst d_MD_soundPart_265 rfl ?_
          refine A_pc (pc' := 266) rfl ?_
          refine A_iastorek (KR := kM (pm [3, 4, 5, 6, 7, 8, 9, 10, 11, 12, 43, 64] [201, 202, 204, 205, 206, 207, 208, 209]) h) d_MD_soundPart_266 (mi_s k546.1 sf_209) (by first | (clear xx523 hps hgd; omega) | (clear xx523; omega) | omega) (by first | (clear xx523 hps hgd; omega) | (clear xx523; omega) | omega) (kM_i k546 (by decide) rfl (mr_209 _) (by first | (clear xx523 hps hgd; omega) | (clear xx523; omega) | omega) (by first | (clear xx523 hps hgd; omega) | (clear xx523; omega) | omega)) (fun h550 k551 eh550 => ?_)
          have lp267 : ∀ (n : Nat) (h552 : ah_T) , (h.2.1 170 3 ≤ h552.2.1 170 3 ∧ h552.2.1 170 3 ≤ h.2.1 170 2 ∧ (h552.2.1 170 4 ≠ 0 → h552.2.1 170 4 ≠ 6 → h.2.1 170 3 < h552.2.1 170 3) ∧ (h552.2.1 170 4 = 0 → h552.2.1 170 3 = h.2.1 170 2)) ∧ SI h h552 sd3 ∧ (1 ≤ h552.2.1 202 (sd3).toNat ∧ h552.2.1 202 (sd3).toNat ≤ 64) ∧ (h552.2.1 170 43 ≤ h552.2.1 170 3 ∧ (h552.2.1 170 4 ≠ 0 → h552.2.1 170 4 ≠ 6 → h552.2.1 170 43 + 1 ≤ h552.2.1 170 3)) → kM (pm [3, 4, 5, 6, 7, 8, 9, 10, 11, 12, 43, 64] [201, 202, 204, 205, 206, 207, 208, 209]) h h552 → (mu h552).toNat < n → aw G (rm_R 4 0 0) m_MD_soundPart 0 0 267 [some (av_R (some 170)), some (av_I sd3), some (av_I x28)] [] h552 (fun r h' => ∃ z, r = some (av_I z) ∧ (z = 0 ∨ z = 1) ∧ (z = 1 → (h.2.1 170 3 ≤ h'.2.1 170 3 ∧ h'.2.1 170 3 ≤ h.2.1 170 2 ∧ (h'.2.1 170 4 ≠ 0 → h'.2.1 170 4 ≠ 6 → h.2.1 170 3 < h'.2.1 170 3) ∧ (h'.2.1 170 4 = 0 → h'.2.1 170 3 = h.2.1 170 2)) ∧ (h'.2.1 170 43 ≤ h'.2.1 170 3 ∧ (h'.2.1 170 4 ≠ 0 → h'.2.1 170 4 ≠ 6 → h'.2.1 170 43 + 1 ≤ h'.2.1 170 3)) ∧ VHx h') ∧ kM (pm [3, 4, 5, 6, 7, 8, 9, 10, 11, 12, 43, 64] [201, 202, 204, 205, 206, 207, 208, 209]) h h') := by
            intro n
            induction n with
            | zero => intro h552 _ _ hm; omega
            | succ n ih267 =>
              intro h552  hinv k553 hm
              have hvA := hinv.1.1
              have hvB := hinv.1.2.1
              have hvC := hinv.2.2.2.1
              have hvD := hinv.2.2.1
              obtain ⟨sd554, esd554⟩ : ∃ x, x = h552.2.1 170 3 := ⟨_, rfl⟩
              have rsd554 : 0 ≤ sd554 ∧ sd554 ≤ 2000 := (by rw [esd554]; exact mi_g k553.1 (by decide) mr_170_3)
              obtain ⟨sd555, esd555⟩ : ∃ x, x = h552.2.1 170 4 := ⟨_, rfl⟩
              have rsd555 : 0 ≤ sd555 ∧ sd555 ≤ 6 := (by rw [esd555]; exact mi_g k553.1 (by decide) mr_170_4)
              refine A_aload_n 0 d_MD_soundPart_267 rfl rfl ?_
              refine A_bipush d_MD_soundPart_268 rfl ?_
              have zf557 := esd554.symm
              have zf558 := ((k553.2.2.1 _ _ rfl).trans esd2.symm)
              have zf559 := hinv.2.1.1
              have zf560 := ((k553.2.2.1 _ _ rfl).trans esd4.symm)
              have zf561 := esd555.symm
              refine A_callV1 m_MD_isSign T_ok d_MD_soundPart_270 l_MD_306 k_MD_isSign (mi_s k553.1 sf_170) rfl (by decide +kernel) (by decide) (Nat.le_of_ble_eq_true rfl) (s_MD_isSign k553.1 ) (fun r h556 hq => ?_)
              obtain ⟨x563, rfl, bx563, xx563, rfl⟩ := hq
              refine A_if_eq (tgt := 314) d_MD_soundPart_273 (by decide) (fun c564 => ?_) (fun c564 => ?_)
              · refine A_aload_n 0 d_MD_soundPart_314 rfl rfl ?_
                refine A_getAv (z := some 208) T_ok d_MD_soundPart_315 f_MD_127 (mi_s k553.1 sf_170) (mi_r k553.1 rfm_51) ?_
                refine A_iload_n 1 d_MD_soundPart_318 rfl rfl ?_
                refine A_aload_n 0 d_MD_soundPart_319 rfl rfl ?_
                refine A_bipush d_MD_soundPart_320 rfl ?_
                refine A_pc (pc' := 322) rfl ?_
                have zf567 := esd554.symm
                have zf568 := ((k553.2.2.1 _ _ rfl).trans esd2.symm)
                have zf569 := hinv.2.1.1
                have zf570 := ((k553.2.2.1 _ _ rfl).trans esd4.symm)
                have zf571 := esd555.symm
                refine A_callV1 m_MD_isSign T_ok d_MD_soundPart_322 l_MD_306 k_MD_isSign (mi_s k553.1 sf_170) rfl (by decide +kernel) (by decide) (Nat.le_of_ble_eq_true rfl) (s_MD_isSign k553.1 ) (fun r h566 hq => ?_)
                obtain ⟨x573, rfl, bx573, xx573, rfl⟩ := hq
                refine A_zastorek (KR := kM (pm [3, 4, 5, 6, 7, 8, 9, 10, 11, 12, 43, 64] [201, 202, 204, 205, 206, 207, 208, 209]) h) d_MD_soundPart_325 (mi_s k553.1 sf_208) (by first | (clear xx523 hps hgd hinv; omega) | (clear xx523; omega) | omega) (by first | (clear xx523 hps hgd hinv; omega) | (clear xx523; omega) | omega) (by first | (clear xx523 hps hgd hinv; omega) | (clear xx523; omega) | omega) (kM_i k553 (by decide) rfl (mr_208 _) (by first | (clear xx523 hps hgd hinv; omega) | (clear xx523; omega) | omega) (by first | (clear xx523 hps hgd hinv; omega) | (clear xx523; omega) | omega)) (fun h574 k575 eh574 => ?_)
                refine A_aload_n 0 d_MD_soundPart_326 rfl rfl ?_
                refine A_getAv (z := some 208) T_ok d_MD_soundPart_327 f_MD_127 (mi_s k575.1 sf_170) (mi_r k575.1 rfm_51) ?_
                refine A_iload_n 1 d_MD_soundPart_330 rfl rfl ?_
                refine A_zaloadn d_MD_soundPart_331 (mi_s k575.1 sf_208) (by first | (clear xx523 hps hgd hinv; omega) | (clear xx523; omega) | omega) (by first | (clear xx523 hps hgd hinv; omega) | (clear xx523; omega) | omega) (fun x577 ex577 bx577 => ?_)
                refine A_pc (pc' := 332) rfl ?_
                refine A_if_ne (tgt := 337) d_MD_soundPart_332 (by decide) (fun c578 => ?_) (fun c578 => ?_)
                · refine A_iload_n 2 d_MD_soundPart_337 rfl rfl ?_
                  refine A_if_eq (tgt := 354) d_MD_soundPart_338 (by decide) (fun c => False.elim (by first | (clear xx523 hps hgd hinv; omega) | (clear xx523; omega) | omega)) (fun c579 => ?_)
                  refine A_aload_n 0 d_MD_soundPart_341 rfl rfl ?_
                  refine A_bipush d_MD_soundPart_342 rfl ?_
                  refine A_aload_n 0 d_MD_soundPart_344 rfl rfl ?_
                  refine A_getIn (lo := 0) (hi := 2000) T_ok d_MD_soundPart_345 f_MD_242 (mi_s k575.1 sf_170) (mi_g k575.1 (by decide) mr_170_5) (fun x580 ex580 _ _ => ?_)
                  have zf582 := ((eh574.1 _ _ (fun q => absurd q (by decide))).trans esd554.symm)
                  have zf583 := ((eh574.1 _ _ (fun q => absurd q (by decide))).trans ((k553.2.2.1 _ _ rfl).trans esd2.symm))
                  have zf584 := ((eh574.1 _ _ (fun q => absurd q (by decide))).trans hinv.2.1.1)
                  have zf585 := ((eh574.1 _ _ (fun q => absurd q (by decide))).trans ((k553.2.2.1 _ _ rfl).trans esd4.symm))
                  have zf586 := ((eh574.1 _ _ (fun q => absurd q (by decide))).trans esd555.symm)
                  refine A_callV2 m_MD_wrong T_ok d_MD_soundPart_348 l_MD_245 k_MD_wrong (mi_s k575.1 sf_170) rfl (by decide +kernel) (by decide) (Nat.le_of_ble_eq_true rfl) (s_MD_wrong k575.1 (by first | (clear xx523 hps hgd hinv; omega) | (clear xx523; omega) | omega) (by first | (clear xx523 hps hgd hinv; omega) | (clear xx523; omega) | omega) (by first | (clear xx523 hps hgd hinv; omega) | (clear xx523; omega) | omega) (by first | (clear xx523 hps hgd hinv; omega) | (clear xx523; omega) | omega)) (fun r h581 hq => ?_)
                  obtain ⟨x588, rfl, ⟨_, _⟩, k587⟩ := hq
                  have k589 := kM_t k575 k587 (pm_s (by decide) (by decide))
                  obtain rfl : x588 = 0 := by first | (clear xx523 hps hgd hinv; omega) | (clear xx523; omega) | omega
                  refine A_goto (tgt := 358) d_MD_soundPart_351 (by decide) ?_
                  exact A_zret d_MD_soundPart_358 (by decide) rfl (by first | (clear xx523 hps hgd hinv; omega) | (clear xx523; omega) | omega) ⟨_, rfl, by first | (clear xx523 hps hgd hinv; omega) | (clear xx523; omega) | omega, (fun q => absurd q (by decide)), k589⟩
                · refine A_iconst d_MD_soundPart_335 rfl ?_
                  exact A_zret d_MD_soundPart_336 (by decide) rfl (by first | (clear xx523 hps hgd hinv; omega) | (clear xx523; omega) | omega) ⟨_, rfl, by first | (clear xx523 hps hgd hinv; omega) | (clear xx523; omega) | omega, (fun _ => ⟨by have qq0 := ((eh574.1 _ _ (fun q => absurd q (by decide))).trans esd554.symm); have qq1 := ((eh574.1 _ _ (fun q => absurd q (by decide))).trans ((k553.2.2.1 _ _ rfl).trans esd2.symm)); have qq2 := ((eh574.1 _ _ (fun q => absurd q (by decide))).trans esd555.symm); have qq3 := ((eh574.1 _ _ (fun q => absurd q (by decide))).trans hinv.2.1.1); exact ⟨by first | (clear xx523 hps hgd hinv; omega) | (clear xx523; omega) | omega, by first | (clear xx523 hps hgd hinv; omega) | (clear xx523; omega) | omega, by first | (clear xx523 hps hgd hinv; omega) | (clear xx523; omega) | omega, by first | (clear xx523 hps hgd hinv; omega) | (clear xx523; omega) | omega⟩, by have qq0 := ((eh574.1 _ _ (fun q => absurd q (by decide))).trans esd554.symm); have qq1 := ((eh574.1 _ _ (fun q => absurd q (by decide))).trans ((k553.2.2.1 _ _ rfl).trans esd2.symm)); have qq2 := ((eh574.1 _ _ (fun q => absurd q (by decide))).trans esd555.symm); have qq3 := ((eh574.1 _ _ (fun q => absurd q (by decide))).trans hinv.2.1.1); exact ⟨by first | (clear xx523 hps hgd hinv; omega) | (clear xx523; omega) | omega, by first | (clear xx523 hps hgd hinv; omega) | (clear xx523; omega) | omega⟩, VH_s (x := sd3) hVH esd3.symm ((eh574.1 _ _ (fun q => absurd q (by decide))).trans hinv.2.1.1) (k575.2.2.1 170 63 rfl) (fun k hk => ((eh574.1 201 k (fun q => absurd q (by decide))).trans (hinv.2.1.2.1 k hk))) (Or.inr ⟨((eh574.1 _ _ (fun q => absurd q (by decide))).trans hinv.2.1.2.2.1), (by have q1 := (eh574.1 202 (sd3).toNat (fun q => absurd q (by decide))); have q2 := hinv.2.2.1; exact ⟨by first | (clear xx523 hps hgd hinv; omega) | (clear xx523; omega) | omega, by first | (clear xx523 hps hgd hinv; omega) | (clear xx523; omega) | omega⟩)⟩) (fun k hk => ((eh574.1 202 k (fun q => absurd q (by decide))).trans (hinv.2.1.2.2.2 k hk))) (by intro a ha; simp only [List.mem_cons, List.not_mem_nil, or_false] at ha; rcases ha with rfl | rfl | rfl | rfl | rfl | rfl | rfl | rfl <;> exact (funext (fun k => k575.2.2.1 _ k rfl)))⟩), k575⟩
              · refine A_aload_n 0 d_MD_soundPart_276 rfl rfl ?_
                refine A_getAv (z := some 209) T_ok d_MD_soundPart_277 f_MD_130 (mi_s k553.1 sf_170) (mi_r k553.1 rfm_52) ?_
                refine A_iload_n 1 d_MD_soundPart_280 rfl rfl ?_
                refine A_ialoadn (lo := 0) (hi := 3) d_MD_soundPart_281 (mi_s k553.1 sf_209) (by first | (clear xx523 hps hgd hinv; omega) | (clear xx523; omega) | omega) (by first | (clear xx523 hps hgd hinv; omega) | (clear xx523; omega) | omega) (mi_g k553.1 (by decide) (mr_209 _)) (fun x591 ex591 _ _ => ?_)
                refine A_iconst d_MD_soundPart_282 rfl ?_
                refine A_pc (pc' := 283) rfl ?_
                refine A_icmp_ne (tgt := 296) d_MD_soundPart_283 (by decide) (fun c592 => ?_) (fun c592 => ?_)
                · refine A_aload_n 0 d_MD_soundPart_296 rfl rfl ?_
                  refine A_getAv (z := some 209) T_ok d_MD_soundPart_297 f_MD_130 (mi_s k553.1 sf_170) (mi_r k553.1 rfm_52) ?_
                  refine A_iload_n 1 d_MD_soundPart_300 rfl rfl ?_
                  refine A_dup2RI d_MD_soundPart_301 ?_
                  refine A_ialoadv (z := x591) d_MD_soundPart_302 (mi_s k553.1 sf_209) (by first | (clear xx523 hps hgd hinv; omega) | (clear xx523; omega) | omega) (by first | (clear xx523 hps hgd hinv; omega) | (clear xx523; omega) | omega) ex591.symm ?_
                  refine A_pc (pc' := 303) rfl ?_
                  refine A_iconst d_MD_soundPart_303 rfl ?_
                  refine A_iaddv (z := (x591 + 1)) d_MD_soundPart_304 (w32_to (by first | (clear xx523 hps hgd hinv; omega) | (clear xx523; omega) | omega) (by unfold i32; first | (clear xx523 hps hgd hinv; omega) | (clear xx523; omega) | omega)) ?_
                  refine A_iastorek (KR := kM (pm [3, 4, 5, 6, 7, 8, 9, 10, 11, 12, 43, 64] [201, 202, 204, 205, 206, 207, 208, 209]) h) d_MD_soundPart_305 (mi_s k553.1 sf_209) (by first | (clear xx523 hps hgd hinv; omega) | (clear xx523; omega) | omega) (by first | (clear xx523 hps hgd hinv; omega) | (clear xx523; omega) | omega) (kM_i k553 (by decide) rfl (mr_209 _) (by first | (clear xx523 hps hgd hinv; omega) | (clear xx523; omega) | omega) (by first | (clear xx523 hps hgd hinv; omega) | (clear xx523; omega) | omega)) (fun h595 k596 eh595 => ?_)
                  refine A_aload_n 0 d_MD_soundPart_306 rfl rfl ?_
                  have zf598 := ((eh595.1 _ _ (fun q => absurd q (by decide))).trans esd554.symm)
                  have zf599 := ((eh595.1 _ _ (fun q => absurd q (by decide))).trans ((k553.2.2.1 _ _ rfl).trans esd2.symm))
                  have zf600 := ((eh595.1 _ _ (fun q => absurd q (by decide))).trans hinv.2.1.1)
                  have zf601 := ((eh595.1 _ _ (fun q => absurd q (by decide))).trans ((k553.2.2.1 _ _ rfl).trans esd4.symm))
                  have zf602 := ((eh595.1 _ _ (fun q => absurd q (by decide))).trans esd555.symm)
                  refine A_callV0 m_MD_next T_ok d_MD_soundPart_307 l_MD_309 k_MD_next (mi_s k596.1 sf_170) rfl (by decide +kernel) (by decide) (Nat.le_of_ble_eq_true rfl) (s_MD_next k596.1 (by have qq0 := ((eh595.1 _ _ (fun q => absurd q (by decide))).trans esd554.symm); have qq1 := ((eh595.1 _ _ (fun q => absurd q (by decide))).trans ((k553.2.2.1 _ _ rfl).trans esd2.symm)); first | (clear xx523 hps hgd hinv; omega) | (clear xx523; omega) | omega)) (fun r h597 hq => ?_)
                  obtain ⟨x604, rfl, ⟨_, _⟩, xx604, k603⟩ := hq
                  have xa604 := xx604.1
                  have xb604 := xx604.2.1
                  have k605 := kM_t k596 k603 (pm_s (by decide) (by decide))
                  obtain ⟨sd606, esd606⟩ : ∃ x, x = h597.2.1 170 3 := ⟨_, rfl⟩
                  have rsd606 : 0 ≤ sd606 ∧ sd606 ≤ 2000 := (by rw [esd606]; exact mi_g k605.1 (by decide) mr_170_3)
                  obtain ⟨sd607, esd607⟩ : ∃ x, x = h597.2.1 170 4 := ⟨_, rfl⟩
                  have rsd607 : 0 ≤ sd607 ∧ sd607 ≤ 6 := (by rw [esd607]; exact mi_g k605.1 (by decide) mr_170_4)
                  refine A_popI d_MD_soundPart_310 ?_
                  refine A_goto (tgt := 267) d_MD_soundPart_311 (by decide) ?_
                  exact ih267 h597 ⟨(by have qq0 := esd606.symm; have qq1 := ((k603.2.2.1 _ _ rfl).trans ((eh595.1 _ _ (fun q => absurd q (by decide))).trans ((k553.2.2.1 _ _ rfl).trans esd2.symm))); have qq2 := esd607.symm; exact ⟨by first | (clear xx523 xx545 hps hgd hinv; omega) | (clear xx523 xx545; omega) | omega, by first | (clear xx523 xx545 hps hgd hinv; omega) | (clear xx523 xx545; omega) | omega, by first | (clear xx523 xx545 hps hgd hinv; omega) | (clear xx523 xx545; omega) | omega, by first | (clear xx523 xx545 hps hgd hinv; omega) | (clear xx523 xx545; omega) | omega⟩), ⟨((k603.2.2.1 _ _ rfl).trans ((eh595.1 _ _ (fun q => absurd q (by decide))).trans hinv.2.1.1)), (fun k hk => ((k603.2.2.1 201 k rfl).trans ((eh595.1 201 k (fun q => absurd q (by decide))).trans (hinv.2.1.2.1 k hk)))), ((k603.2.2.1 _ _ rfl).trans ((eh595.1 _ _ (fun q => absurd q (by decide))).trans hinv.2.1.2.2.1)), (fun k hk => ((k603.2.2.1 202 k rfl).trans ((eh595.1 202 k (fun q => absurd q (by decide))).trans (hinv.2.1.2.2.2 k hk))))⟩, (by have q1 := ((k603.2.2.1 202 (sd3).toNat rfl).trans (eh595.1 202 (sd3).toNat (fun q => absurd q (by decide)))); have q2 := hinv.2.2.1; exact ⟨by first | (clear xx523 xx545 hps hgd hinv; omega) | (clear xx523 xx545; omega) | omega, by first | (clear xx523 xx545 hps hgd hinv; omega) | (clear xx523 xx545; omega) | omega⟩), (by have qq0 := esd606.symm; have qq1 := ((k603.2.2.1 _ _ rfl).trans ((eh595.1 _ _ (fun q => absurd q (by decide))).trans ((k553.2.2.1 _ _ rfl).trans esd2.symm))); have qq2 := esd607.symm; have qq3 := ((k603.2.2.1 _ _ rfl).trans ((eh595.1 _ _ (fun q => absurd q (by decide))).trans hinv.2.1.1)); exact ⟨by first | (clear xx523 xx545 hps hgd hinv; omega) | (clear xx523 xx545; omega) | omega, by first | (clear xx523 xx545 hps hgd hinv; omega) | (clear xx523 xx545; omega) | omega⟩)⟩ k605 (by have qq0 := esd606.symm; have qq1 := esd607.symm; have qh0 := ((k553.2.2.1 _ _ rfl).trans esd2.symm); have qh1 := esd554.symm; have qe0 := ((k603.2.2.1 _ _ rfl).trans ((eh595.1 _ _ (fun q => absurd q (by decide))).trans ((k553.2.2.1 _ _ rfl).trans esd2.symm))); first | exact mu_dec (h0 := h552) (h1 := h597) hm (by first | (clear xx523 xx545 hps hgd hinv; omega) | (clear xx523 xx545; omega) | omega) (by first | (clear xx523 xx545 hps hgd hinv; omega) | (clear xx523 xx545; omega) | omega) (by first | (clear xx523 xx545 hps hgd hinv; omega) | (clear xx523 xx545; omega) | omega) (by first | (clear xx523 xx545 hps hgd hinv; omega) | (clear xx523 xx545; omega) | omega) (by first | (clear xx523 xx545 hps hgd hinv; omega) | (clear xx523 xx545; omega) | omega) (fun _ _ => by first | (clear xx523 xx545 hps hgd hinv; omega) | (clear xx523 xx545; omega) | omega) | (have mm0 := mu_f h552; have mm1 := mu_f h597; first | (clear xx523 xx545 hps hgd hinv; omega) | (clear xx523 xx545; omega) | omega))
                · refine A_aload_n 0 d_MD_soundPart_286 rfl rfl ?_
                  refine A_iconst d_MD_soundPart_287 rfl ?_
                  refine A_aload_n 0 d_MD_soundPart_288 rfl rfl ?_
                  refine A_getIn (lo := 0) (hi := 2000) T_ok d_MD_soundPart_289 f_MD_242 (mi_s k553.1 sf_170) (mi_g k553.1 (by decide) mr_170_5) (fun x608 ex608 _ _ => ?_)
                  have zf610 := esd554.symm
                  have zf611 := ((k553.2.2.1 _ _ rfl).trans esd2.symm)
                  have zf612 := hinv.2.1.1
                  have zf613 := ((k553.2.2.1 _ _ rfl).trans esd4.symm)
                  have zf614 := esd555.symm
                  refine A_callV2 m_MD_wrong T_ok d_MD_soundPart_292 l_MD_245 k_MD_wrong (mi_s k553.1 sf_170) rfl (by decide +kernel) (by decide) (Nat.le_of_ble_eq_true rfl) (s_MD_wrong k553.1 (by first | (clear xx523 hps hgd hinv; omega) | (clear xx523; omega) | omega) (by first | (clear xx523 hps hgd hinv; omega) | (clear xx523; omega) | omega) (by first | (clear xx523 hps hgd hinv; omega) | (clear xx523; omega) | omega) (by first | (clear xx523 hps hgd hinv; omega) | (clear xx523; omega) | omega)) (fun r h609 hq => ?_)
                  obtain ⟨x616, rfl, ⟨_, _⟩, k615⟩ := hq
                  have k617 := kM_t k553 k615 (pm_s (by decide) (by decide))
                  obtain rfl : x616 = 0 := by first | (clear xx523 hps hgd hinv; omega) | (clear xx523; omega) | omega
                  exact A_zret d_MD_soundPart_295 (by decide) rfl (by first | (clear xx523 hps hgd hinv; omega) | (clear xx523; omega) | omega) ⟨_, rfl, by first | (clear xx523 hps hgd hinv; omega) | (clear xx523; omega) | omega, (fun q => absurd q (by decide)), k617⟩
          exact lp267 _ h550 ⟨(by have qq0 := ((eh550.1 _ _ (fun q => absurd q (by decide))).trans esd547.symm); have qq1 := ((eh550.1 _ _ (fun q => absurd q (by decide))).trans ((k544.2.2.1 _ _ rfl).trans ((eh536.1 _ _ (fun q => absurd q (by decide))).trans ((k522.2.2.1 _ _ rfl).trans ((eh514.1 _ _ (fun _ => by decide)).trans ((eh19.1 _ _ (fun q => absurd q (by decide))).trans ((eh16.1 _ _ (fun q => absurd q (by decide))).trans ((k13.2.2.1 _ _ rfl).trans esd2.symm)))))))); have qq2 := ((eh550.1 _ _ (fun q => absurd q (by decide))).trans esd548.symm); exact ⟨by first | (clear xx523 hps hgd; omega) | (clear xx523; omega) | omega, by first | (clear xx523 hps hgd; omega) | (clear xx523; omega) | omega, by first | (clear xx523 hps hgd; omega) | (clear xx523; omega) | omega, by first | (clear xx523 hps hgd; omega) | (clear xx523; omega) | omega⟩), ⟨((eh550.1 _ _ (fun q => absurd q (by decide))).trans ((k544.2.2.1 _ _ rfl).trans ((eh536.1 _ _ (fun q => absurd q (by decide))).trans ((k522.2.2.1 _ _ rfl).trans ((eh514.1 _ _ (fun _ => by decide)).trans ((eh19.1 _ _ (fun q => absurd q (by decide))).trans ((eh16.1 _ _ (fun q => absurd q (by decide))).trans xk13.1))))))), (fun k hk => ((eh550.1 201 k (fun q => absurd q (by decide))).trans ((k544.2.2.1 201 k rfl).trans ((eh536.1 201 k (fun q => absurd q (by decide))).trans ((k522.2.2.1 201 k rfl).trans ((eh514.1 201 k (fun q => absurd q (by decide))).trans ((eh19.1 201 k (fun q => absurd q (by decide))).trans ((eh16.1 201 k (fun q => absurd q (by decide))).trans (xk13.2.1 k hk))))))))), ((eh550.1 _ _ (fun q => absurd q (by decide))).trans ((k544.2.2.1 _ _ rfl).trans ((eh536.1 _ _ (fun q => absurd q (by decide))).trans ((k522.2.2.1 _ _ rfl).trans ((eh514.1 _ _ (fun q => absurd q (by decide))).trans ((eh19.1 _ _ (fun q => absurd q (by decide))).trans ((eh16.1 _ _ (fun q => absurd q (by decide))).trans xk13.2.2))))))), (fun k hk => ((eh550.1 202 k (fun q => absurd q (by decide))).trans ((k544.2.2.1 202 k rfl).trans ((eh536.1 202 k (fun _ => hk)).trans ((k522.2.2.1 202 k rfl).trans ((eh514.1 202 k (fun q => absurd q (by decide))).trans ((eh19.1 202 k (fun q => absurd q (by decide))).trans ((eh16.1 202 k (fun q => absurd q (by decide))).trans (k13.2.2.1 202 k rfl)))))))))⟩, (by have q1 := ((eh550.1 _ _ (fun q => absurd q (by decide))).trans ((k544.2.2.1 _ _ rfl).trans eh536.2.1)); exact ⟨by first | (clear xx523 hps hgd; omega) | (clear xx523; omega) | omega, by first | (clear xx523 hps hgd; omega) | (clear xx523; omega) | omega⟩), (by have qq0 := ((eh550.1 _ _ (fun q => absurd q (by decide))).trans esd547.symm); have qq1 := ((eh550.1 _ _ (fun q => absurd q (by decide))).trans ((k544.2.2.1 _ _ rfl).trans ((eh536.1 _ _ (fun q => absurd q (by decide))).trans ((k522.2.2.1 _ _ rfl).trans ((eh514.1 _ _ (fun _ => by decide)).trans ((eh19.1 _ _ (fun q => absurd q (by decide))).trans ((eh16.1 _ _ (fun q => absurd q (by decide))).trans ((k13.2.2.1 _ _ rfl).trans esd2.symm)))))))); have qq2 := ((eh550.1 _ _ (fun q => absurd q (by decide))).trans esd548.symm); have qq3 := ((eh550.1 _ _ (fun q => absurd q (by decide))).trans ((k544.2.2.1 _ _ rfl).trans ((eh536.1 _ _ (fun q => absurd q (by decide))).trans ((k522.2.2.1 _ _ rfl).trans ((eh514.1 _ _ (fun _ => by decide)).trans ((eh19.1 _ _ (fun q => absurd q (by decide))).trans ((eh16.1 _ _ (fun q => absurd q (by decide))).trans xk13.1))))))); exact ⟨by first | (clear xx523 hps hgd; omega) | (clear xx523; omega) | omega, by first | (clear xx523 hps hgd; omega) | (clear xx523; omega) | omega⟩)⟩ k551 (Nat.lt_succ_self _)
        · refine A_aload_n 0 d_MD_soundPart_235 rfl rfl ?_
          refine A_iconst d_MD_soundPart_236 rfl ?_
          refine A_aload_n 0 d_MD_soundPart_237 rfl rfl ?_
          refine A_getIn (lo := 0) (hi := 2000) T_ok d_MD_soundPart_238 f_MD_242 (mi_s k524.1 sf_170) (mi_g k524.1 (by decide) mr_170_5) (fun x618 ex618 _ _ => ?_)
          have zf620 := esd525.symm
          have zf621 := ((k522.2.2.1 _ _ rfl).trans ((eh514.1 _ _ (fun _ => by decide)).trans ((eh19.1 _ _ (fun q => absurd q (by decide))).trans ((eh16.1 _ _ (fun q => absurd q (by decide))).trans ((k13.2.2.1 _ _ rfl).trans esd2.symm)))))
          have zf622 := ((k522.2.2.1 _ _ rfl).trans ((eh514.1 _ _ (fun _ => by decide)).trans ((eh19.1 _ _ (fun q => absurd q (by decide))).trans ((eh16.1 _ _ (fun q => absurd q (by decide))).trans xk13.1))))
          have zf623 := ((k522.2.2.1 _ _ rfl).trans ((eh514.1 _ _ (fun _ => by decide)).trans ((eh19.1 _ _ (fun q => absurd q (by decide))).trans ((eh16.1 _ _ (fun q => absurd q (by decide))).trans ((k13.2.2.1 _ _ rfl).trans esd4.symm)))))
          have zf624 := esd526.symm
          refine A_callV2 m_MD_wrong T_ok d_MD_soundPart_241 l_MD_245 k_MD_wrong (mi_s k524.1 sf_170) rfl (by decide +kernel) (by decide) (Nat.le_of_ble_eq_true rfl) (s_MD_wrong k524.1 (by first | (clear hps hgd; omega) | omega) (by first | (clear hps hgd; omega) | omega) (by first | (clear hps hgd; omega) | omega) (by first | (clear hps hgd; omega) | omega)) (fun r h619 hq => ?_)
          obtain ⟨x626, rfl, ⟨_, _⟩, k625⟩ := hq
          have k627 := kM_t k524 k625 (pm_s (by decide) (by decide))
          obtain rfl : x626 = 0 := by first | (clear hps hgd; omega) | omega
          exact A_zret d_MD_soundPart_244 (by decide) rfl (by first | (clear hps hgd; omega) | omega) ⟨_, rfl, by first | (clear hps hgd; omega) | omega, (fun q => absurd q (by decide)), k627⟩
      · refine A_aload_n 0 d_MD_soundPart_217 rfl rfl ?_
        have zf629 := esd525.symm
        have zf630 := ((k522.2.2.1 _ _ rfl).trans ((eh514.1 _ _ (fun _ => by decide)).trans ((eh19.1 _ _ (fun q => absurd q (by decide))).trans ((eh16.1 _ _ (fun q => absurd q (by decide))).trans ((k13.2.2.1 _ _ rfl).trans esd2.symm)))))
        have zf631 := ((k522.2.2.1 _ _ rfl).trans ((eh514.1 _ _ (fun _ => by decide)).trans ((eh19.1 _ _ (fun q => absurd q (by decide))).trans ((eh16.1 _ _ (fun q => absurd q (by decide))).trans xk13.1))))
        have zf632 := ((k522.2.2.1 _ _ rfl).trans ((eh514.1 _ _ (fun _ => by decide)).trans ((eh19.1 _ _ (fun q => absurd q (by decide))).trans ((eh16.1 _ _ (fun q => absurd q (by decide))).trans ((k13.2.2.1 _ _ rfl).trans esd4.symm)))))
        have zf633 := esd526.symm
        refine A_callV0 m_MD_cant T_ok d_MD_soundPart_218 l_MD_313 k_MD_cant (mi_s k524.1 sf_170) rfl (by decide +kernel) (by decide) (Nat.le_of_ble_eq_true rfl) (s_MD_cant k524.1 ) (fun r h628 hq => ?_)
        obtain ⟨x635, rfl, ⟨_, _⟩, k634⟩ := hq
        have k636 := kM_t k524 k634 (pm_s (by decide) (by decide))
        obtain rfl : x635 = 0 := by first | (clear hps hgd; omega) | omega
        exact A_zret d_MD_soundPart_221 (by decide) rfl (by first | (clear hps hgd; omega) | omega) ⟨_, rfl, by first | (clear hps hgd; omega) | omega, (fun q => absurd q (by decide)), k636⟩
    · refine A_aload_n 0 d_MD_soundPart_44 rfl rfl ?_
      refine A_iconst d_MD_soundPart_45 rfl ?_
      refine A_aload_n 0 d_MD_soundPart_46 rfl rfl ?_
      refine A_getIn (lo := 0) (hi := 2000) T_ok d_MD_soundPart_47 f_MD_242 (mi_s k20.1 sf_170) (mi_g k20.1 (by decide) mr_170_5) (fun x637 ex637 _ _ => ?_)
      have zf639 := ((eh19.1 _ _ (fun q => absurd q (by decide))).trans ((eh16.1 _ _ (fun q => absurd q (by decide))).trans ((k13.2.2.1 _ _ rfl).trans esd1.symm)))
      have zf640 := ((eh19.1 _ _ (fun q => absurd q (by decide))).trans ((eh16.1 _ _ (fun q => absurd q (by decide))).trans ((k13.2.2.1 _ _ rfl).trans esd2.symm)))
      have zf641 := ((eh19.1 _ _ (fun q => absurd q (by decide))).trans ((eh16.1 _ _ (fun q => absurd q (by decide))).trans xk13.1))
      have zf642 := ((eh19.1 _ _ (fun q => absurd q (by decide))).trans ((eh16.1 _ _ (fun q => absurd q (by decide))).trans ((k13.2.2.1 _ _ rfl).trans esd4.symm)))
      have zf643 := ((eh19.1 _ _ (fun q => absurd q (by decide))).trans ((eh16.1 _ _ (fun q => absurd q (by decide))).trans ((k13.2.2.1 _ _ rfl).trans esd5.symm)))
      refine A_callV2 m_MD_wrong T_ok d_MD_soundPart_50 l_MD_245 k_MD_wrong (mi_s k20.1 sf_170) rfl (by decide +kernel) (by decide) (Nat.le_of_ble_eq_true rfl) (s_MD_wrong k20.1 (by first | (clear hps hgd; omega) | omega) (by first | (clear hps hgd; omega) | omega) (by first | (clear hps hgd; omega) | omega) (by first | (clear hps hgd; omega) | omega)) (fun r h638 hq => ?_)
      obtain ⟨x645, rfl, ⟨_, _⟩, k644⟩ := hq
      have k646 := kM_t k20 k644 (pm_s (by decide) (by decide))
      obtain rfl : x645 = 0 := by first | (clear hps hgd; omega) | omega
      exact A_zret d_MD_soundPart_53 (by decide) rfl (by first | (clear hps hgd; omega) | omega) ⟨_, rfl, by first | (clear hps hgd; omega) | omega, (fun q => absurd q (by decide)), k646⟩
