/-! ===== the reference's methods, 327 ===== -/
def m_MD_voicePart : mr_T := (⟨"PlainMusicModel", "voicePart", "()Z"⟩, prog_14_method_27_code, 3, some .boolean)
theorem d_MD_voicePart_0 : decode prog_14_method_27_code 0 = .ok (.aload_n 0, 1) := by decide +kernel
theorem d_MD_voicePart_1 : decode prog_14_method_27_code 1 = .ok (.getfield 357, 3) := by decide +kernel
theorem d_MD_voicePart_4 : decode prog_14_method_27_code 4 = .ok (.ifCond .le 203, 3) := by decide +kernel
theorem d_MD_voicePart_207 : decode prog_14_method_27_code 207 = .ok (.aload_n 0, 1) := by decide +kernel
theorem d_MD_voicePart_208 : decode prog_14_method_27_code 208 = .ok (.getfield 239, 3) := by decide +kernel
theorem d_MD_voicePart_211 : decode prog_14_method_27_code 211 = .ok (.iconst 1, 1) := by decide +kernel
theorem d_MD_voicePart_212 : decode prog_14_method_27_code 212 = .ok (.if_icmp .eq 47, 3) := by decide +kernel
theorem d_MD_voicePart_259 : decode prog_14_method_27_code 259 = .ok (.iconst 1, 1) := by decide +kernel
theorem d_MD_voicePart_260 : decode prog_14_method_27_code 260 = .ok (.goto 4, 3) := by decide +kernel
theorem d_MD_voicePart_264 : decode prog_14_method_27_code 264 = .ok (.istore_n 1, 1) := by decide +kernel
theorem d_MD_voicePart_265 : decode prog_14_method_27_code 265 = .ok (.iload_n 1, 1) := by decide +kernel
theorem d_MD_voicePart_266 : decode prog_14_method_27_code 266 = .ok (.ifCond .ne 8, 3) := by decide +kernel
theorem d_MD_voicePart_274 : decode prog_14_method_27_code 274 = .ok (.aload_n 0, 1) := by decide +kernel
theorem d_MD_voicePart_275 : decode prog_14_method_27_code 275 = .ok (.getfield 357, 3) := by decide +kernel
theorem d_MD_voicePart_278 : decode prog_14_method_27_code 278 = .ok (.bipush 6, 2) := by decide +kernel
theorem d_MD_voicePart_280 : decode prog_14_method_27_code 280 = .ok (.if_icmp .le 13, 3) := by decide +kernel
theorem d_MD_voicePart_293 : decode prog_14_method_27_code 293 = .ok (.aload_n 0, 1) := by decide +kernel
theorem d_MD_voicePart_294 : decode prog_14_method_27_code 294 = .ok (.bipush 124, 2) := by decide +kernel
theorem d_MD_voicePart_296 : decode prog_14_method_27_code 296 = .ok (.invokevirtual 306, 3) := by decide +kernel
theorem d_MD_voicePart_299 : decode prog_14_method_27_code 299 = .ok (.ifCond .eq 13, 3) := by decide +kernel
theorem d_MD_voicePart_312 : decode prog_14_method_27_code 312 = .ok (.aload_n 0, 1) := by decide +kernel
theorem d_MD_voicePart_313 : decode prog_14_method_27_code 313 = .ok (.bipush 91, 2) := by decide +kernel
theorem d_MD_voicePart_315 : decode prog_14_method_27_code 315 = .ok (.invokevirtual 306, 3) := by decide +kernel
theorem d_MD_voicePart_318 : decode prog_14_method_27_code 318 = .ok (.ifCond .eq 56, 3) := by decide +kernel
theorem d_MD_voicePart_374 : decode prog_14_method_27_code 374 = .ok (.aload_n 0, 1) := by decide +kernel
theorem d_MD_voicePart_375 : decode prog_14_method_27_code 375 = .ok (.bipush 123, 2) := by decide +kernel
theorem d_MD_voicePart_377 : decode prog_14_method_27_code 377 = .ok (.invokevirtual 306, 3) := by decide +kernel
theorem d_MD_voicePart_380 : decode prog_14_method_27_code 380 = .ok (.ifCond .eq 8, 3) := by decide +kernel
theorem d_MD_voicePart_388 : decode prog_14_method_27_code 388 = .ok (.aload_n 0, 1) := by decide +kernel
theorem d_MD_voicePart_389 : decode prog_14_method_27_code 389 = .ok (.invokevirtual 375, 3) := by decide +kernel
theorem k_MD_soundPart : mt_OK m_MD_soundPart 0 1 := ⟨gwi_1921, gwi_146, ⟨by decide +kernel, by decide +kernel, by decide +kernel⟩, fun h => absurd h (by decide), fun _ => ⟨gwi_1920, gwi_80⟩, fun h => absurd h (by decide)⟩
theorem l_MD_375 : ml_OK "PlainMusicModel" 375 ⟨"PlainMusicModel", "soundPart", "()Z"⟩ := Or.inl gwi_1918
theorem d_MD_voicePart_392 : decode prog_14_method_27_code 392 = .ok (.ireturn, 1) := by decide +kernel
theorem d_MD_voicePart_383 : decode prog_14_method_27_code 383 = .ok (.aload_n 0, 1) := by decide +kernel
theorem d_MD_voicePart_384 : decode prog_14_method_27_code 384 = .ok (.invokevirtual 372, 3) := by decide +kernel
theorem k_MD_timesPart : mt_OK m_MD_timesPart 0 1 := ⟨gwi_1917, gwi_146, ⟨by decide +kernel, by decide +kernel, by decide +kernel⟩, fun h => absurd h (by decide), fun _ => ⟨gwi_1916, gwi_79⟩, fun h => absurd h (by decide)⟩
theorem l_MD_372 : ml_OK "PlainMusicModel" 372 ⟨"PlainMusicModel", "timesPart", "()Z"⟩ := Or.inl gwi_1914
theorem d_MD_voicePart_387 : decode prog_14_method_27_code 387 = .ok (.ireturn, 1) := by decide +kernel
theorem d_MD_voicePart_321 : decode prog_14_method_27_code 321 = .ok (.aload_n 0, 1) := by decide +kernel
theorem d_MD_voicePart_322 : decode prog_14_method_27_code 322 = .ok (.getfield 148, 3) := by decide +kernel
theorem d_MD_voicePart_325 : decode prog_14_method_27_code 325 = .ok (.aload_n 0, 1) := by decide +kernel
theorem d_MD_voicePart_326 : decode prog_14_method_27_code 326 = .ok (.getfield 357, 3) := by decide +kernel
theorem d_MD_voicePart_329 : decode prog_14_method_27_code 329 = .ok (.aload_n 0, 1) := by decide +kernel
theorem d_MD_voicePart_330 : decode prog_14_method_27_code 330 = .ok (.getfield 354, 3) := by decide +kernel
theorem d_MD_voicePart_333 : decode prog_14_method_27_code 333 = .ok (.iastore, 1) := by decide +kernel
theorem d_MD_voicePart_334 : decode prog_14_method_27_code 334 = .ok (.aload_n 0, 1) := by decide +kernel
theorem d_MD_voicePart_335 : decode prog_14_method_27_code 335 = .ok (.getfield 145, 3) := by decide +kernel
theorem rfm_57 : (57, 214) ∈ mf_L := by decide +kernel
theorem d_MD_voicePart_338 : decode prog_14_method_27_code 338 = .ok (.aload_n 0, 1) := by decide +kernel
theorem d_MD_voicePart_339 : decode prog_14_method_27_code 339 = .ok (.getfield 354, 3) := by decide +kernel
theorem d_MD_voicePart_342 : decode prog_14_method_27_code 342 = .ok (.iconst 0, 1) := by decide +kernel
theorem d_MD_voicePart_343 : decode prog_14_method_27_code 343 = .ok (.iastore, 1) := by decide +kernel
theorem sf_214 : sh_L[214]? = some (0, 2100) := by decide +kernel
theorem mr_214 (k : Nat) : mr 214 k = (0, 2000) := rfl
theorem d_MD_voicePart_344 : decode prog_14_method_27_code 344 = .ok (.aload_n 0, 1) := by decide +kernel
theorem d_MD_voicePart_345 : decode prog_14_method_27_code 345 = .ok (.iconst 2, 1) := by decide +kernel
theorem d_MD_voicePart_346 : decode prog_14_method_27_code 346 = .ok (.invokevirtual 369, 3) := by decide +kernel
theorem d_MD_voicePart_349 : decode prog_14_method_27_code 349 = .ok (.aload_n 0, 1) := by decide +kernel
theorem d_MD_voicePart_350 : decode prog_14_method_27_code 350 = .ok (.getfield 151, 3) := by decide +kernel
theorem d_MD_voicePart_353 : decode prog_14_method_27_code 353 = .ok (.aload_n 0, 1) := by decide +kernel
theorem d_MD_voicePart_354 : decode prog_14_method_27_code 354 = .ok (.getfield 357, 3) := by decide +kernel
theorem d_MD_voicePart_357 : decode prog_14_method_27_code 357 = .ok (.iconst 2, 1) := by decide +kernel
theorem d_MD_voicePart_358 : decode prog_14_method_27_code 358 = .ok (.iastore, 1) := by decide +kernel
theorem d_MD_voicePart_359 : decode prog_14_method_27_code 359 = .ok (.aload_n 0, 1) := by decide +kernel
theorem d_MD_voicePart_360 : decode prog_14_method_27_code 360 = .ok (.dup, 1) := by decide +kernel
theorem d_MD_voicePart_361 : decode prog_14_method_27_code 361 = .ok (.getfield 357, 3) := by decide +kernel
theorem d_MD_voicePart_364 : decode prog_14_method_27_code 364 = .ok (.iconst 1, 1) := by decide +kernel
theorem d_MD_voicePart_365 : decode prog_14_method_27_code 365 = .ok (.iadd, 1) := by decide +kernel
theorem d_MD_voicePart_366 : decode prog_14_method_27_code 366 = .ok (.putfield 357, 3) := by decide +kernel
theorem d_MD_voicePart_369 : decode prog_14_method_27_code 369 = .ok (.aload_n 0, 1) := by decide +kernel
theorem d_MD_voicePart_370 : decode prog_14_method_27_code 370 = .ok (.invokevirtual 309, 3) := by decide +kernel
theorem d_MD_voicePart_373 : decode prog_14_method_27_code 373 = .ok (.ireturn, 1) := by decide +kernel
theorem d_MD_voicePart_302 : decode prog_14_method_27_code 302 = .ok (.aload_n 0, 1) := by decide +kernel
theorem d_MD_voicePart_303 : decode prog_14_method_27_code 303 = .ok (.iconst 1, 1) := by decide +kernel
theorem d_MD_voicePart_304 : decode prog_14_method_27_code 304 = .ok (.invokevirtual 369, 3) := by decide +kernel
theorem d_MD_voicePart_307 : decode prog_14_method_27_code 307 = .ok (.aload_n 0, 1) := by decide +kernel
theorem d_MD_voicePart_308 : decode prog_14_method_27_code 308 = .ok (.invokevirtual 309, 3) := by decide +kernel
theorem d_MD_voicePart_311 : decode prog_14_method_27_code 311 = .ok (.ireturn, 1) := by decide +kernel
theorem d_MD_voicePart_215 : decode prog_14_method_27_code 215 = .ok (.aload_n 0, 1) := by decide +kernel
theorem d_MD_voicePart_216 : decode prog_14_method_27_code 216 = .ok (.iconst 5, 1) := by decide +kernel
theorem d_MD_voicePart_217 : decode prog_14_method_27_code 217 = .ok (.invokevirtual 326, 3) := by decide +kernel
theorem d_MD_voicePart_220 : decode prog_14_method_27_code 220 = .ok (.ifCond .ne 39, 3) := by decide +kernel
theorem d_MD_voicePart_223 : decode prog_14_method_27_code 223 = .ok (.aload_n 0, 1) := by decide +kernel
theorem d_MD_voicePart_224 : decode prog_14_method_27_code 224 = .ok (.bipush 60, 2) := by decide +kernel
theorem d_MD_voicePart_226 : decode prog_14_method_27_code 226 = .ok (.invokevirtual 306, 3) := by decide +kernel
theorem d_MD_voicePart_229 : decode prog_14_method_27_code 229 = .ok (.ifCond .ne 30, 3) := by decide +kernel
theorem d_MD_voicePart_232 : decode prog_14_method_27_code 232 = .ok (.aload_n 0, 1) := by decide +kernel
theorem d_MD_voicePart_233 : decode prog_14_method_27_code 233 = .ok (.bipush 124, 2) := by decide +kernel
theorem d_MD_voicePart_235 : decode prog_14_method_27_code 235 = .ok (.invokevirtual 306, 3) := by decide +kernel
theorem d_MD_voicePart_238 : decode prog_14_method_27_code 238 = .ok (.ifCond .ne 21, 3) := by decide +kernel
theorem d_MD_voicePart_241 : decode prog_14_method_27_code 241 = .ok (.aload_n 0, 1) := by decide +kernel
theorem d_MD_voicePart_242 : decode prog_14_method_27_code 242 = .ok (.bipush 91, 2) := by decide +kernel
theorem d_MD_voicePart_244 : decode prog_14_method_27_code 244 = .ok (.invokevirtual 306, 3) := by decide +kernel
theorem d_MD_voicePart_247 : decode prog_14_method_27_code 247 = .ok (.ifCond .ne 12, 3) := by decide +kernel
theorem d_MD_voicePart_250 : decode prog_14_method_27_code 250 = .ok (.aload_n 0, 1) := by decide +kernel
theorem d_MD_voicePart_251 : decode prog_14_method_27_code 251 = .ok (.bipush 123, 2) := by decide +kernel
theorem d_MD_voicePart_253 : decode prog_14_method_27_code 253 = .ok (.invokevirtual 306, 3) := by decide +kernel
theorem d_MD_voicePart_256 : decode prog_14_method_27_code 256 = .ok (.ifCond .eq 7, 3) := by decide +kernel
theorem d_MD_voicePart_263 : decode prog_14_method_27_code 263 = .ok (.iconst 0, 1) := by decide +kernel
theorem d_MD_voicePart_269 : decode prog_14_method_27_code 269 = .ok (.aload_n 0, 1) := by decide +kernel
theorem d_MD_voicePart_270 : decode prog_14_method_27_code 270 = .ok (.invokevirtual 313, 3) := by decide +kernel
theorem d_MD_voicePart_273 : decode prog_14_method_27_code 273 = .ok (.ireturn, 1) := by decide +kernel
theorem d_MD_voicePart_7 : decode prog_14_method_27_code 7 = .ok (.aload_n 0, 1) := by decide +kernel
theorem d_MD_voicePart_8 : decode prog_14_method_27_code 8 = .ok (.getfield 151, 3) := by decide +kernel
theorem d_MD_voicePart_11 : decode prog_14_method_27_code 11 = .ok (.aload_n 0, 1) := by decide +kernel
theorem d_MD_voicePart_12 : decode prog_14_method_27_code 12 = .ok (.getfield 357, 3) := by decide +kernel
theorem d_MD_voicePart_15 : decode prog_14_method_27_code 15 = .ok (.iconst 1, 1) := by decide +kernel
theorem d_MD_voicePart_16 : decode prog_14_method_27_code 16 = .ok (.isub, 1) := by decide +kernel
theorem d_MD_voicePart_17 : decode prog_14_method_27_code 17 = .ok (.iaload, 1) := by decide +kernel
theorem d_MD_voicePart_18 : decode prog_14_method_27_code 18 = .ok (.iconst 2, 1) := by decide +kernel
theorem d_MD_voicePart_19 : decode prog_14_method_27_code 19 = .ok (.if_icmp .ne 7, 3) := by decide +kernel
theorem d_MD_voicePart_26 : decode prog_14_method_27_code 26 = .ok (.iconst 0, 1) := by decide +kernel
theorem d_MD_voicePart_27 : decode prog_14_method_27_code 27 = .ok (.istore_n 1, 1) := by decide +kernel
theorem d_MD_voicePart_28 : decode prog_14_method_27_code 28 = .ok (.iload_n 1, 1) := by decide +kernel
theorem d_MD_voicePart_29 : decode prog_14_method_27_code 29 = .ok (.ifCond .eq 91, 3) := by decide +kernel
theorem d_MD_voicePart_120 : decode prog_14_method_27_code 120 = .ok (.aload_n 0, 1) := by decide +kernel
theorem d_MD_voicePart_121 : decode prog_14_method_27_code 121 = .ok (.iload_n 1, 1) := by decide +kernel
theorem d_MD_voicePart_122 : decode prog_14_method_27_code 122 = .ok (.ifCond .eq 8, 3) := by decide +kernel
theorem d_MD_voicePart_130 : decode prog_14_method_27_code 130 = .ok (.bipush 125, 2) := by decide +kernel
theorem d_MD_voicePart_132 : decode prog_14_method_27_code 132 = .ok (.invokevirtual 306, 3) := by decide +kernel
theorem d_MD_voicePart_135 : decode prog_14_method_27_code 135 = .ok (.ifCond .eq 72, 3) := by decide +kernel
theorem d_MD_voicePart_283 : decode prog_14_method_27_code 283 = .ok (.aload_n 0, 1) := by decide +kernel
theorem d_MD_voicePart_284 : decode prog_14_method_27_code 284 = .ok (.iconst 3, 1) := by decide +kernel
theorem d_MD_voicePart_285 : decode prog_14_method_27_code 285 = .ok (.aload_n 0, 1) := by decide +kernel
theorem d_MD_voicePart_286 : decode prog_14_method_27_code 286 = .ok (.getfield 242, 3) := by decide +kernel
theorem d_MD_voicePart_289 : decode prog_14_method_27_code 289 = .ok (.invokevirtual 245, 3) := by decide +kernel
theorem d_MD_voicePart_292 : decode prog_14_method_27_code 292 = .ok (.ireturn, 1) := by decide +kernel
theorem d_MD_voicePart_138 : decode prog_14_method_27_code 138 = .ok (.aload_n 0, 1) := by decide +kernel
theorem d_MD_voicePart_139 : decode prog_14_method_27_code 139 = .ok (.getfield 133, 3) := by decide +kernel
theorem rfm_53 : (53, 210) ∈ mf_L := by decide +kernel
theorem d_MD_voicePart_142 : decode prog_14_method_27_code 142 = .ok (.aload_n 0, 1) := by decide +kernel
theorem d_MD_voicePart_143 : decode prog_14_method_27_code 143 = .ok (.getfield 354, 3) := by decide +kernel
theorem d_MD_voicePart_146 : decode prog_14_method_27_code 146 = .ok (.aload_n 0, 1) := by decide +kernel
theorem d_MD_voicePart_147 : decode prog_14_method_27_code 147 = .ok (.getfield 148, 3) := by decide +kernel
theorem d_MD_voicePart_150 : decode prog_14_method_27_code 150 = .ok (.aload_n 0, 1) := by decide +kernel
theorem d_MD_voicePart_151 : decode prog_14_method_27_code 151 = .ok (.getfield 357, 3) := by decide +kernel
theorem d_MD_voicePart_154 : decode prog_14_method_27_code 154 = .ok (.iconst 1, 1) := by decide +kernel
theorem d_MD_voicePart_155 : decode prog_14_method_27_code 155 = .ok (.isub, 1) := by decide +kernel
theorem d_MD_voicePart_156 : decode prog_14_method_27_code 156 = .ok (.iaload, 1) := by decide +kernel
theorem d_MD_voicePart_157 : decode prog_14_method_27_code 157 = .ok (.iastore, 1) := by decide +kernel
theorem sf_210 : sh_L[210]? = some (0, 2100) := by decide +kernel
theorem mr_210 (k : Nat) : mr 210 k = (0, 2000) := rfl
theorem d_MD_voicePart_158 : decode prog_14_method_27_code 158 = .ok (.aload_n 0, 1) := by decide +kernel
theorem d_MD_voicePart_159 : decode prog_14_method_27_code 159 = .ok (.getfield 133, 3) := by decide +kernel
theorem d_MD_voicePart_162 : decode prog_14_method_27_code 162 = .ok (.aload_n 0, 1) := by decide +kernel
theorem d_MD_voicePart_163 : decode prog_14_method_27_code 163 = .ok (.getfield 148, 3) := by decide +kernel
theorem d_MD_voicePart_166 : decode prog_14_method_27_code 166 = .ok (.aload_n 0, 1) := by decide +kernel
theorem d_MD_voicePart_167 : decode prog_14_method_27_code 167 = .ok (.getfield 357, 3) := by decide +kernel
theorem d_MD_voicePart_170 : decode prog_14_method_27_code 170 = .ok (.iconst 1, 1) := by decide +kernel
theorem d_MD_voicePart_171 : decode prog_14_method_27_code 171 = .ok (.isub, 1) := by decide +kernel
theorem d_MD_voicePart_172 : decode prog_14_method_27_code 172 = .ok (.iaload, 1) := by decide +kernel
theorem d_MD_voicePart_173 : decode prog_14_method_27_code 173 = .ok (.aload_n 0, 1) := by decide +kernel
theorem d_MD_voicePart_174 : decode prog_14_method_27_code 174 = .ok (.getfield 354, 3) := by decide +kernel
theorem d_MD_voicePart_177 : decode prog_14_method_27_code 177 = .ok (.iastore, 1) := by decide +kernel
theorem d_MD_voicePart_178 : decode prog_14_method_27_code 178 = .ok (.aload_n 0, 1) := by decide +kernel
theorem d_MD_voicePart_179 : decode prog_14_method_27_code 179 = .ok (.iload_n 1, 1) := by decide +kernel
theorem d_MD_voicePart_180 : decode prog_14_method_27_code 180 = .ok (.ifCond .eq 7, 3) := by decide +kernel
theorem d_MD_voicePart_187 : decode prog_14_method_27_code 187 = .ok (.bipush 6, 2) := by decide +kernel
theorem d_MD_voicePart_189 : decode prog_14_method_27_code 189 = .ok (.invokevirtual 369, 3) := by decide +kernel
theorem d_MD_voicePart_192 : decode prog_14_method_27_code 192 = .ok (.aload_n 0, 1) := by decide +kernel
theorem d_MD_voicePart_193 : decode prog_14_method_27_code 193 = .ok (.dup, 1) := by decide +kernel
theorem d_MD_voicePart_194 : decode prog_14_method_27_code 194 = .ok (.getfield 357, 3) := by decide +kernel
theorem d_MD_voicePart_197 : decode prog_14_method_27_code 197 = .ok (.iconst 1, 1) := by decide +kernel
theorem d_MD_voicePart_198 : decode prog_14_method_27_code 198 = .ok (.isub, 1) := by decide +kernel
theorem d_MD_voicePart_199 : decode prog_14_method_27_code 199 = .ok (.putfield 357, 3) := by decide +kernel
theorem d_MD_voicePart_202 : decode prog_14_method_27_code 202 = .ok (.aload_n 0, 1) := by decide +kernel
theorem d_MD_voicePart_203 : decode prog_14_method_27_code 203 = .ok (.invokevirtual 309, 3) := by decide +kernel
theorem d_MD_voicePart_206 : decode prog_14_method_27_code 206 = .ok (.ireturn, 1) := by decide +kernel
theorem d_MD_voicePart_22 : decode prog_14_method_27_code 22 = .ok (.iconst 1, 1) := by decide +kernel
theorem d_MD_voicePart_23 : decode prog_14_method_27_code 23 = .ok (.goto 4, 3) := by decide +kernel
theorem d_MD_voicePart_32 : decode prog_14_method_27_code 32 = .ok (.aload_n 0, 1) := by decide +kernel
theorem d_MD_voicePart_33 : decode prog_14_method_27_code 33 = .ok (.bipush 58, 2) := by decide +kernel
theorem d_MD_voicePart_35 : decode prog_14_method_27_code 35 = .ok (.invokevirtual 306, 3) := by decide +kernel
theorem d_MD_voicePart_38 : decode prog_14_method_27_code 38 = .ok (.ifCond .eq 82, 3) := by decide +kernel
theorem d_MD_voicePart_125 : decode prog_14_method_27_code 125 = .ok (.bipush 93, 2) := by decide +kernel
theorem d_MD_voicePart_127 : decode prog_14_method_27_code 127 = .ok (.goto 5, 3) := by decide +kernel
theorem d_MD_voicePart_183 : decode prog_14_method_27_code 183 = .ok (.iconst 4, 1) := by decide +kernel
theorem d_MD_voicePart_184 : decode prog_14_method_27_code 184 = .ok (.goto 5, 3) := by decide +kernel
theorem d_MD_voicePart_41 : decode prog_14_method_27_code 41 = .ok (.aload_n 0, 1) := by decide +kernel
theorem d_MD_voicePart_42 : decode prog_14_method_27_code 42 = .ok (.getfield 148, 3) := by decide +kernel
theorem d_MD_voicePart_45 : decode prog_14_method_27_code 45 = .ok (.aload_n 0, 1) := by decide +kernel
theorem d_MD_voicePart_46 : decode prog_14_method_27_code 46 = .ok (.getfield 357, 3) := by decide +kernel
theorem d_MD_voicePart_49 : decode prog_14_method_27_code 49 = .ok (.iconst 1, 1) := by decide +kernel
theorem d_MD_voicePart_50 : decode prog_14_method_27_code 50 = .ok (.isub, 1) := by decide +kernel
theorem d_MD_voicePart_51 : decode prog_14_method_27_code 51 = .ok (.iaload, 1) := by decide +kernel
theorem d_MD_voicePart_52 : decode prog_14_method_27_code 52 = .ok (.istore_n 2, 1) := by decide +kernel
theorem d_MD_voicePart_53 : decode prog_14_method_27_code 53 = .ok (.aload_n 0, 1) := by decide +kernel
theorem d_MD_voicePart_54 : decode prog_14_method_27_code 54 = .ok (.getfield 145, 3) := by decide +kernel
theorem d_MD_voicePart_57 : decode prog_14_method_27_code 57 = .ok (.iload_n 2, 1) := by decide +kernel
theorem d_MD_voicePart_58 : decode prog_14_method_27_code 58 = .ok (.iaload, 1) := by decide +kernel
theorem d_MD_voicePart_59 : decode prog_14_method_27_code 59 = .ok (.ifCond .ne 16, 3) := by decide +kernel
theorem d_MD_voicePart_75 : decode prog_14_method_27_code 75 = .ok (.aload_n 0, 1) := by decide +kernel
theorem d_MD_voicePart_76 : decode prog_14_method_27_code 76 = .ok (.getfield 139, 3) := by decide +kernel
theorem rfm_55 : (55, 212) ∈ mf_L := by decide +kernel
theorem d_MD_voicePart_79 : decode prog_14_method_27_code 79 = .ok (.aload_n 0, 1) := by decide +kernel
theorem d_MD_voicePart_80 : decode prog_14_method_27_code 80 = .ok (.getfield 142, 3) := by decide +kernel
theorem rfm_56 : (56, 213) ∈ mf_L := by decide +kernel
theorem d_MD_voicePart_83 : decode prog_14_method_27_code 83 = .ok (.iload_n 2, 1) := by decide +kernel
theorem d_MD_voicePart_84 : decode prog_14_method_27_code 84 = .ok (.iaload, 1) := by decide +kernel
theorem sf_213 : sh_L[213]? = some (0, 2100) := by decide +kernel
theorem mr_213 (k : Nat) : mr 213 k = (0, 2000) := rfl
theorem d_MD_voicePart_85 : decode prog_14_method_27_code 85 = .ok (.aload_n 0, 1) := by decide +kernel
theorem d_MD_voicePart_86 : decode prog_14_method_27_code 86 = .ok (.getfield 354, 3) := by decide +kernel
theorem d_MD_voicePart_89 : decode prog_14_method_27_code 89 = .ok (.iastore, 1) := by decide +kernel
theorem sf_212 : sh_L[212]? = some (0, 2100) := by decide +kernel
theorem mr_212 (k : Nat) : mr 212 k = (0, 2000) := rfl
theorem d_MD_voicePart_90 : decode prog_14_method_27_code 90 = .ok (.aload_n 0, 1) := by decide +kernel
theorem d_MD_voicePart_91 : decode prog_14_method_27_code 91 = .ok (.getfield 142, 3) := by decide +kernel
theorem d_MD_voicePart_94 : decode prog_14_method_27_code 94 = .ok (.iload_n 2, 1) := by decide +kernel
theorem d_MD_voicePart_95 : decode prog_14_method_27_code 95 = .ok (.aload_n 0, 1) := by decide +kernel
theorem d_MD_voicePart_96 : decode prog_14_method_27_code 96 = .ok (.getfield 354, 3) := by decide +kernel
theorem d_MD_voicePart_99 : decode prog_14_method_27_code 99 = .ok (.iastore, 1) := by decide +kernel
theorem d_MD_voicePart_100 : decode prog_14_method_27_code 100 = .ok (.aload_n 0, 1) := by decide +kernel
theorem d_MD_voicePart_101 : decode prog_14_method_27_code 101 = .ok (.getfield 145, 3) := by decide +kernel
theorem d_MD_voicePart_104 : decode prog_14_method_27_code 104 = .ok (.iload_n 2, 1) := by decide +kernel
theorem d_MD_voicePart_105 : decode prog_14_method_27_code 105 = .ok (.dup2, 1) := by decide +kernel
theorem d_MD_voicePart_106 : decode prog_14_method_27_code 106 = .ok (.iaload, 1) := by decide +kernel
theorem d_MD_voicePart_107 : decode prog_14_method_27_code 107 = .ok (.iconst 1, 1) := by decide +kernel
theorem d_MD_voicePart_108 : decode prog_14_method_27_code 108 = .ok (.iadd, 1) := by decide +kernel
theorem d_MD_voicePart_109 : decode prog_14_method_27_code 109 = .ok (.iastore, 1) := by decide +kernel
theorem d_MD_voicePart_110 : decode prog_14_method_27_code 110 = .ok (.aload_n 0, 1) := by decide +kernel
theorem d_MD_voicePart_111 : decode prog_14_method_27_code 111 = .ok (.iconst 3, 1) := by decide +kernel
theorem d_MD_voicePart_112 : decode prog_14_method_27_code 112 = .ok (.invokevirtual 369, 3) := by decide +kernel
theorem d_MD_voicePart_115 : decode prog_14_method_27_code 115 = .ok (.aload_n 0, 1) := by decide +kernel
theorem d_MD_voicePart_116 : decode prog_14_method_27_code 116 = .ok (.invokevirtual 309, 3) := by decide +kernel
theorem d_MD_voicePart_119 : decode prog_14_method_27_code 119 = .ok (.ireturn, 1) := by decide +kernel
theorem d_MD_voicePart_62 : decode prog_14_method_27_code 62 = .ok (.aload_n 0, 1) := by decide +kernel
theorem d_MD_voicePart_63 : decode prog_14_method_27_code 63 = .ok (.getfield 136, 3) := by decide +kernel
theorem rfm_54 : (54, 211) ∈ mf_L := by decide +kernel
theorem d_MD_voicePart_66 : decode prog_14_method_27_code 66 = .ok (.iload_n 2, 1) := by decide +kernel
theorem d_MD_voicePart_67 : decode prog_14_method_27_code 67 = .ok (.aload_n 0, 1) := by decide +kernel
theorem d_MD_voicePart_68 : decode prog_14_method_27_code 68 = .ok (.getfield 354, 3) := by decide +kernel
theorem d_MD_voicePart_71 : decode prog_14_method_27_code 71 = .ok (.iastore, 1) := by decide +kernel
theorem sf_211 : sh_L[211]? = some (0, 2100) := by decide +kernel
theorem mr_211 (k : Nat) : mr 211 k = (0, 2000) := rfl
theorem d_MD_voicePart_72 : decode prog_14_method_27_code 72 = .ok (.goto 18, 3) := by decide +kernel
set_option maxHeartbeats 8000000 in
theorem s_MD_voicePart {G : cx_T} {h : ah_T} (hx : mi h)  (hse : h.2.1 170 3 ≤ h.2.1 170 2) (hps : h.2.1 170 43 ≤ h.2.1 170 3 ∧ (h.2.1 170 4 ≠ 0 → h.2.1 170 4 ≠ 6 → h.2.1 170 43 + 1 ≤ h.2.1 170 3)) (hVH : VHx h) : con G 5 0 0 m_MD_voicePart [av_R (some 170)] h (fun r h' => ∃ z, r = some (av_I z) ∧ (z = 0 ∨ z = 1) ∧ (z = 1 → (h.2.1 170 4 ≠ 0 ∧ h.2.1 170 4 ≠ 6) ∧ (h.2.1 170 3 ≤ h'.2.1 170 3 ∧ h'.2.1 170 3 ≤ h.2.1 170 2 ∧ (h'.2.1 170 4 ≠ 0 → h'.2.1 170 4 ≠ 6 → h.2.1 170 3 < h'.2.1 170 3) ∧ (h'.2.1 170 4 = 0 → h'.2.1 170 3 = h.2.1 170 2)) ∧ (h'.2.1 170 43 ≤ h'.2.1 170 3 ∧ (h'.2.1 170 4 ≠ 0 → h'.2.1 170 4 ≠ 6 → h'.2.1 170 43 + 1 ≤ h'.2.1 170 3)) ∧ VHx h') ∧ kM (pm [3, 4, 5, 6, 7, 8, 9, 10, 11, 12, 43, 63, 64] [201, 202, 203, 204, 205, 206, 207, 208, 209, 210, 211, 212, 213, 214, 215, 216]) h h') := by
  refine con_of (L := [some (av_R (some 170)), none, none]) (by decide +kernel) (Nat.le_of_ble_eq_true rfl) rfl ?_
  have hpA := hps.1
  have k0 : kM (pm [3, 4, 5, 6, 7, 8, 9, 10, 11, 12, 43, 63, 64] [201, 202, 203, 204, 205, 206, 207, 208, 209, 210, 211, 212, 213, 214, 215, 216]) h h := kM_0 hx
  obtain ⟨sd1, esd1⟩ : ∃ x, x = h.2.1 170 3 := ⟨_, rfl⟩
  have rsd1 : 0 ≤ sd1 ∧ sd1 ≤ 2000 := (by rw [esd1]; exact mi_g k0.1 (by decide) mr_170_3)
  obtain ⟨sd2, esd2⟩ : ∃ x, x = h.2.1 170 2 := ⟨_, rfl⟩
  have rsd2 : 0 ≤ sd2 ∧ sd2 ≤ 2000 := (by rw [esd2]; exact mi_g k0.1 (by decide) mr_170_2)
  obtain ⟨sd3, esd3⟩ : ∃ x, x = h.2.1 170 43 := ⟨_, rfl⟩
  have rsd3 : 0 ≤ sd3 ∧ sd3 ≤ 2001 := (by rw [esd3]; exact mi_g k0.1 (by decide) mr_170_43)
  obtain ⟨sd4, esd4⟩ : ∃ x, x = h.2.1 170 63 := ⟨_, rfl⟩
  have rsd4 : 0 ≤ sd4 ∧ sd4 ≤ 7 := (by rw [esd4]; exact mi_g k0.1 (by decide) mr_170_63)
  obtain ⟨sd5, esd5⟩ : ∃ x, x = h.2.1 170 4 := ⟨_, rfl⟩
  have rsd5 : 0 ≤ sd5 ∧ sd5 ≤ 6 := (by rw [esd5]; exact mi_g k0.1 (by decide) mr_170_4)
  refine A_aload_n 0 d_MD_voicePart_0 rfl rfl ?_
  refine A_getIv (z := sd4) T_ok d_MD_voicePart_1 f_MD_357 (mi_s k0.1 sf_170) esd4.symm ?_
  refine A_if_le (tgt := 207) d_MD_voicePart_4 (by decide) (fun c7 => ?_) (fun c7 => ?_)
  · refine A_aload_n 0 d_MD_voicePart_207 rfl rfl ?_
    refine A_getIv (z := sd5) T_ok d_MD_voicePart_208 f_MD_239 (mi_s k0.1 sf_170) esd5.symm ?_
    refine A_iconst d_MD_voicePart_211 rfl ?_
    refine A_icmp_eq (tgt := 259) d_MD_voicePart_212 (by decide) (fun c9 => ?_) (fun c9 => ?_)
    · refine A_iconst d_MD_voicePart_259 rfl ?_
      refine A_goto (tgt := 264) d_MD_voicePart_260 (by decide) ?_
      refine A_istore_n 1 (L' := [some (av_R (some 170)), some (av_I 1), none]) d_MD_voicePart_264 rfl (Nat.le_of_ble_eq_true rfl) rfl ?_
      refine A_iload_n 1 d_MD_voicePart_265 rfl rfl ?_
      refine A_if_ne (tgt := 274) d_MD_voicePart_266 (by decide) (fun _ => ?_) (fun c => absurd c (by decide))
      refine A_aload_n 0 d_MD_voicePart_274 rfl rfl ?_
      refine A_getIv (z := sd4) T_ok d_MD_voicePart_275 f_MD_357 (mi_s k0.1 sf_170) esd4.symm ?_
      refine A_bipush d_MD_voicePart_278 rfl ?_
      refine A_icmp_le (tgt := 293) d_MD_voicePart_280 (by decide) (fun c12 => ?_) (fun c => False.elim (by first | (clear hps; omega) | omega))
      refine A_aload_n 0 d_MD_voicePart_293 rfl rfl ?_
      refine A_bipush d_MD_voicePart_294 rfl ?_
      have zf14 := esd1.symm
      have zf15 := esd2.symm
      have zf16 := esd3.symm
      have zf17 := esd4.symm
      have zf18 := esd5.symm
      refine A_callV1 m_MD_isSign T_ok d_MD_voicePart_296 l_MD_306 k_MD_isSign (mi_s k0.1 sf_170) rfl (by decide +kernel) (by decide) (Nat.le_of_ble_eq_true rfl) (s_MD_isSign k0.1 ) (fun r h13 hq => ?_)
      obtain ⟨x20, rfl, bx20, xx20, rfl⟩ := hq
      refine A_if_eq (tgt := 312) d_MD_voicePart_299 (by decide) (fun c21 => ?_) (fun c21 => ?_)
      · refine A_aload_n 0 d_MD_voicePart_312 rfl rfl ?_
        refine A_bipush d_MD_voicePart_313 rfl ?_
        have zf23 := esd1.symm
        have zf24 := esd2.symm
        have zf25 := esd3.symm
        have zf26 := esd4.symm
        have zf27 := esd5.symm
        refine A_callV1 m_MD_isSign T_ok d_MD_voicePart_315 l_MD_306 k_MD_isSign (mi_s k0.1 sf_170) rfl (by decide +kernel) (by decide) (Nat.le_of_ble_eq_true rfl) (s_MD_isSign k0.1 ) (fun r h22 hq => ?_)
        obtain ⟨x29, rfl, bx29, xx29, rfl⟩ := hq
        refine A_if_eq (tgt := 374) d_MD_voicePart_318 (by decide) (fun c30 => ?_) (fun c30 => ?_)
        · refine A_aload_n 0 d_MD_voicePart_374 rfl rfl ?_
          refine A_bipush d_MD_voicePart_375 rfl ?_
          have zf32 := esd1.symm
          have zf33 := esd2.symm
          have zf34 := esd3.symm
          have zf35 := esd4.symm
          have zf36 := esd5.symm
          refine A_callV1 m_MD_isSign T_ok d_MD_voicePart_377 l_MD_306 k_MD_isSign (mi_s k0.1 sf_170) rfl (by decide +kernel) (by decide) (Nat.le_of_ble_eq_true rfl) (s_MD_isSign k0.1 ) (fun r h31 hq => ?_)
          obtain ⟨x38, rfl, bx38, xx38, rfl⟩ := hq
          refine A_if_eq (tgt := 388) d_MD_voicePart_380 (by decide) (fun c39 => ?_) (fun c39 => ?_)
          · refine A_aload_n 0 d_MD_voicePart_388 rfl rfl ?_
            have zf41 := esd1.symm
            have zf42 := esd2.symm
            have zf43 := esd3.symm
            have zf44 := esd4.symm
            have zf45 := esd5.symm
            refine A_callV0 m_MD_soundPart T_ok d_MD_voicePart_389 l_MD_375 k_MD_soundPart (mi_s k0.1 sf_170) rfl (by decide +kernel) (by decide) (Nat.le_of_ble_eq_true rfl) (s_MD_soundPart k0.1 (by have qq0 := esd1.symm; have qq1 := esd2.symm; first | (clear hps; omega) | omega) (by have qq0 := esd1.symm; have qq1 := esd2.symm; have qq2 := esd5.symm; have qq3 := esd3.symm; exact ⟨by first | (clear hps; omega) | omega, by first | (clear hps; omega) | omega⟩) (by have qq0 := esd5.symm; exact ⟨by first | (clear hps; omega) | omega, by first | (clear hps; omega) | omega⟩) hVH) (fun r h40 hq => ?_)
            obtain ⟨x47, rfl, bx47, xx47, k46⟩ := hq
            have k48 := kM_t k0 k46 (pm_s (by decide) (by decide))
            obtain ⟨sd49, esd49⟩ : ∃ x, x = h40.2.1 170 3 := ⟨_, rfl⟩
            have rsd49 : 0 ≤ sd49 ∧ sd49 ≤ 2000 := (by rw [esd49]; exact mi_g k48.1 (by decide) mr_170_3)
            obtain ⟨sd50, esd50⟩ : ∃ x, x = h40.2.1 170 43 := ⟨_, rfl⟩
            have rsd50 : 0 ≤ sd50 ∧ sd50 ≤ 2001 := (by rw [esd50]; exact mi_g k48.1 (by decide) mr_170_43)
            obtain ⟨sd51, esd51⟩ : ∃ x, x = h40.2.1 170 4 := ⟨_, rfl⟩
            have rsd51 : 0 ≤ sd51 ∧ sd51 ≤ 6 := (by rw [esd51]; exact mi_g k48.1 (by decide) mr_170_4)
            exact A_zret d_MD_voicePart_392 (by decide) rfl (by first | (clear hps; omega) | omega) ⟨_, rfl, by first | (clear hps; omega) | omega, (fun hz => ⟨by first | (clear hps; omega) | omega, (by have qq0 := esd49.symm; have qq1 := ((k46.2.2.1 _ _ rfl).trans esd2.symm); have qq2 := esd51.symm; exact ⟨by first | (clear hps; omega) | omega, by first | (clear hps; omega) | omega, by first | (clear hps; omega) | omega, by first | (clear hps; omega) | omega⟩), (by have qq0 := esd49.symm; have qq1 := ((k46.2.2.1 _ _ rfl).trans esd2.symm); have qq2 := esd51.symm; have qq3 := esd50.symm; exact ⟨by first | (clear hps; omega) | omega, by first | (clear hps; omega) | omega⟩), (xx47 hz).2.2⟩), k48⟩
          · refine A_aload_n 0 d_MD_voicePart_383 rfl rfl ?_
            have zf53 := esd1.symm
            have zf54 := esd2.symm
            have zf55 := esd3.symm
            have zf56 := esd4.symm
            have zf57 := esd5.symm
            refine A_callV0 m_MD_timesPart T_ok d_MD_voicePart_384 l_MD_372 k_MD_timesPart (mi_s k0.1 sf_170) rfl (by decide +kernel) (by decide) (Nat.le_of_ble_eq_true rfl) (s_MD_timesPart k0.1 (by have qq0 := esd1.symm; have qq1 := esd2.symm; first | (clear hps; omega) | omega) (by have qq0 := esd1.symm; have qq1 := esd2.symm; have qq2 := esd5.symm; have qq3 := esd3.symm; exact ⟨by first | (clear hps; omega) | omega, by first | (clear hps; omega) | omega⟩) (by have qq0 := esd5.symm; exact ⟨by first | (clear hps; omega) | omega, by first | (clear hps; omega) | omega⟩) hVH (by have qq0 := esd4.symm; first | (clear hps; omega) | omega)) (fun r h52 hq => ?_)
            obtain ⟨x59, rfl, bx59, xx59, k58⟩ := hq
            have k60 := kM_t k0 k58 (pm_s (by decide) (by decide))
            obtain ⟨sd61, esd61⟩ : ∃ x, x = h52.2.1 170 3 := ⟨_, rfl⟩
            have rsd61 : 0 ≤ sd61 ∧ sd61 ≤ 2000 := (by rw [esd61]; exact mi_g k60.1 (by decide) mr_170_3)
            obtain ⟨sd62, esd62⟩ : ∃ x, x = h52.2.1 170 43 := ⟨_, rfl⟩
            have rsd62 : 0 ≤ sd62 ∧ sd62 ≤ 2001 := (by rw [esd62]; exact mi_g k60.1 (by decide) mr_170_43)
            obtain ⟨sd63, esd63⟩ : ∃ x, x = h52.2.1 170 63 := ⟨_, rfl⟩
            have rsd63 : 0 ≤ sd63 ∧ sd63 ≤ 7 := (by rw [esd63]; exact mi_g k60.1 (by decide) mr_170_63)
            obtain ⟨sd64, esd64⟩ : ∃ x, x = h52.2.1 170 4 := ⟨_, rfl⟩
            have rsd64 : 0 ≤ sd64 ∧ sd64 ≤ 6 := (by rw [esd64]; exact mi_g k60.1 (by decide) mr_170_4)
            exact A_zret d_MD_voicePart_387 (by decide) rfl (by first | (clear hps; omega) | omega) ⟨_, rfl, by first | (clear hps; omega) | omega, (fun hz => ⟨by first | (clear hps; omega) | omega, (by have qq0 := esd61.symm; have qq1 := ((k58.2.2.1 _ _ rfl).trans esd2.symm); have qq2 := esd64.symm; exact ⟨by first | (clear hps; omega) | omega, by first | (clear hps; omega) | omega, by first | (clear hps; omega) | omega, by first | (clear hps; omega) | omega⟩), (by have qq0 := esd61.symm; have qq1 := ((k58.2.2.1 _ _ rfl).trans esd2.symm); have qq2 := esd64.symm; have qq3 := esd62.symm; exact ⟨by first | (clear hps; omega) | omega, by first | (clear hps; omega) | omega⟩), (xx59 hz).2.2⟩), k60⟩
        · refine A_aload_n 0 d_MD_voicePart_321 rfl rfl ?_
          refine A_getAv (z := some 215) T_ok d_MD_voicePart_322 f_MD_148 (mi_s k0.1 sf_170) (mi_r k0.1 rfm_58) ?_
          refine A_aload_n 0 d_MD_voicePart_325 rfl rfl ?_
          refine A_getIv (z := sd4) T_ok d_MD_voicePart_326 f_MD_357 (mi_s k0.1 sf_170) esd4.symm ?_
          refine A_aload_n 0 d_MD_voicePart_329 rfl rfl ?_
          refine A_pc (pc' := 330) rfl ?_
          refine A_getIv (z := sd3) T_ok d_MD_voicePart_330 f_MD_354 (mi_s k0.1 sf_170) esd3.symm ?_
          refine A_iastorek (KR := kM (pm [3, 4, 5, 6, 7, 8, 9, 10, 11, 12, 43, 63, 64] [201, 202, 203, 204, 205, 206, 207, 208, 209, 210, 211, 212, 213, 214, 215, 216]) h) d_MD_voicePart_333 (mi_s k0.1 sf_215) (by first | (clear hps; omega) | omega) (by first | (clear hps; omega) | omega) (kM_i k0 (by decide) rfl (mr_215 _) (by first | (clear hps; omega) | omega) (by first | (clear hps; omega) | omega)) (fun h68 k69 eh68 => ?_)
          refine A_aload_n 0 d_MD_voicePart_334 rfl rfl ?_
          refine A_getAv (z := some 214) T_ok d_MD_voicePart_335 f_MD_145 (mi_s k69.1 sf_170) (mi_r k69.1 rfm_57) ?_
          refine A_aload_n 0 d_MD_voicePart_338 rfl rfl ?_
          refine A_getIv (z := sd3) T_ok d_MD_voicePart_339 f_MD_354 (mi_s k69.1 sf_170) ((eh68.1 _ _ (fun q => absurd q (by decide))).trans esd3.symm) ?_
          refine A_pc (pc' := 342) rfl ?_
          refine A_iconst d_MD_voicePart_342 rfl ?_
          refine A_iastorek (KR := kM (pm [3, 4, 5, 6, 7, 8, 9, 10, 11, 12, 43, 63, 64] [201, 202, 203, 204, 205, 206, 207, 208, 209, 210, 211, 212, 213, 214, 215, 216]) h) d_MD_voicePart_343 (mi_s k69.1 sf_214) (by first | (clear hps; omega) | omega) (by first | (clear hps; omega) | omega) (kM_i k69 (by decide) rfl (mr_214 _) (by first | (clear hps; omega) | omega) (by first | (clear hps; omega) | omega)) (fun h72 k73 eh72 => ?_)
          refine A_aload_n 0 d_MD_voicePart_344 rfl rfl ?_
          refine A_iconst d_MD_voicePart_345 rfl ?_
          have zf75 := ((eh72.1 _ _ (fun q => absurd q (by decide))).trans ((eh68.1 _ _ (fun q => absurd q (by decide))).trans esd1.symm))
          have zf76 := ((eh72.1 _ _ (fun q => absurd q (by decide))).trans ((eh68.1 _ _ (fun q => absurd q (by decide))).trans esd2.symm))
          have zf77 := ((eh72.1 _ _ (fun q => absurd q (by decide))).trans ((eh68.1 _ _ (fun q => absurd q (by decide))).trans esd3.symm))
          have zf78 := ((eh72.1 _ _ (fun q => absurd q (by decide))).trans ((eh68.1 _ _ (fun q => absurd q (by decide))).trans esd4.symm))
          have zf79 := ((eh72.1 _ _ (fun q => absurd q (by decide))).trans ((eh68.1 _ _ (fun q => absurd q (by decide))).trans esd5.symm))
          refine A_callV1 m_MD_put T_ok d_MD_voicePart_346 l_MD_369 k_MD_put (mi_s k73.1 sf_170) rfl (by decide +kernel) (by decide) (Nat.le_of_ble_eq_true rfl) (s_MD_put k73.1 (by first | (clear hps; omega) | omega) (by first | (clear hps; omega) | omega) ((eh72.1 _ _ (fun q => absurd q (by decide))).trans ((eh68.1 _ _ (fun q => absurd q (by decide))).trans esd3.symm)) (by first | (clear hps; omega) | omega)) (fun r h74 hq => ?_)
          obtain ⟨rfl, xk80, k80⟩ := hq
          have k81 := kM_t k73 k80 (pm_s (by decide) (by decide))
          refine A_aload_n 0 d_MD_voicePart_349 rfl rfl ?_
          refine A_getAv (z := some 216) T_ok d_MD_voicePart_350 f_MD_151 (mi_s k81.1 sf_170) (mi_r k81.1 rfm_62) ?_
          refine A_aload_n 0 d_MD_voicePart_353 rfl rfl ?_
          refine A_getIv (z := sd4) T_ok d_MD_voicePart_354 f_MD_357 (mi_s k81.1 sf_170) ((k80.2.2.1 _ _ rfl).trans ((eh72.1 _ _ (fun q => absurd q (by decide))).trans ((eh68.1 _ _ (fun q => absurd q (by decide))).trans esd4.symm))) ?_
          refine A_iconst d_MD_voicePart_357 rfl ?_
          refine A_pc (pc' := 358) rfl ?_
          refine A_iastorek (KR := kM (pm [3, 4, 5, 6, 7, 8, 9, 10, 11, 12, 43, 63, 64] [201, 202, 203, 204, 205, 206, 207, 208, 209, 210, 211, 212, 213, 214, 215, 216]) h) d_MD_voicePart_358 (mi_s k81.1 sf_216) (by first | (clear hps; omega) | omega) (by first | (clear hps; omega) | omega) (kM_i k81 (by decide) rfl (mr_216 _) (by first | (clear hps; omega) | omega) (by first | (clear hps; omega) | omega)) (fun h84 k85 eh84 => ?_)
          refine A_aload_n 0 d_MD_voicePart_359 rfl rfl ?_
          refine A_dupR d_MD_voicePart_360 ?_
          refine A_getIv (z := sd4) T_ok d_MD_voicePart_361 f_MD_357 (mi_s k85.1 sf_170) ((eh84.1 _ _ (fun q => absurd q (by decide))).trans ((k80.2.2.1 _ _ rfl).trans ((eh72.1 _ _ (fun q => absurd q (by decide))).trans ((eh68.1 _ _ (fun q => absurd q (by decide))).trans esd4.symm)))) ?_
          refine A_iconst d_MD_voicePart_364 rfl ?_
          refine A_iaddv (z := (sd4 + 1)) d_MD_voicePart_365 (w32_to (by first | (clear hps; omega) | omega) (by unfold i32; first | (clear hps; omega) | omega)) ?_
          refine A_pc (pc' := 366) rfl ?_
          refine A_putIk (KR := kM (pm [3, 4, 5, 6, 7, 8, 9, 10, 11, 12, 43, 63, 64] [201, 202, 203, 204, 205, 206, 207, 208, 209, 210, 211, 212, 213, 214, 215, 216]) h) T_ok d_MD_voicePart_366 f_MD_357 (mi_s k85.1 sf_170) fin_f (kM_i k85 (by decide) (by decide) mr_170_63 (by first | (clear hps; omega) | omega) (by first | (clear hps; omega) | omega)) (fun h87 k88 eh87 => ?_)
          refine A_aload_n 0 d_MD_voicePart_369 rfl rfl ?_
          have zf90 := ((eh87.1 _ _ (fun _ => by decide)).trans ((eh84.1 _ _ (fun q => absurd q (by decide))).trans ((k80.2.2.1 _ _ rfl).trans ((eh72.1 _ _ (fun q => absurd q (by decide))).trans ((eh68.1 _ _ (fun q => absurd q (by decide))).trans esd1.symm)))))
          have zf91 := ((eh87.1 _ _ (fun _ => by decide)).trans ((eh84.1 _ _ (fun q => absurd q (by decide))).trans ((k80.2.2.1 _ _ rfl).trans ((eh72.1 _ _ (fun q => absurd q (by decide))).trans ((eh68.1 _ _ (fun q => absurd q (by decide))).trans esd2.symm)))))
          have zf92 := ((eh87.1 _ _ (fun _ => by decide)).trans ((eh84.1 _ _ (fun q => absurd q (by decide))).trans xk80.1))
          have zf93 := eh87.2.1
          have zf94 := ((eh87.1 _ _ (fun _ => by decide)).trans ((eh84.1 _ _ (fun q => absurd q (by decide))).trans ((k80.2.2.1 _ _ rfl).trans ((eh72.1 _ _ (fun q => absurd q (by decide))).trans ((eh68.1 _ _ (fun q => absurd q (by decide))).trans esd5.symm)))))
          refine A_callV0 m_MD_next T_ok d_MD_voicePart_370 l_MD_309 k_MD_next (mi_s k88.1 sf_170) rfl (by decide +kernel) (by decide) (Nat.le_of_ble_eq_true rfl) (s_MD_next k88.1 (by have qq0 := ((eh87.1 _ _ (fun _ => by decide)).trans ((eh84.1 _ _ (fun q => absurd q (by decide))).trans ((k80.2.2.1 _ _ rfl).trans ((eh72.1 _ _ (fun q => absurd q (by decide))).trans ((eh68.1 _ _ (fun q => absurd q (by decide))).trans esd1.symm))))); have qq1 := ((eh87.1 _ _ (fun _ => by decide)).trans ((eh84.1 _ _ (fun q => absurd q (by decide))).trans ((k80.2.2.1 _ _ rfl).trans ((eh72.1 _ _ (fun q => absurd q (by decide))).trans ((eh68.1 _ _ (fun q => absurd q (by decide))).trans esd2.symm))))); first | (clear hps; omega) | omega)) (fun r h89 hq => ?_)
          obtain ⟨x96, rfl, ⟨_, _⟩, xx96, k95⟩ := hq
          have xa96 := xx96.1
          have xb96 := xx96.2.1
          have k97 := kM_t k88 k95 (pm_s (by decide) (by decide))
          obtain ⟨sd98, esd98⟩ : ∃ x, x = h89.2.1 170 3 := ⟨_, rfl⟩
          have rsd98 : 0 ≤ sd98 ∧ sd98 ≤ 2000 := (by rw [esd98]; exact mi_g k97.1 (by decide) mr_170_3)
          obtain ⟨sd99, esd99⟩ : ∃ x, x = h89.2.1 170 4 := ⟨_, rfl⟩
          have rsd99 : 0 ≤ sd99 ∧ sd99 ≤ 6 := (by rw [esd99]; exact mi_g k97.1 (by decide) mr_170_4)
          exact A_zret d_MD_voicePart_373 (by decide) rfl (by first | (clear hps; omega) | omega) ⟨_, rfl, by first | (clear hps; omega) | omega, (fun hz => ⟨by first | (clear hps; omega) | omega, (by have qq0 := esd98.symm; have qq1 := ((k95.2.2.1 _ _ rfl).trans ((eh87.1 _ _ (fun _ => by decide)).trans ((eh84.1 _ _ (fun q => absurd q (by decide))).trans ((k80.2.2.1 _ _ rfl).trans ((eh72.1 _ _ (fun q => absurd q (by decide))).trans ((eh68.1 _ _ (fun q => absurd q (by decide))).trans esd2.symm)))))); have qq2 := esd99.symm; exact ⟨by first | (clear hps; omega) | omega, by first | (clear hps; omega) | omega, by first | (clear hps; omega) | omega, by first | (clear hps; omega) | omega⟩), (by have qq0 := esd98.symm; have qq1 := ((k95.2.2.1 _ _ rfl).trans ((eh87.1 _ _ (fun _ => by decide)).trans ((eh84.1 _ _ (fun q => absurd q (by decide))).trans ((k80.2.2.1 _ _ rfl).trans ((eh72.1 _ _ (fun q => absurd q (by decide))).trans ((eh68.1 _ _ (fun q => absurd q (by decide))).trans esd2.symm)))))); have qq2 := esd99.symm; have qq3 := ((k95.2.2.1 _ _ rfl).trans ((eh87.1 _ _ (fun _ => by decide)).trans ((eh84.1 _ _ (fun q => absurd q (by decide))).trans xk80.1))); exact ⟨by first | (clear hps; omega) | omega, by first | (clear hps; omega) | omega⟩), VH_o (x := sd3) (m := sd4) (c := 2) hVH esd3.symm esd4.symm (by first | (clear hps; omega) | omega) ((k95.2.2.1 _ _ rfl).trans ((eh87.1 _ _ (fun _ => by decide)).trans ((eh84.1 _ _ (fun q => absurd q (by decide))).trans xk80.1))) ((k95.2.2.1 _ _ rfl).trans eh87.2.1) (by decide) (fun k hk => ((k95.2.2.1 201 k rfl).trans ((eh87.1 201 k (fun q => absurd q (by decide))).trans ((eh84.1 201 k (fun q => absurd q (by decide))).trans ((xk80.2.1 k hk).trans ((eh72.1 201 k (fun q => absurd q (by decide))).trans (eh68.1 201 k (fun q => absurd q (by decide))))))))) ((k95.2.2.1 _ _ rfl).trans ((eh87.1 _ _ (fun q => absurd q (by decide))).trans ((eh84.1 _ _ (fun q => absurd q (by decide))).trans xk80.2.2))) (fun k hk => ((k95.2.2.1 202 k rfl).trans ((eh87.1 202 k (fun q => absurd q (by decide))).trans ((eh84.1 202 k (fun q => absurd q (by decide))).trans ((k80.2.2.1 202 k rfl).trans ((eh72.1 202 k (fun q => absurd q (by decide))).trans (eh68.1 202 k (fun q => absurd q (by decide))))))))) (fun k hk => ((k95.2.2.1 203 k rfl).trans ((eh87.1 203 k (fun q => absurd q (by decide))).trans ((eh84.1 203 k (fun q => absurd q (by decide))).trans ((k80.2.2.1 203 k rfl).trans ((eh72.1 203 k (fun q => absurd q (by decide))).trans (eh68.1 203 k (fun q => absurd q (by decide))))))))) (fun q => absurd q (by decide)) (fun k hk => ((k95.2.2.1 214 k rfl).trans ((eh87.1 214 k (fun q => absurd q (by decide))).trans ((eh84.1 214 k (fun q => absurd q (by decide))).trans ((k80.2.2.1 214 k rfl).trans ((eh72.1 214 k (fun _ => hk)).trans (eh68.1 214 k (fun q => absurd q (by decide))))))))) (fun _ => ((k95.2.2.1 _ _ rfl).trans ((eh87.1 _ _ (fun q => absurd q (by decide))).trans ((eh84.1 _ _ (fun q => absurd q (by decide))).trans ((k80.2.2.1 _ _ rfl).trans eh72.2.1))))) (fun k hk => ((k95.2.2.1 215 k rfl).trans ((eh87.1 215 k (fun q => absurd q (by decide))).trans ((eh84.1 215 k (fun q => absurd q (by decide))).trans ((k80.2.2.1 215 k rfl).trans ((eh72.1 215 k (fun q => absurd q (by decide))).trans (eh68.1 215 k (fun _ => hk)))))))) ((k95.2.2.1 _ _ rfl).trans ((eh87.1 _ _ (fun q => absurd q (by decide))).trans ((eh84.1 _ _ (fun q => absurd q (by decide))).trans ((k80.2.2.1 _ _ rfl).trans ((eh72.1 _ _ (fun q => absurd q (by decide))).trans eh68.2.1))))) (fun k hk => ((k95.2.2.1 216 k rfl).trans ((eh87.1 216 k (fun q => absurd q (by decide))).trans ((eh84.1 216 k (fun _ => hk)).trans ((k80.2.2.1 216 k rfl).trans ((eh72.1 216 k (fun q => absurd q (by decide))).trans (eh68.1 216 k (fun q => absurd q (by decide))))))))) ((k95.2.2.1 _ _ rfl).trans ((eh87.1 _ _ (fun q => absurd q (by decide))).trans eh84.2.1)) (by intro a ha; simp only [List.mem_cons, List.not_mem_nil, or_false] at ha; rcases ha with rfl | rfl | rfl | rfl ; exact (funext (fun k => ((k95.2.2.1 210 k rfl).trans ((eh87.1 210 k (fun q => absurd q (by decide))).trans ((eh84.1 210 k (fun q => absurd q (by decide))).trans ((k80.2.2.1 210 k rfl).trans ((eh72.1 210 k (fun q => absurd q (by decide))).trans (eh68.1 210 k (fun q => absurd q (by decide)))))))))) ; exact (funext (fun k => ((k95.2.2.1 211 k rfl).trans ((eh87.1 211 k (fun q => absurd q (by decide))).trans ((eh84.1 211 k (fun q => absurd q (by decide))).trans ((k80.2.2.1 211 k rfl).trans ((eh72.1 211 k (fun q => absurd q (by decide))).trans (eh68.1 211 k (fun q => absurd q (by decide)))))))))) ; exact (funext (fun k => ((k95.2.2.1 212 k rfl).trans ((eh87.1 212 k (fun q => absurd q (by decide))).trans ((eh84.1 212 k (fun q => absurd q (by decide))).trans ((k80.2.2.1 212 k rfl).trans ((eh72.1 212 k (fun q => absurd q (by decide))).trans (eh68.1 212 k (fun q => absurd q (by decide)))))))))) ; exact (funext (fun k => ((k95.2.2.1 213 k rfl).trans ((eh87.1 213 k (fun q => absurd q (by decide))).trans ((eh84.1 213 k (fun q => absurd q (by decide))).trans ((k80.2.2.1 213 k rfl).trans ((eh72.1 213 k (fun q => absurd q (by decide))).trans (eh68.1 213 k (fun q => absurd q (by decide)))))))))))⟩), k97⟩
      · refine A_aload_n 0 d_MD_voicePart_302 rfl rfl ?_
        refine A_iconst d_MD_voicePart_303 rfl ?_
        have zf101 := esd1.symm
        have zf102 := esd2.symm
        have zf103 := esd3.symm
        have zf104 := esd4.symm
        have zf105 := esd5.symm
        refine A_callV1 m_MD_put T_ok d_MD_voicePart_304 l_MD_369 k_MD_put (mi_s k0.1 sf_170) rfl (by decide +kernel) (by decide) (Nat.le_of_ble_eq_true rfl) (s_MD_put k0.1 (by first | (clear hps; omega) | omega) (by first | (clear hps; omega) | omega) esd3.symm (by first | (clear hps; omega) | omega)) (fun r h100 hq => ?_)
        obtain ⟨rfl, xk106, k106⟩ := hq
        have k107 := kM_t k0 k106 (pm_s (by decide) (by decide))
        refine A_aload_n 0 d_MD_voicePart_307 rfl rfl ?_
        have zf109 := ((k106.2.2.1 _ _ rfl).trans esd1.symm)
        have zf110 := ((k106.2.2.1 _ _ rfl).trans esd2.symm)
        have zf111 := xk106.1
        have zf112 := ((k106.2.2.1 _ _ rfl).trans esd4.symm)
        have zf113 := ((k106.2.2.1 _ _ rfl).trans esd5.symm)
        refine A_callV0 m_MD_next T_ok d_MD_voicePart_308 l_MD_309 k_MD_next (mi_s k107.1 sf_170) rfl (by decide +kernel) (by decide) (Nat.le_of_ble_eq_true rfl) (s_MD_next k107.1 (by have qq0 := ((k106.2.2.1 _ _ rfl).trans esd1.symm); have qq1 := ((k106.2.2.1 _ _ rfl).trans esd2.symm); first | (clear hps; omega) | omega)) (fun r h108 hq => ?_)
        obtain ⟨x115, rfl, ⟨_, _⟩, xx115, k114⟩ := hq
        have xa115 := xx115.1
        have xb115 := xx115.2.1
        have k116 := kM_t k107 k114 (pm_s (by decide) (by decide))
        obtain ⟨sd117, esd117⟩ : ∃ x, x = h108.2.1 170 3 := ⟨_, rfl⟩
        have rsd117 : 0 ≤ sd117 ∧ sd117 ≤ 2000 := (by rw [esd117]; exact mi_g k116.1 (by decide) mr_170_3)
        obtain ⟨sd118, esd118⟩ : ∃ x, x = h108.2.1 170 4 := ⟨_, rfl⟩
        have rsd118 : 0 ≤ sd118 ∧ sd118 ≤ 6 := (by rw [esd118]; exact mi_g k116.1 (by decide) mr_170_4)
        exact A_zret d_MD_voicePart_311 (by decide) rfl (by first | (clear hps; omega) | omega) ⟨_, rfl, by first | (clear hps; omega) | omega, (fun hz => ⟨by first | (clear hps; omega) | omega, (by have qq0 := esd117.symm; have qq1 := ((k114.2.2.1 _ _ rfl).trans ((k106.2.2.1 _ _ rfl).trans esd2.symm)); have qq2 := esd118.symm; exact ⟨by first | (clear hps; omega) | omega, by first | (clear hps; omega) | omega, by first | (clear hps; omega) | omega, by first | (clear hps; omega) | omega⟩), (by have qq0 := esd117.symm; have qq1 := ((k114.2.2.1 _ _ rfl).trans ((k106.2.2.1 _ _ rfl).trans esd2.symm)); have qq2 := esd118.symm; have qq3 := ((k114.2.2.1 _ _ rfl).trans xk106.1); exact ⟨by first | (clear hps; omega) | omega, by first | (clear hps; omega) | omega⟩), VH_s (x := sd3) hVH esd3.symm ((k114.2.2.1 _ _ rfl).trans xk106.1) (((k114.2.2.1 170 63 rfl).trans (k106.2.2.1 170 63 rfl))) (fun k hk => ((k114.2.2.1 201 k rfl).trans (xk106.2.1 k hk))) (Or.inl ((k114.2.2.1 _ _ rfl).trans xk106.2.2)) (fun k hk => ((k114.2.2.1 202 k rfl).trans (k106.2.2.1 202 k rfl))) (by intro a ha; simp only [List.mem_cons, List.not_mem_nil, or_false] at ha; rcases ha with rfl | rfl | rfl | rfl | rfl | rfl | rfl | rfl ; exact (funext (fun k => ((k114.2.2.1 203 k rfl).trans (k106.2.2.1 203 k rfl)))) ; exact (funext (fun k => ((k114.2.2.1 210 k rfl).trans (k106.2.2.1 210 k rfl)))) ; exact (funext (fun k => ((k114.2.2.1 211 k rfl).trans (k106.2.2.1 211 k rfl)))) ; exact (funext (fun k => ((k114.2.2.1 212 k rfl).trans (k106.2.2.1 212 k rfl)))) ; exact (funext (fun k => ((k114.2.2.1 213 k rfl).trans (k106.2.2.1 213 k rfl)))) ; exact (funext (fun k => ((k114.2.2.1 214 k rfl).trans (k106.2.2.1 214 k rfl)))) ; exact (funext (fun k => ((k114.2.2.1 215 k rfl).trans (k106.2.2.1 215 k rfl)))) ; exact (funext (fun k => ((k114.2.2.1 216 k rfl).trans (k106.2.2.1 216 k rfl)))))⟩), k116⟩
    · refine A_aload_n 0 d_MD_voicePart_215 rfl rfl ?_
      refine A_iconst d_MD_voicePart_216 rfl ?_
      have zf120 := esd1.symm
      have zf121 := esd2.symm
      have zf122 := esd3.symm
      have zf123 := esd4.symm
      have zf124 := esd5.symm
      refine A_callV1 m_MD_isWord T_ok d_MD_voicePart_217 l_MD_326 k_MD_isWord (mi_s k0.1 sf_170) rfl (by decide +kernel) (by decide) (Nat.le_of_ble_eq_true rfl) (s_MD_isWord k0.1 ) (fun r h119 hq => ?_)
      obtain ⟨x126, rfl, bx126, xx126, rfl⟩ := hq
      refine A_if_ne (tgt := 259) d_MD_voicePart_220 (by decide) (fun c127 => ?_) (fun c127 => ?_)
      · refine A_iconst d_MD_voicePart_259 rfl ?_
        refine A_goto (tgt := 264) d_MD_voicePart_260 (by decide) ?_
        refine A_istore_n 1 (L' := [some (av_R (some 170)), some (av_I 1), none]) d_MD_voicePart_264 rfl (Nat.le_of_ble_eq_true rfl) rfl ?_
        refine A_iload_n 1 d_MD_voicePart_265 rfl rfl ?_
        refine A_if_ne (tgt := 274) d_MD_voicePart_266 (by decide) (fun _ => ?_) (fun c => absurd c (by decide))
        refine A_aload_n 0 d_MD_voicePart_274 rfl rfl ?_
        refine A_getIv (z := sd4) T_ok d_MD_voicePart_275 f_MD_357 (mi_s k0.1 sf_170) esd4.symm ?_
        refine A_bipush d_MD_voicePart_278 rfl ?_
        refine A_icmp_le (tgt := 293) d_MD_voicePart_280 (by decide) (fun c130 => ?_) (fun c => False.elim (by first | (clear hps; omega) | omega))
        refine A_aload_n 0 d_MD_voicePart_293 rfl rfl ?_
        refine A_bipush d_MD_voicePart_294 rfl ?_
        have zf132 := esd1.symm
        have zf133 := esd2.symm
        have zf134 := esd3.symm
        have zf135 := esd4.symm
        have zf136 := esd5.symm
        refine A_callV1 m_MD_isSign T_ok d_MD_voicePart_296 l_MD_306 k_MD_isSign (mi_s k0.1 sf_170) rfl (by decide +kernel) (by decide) (Nat.le_of_ble_eq_true rfl) (s_MD_isSign k0.1 ) (fun r h131 hq => ?_)
        obtain ⟨x138, rfl, bx138, xx138, rfl⟩ := hq
        refine A_if_eq (tgt := 312) d_MD_voicePart_299 (by decide) (fun c139 => ?_) (fun c139 => ?_)
        · refine A_aload_n 0 d_MD_voicePart_312 rfl rfl ?_
          refine A_bipush d_MD_voicePart_313 rfl ?_
          have zf141 := esd1.symm
          have zf142 := esd2.symm
          have zf143 := esd3.symm
          have zf144 := esd4.symm
          have zf145 := esd5.symm
          refine A_callV1 m_MD_isSign T_ok d_MD_voicePart_315 l_MD_306 k_MD_isSign (mi_s k0.1 sf_170) rfl (by decide +kernel) (by decide) (Nat.le_of_ble_eq_true rfl) (s_MD_isSign k0.1 ) (fun r h140 hq => ?_)
          obtain ⟨x147, rfl, bx147, xx147, rfl⟩ := hq
          refine A_if_eq (tgt := 374) d_MD_voicePart_318 (by decide) (fun c148 => ?_) (fun c148 => ?_)
          · refine A_aload_n 0 d_MD_voicePart_374 rfl rfl ?_
            refine A_bipush d_MD_voicePart_375 rfl ?_
            have zf150 := esd1.symm
            have zf151 := esd2.symm
            have zf152 := esd3.symm
            have zf153 := esd4.symm
            have zf154 := esd5.symm
            refine A_callV1 m_MD_isSign T_ok d_MD_voicePart_377 l_MD_306 k_MD_isSign (mi_s k0.1 sf_170) rfl (by decide +kernel) (by decide) (Nat.le_of_ble_eq_true rfl) (s_MD_isSign k0.1 ) (fun r h149 hq => ?_)
            obtain ⟨x156, rfl, bx156, xx156, rfl⟩ := hq
            refine A_if_eq (tgt := 388) d_MD_voicePart_380 (by decide) (fun c157 => ?_) (fun c157 => ?_)
            · refine A_aload_n 0 d_MD_voicePart_388 rfl rfl ?_
              have zf159 := esd1.symm
              have zf160 := esd2.symm
              have zf161 := esd3.symm
              have zf162 := esd4.symm
              have zf163 := esd5.symm
              refine A_callV0 m_MD_soundPart T_ok d_MD_voicePart_389 l_MD_375 k_MD_soundPart (mi_s k0.1 sf_170) rfl (by decide +kernel) (by decide) (Nat.le_of_ble_eq_true rfl) (s_MD_soundPart k0.1 (by have qq0 := esd1.symm; have qq1 := esd2.symm; first | (clear hps; omega) | omega) (by have qq0 := esd1.symm; have qq1 := esd2.symm; have qq2 := esd5.symm; have qq3 := esd3.symm; exact ⟨by first | (clear hps; omega) | omega, by first | (clear hps; omega) | omega⟩) (by have qq0 := esd5.symm; exact ⟨by first | (clear hps; omega) | omega, by first | (clear hps; omega) | omega⟩) hVH) (fun r h158 hq => ?_)
              obtain ⟨x165, rfl, bx165, xx165, k164⟩ := hq
              have k166 := kM_t k0 k164 (pm_s (by decide) (by decide))
              obtain ⟨sd167, esd167⟩ : ∃ x, x = h158.2.1 170 3 := ⟨_, rfl⟩
              have rsd167 : 0 ≤ sd167 ∧ sd167 ≤ 2000 := (by rw [esd167]; exact mi_g k166.1 (by decide) mr_170_3)
              obtain ⟨sd168, esd168⟩ : ∃ x, x = h158.2.1 170 43 := ⟨_, rfl⟩
              have rsd168 : 0 ≤ sd168 ∧ sd168 ≤ 2001 := (by rw [esd168]; exact mi_g k166.1 (by decide) mr_170_43)
              obtain ⟨sd169, esd169⟩ : ∃ x, x = h158.2.1 170 4 := ⟨_, rfl⟩
              have rsd169 : 0 ≤ sd169 ∧ sd169 ≤ 6 := (by rw [esd169]; exact mi_g k166.1 (by decide) mr_170_4)
              exact A_zret d_MD_voicePart_392 (by decide) rfl (by first | (clear hps; omega) | omega) ⟨_, rfl, by first | (clear hps; omega) | omega, (fun hz => ⟨by first | (clear hps; omega) | omega, (by have qq0 := esd167.symm; have qq1 := ((k164.2.2.1 _ _ rfl).trans esd2.symm); have qq2 := esd169.symm; exact ⟨by first | (clear hps; omega) | omega, by first | (clear hps; omega) | omega, by first | (clear hps; omega) | omega, by first | (clear hps; omega) | omega⟩), (by have qq0 := esd167.symm; have qq1 := ((k164.2.2.1 _ _ rfl).trans esd2.symm); have qq2 := esd169.symm; have qq3 := esd168.symm; exact ⟨by first | (clear hps; omega) | omega, by first | (clear hps; omega) | omega⟩), (xx165 hz).2.2⟩), k166⟩
            · refine A_aload_n 0 d_MD_voicePart_383 rfl rfl ?_
              have zf171 := esd1.symm
              have zf172 := esd2.symm
              have zf173 := esd3.symm
              have zf174 := esd4.symm
              have zf175 := esd5.symm
              refine A_callV0 m_MD_timesPart T_ok d_MD_voicePart_384 l_MD_372 k_MD_timesPart (mi_s k0.1 sf_170) rfl (by decide +kernel) (by decide) (Nat.le_of_ble_eq_true rfl) (s_MD_timesPart k0.1 (by have qq0 := esd1.symm; have qq1 := esd2.symm; first | (clear hps; omega) | omega) (by have qq0 := esd1.symm; have qq1 := esd2.symm; have qq2 := esd5.symm; have qq3 := esd3.symm; exact ⟨by first | (clear hps; omega) | omega, by first | (clear hps; omega) | omega⟩) (by have qq0 := esd5.symm; exact ⟨by first | (clear hps; omega) | omega, by first | (clear hps; omega) | omega⟩) hVH (by have qq0 := esd4.symm; first | (clear hps; omega) | omega)) (fun r h170 hq => ?_)
              obtain ⟨x177, rfl, bx177, xx177, k176⟩ := hq
              have k178 := kM_t k0 k176 (pm_s (by decide) (by decide))
              obtain ⟨sd179, esd179⟩ : ∃ x, x = h170.2.1 170 3 := ⟨_, rfl⟩
              have rsd179 : 0 ≤ sd179 ∧ sd179 ≤ 2000 := (by rw [esd179]; exact mi_g k178.1 (by decide) mr_170_3)
              obtain ⟨sd180, esd180⟩ : ∃ x, x = h170.2.1 170 43 := ⟨_, rfl⟩
              have rsd180 : 0 ≤ sd180 ∧ sd180 ≤ 2001 := (by rw [esd180]; exact mi_g k178.1 (by decide) mr_170_43)
              obtain ⟨sd181, esd181⟩ : ∃ x, x = h170.2.1 170 63 := ⟨_, rfl⟩
              have rsd181 : 0 ≤ sd181 ∧ sd181 ≤ 7 := (by rw [esd181]; exact mi_g k178.1 (by decide) mr_170_63)
              obtain ⟨sd182, esd182⟩ : ∃ x, x = h170.2.1 170 4 := ⟨_, rfl⟩
              have rsd182 : 0 ≤ sd182 ∧ sd182 ≤ 6 := (by rw [esd182]; exact mi_g k178.1 (by decide) mr_170_4)
              exact A_zret d_MD_voicePart_387 (by decide) rfl (by first | (clear hps; omega) | omega) ⟨_, rfl, by first | (clear hps; omega) | omega, (fun hz => ⟨by first | (clear hps; omega) | omega, (by have qq0 := esd179.symm; have qq1 := ((k176.2.2.1 _ _ rfl).trans esd2.symm); have qq2 := esd182.symm; exact ⟨by first | (clear hps; omega) | omega, by first | (clear hps; omega) | omega, by first | (clear hps; omega) | omega, by first | (clear hps; omega) | omega⟩), (by have qq0 := esd179.symm; have qq1 := ((k176.2.2.1 _ _ rfl).trans esd2.symm); have qq2 := esd182.symm; have qq3 := esd180.symm; exact ⟨by first | (clear hps; omega) | omega, by first | (clear hps; omega) | omega⟩), (xx177 hz).2.2⟩), k178⟩
          · refine A_aload_n 0 d_MD_voicePart_321 rfl rfl ?_
            refine A_getAv (z := some 215) T_ok d_MD_voicePart_322 f_MD_148 (mi_s k0.1 sf_170) (mi_r k0.1 rfm_58) ?_
            refine A_aload_n 0 d_MD_voicePart_325 rfl rfl ?_
            refine A_getIv (z := sd4) T_ok d_MD_voicePart_326 f_MD_357 (mi_s k0.1 sf_170) esd4.symm ?_
            refine A_aload_n 0 d_MD_voicePart_329 rfl rfl ?_
            refine A_pc (pc' := 330) rfl ?_
            refine A_getIv (z := sd3) T_ok d_MD_voicePart_330 f_MD_354 (mi_s k0.1 sf_170) esd3.symm ?_
            refine A_iastorek (KR := kM (pm [3, 4, 5, 6, 7, 8, 9, 10, 11, 12, 43, 63, 64] [201, 202, 203, 204, 205, 206, 207, 208, 209, 210, 211, 212, 213, 214, 215, 216]) h) d_MD_voicePart_333 (mi_s k0.1 sf_215) (by first | (clear hps; omega) | omega) (by first | (clear hps; omega) | omega) (kM_i k0 (by decide) rfl (mr_215 _) (by first | (clear hps; omega) | omega) (by first | (clear hps; omega) | omega)) (fun h186 k187 eh186 => ?_)
            refine A_aload_n 0 d_MD_voicePart_334 rfl rfl ?_
            refine A_getAv (z := some 214) T_ok d_MD_voicePart_335 f_MD_145 (mi_s k187.1 sf_170) (mi_r k187.1 rfm_57) ?_
            refine A_aload_n 0 d_MD_voicePart_338 rfl rfl ?_
            refine A_getIv (z := sd3) T_ok d_MD_voicePart_339 f_MD_354 (mi_s k187.1 sf_170) ((eh186.1 _ _ (fun q => absurd q (by decide))).trans esd3.symm) ?_
            refine A_pc (pc' := 342) rfl ?_
            refine A_iconst d_MD_voicePart_342 rfl ?_
            refine A_iastorek (KR := kM (pm [3, 4, 5, 6, 7, 8, 9, 10, 11, 12, 43, 63, 64] [201, 202, 203, 204, 205, 206, 207, 208, 209, 210, 211, 212, 213, 214, 215, 216]) h) d_MD_voicePart_343 (mi_s k187.1 sf_214) (by first | (clear hps; omega) | omega) (by first | (clear hps; omega) | omega) (kM_i k187 (by decide) rfl (mr_214 _) (by first | (clear hps; omega) | omega) (by first | (clear hps; omega) | omega)) (fun h190 k191 eh190 => ?_)
            refine A_aload_n 0 d_MD_voicePart_344 rfl rfl ?_
            refine A_iconst d_MD_voicePart_345 rfl ?_
            have zf193 := ((eh190.1 _ _ (fun q => absurd q (by decide))).trans ((eh186.1 _ _ (fun q => absurd q (by decide))).trans esd1.symm))
            have zf194 := ((eh190.1 _ _ (fun q => absurd q (by decide))).trans ((eh186.1 _ _ (fun q => absurd q (by decide))).trans esd2.symm))
            have zf195 := ((eh190.1 _ _ (fun q => absurd q (by decide))).trans ((eh186.1 _ _ (fun q => absurd q (by decide))).trans esd3.symm))
            have zf196 := ((eh190.1 _ _ (fun q => absurd q (by decide))).trans ((eh186.1 _ _ (fun q => absurd q (by decide))).trans esd4.symm))
            have zf197 := ((eh190.1 _ _ (fun q => absurd q (by decide))).trans ((eh186.1 _ _ (fun q => absurd q (by decide))).trans esd5.symm))
            refine A_callV1 m_MD_put T_ok d_MD_voicePart_346 l_MD_369 k_MD_put (mi_s k191.1 sf_170) rfl (by decide +kernel) (by decide) (Nat.le_of_ble_eq_true rfl) (s_MD_put k191.1 (by first | (clear hps; omega) | omega) (by first | (clear hps; omega) | omega) ((eh190.1 _ _ (fun q => absurd q (by decide))).trans ((eh186.1 _ _ (fun q => absurd q (by decide))).trans esd3.symm)) (by first | (clear hps; omega) | omega)) (fun r h192 hq => ?_)
            obtain ⟨rfl, xk198, k198⟩ := hq
            have k199 := kM_t k191 k198 (pm_s (by decide) (by decide))
            refine A_aload_n 0 d_MD_voicePart_349 rfl rfl ?_
            refine A_getAv (z := some 216) T_ok d_MD_voicePart_350 f_MD_151 (mi_s k199.1 sf_170) (mi_r k199.1 rfm_62) ?_
            refine A_aload_n 0 d_MD_voicePart_353 rfl rfl ?_
            refine A_getIv (z := sd4) T_ok d_MD_voicePart_354 f_MD_357 (mi_s k199.1 sf_170) ((k198.2.2.1 _ _ rfl).trans ((eh190.1 _ _ (fun q => absurd q (by decide))).trans ((eh186.1 _ _ (fun q => absurd q (by decide))).trans esd4.symm))) ?_
            refine A_iconst d_MD_voicePart_357 rfl ?_
            refine A_pc (pc' := 358) rfl ?_
            refine A_iastorek (KR := kM (pm [3, 4, 5, 6, 7, 8, 9, 10, 11, 12, 43, 63, 64] [201, 202, 203, 204, 205, 206, 207, 208, 209, 210, 211, 212, 213, 214, 215, 216]) h) d_MD_voicePart_358 (mi_s k199.1 sf_216) (by first | (clear hps; omega) | omega) (by first | (clear hps; omega) | omega) (kM_i k199 (by decide) rfl (mr_216 _) (by first | (clear hps; omega) | omega) (by first | (clear hps; omega) | omega)) (fun h202 k203 eh202 => ?_)
            refine A_aload_n 0 d_MD_voicePart_359 rfl rfl ?_
            refine A_dupR d_MD_voicePart_360 ?_
            refine A_getIv (z := sd4) T_ok d_MD_voicePart_361 f_MD_357 (mi_s k203.1 sf_170) ((eh202.1 _ _ (fun q => absurd q (by decide))).trans ((k198.2.2.1 _ _ rfl).trans ((eh190.1 _ _ (fun q => absurd q (by decide))).trans ((eh186.1 _ _ (fun q => absurd q (by decide))).trans esd4.symm)))) ?_
            refine A_iconst d_MD_voicePart_364 rfl ?_
            refine A_iaddv (z := (sd4 + 1)) d_MD_voicePart_365 (w32_to (by first | (clear hps; omega) | omega) (by unfold i32; first | (clear hps; omega) | omega)) ?_
            refine A_pc (pc' := 366) rfl ?_
            refine A_putIk (KR := kM (pm [3, 4, 5, 6, 7, 8, 9, 10, 11, 12, 43, 63, 64] [201, 202, 203, 204, 205, 206, 207, 208, 209, 210, 211, 212, 213, 214, 215, 216]) h) T_ok d_MD_voicePart_366 f_MD_357 (mi_s k203.1 sf_170) fin_f (kM_i k203 (by decide) (by decide) mr_170_63 (by first | (clear hps; omega) | omega) (by first | (clear hps; omega) | omega)) (fun h205 k206 eh205 => ?_)
            refine A_aload_n 0 d_MD_voicePart_369 rfl rfl ?_
            have zf208 := ((eh205.1 _ _ (fun _ => by decide)).trans ((eh202.1 _ _ (fun q => absurd q (by decide))).trans ((k198.2.2.1 _ _ rfl).trans ((eh190.1 _ _ (fun q => absurd q (by decide))).trans ((eh186.1 _ _ (fun q => absurd q (by decide))).trans esd1.symm)))))
            have zf209 := ((eh205.1 _ _ (fun _ => by decide)).trans ((eh202.1 _ _ (fun q => absurd q (by decide))).trans ((k198.2.2.1 _ _ rfl).trans ((eh190.1 _ _ (fun q => absurd q (by decide))).trans ((eh186.1 _ _ (fun q => absurd q (by decide))).trans esd2.symm)))))
            have zf210 := ((eh205.1 _ _ (fun _ => by decide)).trans ((eh202.1 _ _ (fun q => absurd q (by decide))).trans xk198.1))
            have zf211 := eh205.2.1
            have zf212 := ((eh205.1 _ _ (fun _ => by decide)).trans ((eh202.1 _ _ (fun q => absurd q (by decide))).trans ((k198.2.2.1 _ _ rfl).trans ((eh190.1 _ _ (fun q => absurd q (by decide))).trans ((eh186.1 _ _ (fun q => absurd q (by decide))).trans esd5.symm)))))
            refine A_callV0 m_MD_next T_ok d_MD_voicePart_370 l_MD_309 k_MD_next (mi_s k206.1 sf_170) rfl (by decide +kernel) (by decide) (Nat.le_of_ble_eq_true rfl) (s_MD_next k206.1 (by have qq0 := ((eh205.1 _ _ (fun _ => by decide)).trans ((eh202.1 _ _ (fun q => absurd q (by decide))).trans ((k198.2.2.1 _ _ rfl).trans ((eh190.1 _ _ (fun q => absurd q (by decide))).trans ((eh186.1 _ _ (fun q => absurd q (by decide))).trans esd1.symm))))); have qq1 := ((eh205.1 _ _ (fun _ => by decide)).trans ((eh202.1 _ _ (fun q => absurd q (by decide))).trans ((k198.2.2.1 _ _ rfl).trans ((eh190.1 _ _ (fun q => absurd q (by decide))).trans ((eh186.1 _ _ (fun q => absurd q (by decide))).trans esd2.symm))))); first | (clear hps; omega) | omega)) (fun r h207 hq => ?_)
            obtain ⟨x214, rfl, ⟨_, _⟩, xx214, k213⟩ := hq
            have xa214 := xx214.1
            have xb214 := xx214.2.1
            have k215 := kM_t k206 k213 (pm_s (by decide) (by decide))
            obtain ⟨sd216, esd216⟩ : ∃ x, x = h207.2.1 170 3 := ⟨_, rfl⟩
            have rsd216 : 0 ≤ sd216 ∧ sd216 ≤ 2000 := (by rw [esd216]; exact mi_g k215.1 (by decide) mr_170_3)
            obtain ⟨sd217, esd217⟩ : ∃ x, x = h207.2.1 170 4 := ⟨_, rfl⟩
            have rsd217 : 0 ≤ sd217 ∧ sd217 ≤ 6 := (by rw [esd217]; exact mi_g k215.1 (by decide) mr_170_4)
            exact A_zret d_MD_voicePart_373 (by decide) rfl (by first | (clear hps; omega) | omega) ⟨_, rfl, by first | (clear hps; omega) | omega, (fun hz => ⟨by first | (clear hps; omega) | omega, (by have qq0 := esd216.symm; have qq1 := ((k213.2.2.1 _ _ rfl).trans ((eh205.1 _ _ (fun _ => by decide)).trans ((eh202.1 _ _ (fun q => absurd q (by decide))).trans ((k198.2.2.1 _ _ rfl).trans ((eh190.1 _ _ (fun q => absurd q (by decide))).trans ((eh186.1 _ _ (fun q => absurd q (by decide))).trans esd2.symm)))))); have qq2 := esd217.symm; exact ⟨by first | (clear hps; omega) | omega, by first | (clear hps; omega) | omega, by first | (clear hps; omega) | omega, by first | (clear hps; omega) | omega⟩), (by have qq0 := esd216.symm; have qq1 := ((k213.2.2.1 _ _ rfl).trans ((eh205.1 _ _ (fun _ => by decide)).trans ((eh202.1 _ _ (fun q => absurd q (by decide))).trans ((k198.2.2.1 _ _ rfl).trans ((eh190.1 _ _ (fun q => absurd q (by decide))).trans ((eh186.1 _ _ (fun q => absurd q (by decide))).trans esd2.symm)))))); have qq2 := esd217.symm; have qq3 := ((k213.2.2.1 _ _ rfl).trans ((eh205.1 _ _ (fun _ => by decide)).trans ((eh202.1 _ _ (fun q => absurd q (by decide))).trans xk198.1))); exact ⟨by first | (clear hps; omega) | omega, by first | (clear hps; omega) | omega⟩), VH_o (x := sd3) (m := sd4) (c := 2) hVH esd3.symm esd4.symm (by first | (clear hps; omega) | omega) ((k213.2.2.1 _ _ rfl).trans ((eh205.1 _ _ (fun _ => by decide)).trans ((eh202.1 _ _ (fun q => absurd q (by decide))).trans xk198.1))) ((k213.2.2.1 _ _ rfl).trans eh205.2.1) (by decide) (fun k hk => ((k213.2.2.1 201 k rfl).trans ((eh205.1 201 k (fun q => absurd q (by decide))).trans ((eh202.1 201 k (fun q => absurd q (by decide))).trans ((xk198.2.1 k hk).trans ((eh190.1 201 k (fun q => absurd q (by decide))).trans (eh186.1 201 k (fun q => absurd q (by decide))))))))) ((k213.2.2.1 _ _ rfl).trans ((eh205.1 _ _ (fun q => absurd q (by decide))).trans ((eh202.1 _ _ (fun q => absurd q (by decide))).trans xk198.2.2))) (fun k hk => ((k213.2.2.1 202 k rfl).trans ((eh205.1 202 k (fun q => absurd q (by decide))).trans ((eh202.1 202 k (fun q => absurd q (by decide))).trans ((k198.2.2.1 202 k rfl).trans ((eh190.1 202 k (fun q => absurd q (by decide))).trans (eh186.1 202 k (fun q => absurd q (by decide))))))))) (fun k hk => ((k213.2.2.1 203 k rfl).trans ((eh205.1 203 k (fun q => absurd q (by decide))).trans ((eh202.1 203 k (fun q => absurd q (by decide))).trans ((k198.2.2.1 203 k rfl).trans ((eh190.1 203 k (fun q => absurd q (by decide))).trans (eh186.1 203 k (fun q => absurd q (by decide))))))))) (fun q => absurd q (by decide)) (fun k hk => ((k213.2.2.1 214 k rfl).trans ((eh205.1 214 k (fun q => absurd q (by decide))).trans ((eh202.1 214 k (fun q => absurd q (by decide))).trans ((k198.2.2.1 214 k rfl).trans ((eh190.1 214 k (fun _ => hk)).trans (eh186.1 214 k (fun q => absurd q (by decide))))))))) (fun _ => ((k213.2.2.1 _ _ rfl).trans ((eh205.1 _ _ (fun q => absurd q (by decide))).trans ((eh202.1 _ _ (fun q => absurd q (by decide))).trans ((k198.2.2.1 _ _ rfl).trans eh190.2.1))))) (fun k hk => ((k213.2.2.1 215 k rfl).trans ((eh205.1 215 k (fun q => absurd q (by decide))).trans ((eh202.1 215 k (fun q => absurd q (by decide))).trans ((k198.2.2.1 215 k rfl).trans ((eh190.1 215 k (fun q => absurd q (by decide))).trans (eh186.1 215 k (fun _ => hk)))))))) ((k213.2.2.1 _ _ rfl).trans ((eh205.1 _ _ (fun q => absurd q (by decide))).trans ((eh202.1 _ _ (fun q => absurd q (by decide))).trans ((k198.2.2.1 _ _ rfl).trans ((eh190.1 _ _ (fun q => absurd q (by decide))).trans eh186.2.1))))) (fun k hk => ((k213.2.2.1 216 k rfl).trans ((eh205.1 216 k (fun q => absurd q (by decide))).trans ((eh202.1 216 k (fun _ => hk)).trans ((k198.2.2.1 216 k rfl).trans ((eh190.1 216 k (fun q => absurd q (by decide))).trans (eh186.1 216 k (fun q => absurd q (by decide))))))))) ((k213.2.2.1 _ _ rfl).trans ((eh205.1 _ _ (fun q => absurd q (by decide))).trans eh202.2.1)) (by intro a ha; simp only [List.mem_cons, List.not_mem_nil, or_false] at ha; rcases ha with rfl | rfl | rfl | rfl ; exact (funext (fun k => ((k213.2.2.1 210 k rfl).trans ((eh205.1 210 k (fun q => absurd q (by decide))).trans ((eh202.1 210 k (fun q => absurd q (by decide))).trans ((k198.2.2.1 210 k rfl).trans ((eh190.1 210 k (fun q => absurd q (by decide))).trans (eh186.1 210 k (fun q => absurd q (by decide)))))))))) ; exact (funext (fun k => ((k213.2.2.1 211 k rfl).trans ((eh205.1 211 k (fun q => absurd q (by decide))).trans ((eh202.1 211 k (fun q => absurd q (by decide))).trans ((k198.2.2.1 211 k rfl).trans ((eh190.1 211 k (fun q => absurd q (by decide))).trans (eh186.1 211 k (fun q => absurd q (by decide)))))))))) ; exact (funext (fun k => ((k213.2.2.1 212 k rfl).trans ((eh205.1 212 k (fun q => absurd q (by decide))).trans ((eh202.1 212 k (fun q => absurd q (by decide))).trans ((k198.2.2.1 212 k rfl).trans ((eh190.1 212 k (fun q => absurd q (by decide))).trans (eh186.1 212 k (fun q => absurd q (by decide)))))))))) ; exact (funext (fun k => ((k213.2.2.1 213 k rfl).trans ((eh205.1 213 k (fun q => absurd q (by decide))).trans ((eh202.1 213 k (fun q => absurd q (by decide))).trans ((k198.2.2.1 213 k rfl).trans ((eh190.1 213 k (fun q => absurd q (by decide))).trans (eh186.1 213 k (fun q => absurd q (by decide)))))))))))⟩), k215⟩
        · refine A_aload_n 0 d_MD_voicePart_302 rfl rfl ?_
          refine A_iconst d_MD_voicePart_303 rfl ?_
          have zf219 := esd1.symm
          have zf220 := esd2.symm
          have zf221 := esd3.symm
          have zf222 := esd4.symm
          have zf223 := esd5.symm
          refine A_callV1 m_MD_put T_ok d_MD_voicePart_304 l_MD_369 k_MD_put (mi_s k0.1 sf_170) rfl (by decide +kernel) (by decide) (Nat.le_of_ble_eq_true rfl) (s_MD_put k0.1 (by first | (clear hps; omega) | omega) (by first | (clear hps; omega) | omega) esd3.symm (by first | (clear hps; omega) | omega)) (fun r h218 hq => ?_)
          obtain ⟨rfl, xk224, k224⟩ := hq
          have k225 := kM_t k0 k224 (pm_s (by decide) (by decide))
          refine A_aload_n 0 d_MD_voicePart_307 rfl rfl ?_
          have zf227 := ((k224.2.2.1 _ _ rfl).trans esd1.symm)
          have zf228 := ((k224.2.2.1 _ _ rfl).trans esd2.symm)
          have zf229 := xk224.1
          have zf230 := ((k224.2.2.1 _ _ rfl).trans esd4.symm)
          have zf231 := ((k224.2.2.1 _ _ rfl).trans esd5.symm)
          refine A_callV0 m_MD_next T_ok d_MD_voicePart_308 l_MD_309 k_MD_next (mi_s k225.1 sf_170) rfl (by decide +kernel) (by decide) (Nat.le_of_ble_eq_true rfl) (s_MD_next k225.1 (by have qq0 := ((k224.2.2.1 _ _ rfl).trans esd1.symm); have qq1 := ((k224.2.2.1 _ _ rfl).trans esd2.symm); first | (clear hps; omega) | omega)) (fun r h226 hq => ?_)
          obtain ⟨x233, rfl, ⟨_, _⟩, xx233, k232⟩ := hq
          have xa233 := xx233.1
          have xb233 := xx233.2.1
          have k234 := kM_t k225 k232 (pm_s (by decide) (by decide))
          obtain ⟨sd235, esd235⟩ : ∃ x, x = h226.2.1 170 3 := ⟨_, rfl⟩
          have rsd235 : 0 ≤ sd235 ∧ sd235 ≤ 2000 := (by rw [esd235]; exact mi_g k234.1 (by decide) mr_170_3)
          obtain ⟨sd236, esd236⟩ : ∃ x, x = h226.2.1 170 4 := ⟨_, rfl⟩
          have rsd236 : 0 ≤ sd236 ∧ sd236 ≤ 6 := (by rw [esd236]; exact mi_g k234.1 (by decide) mr_170_4)
          exact A_zret d_MD_voicePart_311 (by decide) rfl (by first | (clear hps; omega) | omega) ⟨_, rfl, by first | (clear hps; omega) | omega, (fun hz => ⟨by first | (clear hps; omega) | omega, (by have qq0 := esd235.symm; have qq1 := ((k232.2.2.1 _ _ rfl).trans ((k224.2.2.1 _ _ rfl).trans esd2.symm)); have qq2 := esd236.symm; exact ⟨by first | (clear hps; omega) | omega, by first | (clear hps; omega) | omega, by first | (clear hps; omega) | omega, by first | (clear hps; omega) | omega⟩), (by have qq0 := esd235.symm; have qq1 := ((k232.2.2.1 _ _ rfl).trans ((k224.2.2.1 _ _ rfl).trans esd2.symm)); have qq2 := esd236.symm; have qq3 := ((k232.2.2.1 _ _ rfl).trans xk224.1); exact ⟨by first | (clear hps; omega) | omega, by first | (clear hps; omega) | omega⟩), VH_s (x := sd3) hVH esd3.symm ((k232.2.2.1 _ _ rfl).trans xk224.1) (((k232.2.2.1 170 63 rfl).trans (k224.2.2.1 170 63 rfl))) (fun k hk => ((k232.2.2.1 201 k rfl).trans (xk224.2.1 k hk))) (Or.inl ((k232.2.2.1 _ _ rfl).trans xk224.2.2)) (fun k hk => ((k232.2.2.1 202 k rfl).trans (k224.2.2.1 202 k rfl))) (by intro a ha; simp only [List.mem_cons, List.not_mem_nil, or_false] at ha; rcases ha with rfl | rfl | rfl | rfl | rfl | rfl | rfl | rfl ; exact (funext (fun k => ((k232.2.2.1 203 k rfl).trans (k224.2.2.1 203 k rfl)))) ; exact (funext (fun k => ((k232.2.2.1 210 k rfl).trans (k224.2.2.1 210 k rfl)))) ; exact (funext (fun k => ((k232.2.2.1 211 k rfl).trans (k224.2.2.1 211 k rfl)))) ; exact (funext (fun k => ((k232.2.2.1 212 k rfl).trans (k224.2.2.1 212 k rfl)))) ; exact (funext (fun k => ((k232.2.2.1 213 k rfl).trans (k224.2.2.1 213 k rfl)))) ; exact (funext (fun k => ((k232.2.2.1 214 k rfl).trans (k224.2.2.1 214 k rfl)))) ; exact (funext (fun k => ((k232.2.2.1 215 k rfl).trans (k224.2.2.1 215 k rfl)))) ; exact (funext (fun k => ((k232.2.2.1 216 k rfl).trans (k224.2.2.1 216 k rfl)))))⟩), k234⟩
      · refine A_aload_n 0 d_MD_voicePart_223 rfl rfl ?_
        refine A_bipush d_MD_voicePart_224 rfl ?_
        have zf238 := esd1.symm
        have zf239 := esd2.symm
        have zf240 := esd3.symm
        have zf241 := esd4.symm
        have zf242 := esd5.symm
        refine A_callV1 m_MD_isSign T_ok d_MD_voicePart_226 l_MD_306 k_MD_isSign (mi_s k0.1 sf_170) rfl (by decide +kernel) (by decide) (Nat.le_of_ble_eq_true rfl) (s_MD_isSign k0.1 ) (fun r h237 hq => ?_)
        obtain ⟨x244, rfl, bx244, xx244, rfl⟩ := hq
        refine A_if_ne (tgt := 259) d_MD_voicePart_229 (by decide) (fun c245 => ?_) (fun c245 => ?_)
        · refine A_iconst d_MD_voicePart_259 rfl ?_
          refine A_goto (tgt := 264) d_MD_voicePart_260 (by decide) ?_
          refine A_istore_n 1 (L' := [some (av_R (some 170)), some (av_I 1), none]) d_MD_voicePart_264 rfl (Nat.le_of_ble_eq_true rfl) rfl ?_
          refine A_iload_n 1 d_MD_voicePart_265 rfl rfl ?_
          refine A_if_ne (tgt := 274) d_MD_voicePart_266 (by decide) (fun _ => ?_) (fun c => absurd c (by decide))
          refine A_aload_n 0 d_MD_voicePart_274 rfl rfl ?_
          refine A_getIv (z := sd4) T_ok d_MD_voicePart_275 f_MD_357 (mi_s k0.1 sf_170) esd4.symm ?_
          refine A_bipush d_MD_voicePart_278 rfl ?_
          refine A_icmp_le (tgt := 293) d_MD_voicePart_280 (by decide) (fun c248 => ?_) (fun c => False.elim (by first | (clear hps; omega) | omega))
          refine A_aload_n 0 d_MD_voicePart_293 rfl rfl ?_
          refine A_bipush d_MD_voicePart_294 rfl ?_
          have zf250 := esd1.symm
          have zf251 := esd2.symm
          have zf252 := esd3.symm
          have zf253 := esd4.symm
          have zf254 := esd5.symm
          refine A_callV1 m_MD_isSign T_ok d_MD_voicePart_296 l_MD_306 k_MD_isSign (mi_s k0.1 sf_170) rfl (by decide +kernel) (by decide) (Nat.le_of_ble_eq_true rfl) (s_MD_isSign k0.1 ) (fun r h249 hq => ?_)
          obtain ⟨x256, rfl, bx256, xx256, rfl⟩ := hq
          refine A_if_eq (tgt := 312) d_MD_voicePart_299 (by decide) (fun c257 => ?_) (fun c257 => ?_)
          · refine A_aload_n 0 d_MD_voicePart_312 rfl rfl ?_
            refine A_bipush d_MD_voicePart_313 rfl ?_
            have zf259 := esd1.symm
            have zf260 := esd2.symm
            have zf261 := esd3.symm
            have zf262 := esd4.symm
            have zf263 := esd5.symm
            refine A_callV1 m_MD_isSign T_ok d_MD_voicePart_315 l_MD_306 k_MD_isSign (mi_s k0.1 sf_170) rfl (by decide +kernel) (by decide) (Nat.le_of_ble_eq_true rfl) (s_MD_isSign k0.1 ) (fun r h258 hq => ?_)
            obtain ⟨x265, rfl, bx265, xx265, rfl⟩ := hq
            refine A_if_eq (tgt := 374) d_MD_voicePart_318 (by decide) (fun c266 => ?_) (fun c266 => ?_)
            · refine A_aload_n 0 d_MD_voicePart_374 rfl rfl ?_
              refine A_bipush d_MD_voicePart_375 rfl ?_
              have zf268 := esd1.symm
              have zf269 := esd2.symm
              have zf270 := esd3.symm
              have zf271 := esd4.symm
              have zf272 := esd5.symm
              refine A_callV1 m_MD_isSign T_ok d_MD_voicePart_377 l_MD_306 k_MD_isSign (mi_s k0.1 sf_170) rfl (by decide +kernel) (by decide) (Nat.le_of_ble_eq_true rfl) (s_MD_isSign k0.1 ) (fun r h267 hq => ?_)
              obtain ⟨x274, rfl, bx274, xx274, rfl⟩ := hq
              refine A_if_eq (tgt := 388) d_MD_voicePart_380 (by decide) (fun c275 => ?_) (fun c275 => ?_)
              · refine A_aload_n 0 d_MD_voicePart_388 rfl rfl ?_
                have zf277 := esd1.symm
                have zf278 := esd2.symm
                have zf279 := esd3.symm
                have zf280 := esd4.symm
                have zf281 := esd5.symm
                refine A_callV0 m_MD_soundPart T_ok d_MD_voicePart_389 l_MD_375 k_MD_soundPart (mi_s k0.1 sf_170) rfl (by decide +kernel) (by decide) (Nat.le_of_ble_eq_true rfl) (s_MD_soundPart k0.1 (by have qq0 := esd1.symm; have qq1 := esd2.symm; first | (clear hps; omega) | omega) (by have qq0 := esd1.symm; have qq1 := esd2.symm; have qq2 := esd5.symm; have qq3 := esd3.symm; exact ⟨by first | (clear hps; omega) | omega, by first | (clear hps; omega) | omega⟩) (by have qq0 := esd5.symm; exact ⟨by first | (clear hps; omega) | omega, by first | (clear hps; omega) | omega⟩) hVH) (fun r h276 hq => ?_)
                obtain ⟨x283, rfl, bx283, xx283, k282⟩ := hq
                have k284 := kM_t k0 k282 (pm_s (by decide) (by decide))
                obtain ⟨sd285, esd285⟩ : ∃ x, x = h276.2.1 170 3 := ⟨_, rfl⟩
                have rsd285 : 0 ≤ sd285 ∧ sd285 ≤ 2000 := (by rw [esd285]; exact mi_g k284.1 (by decide) mr_170_3)
                obtain ⟨sd286, esd286⟩ : ∃ x, x = h276.2.1 170 43 := ⟨_, rfl⟩
                have rsd286 : 0 ≤ sd286 ∧ sd286 ≤ 2001 := (by rw [esd286]; exact mi_g k284.1 (by decide) mr_170_43)
                obtain ⟨sd287, esd287⟩ : ∃ x, x = h276.2.1 170 4 := ⟨_, rfl⟩
                have rsd287 : 0 ≤ sd287 ∧ sd287 ≤ 6 := (by rw [esd287]; exact mi_g k284.1 (by decide) mr_170_4)
                exact A_zret d_MD_voicePart_392 (by decide) rfl (by first | (clear hps; omega) | omega) ⟨_, rfl, by first | (clear hps; omega) | omega, (fun hz => ⟨by first | (clear hps; omega) | omega, (by have qq0 := esd285.symm; have qq1 := ((k282.2.2.1 _ _ rfl).trans esd2.symm); have qq2 := esd287.symm; exact ⟨by first | (clear hps; omega) | omega, by first | (clear hps; omega) | omega, by first | (clear hps; omega) | omega, by first | (clear hps; omega) | omega⟩), (by have qq0 := esd285.symm; have qq1 := ((k282.2.2.1 _ _ rfl).trans esd2.symm); have qq2 := esd287.symm; have qq3 := esd286.symm; exact ⟨by first | (clear hps; omega) | omega, by first | (clear hps; omega) | omega⟩), (xx283 hz).2.2⟩), k284⟩
              · refine A_aload_n 0 d_MD_voicePart_383 rfl rfl ?_
                have zf289 := esd1.symm
                have zf290 := esd2.symm
                have zf291 := esd3.symm
                have zf292 := esd4.symm
                have zf293 := esd5.symm
                refine A_callV0 m_MD_timesPart T_ok d_MD_voicePart_384 l_MD_372 k_MD_timesPart (mi_s k0.1 sf_170) rfl (by decide +kernel) (by decide) (Nat.le_of_ble_eq_true rfl) (s_MD_timesPart k0.1 (by have qq0 := esd1.symm; have qq1 := esd2.symm; first | (clear hps; omega) | omega) (by have qq0 := esd1.symm; have qq1 := esd2.symm; have qq2 := esd5.symm; have qq3 := esd3.symm; exact ⟨by first | (clear hps; omega) | omega, by first | (clear hps; omega) | omega⟩) (by have qq0 := esd5.symm; exact ⟨by first | (clear hps; omega) | omega, by first | (clear hps; omega) | omega⟩) hVH (by have qq0 := esd4.symm; first | (clear hps; omega) | omega)) (fun r h288 hq => ?_)
                obtain ⟨x295, rfl, bx295, xx295, k294⟩ := hq
                have k296 := kM_t k0 k294 (pm_s (by decide) (by decide))
                obtain ⟨sd297, esd297⟩ : ∃ x, x = h288.2.1 170 3 := ⟨_, rfl⟩
                have rsd297 : 0 ≤ sd297 ∧ sd297 ≤ 2000 := (by rw [esd297]; exact mi_g k296.1 (by decide) mr_170_3)
                obtain ⟨sd298, esd298⟩ : ∃ x, x = h288.2.1 170 43 := ⟨_, rfl⟩
                have rsd298 : 0 ≤ sd298 ∧ sd298 ≤ 2001 := (by rw [esd298]; exact mi_g k296.1 (by decide) mr_170_43)
                obtain ⟨sd299, esd299⟩ : ∃ x, x = h288.2.1 170 63 := ⟨_, rfl⟩
                have rsd299 : 0 ≤ sd299 ∧ sd299 ≤ 7 := (by rw [esd299]; exact mi_g k296.1 (by decide) mr_170_63)
                obtain ⟨sd300, esd300⟩ : ∃ x, x = h288.2.1 170 4 := ⟨_, rfl⟩
                have rsd300 : 0 ≤ sd300 ∧ sd300 ≤ 6 := (by rw [esd300]; exact mi_g k296.1 (by decide) mr_170_4)
                exact A_zret d_MD_voicePart_387 (by decide) rfl (by first | (clear hps; omega) | omega) ⟨_, rfl, by first | (clear hps; omega) | omega, (fun hz => ⟨by first | (clear hps; omega) | omega, (by have qq0 := esd297.symm; have qq1 := ((k294.2.2.1 _ _ rfl).trans esd2.symm); have qq2 := esd300.symm; exact ⟨by first | (clear hps; omega) | omega, by first | (clear hps; omega) | omega, by first | (clear hps; omega) | omega, by first | (clear hps; omega) | omega⟩), (by have qq0 := esd297.symm; have qq1 := ((k294.2.2.1 _ _ rfl).trans esd2.symm); have qq2 := esd300.symm; have qq3 := esd298.symm; exact ⟨by first | (clear hps; omega) | omega, by first | (clear hps; omega) | omega⟩), (xx295 hz).2.2⟩), k296⟩
            · refine A_aload_n 0 d_MD_voicePart_321 rfl rfl ?_
              refine A_getAv (z := some 215) T_ok d_MD_voicePart_322 f_MD_148 (mi_s k0.1 sf_170) (mi_r k0.1 rfm_58) ?_
              refine A_aload_n 0 d_MD_voicePart_325 rfl rfl ?_
              refine A_getIv (z := sd4) T_ok d_MD_voicePart_326 f_MD_357 (mi_s k0.1 sf_170) esd4.symm ?_
              refine A_aload_n 0 d_MD_voicePart_329 rfl rfl ?_
              refine A_pc (pc' := 330) rfl ?_
              refine A_getIv (z := sd3) T_ok d_MD_voicePart_330 f_MD_354 (mi_s k0.1 sf_170) esd3.symm ?_
              refine A_iastorek (KR := kM (pm [3, 4, 5, 6, 7, 8, 9, 10, 11, 12, 43, 63, 64] [201, 202, 203, 204, 205, 206, 207, 208, 209, 210, 211, 212, 213, 214, 215, 216]) h) d_MD_voicePart_333 (mi_s k0.1 sf_215) (by first | (clear hps; omega) | omega) (by first | (clear hps; omega) | omega) (kM_i k0 (by decide) rfl (mr_215 _) (by first | (clear hps; omega) | omega) (by first | (clear hps; omega) | omega)) (fun h304 k305 eh304 => ?_)
              refine A_aload_n 0 d_MD_voicePart_334 rfl rfl ?_
              refine A_getAv (z := some 214) T_ok d_MD_voicePart_335 f_MD_145 (mi_s k305.1 sf_170) (mi_r k305.1 rfm_57) ?_
              refine A_aload_n 0 d_MD_voicePart_338 rfl rfl ?_
              refine A_getIv (z := sd3) T_ok d_MD_voicePart_339 f_MD_354 (mi_s k305.1 sf_170) ((eh304.1 _ _ (fun q => absurd q (by decide))).trans esd3.symm) ?_
              refine A_pc (pc' := 342) rfl ?_
              refine A_iconst d_MD_voicePart_342 rfl ?_
              refine A_iastorek (KR := kM (pm [3, 4, 5, 6, 7, 8, 9, 10, 11, 12, 43, 63, 64] [201, 202, 203, 204, 205, 206, 207, 208, 209, 210, 211, 212, 213, 214, 215, 216]) h) d_MD_voicePart_343 (mi_s k305.1 sf_214) (by first | (clear hps; omega) | omega) (by first | (clear hps; omega) | omega) (kM_i k305 (by decide) rfl (mr_214 _) (by first | (clear hps; omega) | omega) (by first | (clear hps; omega) | omega)) (fun h308 k309 eh308 => ?_)
              refine A_aload_n 0 d_MD_voicePart_344 rfl rfl ?_
              refine A_iconst d_MD_voicePart_345 rfl ?_
              have zf311 := ((eh308.1 _ _ (fun q => absurd q (by decide))).trans ((eh304.1 _ _ (fun q => absurd q (by decide))).trans esd1.symm))
              have zf312 := ((eh308.1 _ _ (fun q => absurd q (by decide))).trans ((eh304.1 _ _ (fun q => absurd q (by decide))).trans esd2.symm))
              have zf313 := ((eh308.1 _ _ (fun q => absurd q (by decide))).trans ((eh304.1 _ _ (fun q => absurd q (by decide))).trans esd3.symm))
              have zf314 := ((eh308.1 _ _ (fun q => absurd q (by decide))).trans ((eh304.1 _ _ (fun q => absurd q (by decide))).trans esd4.symm))
              have zf315 := ((eh308.1 _ _ (fun q => absurd q (by decide))).trans ((eh304.1 _ _ (fun q => absurd q (by decide))).trans esd5.symm))
              refine A_callV1 m_MD_put T_ok d_MD_voicePart_346 l_MD_369 k_MD_put (mi_s k309.1 sf_170) rfl (by decide +kernel) (by decide) (Nat.le_of_ble_eq_true rfl) (s_MD_put k309.1 (by first | (clear hps; omega) | omega) (by first | (clear hps; omega) | omega) ((eh308.1 _ _ (fun q => absurd q (by decide))).trans ((eh304.1 _ _ (fun q => absurd q (by decide))).trans esd3.symm)) (by first | (clear hps; omega) | omega)) (fun r h310 hq => ?_)
              obtain ⟨rfl, xk316, k316⟩ := hq
              have k317 := kM_t k309 k316 (pm_s (by decide) (by decide))
              refine A_aload_n 0 d_MD_voicePart_349 rfl rfl ?_
              refine A_getAv (z := some 216) T_ok d_MD_voicePart_350 f_MD_151 (mi_s k317.1 sf_170) (mi_r k317.1 rfm_62) ?_
              refine A_aload_n 0 d_MD_voicePart_353 rfl rfl ?_
              refine A_getIv (z := sd4) T_ok d_MD_voicePart_354 f_MD_357 (mi_s k317.1 sf_170) ((k316.2.2.1 _ _ rfl).trans ((eh308.1 _ _ (fun q => absurd q (by decide))).trans ((eh304.1 _ _ (fun q => absurd q (by decide))).trans esd4.symm))) ?_
              refine A_iconst d_MD_voicePart_357 rfl ?_
              refine A_pc (pc' := 358) rfl ?_
              refine A_iastorek (KR := kM (pm [3, 4, 5, 6, 7, 8, 9, 10, 11, 12, 43, 63, 64] [201, 202, 203, 204, 205, 206, 207, 208, 209, 210, 211, 212, 213, 214, 215, 216]) h) d_MD_voicePart_358 (mi_s k317.1 sf_216) (by first | (clear hps; omega) | omega) (by first | (clear hps; omega) | omega) (kM_i k317 (by decide) rfl (mr_216 _) (by first | (clear hps; omega) | omega) (by first | (clear hps; omega) | omega)) (fun h320 k321 eh320 => ?_)
              refine A_aload_n 0 d_MD_voicePart_359 rfl rfl ?_
              refine A_dupR d_MD_voicePart_360 ?_
              refine A_getIv (z := sd4) T_ok d_MD_voicePart_361 f_MD_357 (mi_s k321.1 sf_170) ((eh320.1 _ _ (fun q => absurd q (by decide))).trans ((k316.2.2.1 _ _ rfl).trans ((eh308.1 _ _ (fun q => absurd q (by decide))).trans ((eh304.1 _ _ (fun q => absurd q (by decide))).trans esd4.symm)))) ?_
              refine A_iconst d_MD_voicePart_364 rfl ?_
              refine A_iaddv (z := (sd4 + 1)) d_MD_voicePart_365 (w32_to (by first | (clear hps; omega) | omega) (by unfold i32; first | (clear hps; omega) | omega)) ?_
              refine A_pc (pc' := 366) rfl ?_
              refine A_putIk (KR := kM (pm [3, 4, 5, 6, 7, 8, 9, 10, 11, 12, 43, 63, 64] [201, 202, 203, 204, 205, 206, 207, 208, 209, 210, 211, 212, 213, 214, 215, 216]) h) T_ok d_MD_voicePart_366 f_MD_357 (mi_s k321.1 sf_170) fin_f (kM_i k321 (by decide) (by decide) mr_170_63 (by first | (clear hps; omega) | omega) (by first | (clear hps; omega) | omega)) (fun h323 k324 eh323 => ?_)
              refine A_aload_n 0 d_MD_voicePart_369 rfl rfl ?_
              have zf326 := ((eh323.1 _ _ (fun _ => by decide)).trans ((eh320.1 _ _ (fun q => absurd q (by decide))).trans ((k316.2.2.1 _ _ rfl).trans ((eh308.1 _ _ (fun q => absurd q (by decide))).trans ((eh304.1 _ _ (fun q => absurd q (by decide))).trans esd1.symm)))))
              have zf327 := ((eh323.1 _ _ (fun _ => by decide)).trans ((eh320.1 _ _ (fun q => absurd q (by decide))).trans ((k316.2.2.1 _ _ rfl).trans ((eh308.1 _ _ (fun q => absurd q (by decide))).trans ((eh304.1 _ _ (fun q => absurd q (by decide))).trans esd2.symm)))))
              have zf328 := ((eh323.1 _ _ (fun _ => by decide)).trans ((eh320.1 _ _ (fun q => absurd q (by decide))).trans xk316.1))
              have zf329 := eh323.2.1
              have zf330 := ((eh323.1 _ _ (fun _ => by decide)).trans ((eh320.1 _ _ (fun q => absurd q (by decide))).trans ((k316.2.2.1 _ _ rfl).trans ((eh308.1 _ _ (fun q => absurd q (by decide))).trans ((eh304.1 _ _ (fun q => absurd q (by decide))).trans esd5.symm)))))
              refine A_callV0 m_MD_next T_ok d_MD_voicePart_370 l_MD_309 k_MD_next (mi_s k324.1 sf_170) rfl (by decide +kernel) (by decide) (Nat.le_of_ble_eq_true rfl) (s_MD_next k324.1 (by have qq0 := ((eh323.1 _ _ (fun _ => by decide)).trans ((eh320.1 _ _ (fun q => absurd q (by decide))).trans ((k316.2.2.1 _ _ rfl).trans ((eh308.1 _ _ (fun q => absurd q (by decide))).trans ((eh304.1 _ _ (fun q => absurd q (by decide))).trans esd1.symm))))); have qq1 := ((eh323.1 _ _ (fun _ => by decide)).trans ((eh320.1 _ _ (fun q => absurd q (by decide))).trans ((k316.2.2.1 _ _ rfl).trans ((eh308.1 _ _ (fun q => absurd q (by decide))).trans ((eh304.1 _ _ (fun q => absurd q (by decide))).trans esd2.symm))))); first | (clear hps; omega) | omega)) (fun r h325 hq => ?_)
              obtain ⟨x332, rfl, ⟨_, _⟩, xx332, k331⟩ := hq
              have xa332 := xx332.1
              have xb332 := xx332.2.1
              have k333 := kM_t k324 k331 (pm_s (by decide) (by decide))
              obtain ⟨sd334, esd334⟩ : ∃ x, x = h325.2.1 170 3 := ⟨_, rfl⟩
              have rsd334 : 0 ≤ sd334 ∧ sd334 ≤ 2000 := (by rw [esd334]; exact mi_g k333.1 (by decide) mr_170_3)
              obtain ⟨sd335, esd335⟩ : ∃ x, x = h325.2.1 170 4 := ⟨_, rfl⟩
              have rsd335 : 0 ≤ sd335 ∧ sd335 ≤ 6 := (by rw [esd335]; exact mi_g k333.1 (by decide) mr_170_4)
              exact A_zret d_MD_voicePart_373 (by decide) rfl (by first | (clear hps; omega) | omega) ⟨_, rfl, by first | (clear hps; omega) | omega, (fun hz => ⟨by first | (clear hps; omega) | omega, (by have qq0 := esd334.symm; have qq1 := ((k331.2.2.1 _ _ rfl).trans ((eh323.1 _ _ (fun _ => by decide)).trans ((eh320.1 _ _ (fun q => absurd q (by decide))).trans ((k316.2.2.1 _ _ rfl).trans ((eh308.1 _ _ (fun q => absurd q (by decide))).trans ((eh304.1 _ _ (fun q => absurd q (by decide))).trans esd2.symm)))))); have qq2 := esd335.symm; exact ⟨by first | (clear hps; omega) | omega, by first | (clear hps; omega) | omega, by first | (clear hps; omega) | omega, by first | (clear hps; omega) | omega⟩), (by have qq0 := esd334.symm; have qq1 := ((k331.2.2.1 _ _ rfl).trans ((eh323.1 _ _ (fun _ => by decide)).trans ((eh320.1 _ _ (fun q => absurd q (by decide))).trans ((k316.2.2.1 _ _ rfl).trans ((eh308.1 _ _ (fun q => absurd q (by decide))).trans ((eh304.1 _ _ (fun q => absurd q (by decide))).trans esd2.symm)))))); have qq2 := esd335.symm; have qq3 := ((k331.2.2.1 _ _ rfl).trans ((eh323.1 _ _ (fun _ => by decide)).trans ((eh320.1 _ _ (fun q => absurd q (by decide))).trans xk316.1))); exact ⟨by first | (clear hps; omega) | omega, by first | (clear hps; omega) | omega⟩), VH_o (x := sd3) (m := sd4) (c := 2) hVH esd3.symm esd4.symm (by first | (clear hps; omega) | omega) ((k331.2.2.1 _ _ rfl).trans ((eh323.1 _ _ (fun _ => by decide)).trans ((eh320.1 _ _ (fun q => absurd q (by decide))).trans xk316.1))) ((k331.2.2.1 _ _ rfl).trans eh323.2.1) (by decide) (fun k hk => ((k331.2.2.1 201 k rfl).trans ((eh323.1 201 k (fun q => absurd q (by decide))).trans ((eh320.1 201 k (fun q => absurd q (by decide))).trans ((xk316.2.1 k hk).trans ((eh308.1 201 k (fun q => absurd q (by decide))).trans (eh304.1 201 k (fun q => absurd q (by decide))))))))) ((k331.2.2.1 _ _ rfl).trans ((eh323.1 _ _ (fun q => absurd q (by decide))).trans ((eh320.1 _ _ (fun q => absurd q (by decide))).trans xk316.2.2))) (fun k hk => ((k331.2.2.1 202 k rfl).trans ((eh323.1 202 k (fun q => absurd q (by decide))).trans ((eh320.1 202 k (fun q => absurd q (by decide))).trans ((k316.2.2.1 202 k rfl).trans ((eh308.1 202 k (fun q => absurd q (by decide))).trans (eh304.1 202 k (fun q => absurd q (by decide))))))))) (fun k hk => ((k331.2.2.1 203 k rfl).trans ((eh323.1 203 k (fun q => absurd q (by decide))).trans ((eh320.1 203 k (fun q => absurd q (by decide))).trans ((k316.2.2.1 203 k rfl).trans ((eh308.1 203 k (fun q => absurd q (by decide))).trans (eh304.1 203 k (fun q => absurd q (by decide))))))))) (fun q => absurd q (by decide)) (fun k hk => ((k331.2.2.1 214 k rfl).trans ((eh323.1 214 k (fun q => absurd q (by decide))).trans ((eh320.1 214 k (fun q => absurd q (by decide))).trans ((k316.2.2.1 214 k rfl).trans ((eh308.1 214 k (fun _ => hk)).trans (eh304.1 214 k (fun q => absurd q (by decide))))))))) (fun _ => ((k331.2.2.1 _ _ rfl).trans ((eh323.1 _ _ (fun q => absurd q (by decide))).trans ((eh320.1 _ _ (fun q => absurd q (by decide))).trans ((k316.2.2.1 _ _ rfl).trans eh308.2.1))))) (fun k hk => ((k331.2.2.1 215 k rfl).trans ((eh323.1 215 k (fun q => absurd q (by decide))).trans ((eh320.1 215 k (fun q => absurd q (by decide))).trans ((k316.2.2.1 215 k rfl).trans ((eh308.1 215 k (fun q => absurd q (by decide))).trans (eh304.1 215 k (fun _ => hk)))))))) ((k331.2.2.1 _ _ rfl).trans ((eh323.1 _ _ (fun q => absurd q (by decide))).trans ((eh320.1 _ _ (fun q => absurd q (by decide))).trans ((k316.2.2.1 _ _ rfl).trans ((eh308.1 _ _ (fun q => absurd q (by decide))).trans eh304.2.1))))) (fun k hk => ((k331.2.2.1 216 k rfl).trans ((eh323.1 216 k (fun q => absurd q (by decide))).trans ((eh320.1 216 k (fun _ => hk)).trans ((k316.2.2.1 216 k rfl).trans ((eh308.1 216 k (fun q => absurd q (by decide))).trans (eh304.1 216 k (fun q => absurd q (by decide))))))))) ((k331.2.2.1 _ _ rfl).trans ((eh323.1 _ _ (fun q => absurd q (by decide))).trans eh320.2.1)) (by intro a ha; simp only [List.mem_cons, List.not_mem_nil, or_false] at ha; rcases ha with rfl | rfl | rfl | rfl ; exact (funext (fun k => ((k331.2.2.1 210 k rfl).trans ((eh323.1 210 k (fun q => absurd q (by decide))).trans ((eh320.1 210 k (fun q => absurd q (by decide))).trans ((k316.2.2.1 210 k rfl).trans ((eh308.1 210 k (fun q => absurd q (by decide))).trans (eh304.1 210 k (fun q => absurd q (by decide)))))))))) ; exact (funext (fun k => ((k331.2.2.1 211 k rfl).trans ((eh323.1 211 k (fun q => absurd q (by decide))).trans ((eh320.1 211 k (fun q => absurd q (by decide))).trans ((k316.2.2.1 211 k rfl).trans ((eh308.1 211 k (fun q => absurd q (by decide))).trans (eh304.1 211 k (fun q => absurd q (by decide)))))))))) ; exact (funext (fun k => ((k331.2.2.1 212 k rfl).trans ((eh323.1 212 k (fun q => absurd q (by decide))).trans ((eh320.1 212 k (fun q => absurd q (by decide))).trans ((k316.2.2.1 212 k rfl).trans ((eh308.1 212 k (fun q => absurd q (by decide))).trans (eh304.1 212 k (fun q => absurd q (by decide)))))))))) ; exact (funext (fun k => ((k331.2.2.1 213 k rfl).trans ((eh323.1 213 k (fun q => absurd q (by decide))).trans ((eh320.1 213 k (fun q => absurd q (by decide))).trans ((k316.2.2.1 213 k rfl).trans ((eh308.1 213 k (fun q => absurd q (by decide))).trans (eh304.1 213 k (fun q => absurd q (by decide)))))))))))⟩), k333⟩
          · refine A_aload_n 0 d_MD_voicePart_302 rfl rfl ?_
            refine A_iconst d_MD_voicePart_303 rfl ?_
            have zf337 := esd1.symm
            have zf338 := esd2.symm
            have zf339 := esd3.symm
            have zf340 := esd4.symm
            have zf341 := esd5.symm
            refine A_callV1 m_MD_put T_ok d_MD_voicePart_304 l_MD_369 k_MD_put (mi_s k0.1 sf_170) rfl (by decide +kernel) (by decide) (Nat.le_of_ble_eq_true rfl) (s_MD_put k0.1 (by first | (clear hps; omega) | omega) (by first | (clear hps; omega) | omega) esd3.symm (by first | (clear hps; omega) | omega)) (fun r h336 hq => ?_)
            obtain ⟨rfl, xk342, k342⟩ := hq
            have k343 := kM_t k0 k342 (pm_s (by decide) (by decide))
            refine A_aload_n 0 d_MD_voicePart_307 rfl rfl ?_
            have zf345 := ((k342.2.2.1 _ _ rfl).trans esd1.symm)
            have zf346 := ((k342.2.2.1 _ _ rfl).trans esd2.symm)
            have zf347 := xk342.1
            have zf348 := ((k342.2.2.1 _ _ rfl).trans esd4.symm)
            have zf349 := ((k342.2.2.1 _ _ rfl).trans esd5.symm)
            refine A_callV0 m_MD_next T_ok d_MD_voicePart_308 l_MD_309 k_MD_next (mi_s k343.1 sf_170) rfl (by decide +kernel) (by decide) (Nat.le_of_ble_eq_true rfl) (s_MD_next k343.1 (by have qq0 := ((k342.2.2.1 _ _ rfl).trans esd1.symm); have qq1 := ((k342.2.2.1 _ _ rfl).trans esd2.symm); first | (clear hps; omega) | omega)) (fun r h344 hq => ?_)
            obtain ⟨x351, rfl, ⟨_, _⟩, xx351, k350⟩ := hq
            have xa351 := xx351.1
            have xb351 := xx351.2.1
            have k352 := kM_t k343 k350 (pm_s (by decide) (by decide))
            obtain ⟨sd353, esd353⟩ : ∃ x, x = h344.2.1 170 3 := ⟨_, rfl⟩
            have rsd353 : 0 ≤ sd353 ∧ sd353 ≤ 2000 := (by rw [esd353]; exact mi_g k352.1 (by decide) mr_170_3)
            obtain ⟨sd354, esd354⟩ : ∃ x, x = h344.2.1 170 4 := ⟨_, rfl⟩
            have rsd354 : 0 ≤ sd354 ∧ sd354 ≤ 6 := (by rw [esd354]; exact mi_g k352.1 (by decide) mr_170_4)
            exact A_zret d_MD_voicePart_311 (by decide) rfl (by first | (clear hps; omega) | omega) ⟨_, rfl, by first | (clear hps; omega) | omega, (fun hz => ⟨by first | (clear hps; omega) | omega, (by have qq0 := esd353.symm; have qq1 := ((k350.2.2.1 _ _ rfl).trans ((k342.2.2.1 _ _ rfl).trans esd2.symm)); have qq2 := esd354.symm; exact ⟨by first | (clear hps; omega) | omega, by first | (clear hps; omega) | omega, by first | (clear hps; omega) | omega, by first | (clear hps; omega) | omega⟩), (by have qq0 := esd353.symm; have qq1 := ((k350.2.2.1 _ _ rfl).trans ((k342.2.2.1 _ _ rfl).trans esd2.symm)); have qq2 := esd354.symm; have qq3 := ((k350.2.2.1 _ _ rfl).trans xk342.1); exact ⟨by first | (clear hps; omega) | omega, by first | (clear hps; omega) | omega⟩), VH_s (x := sd3) hVH esd3.symm ((k350.2.2.1 _ _ rfl).trans xk342.1) (((k350.2.2.1 170 63 rfl).trans (k342.2.2.1 170 63 rfl))) (fun k hk => ((k350.2.2.1 201 k rfl).trans (xk342.2.1 k hk))) (Or.inl ((k350.2.2.1 _ _ rfl).trans xk342.2.2)) (fun k hk => ((k350.2.2.1 202 k rfl).trans (k342.2.2.1 202 k rfl))) (by intro a ha; simp only [List.mem_cons, List.not_mem_nil, or_false] at ha; rcases ha with rfl | rfl | rfl | rfl | rfl | rfl | rfl | rfl ; exact (funext (fun k => ((k350.2.2.1 203 k rfl).trans (k342.2.2.1 203 k rfl)))) ; exact (funext (fun k => ((k350.2.2.1 210 k rfl).trans (k342.2.2.1 210 k rfl)))) ; exact (funext (fun k => ((k350.2.2.1 211 k rfl).trans (k342.2.2.1 211 k rfl)))) ; exact (funext (fun k => ((k350.2.2.1 212 k rfl).trans (k342.2.2.1 212 k rfl)))) ; exact (funext (fun k => ((k350.2.2.1 213 k rfl).trans (k342.2.2.1 213 k rfl)))) ; exact (funext (fun k => ((k350.2.2.1 214 k rfl).trans (k342.2.2.1 214 k rfl)))) ; exact (funext (fun k => ((k350.2.2.1 215 k rfl).trans (k342.2.2.1 215 k rfl)))) ; exact (funext (fun k => ((k350.2.2.1 216 k rfl).trans (k342.2.2.1 216 k rfl)))))⟩), k352⟩
        · refine A_aload_n 0 d_MD_voicePart_232 rfl rfl ?_
          refine A_bipush d_MD_voicePart_233 rfl ?_
          have zf356 := esd1.symm
          have zf357 := esd2.symm
          have zf358 := esd3.symm
          have zf359 := esd4.symm
          have zf360 := esd5.symm
          refine A_callV1 m_MD_isSign T_ok d_MD_voicePart_235 l_MD_306 k_MD_isSign (mi_s k0.1 sf_170) rfl (by decide +kernel) (by decide) (Nat.le_of_ble_eq_true rfl) (s_MD_isSign k0.1 ) (fun r h355 hq => ?_)
          obtain ⟨x362, rfl, bx362, xx362, rfl⟩ := hq
          refine A_if_ne (tgt := 259) d_MD_voicePart_238 (by decide) (fun c363 => ?_) (fun c363 => ?_)
          · refine A_iconst d_MD_voicePart_259 rfl ?_
            refine A_goto (tgt := 264) d_MD_voicePart_260 (by decide) ?_
            refine A_istore_n 1 (L' := [some (av_R (some 170)), some (av_I 1), none]) d_MD_voicePart_264 rfl (Nat.le_of_ble_eq_true rfl) rfl ?_
            refine A_iload_n 1 d_MD_voicePart_265 rfl rfl ?_
            refine A_if_ne (tgt := 274) d_MD_voicePart_266 (by decide) (fun _ => ?_) (fun c => absurd c (by decide))
            refine A_aload_n 0 d_MD_voicePart_274 rfl rfl ?_
            refine A_getIv (z := sd4) T_ok d_MD_voicePart_275 f_MD_357 (mi_s k0.1 sf_170) esd4.symm ?_
            refine A_bipush d_MD_voicePart_278 rfl ?_
            refine A_icmp_le (tgt := 293) d_MD_voicePart_280 (by decide) (fun c366 => ?_) (fun c => False.elim (by first | (clear hps; omega) | omega))
            refine A_aload_n 0 d_MD_voicePart_293 rfl rfl ?_
            refine A_bipush d_MD_voicePart_294 rfl ?_
            have zf368 := esd1.symm
            have zf369 := esd2.symm
            have zf370 := esd3.symm
            have zf371 := esd4.symm
            have zf372 := esd5.symm
            refine A_callV1 m_MD_isSign T_ok d_MD_voicePart_296 l_MD_306 k_MD_isSign (mi_s k0.1 sf_170) rfl (by decide +kernel) (by decide) (Nat.le_of_ble_eq_true rfl) (s_MD_isSign k0.1 ) (fun r h367 hq => ?_)
            obtain ⟨x374, rfl, bx374, xx374, rfl⟩ := hq
            refine A_if_eq (tgt := 312) d_MD_voicePart_299 (by decide) (fun c375 => ?_) (fun c375 => ?_)
            · refine A_aload_n 0 d_MD_voicePart_312 rfl rfl ?_
              refine A_bipush d_MD_voicePart_313 rfl ?_
              have zf377 := esd1.symm
              have zf378 := esd2.symm
              have zf379 := esd3.symm
              have zf380 := esd4.symm
              have zf381 := esd5.symm
              refine A_callV1 m_MD_isSign T_ok d_MD_voicePart_315 l_MD_306 k_MD_isSign (mi_s k0.1 sf_170) rfl (by decide +kernel) (by decide) (Nat.le_of_ble_eq_true rfl) (s_MD_isSign k0.1 ) (fun r h376 hq => ?_)
              obtain ⟨x383, rfl, bx383, xx383, rfl⟩ := hq
              refine A_if_eq (tgt := 374) d_MD_voicePart_318 (by decide) (fun c384 => ?_) (fun c384 => ?_)
              · refine A_aload_n 0 d_MD_voicePart_374 rfl rfl ?_
                refine A_bipush d_MD_voicePart_375 rfl ?_
                have zf386 := esd1.symm
                have zf387 := esd2.symm
                have zf388 := esd3.symm
                have zf389 := esd4.symm
                have zf390 := esd5.symm
                refine A_callV1 m_MD_isSign T_ok d_MD_voicePart_377 l_MD_306 k_MD_isSign (mi_s k0.1 sf_170) rfl (by decide +kernel) (by decide) (Nat.le_of_ble_eq_true rfl) (s_MD_isSign k0.1 ) (fun r h385 hq => ?_)
                obtain ⟨x392, rfl, bx392, xx392, rfl⟩ := hq
                refine A_if_eq (tgt := 388) d_MD_voicePart_380 (by decide) (fun c393 => ?_) (fun c393 => ?_)
                · refine A_aload_n 0 d_MD_voicePart_388 rfl rfl ?_
                  have zf395 := esd1.symm
                  have zf396 := esd2.symm
                  have zf397 := esd3.symm
                  have zf398 := esd4.symm
                  have zf399 := esd5.symm
                  refine A_callV0 m_MD_soundPart T_ok d_MD_voicePart_389 l_MD_375 k_MD_soundPart (mi_s k0.1 sf_170) rfl (by decide +kernel) (by decide) (Nat.le_of_ble_eq_true rfl) (s_MD_soundPart k0.1 (by have qq0 := esd1.symm; have qq1 := esd2.symm; first | (clear hps; omega) | omega) (by have qq0 := esd1.symm; have qq1 := esd2.symm; have qq2 := esd5.symm; have qq3 := esd3.symm; exact ⟨by first | (clear hps; omega) | omega, by first | (clear hps; omega) | omega⟩) (by have qq0 := esd5.symm; exact ⟨by first | (clear hps; omega) | omega, by first | (clear hps; omega) | omega⟩) hVH) (fun r h394 hq => ?_)
                  obtain ⟨x401, rfl, bx401, xx401, k400⟩ := hq
                  have k402 := kM_t k0 k400 (pm_s (by decide) (by decide))
                  obtain ⟨sd403, esd403⟩ : ∃ x, x = h394.2.1 170 3 := ⟨_, rfl⟩
                  have rsd403 : 0 ≤ sd403 ∧ sd403 ≤ 2000 := (by rw [esd403]; exact mi_g k402.1 (by decide) mr_170_3)
                  obtain ⟨sd404, esd404⟩ : ∃ x, x = h394.2.1 170 43 := ⟨_, rfl⟩
                  have rsd404 : 0 ≤ sd404 ∧ sd404 ≤ 2001 := (by rw [esd404]; exact mi_g k402.1 (by decide) mr_170_43)
                  obtain ⟨sd405, esd405⟩ : ∃ x, x = h394.2.1 170 4 := ⟨_, rfl⟩
                  have rsd405 : 0 ≤ sd405 ∧ sd405 ≤ 6 := (by rw [esd405]; exact mi_g k402.1 (by decide) mr_170_4)
                  exact A_zret d_MD_voicePart_392 (by decide) rfl (by first | (clear hps; omega) | omega) ⟨_, rfl, by first | (clear hps; omega) | omega, (fun hz => ⟨by first | (clear hps; omega) | omega, (by have qq0 := esd403.symm; have qq1 := ((k400.2.2.1 _ _ rfl).trans esd2.symm); have qq2 := esd405.symm; exact ⟨by first | (clear hps; omega) | omega, by first | (clear hps; omega) | omega, by first | (clear hps; omega) | omega, by first | (clear hps; omega) | omega⟩), (by have qq0 := esd403.symm; have qq1 := ((k400.2.2.1 _ _ rfl).trans esd2.symm); have qq2 := esd405.symm; have qq3 := esd404.symm; exact ⟨by first | (clear hps; omega) | omega, by first | (clear hps; omega) | omega⟩), (xx401 hz).2.2⟩), k402⟩
                · refine A_aload_n 0 d_MD_voicePart_383 rfl rfl ?_
                  have zf407 := esd1.symm
                  have zf408 := esd2.symm
                  have zf409 := esd3.symm
                  have zf410 := esd4.symm
                  have zf411 := esd5.symm
                  refine A_callV0 m_MD_timesPart T_ok d_MD_voicePart_384 l_MD_372 k_MD_timesPart (mi_s k0.1 sf_170) rfl (by decide +kernel) (by decide) (Nat.le_of_ble_eq_true rfl) (s_MD_timesPart k0.1 (by have qq0 := esd1.symm; have qq1 := esd2.symm; first | (clear hps; omega) | omega) (by have qq0 := esd1.symm; have qq1 := esd2.symm; have qq2 := esd5.symm; have qq3 := esd3.symm; exact ⟨by first | (clear hps; omega) | omega, by first | (clear hps; omega) | omega⟩) (by have qq0 := esd5.symm; exact ⟨by first | (clear hps; omega) | omega, by first | (clear hps; omega) | omega⟩) hVH (by have qq0 := esd4.symm; first | (clear hps; omega) | omega)) (fun r h406 hq => ?_)
                  obtain ⟨x413, rfl, bx413, xx413, k412⟩ := hq
                  have k414 := kM_t k0 k412 (pm_s (by decide) (by decide))
                  obtain ⟨sd415, esd415⟩ : ∃ x, x = h406.2.1 170 3 := ⟨_, rfl⟩
                  have rsd415 : 0 ≤ sd415 ∧ sd415 ≤ 2000 := (by rw [esd415]; exact mi_g k414.1 (by decide) mr_170_3)
                  obtain ⟨sd416, esd416⟩ : ∃ x, x = h406.2.1 170 43 := ⟨_, rfl⟩
                  have rsd416 : 0 ≤ sd416 ∧ sd416 ≤ 2001 := (by rw [esd416]; exact mi_g k414.1 (by decide) mr_170_43)
                  obtain ⟨sd417, esd417⟩ : ∃ x, x = h406.2.1 170 63 := ⟨_, rfl⟩
                  have rsd417 : 0 ≤ sd417 ∧ sd417 ≤ 7 := (by rw [esd417]; exact mi_g k414.1 (by decide) mr_170_63)
                  obtain ⟨sd418, esd418⟩ : ∃ x, x = h406.2.1 170 4 := ⟨_, rfl⟩
                  have rsd418 : 0 ≤ sd418 ∧ sd418 ≤ 6 := (by rw [esd418]; exact mi_g k414.1 (by decide) mr_170_4)
                  exact A_zret d_MD_voicePart_387 (by decide) rfl (by first | (clear hps; omega) | omega) ⟨_, rfl, by first | (clear hps; omega) | omega, (fun hz => ⟨by first | (clear hps; omega) | omega, (by have qq0 := esd415.symm; have qq1 := ((k412.2.2.1 _ _ rfl).trans esd2.symm); have qq2 := esd418.symm; exact ⟨by first | (clear hps; omega) | omega, by first | (clear hps; omega) | omega, by first | (clear hps; omega) | omega, by first | (clear hps; omega) | omega⟩), (by have qq0 := esd415.symm; have qq1 := ((k412.2.2.1 _ _ rfl).trans esd2.symm); have qq2 := esd418.symm; have qq3 := esd416.symm; exact ⟨by first | (clear hps; omega) | omega, by first | (clear hps; omega) | omega⟩), (xx413 hz).2.2⟩), k414⟩
              · refine A_aload_n 0 d_MD_voicePart_321 rfl rfl ?_
                refine A_getAv (z := some 215) T_ok d_MD_voicePart_322 f_MD_148 (mi_s k0.1 sf_170) (mi_r k0.1 rfm_58) ?_
                refine A_aload_n 0 d_MD_voicePart_325 rfl rfl ?_
                refine A_getIv (z := sd4) T_ok d_MD_voicePart_326 f_MD_357 (mi_s k0.1 sf_170) esd4.symm ?_
                refine A_aload_n 0 d_MD_voicePart_329 rfl rfl ?_
                refine A_pc (pc' := 330) rfl ?_
                refine A_getIv (z := sd3) T_ok d_MD_voicePart_330 f_MD_354 (mi_s k0.1 sf_170) esd3.symm ?_
                refine A_iastorek (KR := kM (pm [3, 4, 5, 6, 7, 8, 9, 10, 11, 12, 43, 63, 64] [201, 202, 203, 204, 205, 206, 207, 208, 209, 210, 211, 212, 213, 214, 215, 216]) h) d_MD_voicePart_333 (mi_s k0.1 sf_215) (by first | (clear hps; omega) | omega) (by first | (clear hps; omega) | omega) (kM_i k0 (by decide) rfl (mr_215 _) (by first | (clear hps; omega) | omega) (by first | (clear hps; omega) | omega)) (fun h422 k423 eh422 => ?_)
                refine A_aload_n 0 d_MD_voicePart_334 rfl rfl ?_
                refine A_getAv (z := some 214) T_ok d_MD_voicePart_335 f_MD_145 (mi_s k423.1 sf_170) (mi_r k423.1 rfm_57) ?_
                refine A_aload_n 0 d_MD_voicePart_338 rfl rfl ?_
                refine A_getIv (z := sd3) T_ok d_MD_voicePart_339 f_MD_354 (mi_s k423.1 sf_170) ((eh422.1 _ _ (fun q => absurd q (by decide))).trans esd3.symm) ?_
                refine A_pc (pc' := 342) rfl ?_
                refine A_iconst d_MD_voicePart_342 rfl ?_
                refine A_iastorek (KR := kM (pm [3, 4, 5, 6, 7, 8, 9, 10, 11, 12, 43, 63, 64] [201, 202, 203, 204, 205, 206, 207, 208, 209, 210, 211, 212, 213, 214, 215, 216]) h) d_MD_voicePart_343 (mi_s k423.1 sf_214) (by first | (clear hps; omega) | omega) (by first | (clear hps; omega) | omega) (kM_i k423 (by decide) rfl (mr_214 _) (by first | (clear hps; omega) | omega) (by first | (clear hps; omega) | omega)) (fun h426 k427 eh426 => ?_)
                refine A_aload_n 0 d_MD_voicePart_344 rfl rfl ?_
                refine A_iconst d_MD_voicePart_345 rfl ?_
                have zf429 := ((eh426.1 _ _ (fun q => absurd q (by decide))).trans ((eh422.1 _ _ (fun q => absurd q (by decide))).trans esd1.symm))
                have zf430 := ((eh426.1 _ _ (fun q => absurd q (by decide))).trans ((eh422.1 _ _ (fun q => absurd q (by decide))).trans esd2.symm))
                have zf431 := ((eh426.1 _ _ (fun q => absurd q (by decide))).trans ((eh422.1 _ _ (fun q => absurd q (by decide))).trans esd3.symm))
                have zf432 := ((eh426.1 _ _ (fun q => absurd q (by decide))).trans ((eh422.1 _ _ (fun q => absurd q (by decide))).trans esd4.symm))
                have zf433 := ((eh426.1 _ _ (fun q => absurd q (by decide))).trans ((eh422.1 _ _ (fun q => absurd q (by decide))).trans esd5.symm))
                refine A_callV1 m_MD_put T_ok d_MD_voicePart_346 l_MD_369 k_MD_put (mi_s k427.1 sf_170) rfl (by decide +kernel) (by decide) (Nat.le_of_ble_eq_true rfl) (s_MD_put k427.1 (by first | (clear hps; omega) | omega) (by first | (clear hps; omega) | omega) ((eh426.1 _ _ (fun q => absurd q (by decide))).trans ((eh422.1 _ _ (fun q => absurd q (by decide))).trans esd3.symm)) (by first | (clear hps; omega) | omega)) (fun r h428 hq => ?_)
                obtain ⟨rfl, xk434, k434⟩ := hq
                have k435 := kM_t k427 k434 (pm_s (by decide) (by decide))
                refine A_aload_n 0 d_MD_voicePart_349 rfl rfl ?_
                refine A_getAv (z := some 216) T_ok d_MD_voicePart_350 f_MD_151 (mi_s k435.1 sf_170) (mi_r k435.1 rfm_62) ?_
                refine A_aload_n 0 d_MD_voicePart_353 rfl rfl ?_
                refine A_getIv (z := sd4) T_ok d_MD_voicePart_354 f_MD_357 (mi_s k435.1 sf_170) ((k434.2.2.1 _ _ rfl).trans ((eh426.1 _ _ (fun q => absurd q (by decide))).trans ((eh422.1 _ _ (fun q => absurd q (by decide))).trans esd4.symm))) ?_
                refine A_iconst d_MD_voicePart_357 rfl ?_
                refine A_pc (pc' := 358) rfl ?_
                refine A_iastorek (KR := kM (pm [3, 4, 5, 6, 7, 8, 9, 10, 11, 12, 43, 63, 64] [201, 202, 203, 204, 205, 206, 207, 208, 209, 210, 211, 212, 213, 214, 215, 216]) h) d_MD_voicePart_358 (mi_s k435.1 sf_216) (by first | (clear hps; omega) | omega) (by first | (clear hps; omega) | omega) (kM_i k435 (by decide) rfl (mr_216 _) (by first | (clear hps; omega) | omega) (by first | (clear hps; omega) | omega)) (fun h438 k439 eh438 => ?_)
                refine A_aload_n 0 d_MD_voicePart_359 rfl rfl ?_
                refine A_dupR d_MD_voicePart_360 ?_
                refine A_getIv (z := sd4) T_ok d_MD_voicePart_361 f_MD_357 (mi_s k439.1 sf_170) ((eh438.1 _ _ (fun q => absurd q (by decide))).trans ((k434.2.2.1 _ _ rfl).trans ((eh426.1 _ _ (fun q => absurd q (by decide))).trans ((eh422.1 _ _ (fun q => absurd q (by decide))).trans esd4.symm)))) ?_
                refine A_iconst d_MD_voicePart_364 rfl ?_
                refine A_iaddv (z := (sd4 + 1)) d_MD_voicePart_365 (w32_to (by first | (clear hps; omega) | omega) (by unfold i32; first | (clear hps; omega) | omega)) ?_
                refine A_pc (pc' := 366) rfl ?_
                refine A_putIk (KR := kM (pm [3, 4, 5, 6, 7, 8, 9, 10, 11, 12, 43, 63, 64] [201, 202, 203, 204, 205, 206, 207, 208, 209, 210, 211, 212, 213, 214, 215, 216]) h) T_ok d_MD_voicePart_366 f_MD_357 (mi_s k439.1 sf_170) fin_f (kM_i k439 (by decide) (by decide) mr_170_63 (by first | (clear hps; omega) | omega) (by first | (clear hps; omega) | omega)) (fun h441 k442 eh441 => ?_)
                refine A_aload_n 0 d_MD_voicePart_369 rfl rfl ?_
                have zf444 := ((eh441.1 _ _ (fun _ => by decide)).trans ((eh438.1 _ _ (fun q => absurd q (by decide))).trans ((k434.2.2.1 _ _ rfl).trans ((eh426.1 _ _ (fun q => absurd q (by decide))).trans ((eh422.1 _ _ (fun q => absurd q (by decide))).trans esd1.symm)))))
                have zf445 := ((eh441.1 _ _ (fun _ => by decide)).trans ((eh438.1 _ _ (fun q => absurd q (by decide))).trans ((k434.2.2.1 _ _ rfl).trans ((eh426.1 _ _ (fun q => absurd q (by decide))).trans ((eh422.1 _ _ (fun q => absurd q (by decide))).trans esd2.symm)))))
                have zf446 := ((eh441.1 _ _ (fun _ => by decide)).trans ((eh438.1 _ _ (fun q => absurd q (by decide))).trans xk434.1))
                have zf447 := eh441.2.1
                have zf448 := ((eh441.1 _ _ (fun _ => by decide)).trans ((eh438.1 _ _ (fun q => absurd q (by decide))).trans ((k434.2.2.1 _ _ rfl).trans ((eh426.1 _ _ (fun q => absurd q (by decide))).trans ((eh422.1 _ _ (fun q => absurd q (by decide))).trans esd5.symm)))))
                refine A_callV0 m_MD_next T_ok d_MD_voicePart_370 l_MD_309 k_MD_next (mi_s k442.1 sf_170) rfl (by decide +kernel) (by decide) (Nat.le_of_ble_eq_true rfl) (s_MD_next k442.1 (by have qq0 := ((eh441.1 _ _ (fun _ => by decide)).trans ((eh438.1 _ _ (fun q => absurd q (by decide))).trans ((k434.2.2.1 _ _ rfl).trans ((eh426.1 _ _ (fun q => absurd q (by decide))).trans ((eh422.1 _ _ (fun q => absurd q (by decide))).trans esd1.symm))))); have qq1 := ((eh441.1 _ _ (fun _ => by decide)).trans ((eh438.1 _ _ (fun q => absurd q (by decide))).trans ((k434.2.2.1 _ _ rfl).trans ((eh426.1 _ _ (fun q => absurd q (by decide))).trans ((eh422.1 _ _ (fun q => absurd q (by decide))).trans esd2.symm))))); first | (clear hps; omega) | omega)) (fun r h443 hq => ?_)
                obtain ⟨x450, rfl, ⟨_, _⟩, xx450, k449⟩ := hq
                have xa450 := xx450.1
                have xb450 := xx450.2.1
                have k451 := kM_t k442 k449 (pm_s (by decide) (by decide))
                obtain ⟨sd452, esd452⟩ : ∃ x, x = h443.2.1 170 3 := ⟨_, rfl⟩
                have rsd452 : 0 ≤ sd452 ∧ sd452 ≤ 2000 := (by rw [esd452]; exact mi_g k451.1 (by decide) mr_170_3)
                obtain ⟨sd453, esd453⟩ : ∃ x, x = h443.2.1 170 4 := ⟨_, rfl⟩
                have rsd453 : 0 ≤ sd453 ∧ sd453 ≤ 6 := (by rw [esd453]; exact mi_g k451.1 (by decide) mr_170_4)
                exact A_zret d_MD_voicePart_373 (by decide) rfl (by first | (clear hps; omega) | omega) ⟨_, rfl, by first | (clear hps; omega) | omega, (fun hz => ⟨by first | (clear hps; omega) | omega, (by have qq0 := esd452.symm; have qq1 := ((k449.2.2.1 _ _ rfl).trans ((eh441.1 _ _ (fun _ => by decide)).trans ((eh438.1 _ _ (fun q => absurd q (by decide))).trans ((k434.2.2.1 _ _ rfl).trans ((eh426.1 _ _ (fun q => absurd q (by decide))).trans ((eh422.1 _ _ (fun q => absurd q (by decide))).trans esd2.symm)))))); have qq2 := esd453.symm; exact ⟨by first | (clear hps; omega) | omega, by first | (clear hps; omega) | omega, by first | (clear hps; omega) | omega, by first | (clear hps; omega) | omega⟩), (by have qq0 := esd452.symm; have qq1 := ((k449.2.2.1 _ _ rfl).trans ((eh441.1 _ _ (fun _ => by decide)).trans ((eh438.1 _ _ (fun q => absurd q (by decide))).trans ((k434.2.2.1 _ _ rfl).trans ((eh426.1 _ _ (fun q => absurd q (by decide))).trans ((eh422.1 _ _ (fun q => absurd q (by decide))).trans esd2.symm)))))); have qq2 := esd453.symm; have qq3 := ((k449.2.2.1 _ _ rfl).trans ((eh441.1 _ _ (fun _ => by decide)).trans ((eh438.1 _ _ (fun q => absurd q (by decide))).trans xk434.1))); exact ⟨by first | (clear hps; omega) | omega, by first | (clear hps; omega) | omega⟩), VH_o (x := sd3) (m := sd4) (c := 2) hVH esd3.symm esd4.symm (by first | (clear hps; omega) | omega) ((k449.2.2.1 _ _ rfl).trans ((eh441.1 _ _ (fun _ => by decide)).trans ((eh438.1 _ _ (fun q => absurd q (by decide))).trans xk434.1))) ((k449.2.2.1 _ _ rfl).trans eh441.2.1) (by decide) (fun k hk => ((k449.2.2.1 201 k rfl).trans ((eh441.1 201 k (fun q => absurd q (by decide))).trans ((eh438.1 201 k (fun q => absurd q (by decide))).trans ((xk434.2.1 k hk).trans ((eh426.1 201 k (fun q => absurd q (by decide))).trans (eh422.1 201 k (fun q => absurd q (by decide))))))))) ((k449.2.2.1 _ _ rfl).trans ((eh441.1 _ _ (fun q => absurd q (by decide))).trans ((eh438.1 _ _ (fun q => absurd q (by decide))).trans xk434.2.2))) (fun k hk => ((k449.2.2.1 202 k rfl).trans ((eh441.1 202 k (fun q => absurd q (by decide))).trans ((eh438.1 202 k (fun q => absurd q (by decide))).trans ((k434.2.2.1 202 k rfl).trans ((eh426.1 202 k (fun q => absurd q (by decide))).trans (eh422.1 202 k (fun q => absurd q (by decide))))))))) (fun k hk => ((k449.2.2.1 203 k rfl).trans ((eh441.1 203 k (fun q => absurd q (by decide))).trans ((eh438.1 203 k (fun q => absurd q (by decide))).trans ((k434.2.2.1 203 k rfl).trans ((eh426.1 203 k (fun q => absurd q (by decide))).trans (eh422.1 203 k (fun q => absurd q (by decide))))))))) (fun q => absurd q (by decide)) (fun k hk => ((k449.2.2.1 214 k rfl).trans ((eh441.1 214 k (fun q => absurd q (by decide))).trans ((eh438.1 214 k (fun q => absurd q (by decide))).trans ((k434.2.2.1 214 k rfl).trans ((eh426.1 214 k (fun _ => hk)).trans (eh422.1 214 k (fun q => absurd q (by decide))))))))) (fun _ => ((k449.2.2.1 _ _ rfl).trans ((eh441.1 _ _ (fun q => absurd q (by decide))).trans ((eh438.1 _ _ (fun q => absurd q (by decide))).trans ((k434.2.2.1 _ _ rfl).trans eh426.2.1))))) (fun k hk => ((k449.2.2.1 215 k rfl).trans ((eh441.1 215 k (fun q => absurd q (by decide))).trans ((eh438.1 215 k (fun q => absurd q (by decide))).trans ((k434.2.2.1 215 k rfl).trans ((eh426.1 215 k (fun q => absurd q (by decide))).trans (eh422.1 215 k (fun _ => hk)))))))) ((k449.2.2.1 _ _ rfl).trans ((eh441.1 _ _ (fun q => absurd q (by decide))).trans ((eh438.1 _ _ (fun q => absurd q (by decide))).trans ((k434.2.2.1 _ _ rfl).trans ((eh426.1 _ _ (fun q => absurd q (by decide))).trans eh422.2.1))))) (fun k hk => ((k449.2.2.1 216 k rfl).trans ((eh441.1 216 k (fun q => absurd q (by decide))).trans ((eh438.1 216 k (fun _ => hk)).trans ((k434.2.2.1 216 k rfl).trans ((eh426.1 216 k (fun q => absurd q (by decide))).trans (eh422.1 216 k (fun q => absurd q (by decide))))))))) ((k449.2.2.1 _ _ rfl).trans ((eh441.1 _ _ (fun q => absurd q (by decide))).trans eh438.2.1)) (by intro a ha; simp only [List.mem_cons, List.not_mem_nil, or_false] at ha; rcases ha with rfl | rfl | rfl | rfl ; exact (funext (fun k => ((k449.2.2.1 210 k rfl).trans ((eh441.1 210 k (fun q => absurd q (by decide))).trans ((eh438.1 210 k (fun q => absurd q (by decide))).trans ((k434.2.2.1 210 k rfl).trans ((eh426.1 210 k (fun q => absurd q (by decide))).trans (eh422.1 210 k (fun q => absurd q (by decide)))))))))) ; exact (funext (fun k => ((k449.2.2.1 211 k rfl).trans ((eh441.1 211 k (fun q => absurd q (by decide))).trans ((eh438.1 211 k (fun q => absurd q (by decide))).trans ((k434.2.2.1 211 k rfl).trans ((eh426.1 211 k (fun q => absurd q (by decide))).trans (eh422.1 211 k (fun q => absurd q (by decide)))))))))) ; exact (funext (fun k => ((k449.2.2.1 212 k rfl).trans ((eh441.1 212 k (fun q => absurd q (by decide))).trans ((eh438.1 212 k (fun q => absurd q (by decide))).trans ((k434.2.2.1 212 k rfl).trans ((eh426.1 212 k (fun q => absurd q (by decide))).trans (eh422.1 212 k (fun q => absurd q (by decide)))))))))) ; exact (funext (fun k => ((k449.2.2.1 213 k rfl).trans ((eh441.1 213 k (fun q => absurd q (by decide))).trans ((eh438.1 213 k (fun q => absurd q (by decide))).trans ((k434.2.2.1 213 k rfl).trans ((eh426.1 213 k (fun q => absurd q (by decide))).trans (eh422.1 213 k (fun q => absurd q (by decide)))))))))))⟩), k451⟩
            · refine A_aload_n 0 d_MD_voicePart_302 rfl rfl ?_
              refine A_iconst d_MD_voicePart_303 rfl ?_
              have zf455 := esd1.symm
              have zf456 := esd2.symm
              have zf457 := esd3.symm
              have zf458 := esd4.symm
              have zf459 := esd5.symm
              refine A_callV1 m_MD_put T_ok d_MD_voicePart_304 l_MD_369 k_MD_put (mi_s k0.1 sf_170) rfl (by decide +kernel) (by decide) (Nat.le_of_ble_eq_true rfl) (s_MD_put k0.1 (by first | (clear hps; omega) | omega) (by first | (clear hps; omega) | omega) esd3.symm (by first | (clear hps; omega) | omega)) (fun r h454 hq => ?_)
              obtain ⟨rfl, xk460, k460⟩ := hq
              have k461 := kM_t k0 k460 (pm_s (by decide) (by decide))
              refine A_aload_n 0 d_MD_voicePart_307 rfl rfl ?_
              have zf463 := ((k460.2.2.1 _ _ rfl).trans esd1.symm)
              have zf464 := ((k460.2.2.1 _ _ rfl).trans esd2.symm)
              have zf465 := xk460.1
              have zf466 := ((k460.2.2.1 _ _ rfl).trans esd4.symm)
              have zf467 := ((k460.2.2.1 _ _ rfl).trans esd5.symm)
              refine A_callV0 m_MD_next T_ok d_MD_voicePart_308 l_MD_309 k_MD_next (mi_s k461.1 sf_170) rfl (by decide +kernel) (by decide) (Nat.le_of_ble_eq_true rfl) (s_MD_next k461.1 (by have qq0 := ((k460.2.2.1 _ _ rfl).trans esd1.symm); have qq1 := ((k460.2.2.1 _ _ rfl).trans esd2.symm); first | (clear hps; omega) | omega)) (fun r h462 hq => ?_)
              obtain ⟨x469, rfl, ⟨_, _⟩, xx469, k468⟩ := hq
              have xa469 := xx469.1
              have xb469 := xx469.2.1
              have k470 := kM_t k461 k468 (pm_s (by decide) (by decide))
              obtain ⟨sd471, esd471⟩ : ∃ x, x = h462.2.1 170 3 := ⟨_, rfl⟩
              have rsd471 : 0 ≤ sd471 ∧ sd471 ≤ 2000 := (by rw [esd471]; exact mi_g k470.1 (by decide) mr_170_3)
              obtain ⟨sd472, esd472⟩ : ∃ x, x = h462.2.1 170 4 := ⟨_, rfl⟩
              have rsd472 : 0 ≤ sd472 ∧ sd472 ≤ 6 := (by rw [esd472]; exact mi_g k470.1 (by decide) mr_170_4)
              exact A_zret d_MD_voicePart_311 (by decide) rfl (by first | (clear hps; omega) | omega) ⟨_, rfl, by first | (clear hps; omega) | omega, (fun hz => ⟨by first | (clear hps; omega) | omega, (by have qq0 := esd471.symm; have qq1 := ((k468.2.2.1 _ _ rfl).trans ((k460.2.2.1 _ _ rfl).trans esd2.symm)); have qq2 := esd472.symm; exact ⟨by first | (clear hps; omega) | omega, by first | (clear hps; omega) | omega, by first | (clear hps; omega) | omega, by first | (clear hps; omega) | omega⟩), (by have qq0 := esd471.symm; have qq1 := ((k468.2.2.1 _ _ rfl).trans ((k460.2.2.1 _ _ rfl).trans esd2.symm)); have qq2 := esd472.symm; have qq3 := ((k468.2.2.1 _ _ rfl).trans xk460.1); exact ⟨by first | (clear hps; omega) | omega, by first | (clear hps; omega) | omega⟩), VH_s (x := sd3) hVH esd3.symm ((k468.2.2.1 _ _ rfl).trans xk460.1) (((k468.2.2.1 170 63 rfl).trans (k460.2.2.1 170 63 rfl))) (fun k hk => ((k468.2.2.1 201 k rfl).trans (xk460.2.1 k hk))) (Or.inl ((k468.2.2.1 _ _ rfl).trans xk460.2.2)) (fun k hk => ((k468.2.2.1 202 k rfl).trans (k460.2.2.1 202 k rfl))) (by intro a ha; simp only [List.mem_cons, List.not_mem_nil, or_false] at ha; rcases ha with rfl | rfl | rfl | rfl | rfl | rfl | rfl | rfl ; exact (funext (fun k => ((k468.2.2.1 203 k rfl).trans (k460.2.2.1 203 k rfl)))) ; exact (funext (fun k => ((k468.2.2.1 210 k rfl).trans (k460.2.2.1 210 k rfl)))) ; exact (funext (fun k => ((k468.2.2.1 211 k rfl).trans (k460.2.2.1 211 k rfl)))) ; exact (funext (fun k => ((k468.2.2.1 212 k rfl).trans (k460.2.2.1 212 k rfl)))) ; exact (funext (fun k => ((k468.2.2.1 213 k rfl).trans (k460.2.2.1 213 k rfl)))) ; exact (funext (fun k => ((k468.2.2.1 214 k rfl).trans (k460.2.2.1 214 k rfl)))) ; exact (funext (fun k => ((k468.2.2.1 215 k rfl).trans (k460.2.2.1 215 k rfl)))) ; exact (funext (fun k => ((k468.2.2.1 216 k rfl).trans (k460.2.2.1 216 k rfl)))))⟩), k470⟩
          · refine A_aload_n 0 d_MD_voicePart_241 rfl rfl ?_
            refine A_bipush d_MD_voicePart_242 rfl ?_
            have zf474 := esd1.symm
            have zf475 := esd2.symm
            have zf476 := esd3.symm
            have zf477 := esd4.symm
            have zf478 := esd5.symm
            refine A_callV1 m_MD_isSign T_ok d_MD_voicePart_244 l_MD_306 k_MD_isSign (mi_s k0.1 sf_170) rfl (by decide +kernel) (by decide) (Nat.le_of_ble_eq_true rfl) (s_MD_isSign k0.1 ) (fun r h473 hq => ?_)
            obtain ⟨x480, rfl, bx480, xx480, rfl⟩ := hq
            refine A_if_ne (tgt := 259) d_MD_voicePart_247 (by decide) (fun c481 => ?_) (fun c481 => ?_)
            · refine A_iconst d_MD_voicePart_259 rfl ?_
              refine A_goto (tgt := 264) d_MD_voicePart_260 (by decide) ?_
              refine A_istore_n 1 (L' := [some (av_R (some 170)), some (av_I 1), none]) d_MD_voicePart_264 rfl (Nat.le_of_ble_eq_true rfl) rfl ?_
              refine A_iload_n 1 d_MD_voicePart_265 rfl rfl ?_
              refine A_if_ne (tgt := 274) d_MD_voicePart_266 (by decide) (fun _ => ?_) (fun c => absurd c (by decide))
              refine A_aload_n 0 d_MD_voicePart_274 rfl rfl ?_
              refine A_getIv (z := sd4) T_ok d_MD_voicePart_275 f_MD_357 (mi_s k0.1 sf_170) esd4.symm ?_
              refine A_bipush d_MD_voicePart_278 rfl ?_
              refine A_icmp_le (tgt := 293) d_MD_voicePart_280 (by decide) (fun c484 => ?_) (fun c => False.elim (by first | (clear hps; omega) | omega))
              refine A_aload_n 0 d_MD_voicePart_293 rfl rfl ?_
              refine A_bipush d_MD_voicePart_294 rfl ?_
              have zf486 := esd1.symm
              have zf487 := esd2.symm
              have zf488 := esd3.symm
              have zf489 := esd4.symm
              have zf490 := esd5.symm
              refine A_callV1 m_MD_isSign T_ok d_MD_voicePart_296 l_MD_306 k_MD_isSign (mi_s k0.1 sf_170) rfl (by decide +kernel) (by decide) (Nat.le_of_ble_eq_true rfl) (s_MD_isSign k0.1 ) (fun r h485 hq => ?_)
              obtain ⟨x492, rfl, bx492, xx492, rfl⟩ := hq
              refine A_if_eq (tgt := 312) d_MD_voicePart_299 (by decide) (fun c493 => ?_) (fun c493 => ?_)
              · refine A_aload_n 0 d_MD_voicePart_312 rfl rfl ?_
                refine A_bipush d_MD_voicePart_313 rfl ?_
                have zf495 := esd1.symm
                have zf496 := esd2.symm
                have zf497 := esd3.symm
                have zf498 := esd4.symm
                have zf499 := esd5.symm
                refine A_callV1 m_MD_isSign T_ok d_MD_voicePart_315 l_MD_306 k_MD_isSign (mi_s k0.1 sf_170) rfl (by decide +kernel) (by decide) (Nat.le_of_ble_eq_true rfl) (s_MD_isSign k0.1 ) (fun r h494 hq => ?_)
                obtain ⟨x501, rfl, bx501, xx501, rfl⟩ := hq
                refine A_if_eq (tgt := 374) d_MD_voicePart_318 (by decide) (fun c502 => ?_) (fun c502 => ?_)
                · refine A_aload_n 0 d_MD_voicePart_374 rfl rfl ?_
                  refine A_bipush d_MD_voicePart_375 rfl ?_
                  have zf504 := esd1.symm
                  have zf505 := esd2.symm
                  have zf506 := esd3.symm
                  have zf507 := esd4.symm
                  have zf508 := esd5.symm
                  refine A_callV1 m_MD_isSign T_ok d_MD_voicePart_377 l_MD_306 k_MD_isSign (mi_s k0.1 sf_170) rfl (by decide +kernel) (by decide) (Nat.le_of_ble_eq_true rfl) (s_MD_isSign k0.1 ) (fun r h503 hq => ?_)
                  obtain ⟨x510, rfl, bx510, xx510, rfl⟩ := hq
                  refine A_if_eq (tgt := 388) d_MD_voicePart_380 (by decide) (fun c511 => ?_) (fun c511 => ?_)
                  · refine A_aload_n 0 d_MD_voicePart_388 rfl rfl ?_
                    have zf513 := esd1.symm
                    have zf514 := esd2.symm
                    have zf515 := esd3.symm
                    have zf516 := esd4.symm
                    have zf517 := esd5.symm
                    refine A_callV0 m_MD_soundPart T_ok d_MD_voicePart_389 l_MD_375 k_MD_soundPart (mi_s k0.1 sf_170) rfl (by decide +kernel) (by decide) (Nat.le_of_ble_eq_true rfl) (s_MD_soundPart k0.1 (by have qq0 := esd1.symm; have qq1 := esd2.symm; first | (clear hps; omega) | omega) (by have qq0 := esd1.symm; have qq1 := esd2.symm; have qq2 := esd5.symm; have qq3 := esd3.symm; exact ⟨by first | (clear hps; omega) | omega, by first | (clear hps; omega) | omega⟩) (by have qq0 := esd5.symm; exact ⟨by first | (clear hps; omega) | omega, by first | (clear hps; omega) | omega⟩) hVH) (fun r h512 hq => ?_)
                    obtain ⟨x519, rfl, bx519, xx519, k518⟩ := hq
                    have k520 := kM_t k0 k518 (pm_s (by decide) (by decide))
                    obtain ⟨sd521, esd521⟩ : ∃ x, x = h512.2.1 170 3 := ⟨_, rfl⟩
                    have rsd521 : 0 ≤ sd521 ∧ sd521 ≤ 2000 := (by rw [esd521]; exact mi_g k520.1 (by decide) mr_170_3)
                    obtain ⟨sd522, esd522⟩ : ∃ x, x = h512.2.1 170 43 := ⟨_, rfl⟩
                    have rsd522 : 0 ≤ sd522 ∧ sd522 ≤ 2001 := (by rw [esd522]; exact mi_g k520.1 (by decide) mr_170_43)
                    obtain ⟨sd523, esd523⟩ : ∃ x, x = h512.2.1 170 4 := ⟨_, rfl⟩
                    have rsd523 : 0 ≤ sd523 ∧ sd523 ≤ 6 := (by rw [esd523]; exact mi_g k520.1 (by decide) mr_170_4)
                    exact A_zret d_MD_voicePart_392 (by decide) rfl (by first | (clear hps; omega) | omega) ⟨_, rfl, by first | (clear hps; omega) | omega, (fun hz => ⟨by first | (clear hps; omega) | omega, (by have qq0 := esd521.symm; have qq1 := ((k518.2.2.1 _ _ rfl).trans esd2.symm); have qq2 := esd523.symm; exact ⟨by first | (clear hps; omega) | omega, by first | (clear hps; omega) | omega, by first | (clear hps; omega) | omega, by first | (clear hps; omega) | omega⟩), (by have qq0 := esd521.symm; have qq1 := ((k518.2.2.1 _ _ rfl).trans esd2.symm); have qq2 := esd523.symm; have qq3 := esd522.symm; exact ⟨by first | (clear hps; omega) | omega, by first | (clear hps; omega) | omega⟩), (xx519 hz).2.2⟩), k520⟩
                  · refine A_aload_n 0 d_MD_voicePart_383 rfl rfl ?_
                    have zf525 := esd1.symm
                    have zf526 := esd2.symm
                    have zf527 := esd3.symm
                    have zf528 := esd4.symm
                    have zf529 := esd5.symm
                    refine A_callV0 m_MD_timesPart T_ok d_MD_voicePart_384 l_MD_372 k_MD_timesPart (mi_s k0.1 sf_170) rfl (by decide +kernel) (by decide) (Nat.le_of_ble_eq_true rfl) (s_MD_timesPart k0.1 (by have qq0 := esd1.symm; have qq1 := esd2.symm; first | (clear hps; omega) | omega) (by have qq0 := esd1.symm; have qq1 := esd2.symm; have qq2 := esd5.symm; have qq3 := esd3.symm; exact ⟨by first | (clear hps; omega) | omega, by first | (clear hps; omega) | omega⟩) (by have qq0 := esd5.symm; exact ⟨by first | (clear hps; omega) | omega, by first | (clear hps; omega) | omega⟩) hVH (by have qq0 := esd4.symm; first | (clear hps; omega) | omega)) (fun r h524 hq => ?_)
                    obtain ⟨x531, rfl, bx531, xx531, k530⟩ := hq
                    have k532 := kM_t k0 k530 (pm_s (by decide) (by decide))
                    obtain ⟨sd533, esd533⟩ : ∃ x, x = h524.2.1 170 3 := ⟨_, rfl⟩
                    have rsd533 : 0 ≤ sd533 ∧ sd533 ≤ 2000 := (by rw [esd533]; exact mi_g k532.1 (by decide) mr_170_3)
                    obtain ⟨sd534, esd534⟩ : ∃ x, x = h524.2.1 170 43 := ⟨_, rfl⟩
                    have rsd534 : 0 ≤ sd534 ∧ sd534 ≤ 2001 := (by rw [esd534]; exact mi_g k532.1 (by decide) mr_170_43)
                    obtain ⟨sd535, esd535⟩ : ∃ x, x = h524.2.1 170 63 := ⟨_, rfl⟩
                    have rsd535 : 0 ≤ sd535 ∧ sd535 ≤ 7 := (by rw [esd535]; exact mi_g k532.1 (by decide) mr_170_63)
                    obtain ⟨sd536, esd536⟩ : ∃ x, x = h524.2.1 170 4 := ⟨_, rfl⟩
                    have rsd536 : 0 ≤ sd536 ∧ sd536 ≤ 6 := (by rw [esd536]; exact mi_g k532.1 (by decide) mr_170_4)
                    exact A_zret d_MD_voicePart_387 (by decide) rfl (by first | (clear hps; omega) | omega) ⟨_, rfl, by first | (clear hps; omega) | omega, (fun hz => ⟨by first | (clear hps; omega) | omega, (by have qq0 := esd533.symm; have qq1 := ((k530.2.2.1 _ _ rfl).trans esd2.symm); have qq2 := esd536.symm; exact ⟨by first | (clear hps; omega) | omega, by first | (clear hps; omega) | omega, by first | (clear hps; omega) | omega, by first | (clear hps; omega) | omega⟩), (by have qq0 := esd533.symm; have qq1 := ((k530.2.2.1 _ _ rfl).trans esd2.symm); have qq2 := esd536.symm; have qq3 := esd534.symm; exact ⟨by first | (clear hps; omega) | omega, by first | (clear hps; omega) | omega⟩), (xx531 hz).2.2⟩), k532⟩
                · refine A_aload_n 0 d_MD_voicePart_321 rfl rfl ?_
                  refine A_getAv (z := some 215) T_ok d_MD_voicePart_322 f_MD_148 (mi_s k0.1 sf_170) (mi_r k0.1 rfm_58) ?_
                  refine A_aload_n 0 d_MD_voicePart_325 rfl rfl ?_
                  refine A_getIv (z := sd4) T_ok d_MD_voicePart_326 f_MD_357 (mi_s k0.1 sf_170) esd4.symm ?_
                  refine A_aload_n 0 d_MD_voicePart_329 rfl rfl ?_
                  refine A_pc (pc' := 330) rfl ?_
                  refine A_getIv (z := sd3) T_ok d_MD_voicePart_330 f_MD_354 (mi_s k0.1 sf_170) esd3.symm ?_
                  refine A_iastorek (KR := kM (pm [3, 4, 5, 6, 7, 8, 9, 10, 11, 12, 43, 63, 64] [201, 202, 203, 204, 205, 206, 207, 208, 209, 210, 211, 212, 213, 214, 215, 216]) h) d_MD_voicePart_333 (mi_s k0.1 sf_215) (by first | (clear hps; omega) | omega) (by first | (clear hps; omega) | omega) (kM_i k0 (by decide) rfl (mr_215 _) (by first | (clear hps; omega) | omega) (by first | (clear hps; omega) | omega)) (fun h540 k541 eh540 => ?_)
                  refine A_aload_n 0 d_MD_voicePart_334 rfl rfl ?_
                  refine A_getAv (z := some 214) T_ok d_MD_voicePart_335 f_MD_145 (mi_s k541.1 sf_170) (mi_r k541.1 rfm_57) ?_
                  refine A_aload_n 0 d_MD_voicePart_338 rfl rfl ?_
                  refine A_getIv (z := sd3) T_ok d_MD_voicePart_339 f_MD_354 (mi_s k541.1 sf_170) ((eh540.1 _ _ (fun q => absurd q (by decide))).trans esd3.symm) ?_
                  refine A_pc (pc' := 342) rfl ?_
                  refine A_iconst d_MD_voicePart_342 rfl ?_
                  refine A_iastorek (KR := kM (pm [3, 4, 5, 6, 7, 8, 9, 10, 11, 12, 43, 63, 64] [201, 202, 203, 204, 205, 206, 207, 208, 209, 210, 211, 212, 213, 214, 215, 216]) h) d_MD_voicePart_343 (mi_s k541.1 sf_214) (by first | (clear hps; omega) | omega) (by first | (clear hps; omega) | omega) (kM_i k541 (by decide) rfl (mr_214 _) (by first | (clear hps; omega) | omega) (by first | (clear hps; omega) | omega)) (fun h544 k545 eh544 => ?_)
                  refine A_aload_n 0 d_MD_voicePart_344 rfl rfl ?_
                  refine A_iconst d_MD_voicePart_345 rfl ?_
                  have zf547 := ((eh544.1 _ _ (fun q => absurd q (by decide))).trans ((eh540.1 _ _ (fun q => absurd q (by decide))).trans esd1.symm))
                  have zf548 := ((eh544.1 _ _ (fun q => absurd q (by decide))).trans ((eh540.1 _ _ (fun q => absurd q (by decide))).trans esd2.symm))
                  have zf549 := ((eh544.1 _ _ (fun q => absurd q (by decide))).trans ((eh540.1 _ _ (fun q => absurd q (by decide))).trans esd3.symm))
                  have zf550 := ((eh544.1 _ _ (fun q => absurd q (by decide))).trans ((eh540.1 _ _ (fun q => absurd q (by decide))).trans esd4.symm))
                  have zf551 := ((eh544.1 _ _ (fun q => absurd q (by decide))).trans ((eh540.1 _ _ (fun q => absurd q (by decide))).trans esd5.symm))
                  refine A_callV1 m_MD_put T_ok d_MD_voicePart_346 l_MD_369 k_MD_put (mi_s k545.1 sf_170) rfl (by decide +kernel) (by decide) (Nat.le_of_ble_eq_true rfl) (s_MD_put k545.1 (by first | (clear hps; omega) | omega) (by first | (clear hps; omega) | omega) ((eh544.1 _ _ (fun q => absurd q (by decide))).trans ((eh540.1 _ _ (fun q => absurd q (by decide))).trans esd3.symm)) (by first | (clear hps; omega) | omega)) (fun r h546 hq => ?_)
                  obtain ⟨rfl, xk552, k552⟩ := hq
                  have k553 := kM_t k545 k552 (pm_s (by decide) (by decide))
                  refine A_aload_n 0 d_MD_voicePart_349 rfl rfl ?_
                  refine A_getAv (z := some 216) T_ok d_MD_voicePart_350 f_MD_151 (mi_s k553.1 sf_170) (mi_r k553.1 rfm_62) ?_
                  refine A_aload_n 0 d_MD_voicePart_353 rfl rfl ?_
                  refine A_getIv (z := sd4) T_ok d_MD_voicePart_354 f_MD_357 (mi_s k553.1 sf_170) ((k552.2.2.1 _ _ rfl).trans ((eh544.1 _ _ (fun q => absurd q (by decide))).trans ((eh540.1 _ _ (fun q => absurd q (by decide))).trans esd4.symm))) ?_
                  refine A_iconst d_MD_voicePart_357 rfl ?_
                  refine A_pc (pc' := 358) rfl ?_
                  refine A_iastorek (KR := kM (pm [3, 4, 5, 6, 7, 8, 9, 10, 11, 12, 43, 63, 64] [201, 202, 203, 204, 205, 206, 207, 208, 209, 210, 211, 212, 213, 214, 215, 216]) h) d_MD_voicePart_358 (mi_s k553.1 sf_216) (by first | (clear hps; omega) | omega) (by first | (clear hps; omega) | omega) (kM_i k553 (by decide) rfl (mr_216 _) (by first | (clear hps; omega) | omega) (by first | (clear hps; omega) | omega)) (fun h556 k557 eh556 => ?_)
                  refine A_aload_n 0 d_MD_voicePart_359 rfl rfl ?_
                  refine A_dupR d_MD_voicePart_360 ?_
                  refine A_getIv (z := sd4) T_ok d_MD_voicePart_361 f_MD_357 (mi_s k557.1 sf_170) ((eh556.1 _ _ (fun q => absurd q (by decide))).trans ((k552.2.2.1 _ _ rfl).trans ((eh544.1 _ _ (fun q => absurd q (by decide))).trans ((eh540.1 _ _ (fun q => absurd q (by decide))).trans esd4.symm)))) ?_
                  refine A_iconst d_MD_voicePart_364 rfl ?_
                  refine A_iaddv (z := (sd4 + 1)) d_MD_voicePart_365 (w32_to (by first | (clear hps; omega) | omega) (by unfold i32; first | (clear hps; omega) | omega)) ?_
                  refine A_pc (pc' := 366) rfl ?_
                  refine A_putIk (KR := kM (pm [3, 4, 5, 6, 7, 8, 9, 10, 11, 12, 43, 63, 64] [201, 202, 203, 204, 205, 206, 207, 208, 209, 210, 211, 212, 213, 214, 215, 216]) h) T_ok d_MD_voicePart_366 f_MD_357 (mi_s k557.1 sf_170) fin_f (kM_i k557 (by decide) (by decide) mr_170_63 (by first | (clear hps; omega) | omega) (by first | (clear hps; omega) | omega)) (fun h559 k560 eh559 => ?_)
                  refine A_aload_n 0 d_MD_voicePart_369 rfl rfl ?_
                  have zf562 := ((eh559.1 _ _ (fun _ => by decide)).trans ((eh556.1 _ _ (fun q => absurd q (by decide))).trans ((k552.2.2.1 _ _ rfl).trans ((eh544.1 _ _ (fun q => absurd q (by decide))).trans ((eh540.1 _ _ (fun q => absurd q (by decide))).trans esd1.symm)))))
                  have zf563 := ((eh559.1 _ _ (fun _ => by decide)).trans ((eh556.1 _ _ (fun q => absurd q (by decide))).trans ((k552.2.2.1 _ _ rfl).trans ((eh544.1 _ _ (fun q => absurd q (by decide))).trans ((eh540.1 _ _ (fun q => absurd q (by decide))).trans esd2.symm)))))
                  have zf564 := ((eh559.1 _ _ (fun _ => by decide)).trans ((eh556.1 _ _ (fun q => absurd q (by decide))).trans xk552.1))
                  have zf565 := eh559.2.1
                  have zf566 := ((eh559.1 _ _ (fun _ => by decide)).trans ((eh556.1 _ _ (fun q => absurd q (by decide))).trans ((k552.2.2.1 _ _ rfl).trans ((eh544.1 _ _ (fun q => absurd q (by decide))).trans ((eh540.1 _ _ (fun q => absurd q (by decide))).trans esd5.symm)))))
                  refine A_callV0 m_MD_next T_ok d_MD_voicePart_370 l_MD_309 k_MD_next (mi_s k560.1 sf_170) rfl (by decide +kernel) (by decide) (Nat.le_of_ble_eq_true rfl) (s_MD_next k560.1 (by have qq0 := ((eh559.1 _ _ (fun _ => by decide)).trans ((eh556.1 _ _ (fun q => absurd q (by decide))).trans ((k552.2.2.1 _ _ rfl).trans ((eh544.1 _ _ (fun q => absurd q (by decide))).trans ((eh540.1 _ _ (fun q => absurd q (by decide))).trans esd1.symm))))); have qq1 := ((eh559.1 _ _ (fun _ => by decide)).trans ((eh556.1 _ _ (fun q => absurd q (by decide))).trans ((k552.2.2.1 _ _ rfl).trans ((eh544.1 _ _ (fun q => absurd q (by decide))).trans ((eh540.1 _ _ (fun q => absurd q (by decide))).trans esd2.symm))))); first | (clear hps; omega) | omega)) (fun r h561 hq => ?_)
                  obtain ⟨x568, rfl, ⟨_, _⟩, xx568, k567⟩ := hq
                  have xa568 := xx568.1
                  have xb568 := xx568.2.1
                  have k569 := kM_t k560 k567 (pm_s (by decide) (by decide))
                  obtain ⟨sd570, esd570⟩ : ∃ x, x = h561.2.1 170 3 := ⟨_, rfl⟩
                  have rsd570 : 0 ≤ sd570 ∧ sd570 ≤ 2000 := (by rw [esd570]; exact mi_g k569.1 (by decide) mr_170_3)
                  obtain ⟨sd571, esd571⟩ : ∃ x, x = h561.2.1 170 4 := ⟨_, rfl⟩
                  have rsd571 : 0 ≤ sd571 ∧ sd571 ≤ 6 := (by rw [esd571]; exact mi_g k569.1 (by decide) mr_170_4)
                  exact A_zret d_MD_voicePart_373 (by decide) rfl (by first | (clear hps; omega) | omega) ⟨_, rfl, by first | (clear hps; omega) | omega, (fun hz => ⟨by first | (clear hps; omega) | omega, (by have qq0 := esd570.symm; have qq1 := ((k567.2.2.1 _ _ rfl).trans ((eh559.1 _ _ (fun _ => by decide)).trans ((eh556.1 _ _ (fun q => absurd q (by decide))).trans ((k552.2.2.1 _ _ rfl).trans ((eh544.1 _ _ (fun q => absurd q (by decide))).trans ((eh540.1 _ _ (fun q => absurd q (by decide))).trans esd2.symm)))))); have qq2 := esd571.symm; exact ⟨by first | (clear hps; omega) | omega, by first | (clear hps; omega) | omega, by first | (clear hps; omega) | omega, by first | (clear hps; omega) | omega⟩), (by have qq0 := esd570.symm; have qq1 := ((k567.2.2.1 _ _ rfl).trans ((eh559.1 _ _ (fun _ => by decide)).trans ((eh556.1 _ _ (fun q => absurd q (by decide))).trans ((k552.2.2.1 _ _ rfl).trans ((eh544.1 _ _ (fun q => absurd q (by decide))).trans ((eh540.1 _ _ (fun q => absurd q (by decide))).trans esd2.symm)))))); have qq2 := esd571.symm; have qq3 := ((k567.2.2.1 _ _ rfl).trans ((eh559.1 _ _ (fun _ => by decide)).trans ((eh556.1 _ _ (fun q => absurd q (by decide))).trans xk552.1))); exact ⟨by first | (clear hps; omega) | omega, by first | (clear hps; omega) | omega⟩), VH_o (x := sd3) (m := sd4) (c := 2) hVH esd3.symm esd4.symm (by first | (clear hps; omega) | omega) ((k567.2.2.1 _ _ rfl).trans ((eh559.1 _ _ (fun _ => by decide)).trans ((eh556.1 _ _ (fun q => absurd q (by decide))).trans xk552.1))) ((k567.2.2.1 _ _ rfl).trans eh559.2.1) (by decide) (fun k hk => ((k567.2.2.1 201 k rfl).trans ((eh559.1 201 k (fun q => absurd q (by decide))).trans ((eh556.1 201 k (fun q => absurd q (by decide))).trans ((xk552.2.1 k hk).trans ((eh544.1 201 k (fun q => absurd q (by decide))).trans (eh540.1 201 k (fun q => absurd q (by decide))))))))) ((k567.2.2.1 _ _ rfl).trans ((eh559.1 _ _ (fun q => absurd q (by decide))).trans ((eh556.1 _ _ (fun q => absurd q (by decide))).trans xk552.2.2))) (fun k hk => ((k567.2.2.1 202 k rfl).trans ((eh559.1 202 k (fun q => absurd q (by decide))).trans ((eh556.1 202 k (fun q => absurd q (by decide))).trans ((k552.2.2.1 202 k rfl).trans ((eh544.1 202 k (fun q => absurd q (by decide))).trans (eh540.1 202 k (fun q => absurd q (by decide))))))))) (fun k hk => ((k567.2.2.1 203 k rfl).trans ((eh559.1 203 k (fun q => absurd q (by decide))).trans ((eh556.1 203 k (fun q => absurd q (by decide))).trans ((k552.2.2.1 203 k rfl).trans ((eh544.1 203 k (fun q => absurd q (by decide))).trans (eh540.1 203 k (fun q => absurd q (by decide))))))))) (fun q => absurd q (by decide)) (fun k hk => ((k567.2.2.1 214 k rfl).trans ((eh559.1 214 k (fun q => absurd q (by decide))).trans ((eh556.1 214 k (fun q => absurd q (by decide))).trans ((k552.2.2.1 214 k rfl).trans ((eh544.1 214 k (fun _ => hk)).trans (eh540.1 214 k (fun q => absurd q (by decide))))))))) (fun _ => ((k567.2.2.1 _ _ rfl).trans ((eh559.1 _ _ (fun q => absurd q (by decide))).trans ((eh556.1 _ _ (fun q => absurd q (by decide))).trans ((k552.2.2.1 _ _ rfl).trans eh544.2.1))))) (fun k hk => ((k567.2.2.1 215 k rfl).trans ((eh559.1 215 k (fun q => absurd q (by decide))).trans ((eh556.1 215 k (fun q => absurd q (by decide))).trans ((k552.2.2.1 215 k rfl).trans ((eh544.1 215 k (fun q => absurd q (by decide))).trans (eh540.1 215 k (fun _ => hk)))))))) ((k567.2.2.1 _ _ rfl).trans ((eh559.1 _ _ (fun q => absurd q (by decide))).trans ((eh556.1 _ _ (fun q => absurd q (by decide))).trans ((k552.2.2.1 _ _ rfl).trans ((eh544.1 _ _ (fun q => absurd q (by decide))).trans eh540.2.1))))) (fun k hk => ((k567.2.2.1 216 k rfl).trans ((eh559.1 216 k (fun q => absurd q (by decide))).trans ((eh556.1 216 k (fun _ => hk)).trans ((k552.2.2.1 216 k rfl).trans ((eh544.1 216 k (fun q => absurd q (by decide))).trans (eh540.1 216 k (fun q => absurd q (by decide))))))))) ((k567.2.2.1 _ _ rfl).trans ((eh559.1 _ _ (fun q => absurd q (by decide))).trans eh556.2.1)) (by intro a ha; simp only [List.mem_cons, List.not_mem_nil, or_false] at ha; rcases ha with rfl | rfl | rfl | rfl ; exact (funext (fun k => ((k567.2.2.1 210 k rfl).trans ((eh559.1 210 k (fun q => absurd q (by decide))).trans ((eh556.1 210 k (fun q => absurd q (by decide))).trans ((k552.2.2.1 210 k rfl).trans ((eh544.1 210 k (fun q => absurd q (by decide))).trans (eh540.1 210 k (fun q => absurd q (by decide)))))))))) ; exact (funext (fun k => ((k567.2.2.1 211 k rfl).trans ((eh559.1 211 k (fun q => absurd q (by decide))).trans ((eh556.1 211 k (fun q => absurd q (by decide))).trans ((k552.2.2.1 211 k rfl).trans ((eh544.1 211 k (fun q => absurd q (by decide))).trans (eh540.1 211 k (fun q => absurd q (by decide)))))))))) ; exact (funext (fun k => ((k567.2.2.1 212 k rfl).trans ((eh559.1 212 k (fun q => absurd q (by decide))).trans ((eh556.1 212 k (fun q => absurd q (by decide))).trans ((k552.2.2.1 212 k rfl).trans ((eh544.1 212 k (fun q => absurd q (by decide))).trans (eh540.1 212 k (fun q => absurd q (by decide)))))))))) ; exact (funext (fun k => ((k567.2.2.1 213 k rfl).trans ((eh559.1 213 k (fun q => absurd q (by decide))).trans ((eh556.1 213 k (fun q => absurd q (by decide))).trans ((k552.2.2.1 213 k rfl).trans ((eh544.1 213 k (fun q => absurd q (by decide))).trans (eh540.1 213 k (fun q => absurd q (by decide)))))))))))⟩), k569⟩
              · refine A_aload_n 0 d_MD_voicePart_302 rfl rfl ?_
                refine A_iconst d_MD_voicePart_303 rfl ?_
                have zf573 := esd1.symm
                have zf574 := esd2.symm
                have zf575 := esd3.symm
                have zf576 := esd4.symm
                have zf577 := esd5.symm
                refine A_callV1 m_MD_put T_ok d_MD_voicePart_304 l_MD_369 k_MD_put (mi_s k0.1 sf_170) rfl (by decide +kernel) (by decide) (Nat.le_of_ble_eq_true rfl) (s_MD_put k0.1 (by first | (clear hps; omega) | omega) (by first | (clear hps; omega) | omega) esd3.symm (by first | (clear hps; omega) | omega)) (fun r h572 hq => ?_)
                obtain ⟨rfl, xk578, k578⟩ := hq
                have k579 := kM_t k0 k578 (pm_s (by decide) (by decide))
                refine A_aload_n 0 d_MD_voicePart_307 rfl rfl ?_
                have zf581 := ((k578.2.2.1 _ _ rfl).trans esd1.symm)
                have zf582 := ((k578.2.2.1 _ _ rfl).trans esd2.symm)
                have zf583 := xk578.1
                have zf584 := ((k578.2.2.1 _ _ rfl).trans esd4.symm)
                have zf585 := ((k578.2.2.1 _ _ rfl).trans esd5.symm)
                refine A_callV0 m_MD_next T_ok d_MD_voicePart_308 l_MD_309 k_MD_next (mi_s k579.1 sf_170) rfl (by decide +kernel) (by decide) (Nat.le_of_ble_eq_true rfl) (s_MD_next k579.1 (by have qq0 := ((k578.2.2.1 _ _ rfl).trans esd1.symm); have qq1 := ((k578.2.2.1 _ _ rfl).trans esd2.symm); first | (clear hps; omega) | omega)) (fun r h580 hq => ?_)
                obtain ⟨x587, rfl, ⟨_, _⟩, xx587, k586⟩ := hq
                have xa587 := xx587.1
                have xb587 := xx587.2.1
                have k588 := kM_t k579 k586 (pm_s (by decide) (by decide))
                obtain ⟨sd589, esd589⟩ : ∃ x, x = h580.2.1 170 3 := ⟨_, rfl⟩
                have rsd589 : 0 ≤ sd589 ∧ sd589 ≤ 2000 := (by rw [esd589]; exact mi_g k588.1 (by decide) mr_170_3)
                obtain ⟨sd590, esd590⟩ : ∃ x, x = h580.2.1 170 4 := ⟨_, rfl⟩
                have rsd590 : 0 ≤ sd590 ∧ sd590 ≤ 6 := (by rw [esd590]; exact mi_g k588.1 (by decide) mr_170_4)
                exact A_zret d_MD_voicePart_311 (by decide) rfl (by first | (clear hps; omega) | omega) ⟨_, rfl, by first | (clear hps; omega) | omega, (fun hz => ⟨by first | (clear hps; omega) | omega, (by have qq0 := esd589.symm; have qq1 := ((k586.2.2.1 _ _ rfl).trans ((k578.2.2.1 _ _ rfl).trans esd2.symm)); have qq2 := esd590.symm; exact ⟨by first | (clear hps; omega) | omega, by first | (clear hps; omega) | omega, by first | (clear hps; omega) | omega, by first | (clear hps; omega) | omega⟩), (by have qq0 := esd589.symm; have qq1 := ((k586.2.2.1 _ _ rfl).trans ((k578.2.2.1 _ _ rfl).trans esd2.symm)); have qq2 := esd590.symm; have qq3 := ((k586.2.2.1 _ _ rfl).trans xk578.1); exact ⟨by first | (clear hps; omega) | omega, by first | (clear hps; omega) | omega⟩), VH_s (x := sd3) hVH esd3.symm ((k586.2.2.1 _ _ rfl).trans xk578.1) (((k586.2.2.1 170 63 rfl).trans (k578.2.2.1 170 63 rfl))) (fun k hk => ((k586.2.2.1 201 k rfl).trans (xk578.2.1 k hk))) (Or.inl ((k586.2.2.1 _ _ rfl).trans xk578.2.2)) (fun k hk => ((k586.2.2.1 202 k rfl).trans (k578.2.2.1 202 k rfl))) (by intro a ha; simp only [List.mem_cons, List.not_mem_nil, or_false] at ha; rcases ha with rfl | rfl | rfl | rfl | rfl | rfl | rfl | rfl ; exact (funext (fun k => ((k586.2.2.1 203 k rfl).trans (k578.2.2.1 203 k rfl)))) ; exact (funext (fun k => ((k586.2.2.1 210 k rfl).trans (k578.2.2.1 210 k rfl)))) ; exact (funext (fun k => ((k586.2.2.1 211 k rfl).trans (k578.2.2.1 211 k rfl)))) ; exact (funext (fun k => ((k586.2.2.1 212 k rfl).trans (k578.2.2.1 212 k rfl)))) ; exact (funext (fun k => ((k586.2.2.1 213 k rfl).trans (k578.2.2.1 213 k rfl)))) ; exact (funext (fun k => ((k586.2.2.1 214 k rfl).trans (k578.2.2.1 214 k rfl)))) ; exact (funext (fun k => ((k586.2.2.1 215 k rfl).trans (k578.2.2.1 215 k rfl)))) ; exact (funext (fun k => ((k586.2.2.1 216 k rfl).trans (k578.2.2.1 216 k rfl)))))⟩), k588⟩
            · refine A_aload_n 0 d_MD_voicePart_250 rfl rfl ?_
              refine A_bipush d_MD_voicePart_251 rfl ?_
              have zf592 := esd1.symm
              have zf593 := esd2.symm
              have zf594 := esd3.symm
              have zf595 := esd4.symm
              have zf596 := esd5.symm
              refine A_callV1 m_MD_isSign T_ok d_MD_voicePart_253 l_MD_306 k_MD_isSign (mi_s k0.1 sf_170) rfl (by decide +kernel) (by decide) (Nat.le_of_ble_eq_true rfl) (s_MD_isSign k0.1 ) (fun r h591 hq => ?_)
              obtain ⟨x598, rfl, bx598, xx598, rfl⟩ := hq
              refine A_if_eq (tgt := 263) d_MD_voicePart_256 (by decide) (fun c599 => ?_) (fun c599 => ?_)
              · refine A_iconst d_MD_voicePart_263 rfl ?_
                refine A_istore_n 1 (L' := [some (av_R (some 170)), some (av_I 0), none]) d_MD_voicePart_264 rfl (Nat.le_of_ble_eq_true rfl) rfl ?_
                refine A_iload_n 1 d_MD_voicePart_265 rfl rfl ?_
                refine A_if_ne (tgt := 274) d_MD_voicePart_266 (by decide) (fun c => absurd c (by decide)) (fun _ => ?_)
                refine A_aload_n 0 d_MD_voicePart_269 rfl rfl ?_
                have zf602 := esd1.symm
                have zf603 := esd2.symm
                have zf604 := esd3.symm
                have zf605 := esd4.symm
                have zf606 := esd5.symm
                refine A_callV0 m_MD_cant T_ok d_MD_voicePart_270 l_MD_313 k_MD_cant (mi_s k0.1 sf_170) rfl (by decide +kernel) (by decide) (Nat.le_of_ble_eq_true rfl) (s_MD_cant k0.1 ) (fun r h601 hq => ?_)
                obtain ⟨x608, rfl, ⟨_, _⟩, k607⟩ := hq
                have k609 := kM_t k0 k607 (pm_s (by decide) (by decide))
                obtain rfl : x608 = 0 := by first | (clear hps; omega) | omega
                exact A_zret d_MD_voicePart_273 (by decide) rfl (by first | (clear hps; omega) | omega) ⟨_, rfl, by first | (clear hps; omega) | omega, (fun q => absurd q (by decide)), k609⟩
              · refine A_iconst d_MD_voicePart_259 rfl ?_
                refine A_goto (tgt := 264) d_MD_voicePart_260 (by decide) ?_
                refine A_istore_n 1 (L' := [some (av_R (some 170)), some (av_I 1), none]) d_MD_voicePart_264 rfl (Nat.le_of_ble_eq_true rfl) rfl ?_
                refine A_iload_n 1 d_MD_voicePart_265 rfl rfl ?_
                refine A_if_ne (tgt := 274) d_MD_voicePart_266 (by decide) (fun _ => ?_) (fun c => absurd c (by decide))
                refine A_aload_n 0 d_MD_voicePart_274 rfl rfl ?_
                refine A_getIv (z := sd4) T_ok d_MD_voicePart_275 f_MD_357 (mi_s k0.1 sf_170) esd4.symm ?_
                refine A_bipush d_MD_voicePart_278 rfl ?_
                refine A_icmp_le (tgt := 293) d_MD_voicePart_280 (by decide) (fun c612 => ?_) (fun c => False.elim (by first | (clear hps; omega) | omega))
                refine A_aload_n 0 d_MD_voicePart_293 rfl rfl ?_
                refine A_bipush d_MD_voicePart_294 rfl ?_
                have zf614 := esd1.symm
                have zf615 := esd2.symm
                have zf616 := esd3.symm
                have zf617 := esd4.symm
                have zf618 := esd5.symm
                refine A_callV1 m_MD_isSign T_ok d_MD_voicePart_296 l_MD_306 k_MD_isSign (mi_s k0.1 sf_170) rfl (by decide +kernel) (by decide) (Nat.le_of_ble_eq_true rfl) (s_MD_isSign k0.1 ) (fun r h613 hq => ?_)
                obtain ⟨x620, rfl, bx620, xx620, rfl⟩ := hq
                refine A_if_eq (tgt := 312) d_MD_voicePart_299 (by decide) (fun c621 => ?_) (fun c621 => ?_)
                · refine A_aload_n 0 d_MD_voicePart_312 rfl rfl ?_
                  refine A_bipush d_MD_voicePart_313 rfl ?_
                  have zf623 := esd1.symm
                  have zf624 := esd2.symm
                  have zf625 := esd3.symm
                  have zf626 := esd4.symm
                  have zf627 := esd5.symm
                  refine A_callV1 m_MD_isSign T_ok d_MD_voicePart_315 l_MD_306 k_MD_isSign (mi_s k0.1 sf_170) rfl (by decide +kernel) (by decide) (Nat.le_of_ble_eq_true rfl) (s_MD_isSign k0.1 ) (fun r h622 hq => ?_)
                  obtain ⟨x629, rfl, bx629, xx629, rfl⟩ := hq
                  refine A_if_eq (tgt := 374) d_MD_voicePart_318 (by decide) (fun c630 => ?_) (fun c630 => ?_)
                  · refine A_aload_n 0 d_MD_voicePart_374 rfl rfl ?_
                    refine A_bipush d_MD_voicePart_375 rfl ?_
                    have zf632 := esd1.symm
                    have zf633 := esd2.symm
                    have zf634 := esd3.symm
                    have zf635 := esd4.symm
                    have zf636 := esd5.symm
                    refine A_callV1 m_MD_isSign T_ok d_MD_voicePart_377 l_MD_306 k_MD_isSign (mi_s k0.1 sf_170) rfl (by decide +kernel) (by decide) (Nat.le_of_ble_eq_true rfl) (s_MD_isSign k0.1 ) (fun r h631 hq => ?_)
                    obtain ⟨x638, rfl, bx638, xx638, rfl⟩ := hq
                    refine A_if_eq (tgt := 388) d_MD_voicePart_380 (by decide) (fun c639 => ?_) (fun c639 => ?_)
                    · refine A_aload_n 0 d_MD_voicePart_388 rfl rfl ?_
                      have zf641 := esd1.symm
                      have zf642 := esd2.symm
                      have zf643 := esd3.symm
                      have zf644 := esd4.symm
                      have zf645 := esd5.symm
                      refine A_callV0 m_MD_soundPart T_ok d_MD_voicePart_389 l_MD_375 k_MD_soundPart (mi_s k0.1 sf_170) rfl (by decide +kernel) (by decide) (Nat.le_of_ble_eq_true rfl) (s_MD_soundPart k0.1 (by have qq0 := esd1.symm; have qq1 := esd2.symm; first | (clear hps; omega) | omega) (by have qq0 := esd1.symm; have qq1 := esd2.symm; have qq2 := esd5.symm; have qq3 := esd3.symm; exact ⟨by first | (clear hps; omega) | omega, by first | (clear hps; omega) | omega⟩) (by have qq0 := esd5.symm; exact ⟨by first | (clear hps; omega) | omega, by first | (clear hps; omega) | omega⟩) hVH) (fun r h640 hq => ?_)
                      obtain ⟨x647, rfl, bx647, xx647, k646⟩ := hq
                      have k648 := kM_t k0 k646 (pm_s (by decide) (by decide))
                      obtain ⟨sd649, esd649⟩ : ∃ x, x = h640.2.1 170 3 := ⟨_, rfl⟩
                      have rsd649 : 0 ≤ sd649 ∧ sd649 ≤ 2000 := (by rw [esd649]; exact mi_g k648.1 (by decide) mr_170_3)
                      obtain ⟨sd650, esd650⟩ : ∃ x, x = h640.2.1 170 43 := ⟨_, rfl⟩
                      have rsd650 : 0 ≤ sd650 ∧ sd650 ≤ 2001 := (by rw [esd650]; exact mi_g k648.1 (by decide) mr_170_43)
                      obtain ⟨sd651, esd651⟩ : ∃ x, x = h640.2.1 170 4 := ⟨_, rfl⟩
                      have rsd651 : 0 ≤ sd651 ∧ sd651 ≤ 6 := (by rw [esd651]; exact mi_g k648.1 (by decide) mr_170_4)
                      exact A_zret d_MD_voicePart_392 (by decide) rfl (by first | (clear hps; omega) | omega) ⟨_, rfl, by first | (clear hps; omega) | omega, (fun hz => ⟨by first | (clear hps; omega) | omega, (by have qq0 := esd649.symm; have qq1 := ((k646.2.2.1 _ _ rfl).trans esd2.symm); have qq2 := esd651.symm; exact ⟨by first | (clear hps; omega) | omega, by first | (clear hps; omega) | omega, by first | (clear hps; omega) | omega, by first | (clear hps; omega) | omega⟩), (by have qq0 := esd649.symm; have qq1 := ((k646.2.2.1 _ _ rfl).trans esd2.symm); have qq2 := esd651.symm; have qq3 := esd650.symm; exact ⟨by first | (clear hps; omega) | omega, by first | (clear hps; omega) | omega⟩), (xx647 hz).2.2⟩), k648⟩
                    · refine A_aload_n 0 d_MD_voicePart_383 rfl rfl ?_
                      have zf653 := esd1.symm
                      have zf654 := esd2.symm
                      have zf655 := esd3.symm
                      have zf656 := esd4.symm
                      have zf657 := esd5.symm
                      refine A_callV0 m_MD_timesPart T_ok d_MD_voicePart_384 l_MD_372 k_MD_timesPart (mi_s k0.1 sf_170) rfl (by decide +kernel) (by decide) (Nat.le_of_ble_eq_true rfl) (s_MD_timesPart k0.1 (by have qq0 := esd1.symm; have qq1 := esd2.symm; first | (clear hps; omega) | omega) (by have qq0 := esd1.symm; have qq1 := esd2.symm; have qq2 := esd5.symm; have qq3 := esd3.symm; exact ⟨by first | (clear hps; omega) | omega, by first | (clear hps; omega) | omega⟩) (by have qq0 := esd5.symm; exact ⟨by first | (clear hps; omega) | omega, by first | (clear hps; omega) | omega⟩) hVH (by have qq0 := esd4.symm; first | (clear hps; omega) | omega)) (fun r h652 hq => ?_)
                      obtain ⟨x659, rfl, bx659, xx659, k658⟩ := hq
                      have k660 := kM_t k0 k658 (pm_s (by decide) (by decide))
                      obtain ⟨sd661, esd661⟩ : ∃ x, x = h652.2.1 170 3 := ⟨_, rfl⟩
                      have rsd661 : 0 ≤ sd661 ∧ sd661 ≤ 2000 := (by rw [esd661]; exact mi_g k660.1 (by decide) mr_170_3)
                      obtain ⟨sd662, esd662⟩ : ∃ x, x = h652.2.1 170 43 := ⟨_, rfl⟩
                      have rsd662 : 0 ≤ sd662 ∧ sd662 ≤ 2001 := (by rw [esd662]; exact mi_g k660.1 (by decide) mr_170_43)
                      obtain ⟨sd663, esd663⟩ : ∃ x, x = h652.2.1 170 63 := ⟨_, rfl⟩
                      have rsd663 : 0 ≤ sd663 ∧ sd663 ≤ 7 := (by rw [esd663]; exact mi_g k660.1 (by decide) mr_170_63)
                      obtain ⟨sd664, esd664⟩ : ∃ x, x = h652.2.1 170 4 := ⟨_, rfl⟩
                      have rsd664 : 0 ≤ sd664 ∧ sd664 ≤ 6 := (by rw [esd664]; exact mi_g k660.1 (by decide) mr_170_4)
                      exact A_zret d_MD_voicePart_387 (by decide) rfl (by first | (clear hps; omega) | omega) ⟨_, rfl, by first | (clear hps; omega) | omega, (fun hz => ⟨by first | (clear hps; omega) | omega, (by have qq0 := esd661.symm; have qq1 := ((k658.2.2.1 _ _ rfl).trans esd2.symm); have qq2 := esd664.symm; exact ⟨by first | (clear hps; omega) | omega, by first | (clear hps; omega) | omega, by first | (clear hps; omega) | omega, by first | (clear hps; omega) | omega⟩), (by have qq0 := esd661.symm; have qq1 := ((k658.2.2.1 _ _ rfl).trans esd2.symm); have qq2 := esd664.symm; have qq3 := esd662.symm; exact ⟨by first | (clear hps; omega) | omega, by first | (clear hps; omega) | omega⟩), (xx659 hz).2.2⟩), k660⟩
                  · refine A_aload_n 0 d_MD_voicePart_321 rfl rfl ?_
                    refine A_getAv (z := some 215) T_ok d_MD_voicePart_322 f_MD_148 (mi_s k0.1 sf_170) (mi_r k0.1 rfm_58) ?_
                    refine A_aload_n 0 d_MD_voicePart_325 rfl rfl ?_
                    refine A_getIv (z := sd4) T_ok d_MD_voicePart_326 f_MD_357 (mi_s k0.1 sf_170) esd4.symm ?_
                    refine A_aload_n 0 d_MD_voicePart_329 rfl rfl ?_
                    refine A_pc (pc' := 330) rfl ?_
                    refine A_getIv (z := sd3) T_ok d_MD_voicePart_330 f_MD_354 (mi_s k0.1 sf_170) esd3.symm ?_
                    refine A_iastorek (KR := kM (pm [3, 4, 5, 6, 7, 8, 9, 10, 11, 12, 43, 63, 64] [201, 202, 203, 204, 205, 206, 207, 208, 209, 210, 211, 212, 213, 214, 215, 216]) h) d_MD_voicePart_333 (mi_s k0.1 sf_215) (by first | (clear hps; omega) | omega) (by first | (clear hps; omega) | omega) (kM_i k0 (by decide) rfl (mr_215 _) (by first | (clear hps; omega) | omega) (by first | (clear hps; omega) | omega)) (fun h668 k669 eh668 => ?_)
                    refine A_aload_n 0 d_MD_voicePart_334 rfl rfl ?_
                    refine A_getAv (z := some 214) T_ok d_MD_voicePart_335 f_MD_145 (mi_s k669.1 sf_170) (mi_r k669.1 rfm_57) ?_
                    refine A_aload_n 0 d_MD_voicePart_338 rfl rfl ?_
                    refine A_getIv (z := sd3) T_ok d_MD_voicePart_339 f_MD_354 (mi_s k669.1 sf_170) ((eh668.1 _ _ (fun q => absurd q (by decide))).trans esd3.symm) ?_
                    refine A_pc (pc' := 342) rfl ?_
                    refine A_iconst d_MD_voicePart_342 rfl ?_
                    refine A_iastorek (KR := kM (pm [3, 4, 5, 6, 7, 8, 9, 10, 11, 12, 43, 63, 64] [201, 202, 203, 204, 205, 206, 207, 208, 209, 210, 211, 212, 213, 214, 215, 216]) h) d_MD_voicePart_343 (mi_s k669.1 sf_214) (by first | (clear hps; omega) | omega) (by first | (clear hps; omega) | omega) (kM_i k669 (by decide) rfl (mr_214 _) (by first | (clear hps; omega) | omega) (by first | (clear hps; omega) | omega)) (fun h672 k673 eh672 => ?_)
                    refine A_aload_n 0 d_MD_voicePart_344 rfl rfl ?_
                    refine A_iconst d_MD_voicePart_345 rfl ?_
                    have zf675 := ((eh672.1 _ _ (fun q => absurd q (by decide))).trans ((eh668.1 _ _ (fun q => absurd q (by decide))).trans esd1.symm))
                    have zf676 := ((eh672.1 _ _ (fun q => absurd q (by decide))).trans ((eh668.1 _ _ (fun q => absurd q (by decide))).trans esd2.symm))
                    have zf677 := ((eh672.1 _ _ (fun q => absurd q (by decide))).trans ((eh668.1 _ _ (fun q => absurd q (by decide))).trans esd3.symm))
                    have zf678 := ((eh672.1 _ _ (fun q => absurd q (by decide))).trans ((eh668.1 _ _ (fun q => absurd q (by decide))).trans esd4.symm))
                    have zf679 := ((eh672.1 _ _ (fun q => absurd q (by decide))).trans ((eh668.1 _ _ (fun q => absurd q (by decide))).trans esd5.symm))
                    refine A_callV1 m_MD_put T_ok d_MD_voicePart_346 l_MD_369 k_MD_put (mi_s k673.1 sf_170) rfl (by decide +kernel) (by decide) (Nat.le_of_ble_eq_true rfl) (s_MD_put k673.1 (by first | (clear hps; omega) | omega) (by first | (clear hps; omega) | omega) ((eh672.1 _ _ (fun q => absurd q (by decide))).trans ((eh668.1 _ _ (fun q => absurd q (by decide))).trans esd3.symm)) (by first | (clear hps; omega) | omega)) (fun r h674 hq => ?_)
                    obtain ⟨rfl, xk680, k680⟩ := hq
                    have k681 := kM_t k673 k680 (pm_s (by decide) (by decide))
                    refine A_aload_n 0 d_MD_voicePart_349 rfl rfl ?_
                    refine A_getAv (z := some 216) T_ok d_MD_voicePart_350 f_MD_151 (mi_s k681.1 sf_170) (mi_r k681.1 rfm_62) ?_
                    refine A_aload_n 0 d_MD_voicePart_353 rfl rfl ?_
                    refine A_getIv (z := sd4) T_ok d_MD_voicePart_354 f_MD_357 (mi_s k681.1 sf_170) ((k680.2.2.1 _ _ rfl).trans ((eh672.1 _ _ (fun q => absurd q (by decide))).trans ((eh668.1 _ _ (fun q => absurd q (by decide))).trans esd4.symm))) ?_
                    refine A_iconst d_MD_voicePart_357 rfl ?_
                    refine A_pc (pc' := 358) rfl ?_
                    refine A_iastorek (KR := kM (pm [3, 4, 5, 6, 7, 8, 9, 10, 11, 12, 43, 63, 64] [201, 202, 203, 204, 205, 206, 207, 208, 209, 210, 211, 212, 213, 214, 215, 216]) h) d_MD_voicePart_358 (mi_s k681.1 sf_216) (by first | (clear hps; omega) | omega) (by first | (clear hps; omega) | omega) (kM_i k681 (by decide) rfl (mr_216 _) (by first | (clear hps; omega) | omega) (by first | (clear hps; omega) | omega)) (fun h684 k685 eh684 => ?_)
                    refine A_aload_n 0 d_MD_voicePart_359 rfl rfl ?_
                    refine A_dupR d_MD_voicePart_360 ?_
                    refine A_getIv (z := sd4) T_ok d_MD_voicePart_361 f_MD_357 (mi_s k685.1 sf_170) ((eh684.1 _ _ (fun q => absurd q (by decide))).trans ((k680.2.2.1 _ _ rfl).trans ((eh672.1 _ _ (fun q => absurd q (by decide))).trans ((eh668.1 _ _ (fun q => absurd q (by decide))).trans esd4.symm)))) ?_
                    refine A_iconst d_MD_voicePart_364 rfl ?_
                    refine A_iaddv (z := (sd4 + 1)) d_MD_voicePart_365 (w32_to (by first | (clear hps; omega) | omega) (by unfold i32; first | (clear hps; omega) | omega)) ?_
                    refine A_pc (pc' := 366) rfl ?_
                    refine A_putIk (KR := kM (pm [3, 4, 5, 6, 7, 8, 9, 10, 11, 12, 43, 63, 64] [201, 202, 203, 204, 205, 206, 207, 208, 209, 210, 211, 212, 213, 214, 215, 216]) h) T_ok d_MD_voicePart_366 f_MD_357 (mi_s k685.1 sf_170) fin_f (kM_i k685 (by decide) (by decide) mr_170_63 (by first | (clear hps; omega) | omega) (by first | (clear hps; omega) | omega)) (fun h687 k688 eh687 => ?_)
                    refine A_aload_n 0 d_MD_voicePart_369 rfl rfl ?_
                    have zf690 := ((eh687.1 _ _ (fun _ => by decide)).trans ((eh684.1 _ _ (fun q => absurd q (by decide))).trans ((k680.2.2.1 _ _ rfl).trans ((eh672.1 _ _ (fun q => absurd q (by decide))).trans ((eh668.1 _ _ (fun q => absurd q (by decide))).trans esd1.symm)))))
                    have zf691 := ((eh687.1 _ _ (fun _ => by decide)).trans ((eh684.1 _ _ (fun q => absurd q (by decide))).trans ((k680.2.2.1 _ _ rfl).trans ((eh672.1 _ _ (fun q => absurd q (by decide))).trans ((eh668.1 _ _ (fun q => absurd q (by decide))).trans esd2.symm)))))
                    have zf692 := ((eh687.1 _ _ (fun _ => by decide)).trans ((eh684.1 _ _ (fun q => absurd q (by decide))).trans xk680.1))
                    have zf693 := eh687.2.1
                    have zf694 := ((eh687.1 _ _ (fun _ => by decide)).trans ((eh684.1 _ _ (fun q => absurd q (by decide))).trans ((k680.2.2.1 _ _ rfl).trans ((eh672.1 _ _ (fun q => absurd q (by decide))).trans ((eh668.1 _ _ (fun q => absurd q (by decide))).trans esd5.symm)))))
                    refine A_callV0 m_MD_next T_ok d_MD_voicePart_370 l_MD_309 k_MD_next (mi_s k688.1 sf_170) rfl (by decide +kernel) (by decide) (Nat.le_of_ble_eq_true rfl) (s_MD_next k688.1 (by have qq0 := ((eh687.1 _ _ (fun _ => by decide)).trans ((eh684.1 _ _ (fun q => absurd q (by decide))).trans ((k680.2.2.1 _ _ rfl).trans ((eh672.1 _ _ (fun q => absurd q (by decide))).trans ((eh668.1 _ _ (fun q => absurd q (by decide))).trans esd1.symm))))); have qq1 := ((eh687.1 _ _ (fun _ => by decide)).trans ((eh684.1 _ _ (fun q => absurd q (by decide))).trans ((k680.2.2.1 _ _ rfl).trans ((eh672.1 _ _ (fun q => absurd q (by decide))).trans ((eh668.1 _ _ (fun q => absurd q (by decide))).trans esd2.symm))))); first | (clear hps; omega) | omega)) (fun r h689 hq => ?_)
                    obtain ⟨x696, rfl, ⟨_, _⟩, xx696, k695⟩ := hq
                    have xa696 := xx696.1
                    have xb696 := xx696.2.1
                    have k697 := kM_t k688 k695 (pm_s (by decide) (by decide))
                    obtain ⟨sd698, esd698⟩ : ∃ x, x = h689.2.1 170 3 := ⟨_, rfl⟩
                    have rsd698 : 0 ≤ sd698 ∧ sd698 ≤ 2000 := (by rw [esd698]; exact mi_g k697.1 (by decide) mr_170_3)
                    obtain ⟨sd699, esd699⟩ : ∃ x, x = h689.2.1 170 4 := ⟨_, rfl⟩
                    have rsd699 : 0 ≤ sd699 ∧ sd699 ≤ 6 := (by rw [esd699]; exact mi_g k697.1 (by decide) mr_170_4)
                    exact A_zret d_MD_voicePart_373 (by decide) rfl (by first | (clear hps; omega) | omega) ⟨_, rfl, by first | (clear hps; omega) | omega, (fun hz => ⟨by first | (clear hps; omega) | omega, (by have qq0 := esd698.symm; have qq1 := ((k695.2.2.1 _ _ rfl).trans ((eh687.1 _ _ (fun _ => by decide)).trans ((eh684.1 _ _ (fun q => absurd q (by decide))).trans ((k680.2.2.1 _ _ rfl).trans ((eh672.1 _ _ (fun q => absurd q (by decide))).trans ((eh668.1 _ _ (fun q => absurd q (by decide))).trans esd2.symm)))))); have qq2 := esd699.symm; exact ⟨by first | (clear hps; omega) | omega, by first | (clear hps; omega) | omega, by first | (clear hps; omega) | omega, by first | (clear hps; omega) | omega⟩), (by have qq0 := esd698.symm; have qq1 := ((k695.2.2.1 _ _ rfl).trans ((eh687.1 _ _ (fun _ => by decide)).trans ((eh684.1 _ _ (fun q => absurd q (by decide))).trans ((k680.2.2.1 _ _ rfl).trans ((eh672.1 _ _ (fun q => absurd q (by decide))).trans ((eh668.1 _ _ (fun q => absurd q (by decide))).trans esd2.symm)))))); have qq2 := esd699.symm; have qq3 := ((k695.2.2.1 _ _ rfl).trans ((eh687.1 _ _ (fun _ => by decide)).trans ((eh684.1 _ _ (fun q => absurd q (by decide))).trans xk680.1))); exact ⟨by first | (clear hps; omega) | omega, by first | (clear hps; omega) | omega⟩), VH_o (x := sd3) (m := sd4) (c := 2) hVH esd3.symm esd4.symm (by first | (clear hps; omega) | omega) ((k695.2.2.1 _ _ rfl).trans ((eh687.1 _ _ (fun _ => by decide)).trans ((eh684.1 _ _ (fun q => absurd q (by decide))).trans xk680.1))) ((k695.2.2.1 _ _ rfl).trans eh687.2.1) (by decide) (fun k hk => ((k695.2.2.1 201 k rfl).trans ((eh687.1 201 k (fun q => absurd q (by decide))).trans ((eh684.1 201 k (fun q => absurd q (by decide))).trans ((xk680.2.1 k hk).trans ((eh672.1 201 k (fun q => absurd q (by decide))).trans (eh668.1 201 k (fun q => absurd q (by decide))))))))) ((k695.2.2.1 _ _ rfl).trans ((eh687.1 _ _ (fun q => absurd q (by decide))).trans ((eh684.1 _ _ (fun q => absurd q (by decide))).trans xk680.2.2))) (fun k hk => ((k695.2.2.1 202 k rfl).trans ((eh687.1 202 k (fun q => absurd q (by decide))).trans ((eh684.1 202 k (fun q => absurd q (by decide))).trans ((k680.2.2.1 202 k rfl).trans ((eh672.1 202 k (fun q => absurd q (by decide))).trans (eh668.1 202 k (fun q => absurd q (by decide))))))))) (fun k hk => ((k695.2.2.1 203 k rfl).trans ((eh687.1 203 k (fun q => absurd q (by decide))).trans ((eh684.1 203 k (fun q => absurd q (by decide))).trans ((k680.2.2.1 203 k rfl).trans ((eh672.1 203 k (fun q => absurd q (by decide))).trans (eh668.1 203 k (fun q => absurd q (by decide))))))))) (fun q => absurd q (by decide)) (fun k hk => ((k695.2.2.1 214 k rfl).trans ((eh687.1 214 k (fun q => absurd q (by decide))).trans ((eh684.1 214 k (fun q => absurd q (by decide))).trans ((k680.2.2.1 214 k rfl).trans ((eh672.1 214 k (fun _ => hk)).trans (eh668.1 214 k (fun q => absurd q (by decide))))))))) (fun _ => ((k695.2.2.1 _ _ rfl).trans ((eh687.1 _ _ (fun q => absurd q (by decide))).trans ((eh684.1 _ _ (fun q => absurd q (by decide))).trans ((k680.2.2.1 _ _ rfl).trans eh672.2.1))))) (fun k hk => ((k695.2.2.1 215 k rfl).trans ((eh687.1 215 k (fun q => absurd q (by decide))).trans ((eh684.1 215 k (fun q => absurd q (by decide))).trans ((k680.2.2.1 215 k rfl).trans ((eh672.1 215 k (fun q => absurd q (by decide))).trans (eh668.1 215 k (fun _ => hk)))))))) ((k695.2.2.1 _ _ rfl).trans ((eh687.1 _ _ (fun q => absurd q (by decide))).trans ((eh684.1 _ _ (fun q => absurd q (by decide))).trans ((k680.2.2.1 _ _ rfl).trans ((eh672.1 _ _ (fun q => absurd q (by decide))).trans eh668.2.1))))) (fun k hk => ((k695.2.2.1 216 k rfl).trans ((eh687.1 216 k (fun q => absurd q (by decide))).trans ((eh684.1 216 k (fun _ => hk)).trans ((k680.2.2.1 216 k rfl).trans ((eh672.1 216 k (fun q => absurd q (by decide))).trans (eh668.1 216 k (fun q => absurd q (by decide))))))))) ((k695.2.2.1 _ _ rfl).trans ((eh687.1 _ _ (fun q => absurd q (by decide))).trans eh684.2.1)) (by intro a ha; simp only [List.mem_cons, List.not_mem_nil, or_false] at ha; rcases ha with rfl | rfl | rfl | rfl ; exact (funext (fun k => ((k695.2.2.1 210 k rfl).trans ((eh687.1 210 k (fun q => absurd q (by decide))).trans ((eh684.1 210 k (fun q => absurd q (by decide))).trans ((k680.2.2.1 210 k rfl).trans ((eh672.1 210 k (fun q => absurd q (by decide))).trans (eh668.1 210 k (fun q => absurd q (by decide)))))))))) ; exact (funext (fun k => ((k695.2.2.1 211 k rfl).trans ((eh687.1 211 k (fun q => absurd q (by decide))).trans ((eh684.1 211 k (fun q => absurd q (by decide))).trans ((k680.2.2.1 211 k rfl).trans ((eh672.1 211 k (fun q => absurd q (by decide))).trans (eh668.1 211 k (fun q => absurd q (by decide)))))))))) ; exact (funext (fun k => ((k695.2.2.1 212 k rfl).trans ((eh687.1 212 k (fun q => absurd q (by decide))).trans ((eh684.1 212 k (fun q => absurd q (by decide))).trans ((k680.2.2.1 212 k rfl).trans ((eh672.1 212 k (fun q => absurd q (by decide))).trans (eh668.1 212 k (fun q => absurd q (by decide)))))))))) ; exact (funext (fun k => ((k695.2.2.1 213 k rfl).trans ((eh687.1 213 k (fun q => absurd q (by decide))).trans ((eh684.1 213 k (fun q => absurd q (by decide))).trans ((k680.2.2.1 213 k rfl).trans ((eh672.1 213 k (fun q => absurd q (by decide))).trans (eh668.1 213 k (fun q => absurd q (by decide)))))))))))⟩), k697⟩
                · refine A_aload_n 0 d_MD_voicePart_302 rfl rfl ?_
                  refine A_iconst d_MD_voicePart_303 rfl ?_
                  have zf701 := esd1.symm
                  have zf702 := esd2.symm
                  have zf703 := esd3.symm
                  have zf704 := esd4.symm
                  have zf705 := esd5.symm
                  refine A_callV1 m_MD_put T_ok d_MD_voicePart_304 l_MD_369 k_MD_put (mi_s k0.1 sf_170) rfl (by decide +kernel) (by decide) (Nat.le_of_ble_eq_true rfl) (s_MD_put k0.1 (by first | (clear hps; omega) | omega) (by first | (clear hps; omega) | omega) esd3.symm (by first | (clear hps; omega) | omega)) (fun r h700 hq => ?_)
                  obtain ⟨rfl, xk706, k706⟩ := hq
                  have k707 := kM_t k0 k706 (pm_s (by decide) (by decide))
                  refine A_aload_n 0 d_MD_voicePart_307 rfl rfl ?_
                  have zf709 := ((k706.2.2.1 _ _ rfl).trans esd1.symm)
                  have zf710 := ((k706.2.2.1 _ _ rfl).trans esd2.symm)
                  have zf711 := xk706.1
                  have zf712 := ((k706.2.2.1 _ _ rfl).trans esd4.symm)
                  have zf713 := ((k706.2.2.1 _ _ rfl).trans esd5.symm)
                  refine A_callV0 m_MD_next T_ok d_MD_voicePart_308 l_MD_309 k_MD_next (mi_s k707.1 sf_170) rfl (by decide +kernel) (by decide) (Nat.le_of_ble_eq_true rfl) (s_MD_next k707.1 (by have qq0 := ((k706.2.2.1 _ _ rfl).trans esd1.symm); have qq1 := ((k706.2.2.1 _ _ rfl).trans esd2.symm); first | (clear hps; omega) | omega)) (fun r h708 hq => ?_)
                  obtain ⟨x715, rfl, ⟨_, _⟩, xx715, k714⟩ := hq
                  have xa715 := xx715.1
                  have xb715 := xx715.2.1
                  have k716 := kM_t k707 k714 (pm_s (by decide) (by decide))
                  obtain ⟨sd717, esd717⟩ : ∃ x, x = h708.2.1 170 3 := ⟨_, rfl⟩
                  have rsd717 : 0 ≤ sd717 ∧ sd717 ≤ 2000 := (by rw [esd717]; exact mi_g k716.1 (by decide) mr_170_3)
                  obtain ⟨sd718, esd718⟩ : ∃ x, x = h708.2.1 170 4 := ⟨_, rfl⟩
                  have rsd718 : 0 ≤ sd718 ∧ sd718 ≤ 6 := (by rw [esd718]; exact mi_g k716.1 (by decide) mr_170_4)
                  exact A_zret d_MD_voicePart_311 (by decide) rfl (by first | (clear hps; omega) | omega) ⟨_, rfl, by first | (clear hps; omega) | omega, (fun hz => ⟨by first | (clear hps; omega) | omega, (by have qq0 := esd717.symm; have qq1 := ((k714.2.2.1 _ _ rfl).trans ((k706.2.2.1 _ _ rfl).trans esd2.symm)); have qq2 := esd718.symm; exact ⟨by first | (clear hps; omega) | omega, by first | (clear hps; omega) | omega, by first | (clear hps; omega) | omega, by first | (clear hps; omega) | omega⟩), (by have qq0 := esd717.symm; have qq1 := ((k714.2.2.1 _ _ rfl).trans ((k706.2.2.1 _ _ rfl).trans esd2.symm)); have qq2 := esd718.symm; have qq3 := ((k714.2.2.1 _ _ rfl).trans xk706.1); exact ⟨by first | (clear hps; omega) | omega, by first | (clear hps; omega) | omega⟩), VH_s (x := sd3) hVH esd3.symm ((k714.2.2.1 _ _ rfl).trans xk706.1) (((k714.2.2.1 170 63 rfl).trans (k706.2.2.1 170 63 rfl))) (fun k hk => ((k714.2.2.1 201 k rfl).trans (xk706.2.1 k hk))) (Or.inl ((k714.2.2.1 _ _ rfl).trans xk706.2.2)) (fun k hk => ((k714.2.2.1 202 k rfl).trans (k706.2.2.1 202 k rfl))) (by intro a ha; simp only [List.mem_cons, List.not_mem_nil, or_false] at ha; rcases ha with rfl | rfl | rfl | rfl | rfl | rfl | rfl | rfl ; exact (funext (fun k => ((k714.2.2.1 203 k rfl).trans (k706.2.2.1 203 k rfl)))) ; exact (funext (fun k => ((k714.2.2.1 210 k rfl).trans (k706.2.2.1 210 k rfl)))) ; exact (funext (fun k => ((k714.2.2.1 211 k rfl).trans (k706.2.2.1 211 k rfl)))) ; exact (funext (fun k => ((k714.2.2.1 212 k rfl).trans (k706.2.2.1 212 k rfl)))) ; exact (funext (fun k => ((k714.2.2.1 213 k rfl).trans (k706.2.2.1 213 k rfl)))) ; exact (funext (fun k => ((k714.2.2.1 214 k rfl).trans (k706.2.2.1 214 k rfl)))) ; exact (funext (fun k => ((k714.2.2.1 215 k rfl).trans (k706.2.2.1 215 k rfl)))) ; exact (funext (fun k => ((k714.2.2.1 216 k rfl).trans (k706.2.2.1 216 k rfl)))))⟩), k716⟩
  · refine A_aload_n 0 d_MD_voicePart_7 rfl rfl ?_
    refine A_getAv (z := some 216) T_ok d_MD_voicePart_8 f_MD_151 (mi_s k0.1 sf_170) (mi_r k0.1 rfm_62) ?_
    refine A_aload_n 0 d_MD_voicePart_11 rfl rfl ?_
    refine A_getIv (z := sd4) T_ok d_MD_voicePart_12 f_MD_357 (mi_s k0.1 sf_170) esd4.symm ?_
    refine A_iconst d_MD_voicePart_15 rfl ?_
    refine A_pc (pc' := 16) rfl ?_
    refine A_isubv (z := (sd4 - 1)) d_MD_voicePart_16 (w32_to (by first | (clear hps; omega) | omega) (by unfold i32; first | (clear hps; omega) | omega)) ?_
    refine A_ialoadn (lo := 0) (hi := 6) d_MD_voicePart_17 (mi_s k0.1 sf_216) (by first | (clear hps; omega) | omega) (by first | (clear hps; omega) | omega) (mi_g k0.1 (by decide) (mr_216 _)) (fun x721 ex721 _ _ => ?_)
    refine A_iconst d_MD_voicePart_18 rfl ?_
    refine A_icmp_ne (tgt := 26) d_MD_voicePart_19 (by decide) (fun c722 => ?_) (fun c722 => ?_)
    · refine A_iconst d_MD_voicePart_26 rfl ?_
      refine A_istore_n 1 (L' := [some (av_R (some 170)), some (av_I 0), none]) d_MD_voicePart_27 rfl (Nat.le_of_ble_eq_true rfl) rfl ?_
      refine A_iload_n 1 d_MD_voicePart_28 rfl rfl ?_
      refine A_if_eq (tgt := 120) d_MD_voicePart_29 (by decide) (fun _ => ?_) (fun c => absurd c (by decide))
      refine A_aload_n 0 d_MD_voicePart_120 rfl rfl ?_
      refine A_iload_n 1 d_MD_voicePart_121 rfl rfl ?_
      refine A_if_eq (tgt := 130) d_MD_voicePart_122 (by decide) (fun _ => ?_) (fun c => absurd c (by decide))
      refine A_bipush d_MD_voicePart_130 rfl ?_
      have zf726 := esd1.symm
      have zf727 := esd2.symm
      have zf728 := esd3.symm
      have zf729 := esd4.symm
      have zf730 := esd5.symm
      refine A_callV1 m_MD_isSign T_ok d_MD_voicePart_132 l_MD_306 k_MD_isSign (mi_s k0.1 sf_170) rfl (by decide +kernel) (by decide) (Nat.le_of_ble_eq_true rfl) (s_MD_isSign k0.1 ) (fun r h725 hq => ?_)
      obtain ⟨x732, rfl, bx732, xx732, rfl⟩ := hq
      refine A_if_eq (tgt := 207) d_MD_voicePart_135 (by decide) (fun c733 => ?_) (fun c733 => ?_)
      · refine A_aload_n 0 d_MD_voicePart_207 rfl rfl ?_
        refine A_getIv (z := sd5) T_ok d_MD_voicePart_208 f_MD_239 (mi_s k0.1 sf_170) esd5.symm ?_
        refine A_iconst d_MD_voicePart_211 rfl ?_
        refine A_icmp_eq (tgt := 259) d_MD_voicePart_212 (by decide) (fun c735 => ?_) (fun c735 => ?_)
        · refine A_iconst d_MD_voicePart_259 rfl ?_
          refine A_goto (tgt := 264) d_MD_voicePart_260 (by decide) ?_
          refine A_istore_n 1 (L' := [some (av_R (some 170)), some (av_I 1), none]) d_MD_voicePart_264 rfl (Nat.le_of_ble_eq_true rfl) rfl ?_
          refine A_iload_n 1 d_MD_voicePart_265 rfl rfl ?_
          refine A_if_ne (tgt := 274) d_MD_voicePart_266 (by decide) (fun _ => ?_) (fun c => absurd c (by decide))
          refine A_aload_n 0 d_MD_voicePart_274 rfl rfl ?_
          refine A_getIv (z := sd4) T_ok d_MD_voicePart_275 f_MD_357 (mi_s k0.1 sf_170) esd4.symm ?_
          refine A_bipush d_MD_voicePart_278 rfl ?_
          refine A_icmp_le (tgt := 293) d_MD_voicePart_280 (by decide) (fun c738 => ?_) (fun c738 => ?_)
          · refine A_aload_n 0 d_MD_voicePart_293 rfl rfl ?_
            refine A_bipush d_MD_voicePart_294 rfl ?_
            have zf740 := esd1.symm
            have zf741 := esd2.symm
            have zf742 := esd3.symm
            have zf743 := esd4.symm
            have zf744 := esd5.symm
            refine A_callV1 m_MD_isSign T_ok d_MD_voicePart_296 l_MD_306 k_MD_isSign (mi_s k0.1 sf_170) rfl (by decide +kernel) (by decide) (Nat.le_of_ble_eq_true rfl) (s_MD_isSign k0.1 ) (fun r h739 hq => ?_)
            obtain ⟨x746, rfl, bx746, xx746, rfl⟩ := hq
            refine A_if_eq (tgt := 312) d_MD_voicePart_299 (by decide) (fun c747 => ?_) (fun c747 => ?_)
            · refine A_aload_n 0 d_MD_voicePart_312 rfl rfl ?_
              refine A_bipush d_MD_voicePart_313 rfl ?_
              have zf749 := esd1.symm
              have zf750 := esd2.symm
              have zf751 := esd3.symm
              have zf752 := esd4.symm
              have zf753 := esd5.symm
              refine A_callV1 m_MD_isSign T_ok d_MD_voicePart_315 l_MD_306 k_MD_isSign (mi_s k0.1 sf_170) rfl (by decide +kernel) (by decide) (Nat.le_of_ble_eq_true rfl) (s_MD_isSign k0.1 ) (fun r h748 hq => ?_)
              obtain ⟨x755, rfl, bx755, xx755, rfl⟩ := hq
              refine A_if_eq (tgt := 374) d_MD_voicePart_318 (by decide) (fun c756 => ?_) (fun c756 => ?_)
              · refine A_aload_n 0 d_MD_voicePart_374 rfl rfl ?_
                refine A_bipush d_MD_voicePart_375 rfl ?_
                have zf758 := esd1.symm
                have zf759 := esd2.symm
                have zf760 := esd3.symm
                have zf761 := esd4.symm
                have zf762 := esd5.symm
                refine A_callV1 m_MD_isSign T_ok d_MD_voicePart_377 l_MD_306 k_MD_isSign (mi_s k0.1 sf_170) rfl (by decide +kernel) (by decide) (Nat.le_of_ble_eq_true rfl) (s_MD_isSign k0.1 ) (fun r h757 hq => ?_)
                obtain ⟨x764, rfl, bx764, xx764, rfl⟩ := hq
                refine A_if_eq (tgt := 388) d_MD_voicePart_380 (by decide) (fun c765 => ?_) (fun c765 => ?_)
                · refine A_aload_n 0 d_MD_voicePart_388 rfl rfl ?_
                  have zf767 := esd1.symm
                  have zf768 := esd2.symm
                  have zf769 := esd3.symm
                  have zf770 := esd4.symm
                  have zf771 := esd5.symm
                  refine A_callV0 m_MD_soundPart T_ok d_MD_voicePart_389 l_MD_375 k_MD_soundPart (mi_s k0.1 sf_170) rfl (by decide +kernel) (by decide) (Nat.le_of_ble_eq_true rfl) (s_MD_soundPart k0.1 (by have qq0 := esd1.symm; have qq1 := esd2.symm; first | (clear hps; omega) | omega) (by have qq0 := esd1.symm; have qq1 := esd2.symm; have qq2 := esd5.symm; have qq3 := esd3.symm; exact ⟨by first | (clear hps; omega) | omega, by first | (clear hps; omega) | omega⟩) (by have qq0 := esd5.symm; exact ⟨by first | (clear hps; omega) | omega, by first | (clear hps; omega) | omega⟩) hVH) (fun r h766 hq => ?_)
                  obtain ⟨x773, rfl, bx773, xx773, k772⟩ := hq
                  have k774 := kM_t k0 k772 (pm_s (by decide) (by decide))
                  obtain ⟨sd775, esd775⟩ : ∃ x, x = h766.2.1 170 3 := ⟨_, rfl⟩
                  have rsd775 : 0 ≤ sd775 ∧ sd775 ≤ 2000 := (by rw [esd775]; exact mi_g k774.1 (by decide) mr_170_3)
                  obtain ⟨sd776, esd776⟩ : ∃ x, x = h766.2.1 170 43 := ⟨_, rfl⟩
                  have rsd776 : 0 ≤ sd776 ∧ sd776 ≤ 2001 := (by rw [esd776]; exact mi_g k774.1 (by decide) mr_170_43)
                  obtain ⟨sd777, esd777⟩ : ∃ x, x = h766.2.1 170 4 := ⟨_, rfl⟩
                  have rsd777 : 0 ≤ sd777 ∧ sd777 ≤ 6 := (by rw [esd777]; exact mi_g k774.1 (by decide) mr_170_4)
                  exact A_zret d_MD_voicePart_392 (by decide) rfl (by first | (clear hps; omega) | omega) ⟨_, rfl, by first | (clear hps; omega) | omega, (fun hz => ⟨by first | (clear hps; omega) | omega, (by have qq0 := esd775.symm; have qq1 := ((k772.2.2.1 _ _ rfl).trans esd2.symm); have qq2 := esd777.symm; exact ⟨by first | (clear hps; omega) | omega, by first | (clear hps; omega) | omega, by first | (clear hps; omega) | omega, by first | (clear hps; omega) | omega⟩), (by have qq0 := esd775.symm; have qq1 := ((k772.2.2.1 _ _ rfl).trans esd2.symm); have qq2 := esd777.symm; have qq3 := esd776.symm; exact ⟨by first | (clear hps; omega) | omega, by first | (clear hps; omega) | omega⟩), (xx773 hz).2.2⟩), k774⟩
                · refine A_aload_n 0 d_MD_voicePart_383 rfl rfl ?_
                  have zf779 := esd1.symm
                  have zf780 := esd2.symm
                  have zf781 := esd3.symm
                  have zf782 := esd4.symm
                  have zf783 := esd5.symm
                  refine A_callV0 m_MD_timesPart T_ok d_MD_voicePart_384 l_MD_372 k_MD_timesPart (mi_s k0.1 sf_170) rfl (by decide +kernel) (by decide) (Nat.le_of_ble_eq_true rfl) (s_MD_timesPart k0.1 (by have qq0 := esd1.symm; have qq1 := esd2.symm; first | (clear hps; omega) | omega) (by have qq0 := esd1.symm; have qq1 := esd2.symm; have qq2 := esd5.symm; have qq3 := esd3.symm; exact ⟨by first | (clear hps; omega) | omega, by first | (clear hps; omega) | omega⟩) (by have qq0 := esd5.symm; exact ⟨by first | (clear hps; omega) | omega, by first | (clear hps; omega) | omega⟩) hVH (by have qq0 := esd4.symm; first | (clear hps; omega) | omega)) (fun r h778 hq => ?_)
                  obtain ⟨x785, rfl, bx785, xx785, k784⟩ := hq
                  have k786 := kM_t k0 k784 (pm_s (by decide) (by decide))
                  obtain ⟨sd787, esd787⟩ : ∃ x, x = h778.2.1 170 3 := ⟨_, rfl⟩
                  have rsd787 : 0 ≤ sd787 ∧ sd787 ≤ 2000 := (by rw [esd787]; exact mi_g k786.1 (by decide) mr_170_3)
                  obtain ⟨sd788, esd788⟩ : ∃ x, x = h778.2.1 170 43 := ⟨_, rfl⟩
                  have rsd788 : 0 ≤ sd788 ∧ sd788 ≤ 2001 := (by rw [esd788]; exact mi_g k786.1 (by decide) mr_170_43)
                  obtain ⟨sd789, esd789⟩ : ∃ x, x = h778.2.1 170 63 := ⟨_, rfl⟩
                  have rsd789 : 0 ≤ sd789 ∧ sd789 ≤ 7 := (by rw [esd789]; exact mi_g k786.1 (by decide) mr_170_63)
                  obtain ⟨sd790, esd790⟩ : ∃ x, x = h778.2.1 170 4 := ⟨_, rfl⟩
                  have rsd790 : 0 ≤ sd790 ∧ sd790 ≤ 6 := (by rw [esd790]; exact mi_g k786.1 (by decide) mr_170_4)
                  exact A_zret d_MD_voicePart_387 (by decide) rfl (by first | (clear hps; omega) | omega) ⟨_, rfl, by first | (clear hps; omega) | omega, (fun hz => ⟨by first | (clear hps; omega) | omega, (by have qq0 := esd787.symm; have qq1 := ((k784.2.2.1 _ _ rfl).trans esd2.symm); have qq2 := esd790.symm; exact ⟨by first | (clear hps; omega) | omega, by first | (clear hps; omega) | omega, by first | (clear hps; omega) | omega, by first | (clear hps; omega) | omega⟩), (by have qq0 := esd787.symm; have qq1 := ((k784.2.2.1 _ _ rfl).trans esd2.symm); have qq2 := esd790.symm; have qq3 := esd788.symm; exact ⟨by first | (clear hps; omega) | omega, by first | (clear hps; omega) | omega⟩), (xx785 hz).2.2⟩), k786⟩
              · refine A_aload_n 0 d_MD_voicePart_321 rfl rfl ?_
                refine A_getAv (z := some 215) T_ok d_MD_voicePart_322 f_MD_148 (mi_s k0.1 sf_170) (mi_r k0.1 rfm_58) ?_
                refine A_aload_n 0 d_MD_voicePart_325 rfl rfl ?_
                refine A_getIv (z := sd4) T_ok d_MD_voicePart_326 f_MD_357 (mi_s k0.1 sf_170) esd4.symm ?_
                refine A_aload_n 0 d_MD_voicePart_329 rfl rfl ?_
                refine A_pc (pc' := 330) rfl ?_
                refine A_getIv (z := sd3) T_ok d_MD_voicePart_330 f_MD_354 (mi_s k0.1 sf_170) esd3.symm ?_
                refine A_iastorek (KR := kM (pm [3, 4, 5, 6, 7, 8, 9, 10, 11, 12, 43, 63, 64] [201, 202, 203, 204, 205, 206, 207, 208, 209, 210, 211, 212, 213, 214, 215, 216]) h) d_MD_voicePart_333 (mi_s k0.1 sf_215) (by first | (clear hps; omega) | omega) (by first | (clear hps; omega) | omega) (kM_i k0 (by decide) rfl (mr_215 _) (by first | (clear hps; omega) | omega) (by first | (clear hps; omega) | omega)) (fun h794 k795 eh794 => ?_)
                refine A_aload_n 0 d_MD_voicePart_334 rfl rfl ?_
                refine A_getAv (z := some 214) T_ok d_MD_voicePart_335 f_MD_145 (mi_s k795.1 sf_170) (mi_r k795.1 rfm_57) ?_
                refine A_aload_n 0 d_MD_voicePart_338 rfl rfl ?_
                refine A_getIv (z := sd3) T_ok d_MD_voicePart_339 f_MD_354 (mi_s k795.1 sf_170) ((eh794.1 _ _ (fun q => absurd q (by decide))).trans esd3.symm) ?_
                refine A_pc (pc' := 342) rfl ?_
                refine A_iconst d_MD_voicePart_342 rfl ?_
                refine A_iastorek (KR := kM (pm [3, 4, 5, 6, 7, 8, 9, 10, 11, 12, 43, 63, 64] [201, 202, 203, 204, 205, 206, 207, 208, 209, 210, 211, 212, 213, 214, 215, 216]) h) d_MD_voicePart_343 (mi_s k795.1 sf_214) (by first | (clear hps; omega) | omega) (by first | (clear hps; omega) | omega) (kM_i k795 (by decide) rfl (mr_214 _) (by first | (clear hps; omega) | omega) (by first | (clear hps; omega) | omega)) (fun h798 k799 eh798 => ?_)
                refine A_aload_n 0 d_MD_voicePart_344 rfl rfl ?_
                refine A_iconst d_MD_voicePart_345 rfl ?_
                have zf801 := ((eh798.1 _ _ (fun q => absurd q (by decide))).trans ((eh794.1 _ _ (fun q => absurd q (by decide))).trans esd1.symm))
                have zf802 := ((eh798.1 _ _ (fun q => absurd q (by decide))).trans ((eh794.1 _ _ (fun q => absurd q (by decide))).trans esd2.symm))
                have zf803 := ((eh798.1 _ _ (fun q => absurd q (by decide))).trans ((eh794.1 _ _ (fun q => absurd q (by decide))).trans esd3.symm))
                have zf804 := ((eh798.1 _ _ (fun q => absurd q (by decide))).trans ((eh794.1 _ _ (fun q => absurd q (by decide))).trans esd4.symm))
                have zf805 := ((eh798.1 _ _ (fun q => absurd q (by decide))).trans ((eh794.1 _ _ (fun q => absurd q (by decide))).trans esd5.symm))
                refine A_callV1 m_MD_put T_ok d_MD_voicePart_346 l_MD_369 k_MD_put (mi_s k799.1 sf_170) rfl (by decide +kernel) (by decide) (Nat.le_of_ble_eq_true rfl) (s_MD_put k799.1 (by first | (clear hps; omega) | omega) (by first | (clear hps; omega) | omega) ((eh798.1 _ _ (fun q => absurd q (by decide))).trans ((eh794.1 _ _ (fun q => absurd q (by decide))).trans esd3.symm)) (by first | (clear hps; omega) | omega)) (fun r h800 hq => ?_)
                obtain ⟨rfl, xk806, k806⟩ := hq
                have k807 := kM_t k799 k806 (pm_s (by decide) (by decide))
                refine A_aload_n 0 d_MD_voicePart_349 rfl rfl ?_
                refine A_getAv (z := some 216) T_ok d_MD_voicePart_350 f_MD_151 (mi_s k807.1 sf_170) (mi_r k807.1 rfm_62) ?_
                refine A_aload_n 0 d_MD_voicePart_353 rfl rfl ?_
                refine A_getIv (z := sd4) T_ok d_MD_voicePart_354 f_MD_357 (mi_s k807.1 sf_170) ((k806.2.2.1 _ _ rfl).trans ((eh798.1 _ _ (fun q => absurd q (by decide))).trans ((eh794.1 _ _ (fun q => absurd q (by decide))).trans esd4.symm))) ?_
                refine A_iconst d_MD_voicePart_357 rfl ?_
                refine A_pc (pc' := 358) rfl ?_
                refine A_iastorek (KR := kM (pm [3, 4, 5, 6, 7, 8, 9, 10, 11, 12, 43, 63, 64] [201, 202, 203, 204, 205, 206, 207, 208, 209, 210, 211, 212, 213, 214, 215, 216]) h) d_MD_voicePart_358 (mi_s k807.1 sf_216) (by first | (clear hps; omega) | omega) (by first | (clear hps; omega) | omega) (kM_i k807 (by decide) rfl (mr_216 _) (by first | (clear hps; omega) | omega) (by first | (clear hps; omega) | omega)) (fun h810 k811 eh810 => ?_)
                refine A_aload_n 0 d_MD_voicePart_359 rfl rfl ?_
                refine A_dupR d_MD_voicePart_360 ?_
                refine A_getIv (z := sd4) T_ok d_MD_voicePart_361 f_MD_357 (mi_s k811.1 sf_170) ((eh810.1 _ _ (fun q => absurd q (by decide))).trans ((k806.2.2.1 _ _ rfl).trans ((eh798.1 _ _ (fun q => absurd q (by decide))).trans ((eh794.1 _ _ (fun q => absurd q (by decide))).trans esd4.symm)))) ?_
                refine A_iconst d_MD_voicePart_364 rfl ?_
                refine A_iaddv (z := (sd4 + 1)) d_MD_voicePart_365 (w32_to (by first | (clear hps; omega) | omega) (by unfold i32; first | (clear hps; omega) | omega)) ?_
                refine A_pc (pc' := 366) rfl ?_
                refine A_putIk (KR := kM (pm [3, 4, 5, 6, 7, 8, 9, 10, 11, 12, 43, 63, 64] [201, 202, 203, 204, 205, 206, 207, 208, 209, 210, 211, 212, 213, 214, 215, 216]) h) T_ok d_MD_voicePart_366 f_MD_357 (mi_s k811.1 sf_170) fin_f (kM_i k811 (by decide) (by decide) mr_170_63 (by first | (clear hps; omega) | omega) (by first | (clear hps; omega) | omega)) (fun h813 k814 eh813 => ?_)
                refine A_aload_n 0 d_MD_voicePart_369 rfl rfl ?_
                have zf816 := ((eh813.1 _ _ (fun _ => by decide)).trans ((eh810.1 _ _ (fun q => absurd q (by decide))).trans ((k806.2.2.1 _ _ rfl).trans ((eh798.1 _ _ (fun q => absurd q (by decide))).trans ((eh794.1 _ _ (fun q => absurd q (by decide))).trans esd1.symm)))))
                have zf817 := ((eh813.1 _ _ (fun _ => by decide)).trans ((eh810.1 _ _ (fun q => absurd q (by decide))).trans ((k806.2.2.1 _ _ rfl).trans ((eh798.1 _ _ (fun q => absurd q (by decide))).trans ((eh794.1 _ _ (fun q => absurd q (by decide))).trans esd2.symm)))))
                have zf818 := ((eh813.1 _ _ (fun _ => by decide)).trans ((eh810.1 _ _ (fun q => absurd q (by decide))).trans xk806.1))
                have zf819 := eh813.2.1
                have zf820 := ((eh813.1 _ _ (fun _ => by decide)).trans ((eh810.1 _ _ (fun q => absurd q (by decide))).trans ((k806.2.2.1 _ _ rfl).trans ((eh798.1 _ _ (fun q => absurd q (by decide))).trans ((eh794.1 _ _ (fun q => absurd q (by decide))).trans esd5.symm)))))
                refine A_callV0 m_MD_next T_ok d_MD_voicePart_370 l_MD_309 k_MD_next (mi_s k814.1 sf_170) rfl (by decide +kernel) (by decide) (Nat.le_of_ble_eq_true rfl) (s_MD_next k814.1 (by have qq0 := ((eh813.1 _ _ (fun _ => by decide)).trans ((eh810.1 _ _ (fun q => absurd q (by decide))).trans ((k806.2.2.1 _ _ rfl).trans ((eh798.1 _ _ (fun q => absurd q (by decide))).trans ((eh794.1 _ _ (fun q => absurd q (by decide))).trans esd1.symm))))); have qq1 := ((eh813.1 _ _ (fun _ => by decide)).trans ((eh810.1 _ _ (fun q => absurd q (by decide))).trans ((k806.2.2.1 _ _ rfl).trans ((eh798.1 _ _ (fun q => absurd q (by decide))).trans ((eh794.1 _ _ (fun q => absurd q (by decide))).trans esd2.symm))))); first | (clear hps; omega) | omega)) (fun r h815 hq => ?_)
                obtain ⟨x822, rfl, ⟨_, _⟩, xx822, k821⟩ := hq
                have xa822 := xx822.1
                have xb822 := xx822.2.1
                have k823 := kM_t k814 k821 (pm_s (by decide) (by decide))
                obtain ⟨sd824, esd824⟩ : ∃ x, x = h815.2.1 170 3 := ⟨_, rfl⟩
                have rsd824 : 0 ≤ sd824 ∧ sd824 ≤ 2000 := (by rw [esd824]; exact mi_g k823.1 (by decide) mr_170_3)
                obtain ⟨sd825, esd825⟩ : ∃ x, x = h815.2.1 170 4 := ⟨_, rfl⟩
                have rsd825 : 0 ≤ sd825 ∧ sd825 ≤ 6 := (by rw [esd825]; exact mi_g k823.1 (by decide) mr_170_4)
                exact A_zret d_MD_voicePart_373 (by decide) rfl (by first | (clear hps; omega) | omega) ⟨_, rfl, by first | (clear hps; omega) | omega, (fun hz => ⟨by first | (clear hps; omega) | omega, (by have qq0 := esd824.symm; have qq1 := ((k821.2.2.1 _ _ rfl).trans ((eh813.1 _ _ (fun _ => by decide)).trans ((eh810.1 _ _ (fun q => absurd q (by decide))).trans ((k806.2.2.1 _ _ rfl).trans ((eh798.1 _ _ (fun q => absurd q (by decide))).trans ((eh794.1 _ _ (fun q => absurd q (by decide))).trans esd2.symm)))))); have qq2 := esd825.symm; exact ⟨by first | (clear hps; omega) | omega, by first | (clear hps; omega) | omega, by first | (clear hps; omega) | omega, by first | (clear hps; omega) | omega⟩), (by have qq0 := esd824.symm; have qq1 := ((k821.2.2.1 _ _ rfl).trans ((eh813.1 _ _ (fun _ => by decide)).trans ((eh810.1 _ _ (fun q => absurd q (by decide))).trans ((k806.2.2.1 _ _ rfl).trans ((eh798.1 _ _ (fun q => absurd q (by decide))).trans ((eh794.1 _ _ (fun q => absurd q (by decide))).trans esd2.symm)))))); have qq2 := esd825.symm; have qq3 := ((k821.2.2.1 _ _ rfl).trans ((eh813.1 _ _ (fun _ => by decide)).trans ((eh810.1 _ _ (fun q => absurd q (by decide))).trans xk806.1))); exact ⟨by first | (clear hps; omega) | omega, by first | (clear hps; omega) | omega⟩), VH_o (x := sd3) (m := sd4) (c := 2) hVH esd3.symm esd4.symm (by first | (clear hps; omega) | omega) ((k821.2.2.1 _ _ rfl).trans ((eh813.1 _ _ (fun _ => by decide)).trans ((eh810.1 _ _ (fun q => absurd q (by decide))).trans xk806.1))) ((k821.2.2.1 _ _ rfl).trans eh813.2.1) (by decide) (fun k hk => ((k821.2.2.1 201 k rfl).trans ((eh813.1 201 k (fun q => absurd q (by decide))).trans ((eh810.1 201 k (fun q => absurd q (by decide))).trans ((xk806.2.1 k hk).trans ((eh798.1 201 k (fun q => absurd q (by decide))).trans (eh794.1 201 k (fun q => absurd q (by decide))))))))) ((k821.2.2.1 _ _ rfl).trans ((eh813.1 _ _ (fun q => absurd q (by decide))).trans ((eh810.1 _ _ (fun q => absurd q (by decide))).trans xk806.2.2))) (fun k hk => ((k821.2.2.1 202 k rfl).trans ((eh813.1 202 k (fun q => absurd q (by decide))).trans ((eh810.1 202 k (fun q => absurd q (by decide))).trans ((k806.2.2.1 202 k rfl).trans ((eh798.1 202 k (fun q => absurd q (by decide))).trans (eh794.1 202 k (fun q => absurd q (by decide))))))))) (fun k hk => ((k821.2.2.1 203 k rfl).trans ((eh813.1 203 k (fun q => absurd q (by decide))).trans ((eh810.1 203 k (fun q => absurd q (by decide))).trans ((k806.2.2.1 203 k rfl).trans ((eh798.1 203 k (fun q => absurd q (by decide))).trans (eh794.1 203 k (fun q => absurd q (by decide))))))))) (fun q => absurd q (by decide)) (fun k hk => ((k821.2.2.1 214 k rfl).trans ((eh813.1 214 k (fun q => absurd q (by decide))).trans ((eh810.1 214 k (fun q => absurd q (by decide))).trans ((k806.2.2.1 214 k rfl).trans ((eh798.1 214 k (fun _ => hk)).trans (eh794.1 214 k (fun q => absurd q (by decide))))))))) (fun _ => ((k821.2.2.1 _ _ rfl).trans ((eh813.1 _ _ (fun q => absurd q (by decide))).trans ((eh810.1 _ _ (fun q => absurd q (by decide))).trans ((k806.2.2.1 _ _ rfl).trans eh798.2.1))))) (fun k hk => ((k821.2.2.1 215 k rfl).trans ((eh813.1 215 k (fun q => absurd q (by decide))).trans ((eh810.1 215 k (fun q => absurd q (by decide))).trans ((k806.2.2.1 215 k rfl).trans ((eh798.1 215 k (fun q => absurd q (by decide))).trans (eh794.1 215 k (fun _ => hk)))))))) ((k821.2.2.1 _ _ rfl).trans ((eh813.1 _ _ (fun q => absurd q (by decide))).trans ((eh810.1 _ _ (fun q => absurd q (by decide))).trans ((k806.2.2.1 _ _ rfl).trans ((eh798.1 _ _ (fun q => absurd q (by decide))).trans eh794.2.1))))) (fun k hk => ((k821.2.2.1 216 k rfl).trans ((eh813.1 216 k (fun q => absurd q (by decide))).trans ((eh810.1 216 k (fun _ => hk)).trans ((k806.2.2.1 216 k rfl).trans ((eh798.1 216 k (fun q => absurd q (by decide))).trans (eh794.1 216 k (fun q => absurd q (by decide))))))))) ((k821.2.2.1 _ _ rfl).trans ((eh813.1 _ _ (fun q => absurd q (by decide))).trans eh810.2.1)) (by intro a ha; simp only [List.mem_cons, List.not_mem_nil, or_false] at ha; rcases ha with rfl | rfl | rfl | rfl ; exact (funext (fun k => ((k821.2.2.1 210 k rfl).trans ((eh813.1 210 k (fun q => absurd q (by decide))).trans ((eh810.1 210 k (fun q => absurd q (by decide))).trans ((k806.2.2.1 210 k rfl).trans ((eh798.1 210 k (fun q => absurd q (by decide))).trans (eh794.1 210 k (fun q => absurd q (by decide)))))))))) ; exact (funext (fun k => ((k821.2.2.1 211 k rfl).trans ((eh813.1 211 k (fun q => absurd q (by decide))).trans ((eh810.1 211 k (fun q => absurd q (by decide))).trans ((k806.2.2.1 211 k rfl).trans ((eh798.1 211 k (fun q => absurd q (by decide))).trans (eh794.1 211 k (fun q => absurd q (by decide)))))))))) ; exact (funext (fun k => ((k821.2.2.1 212 k rfl).trans ((eh813.1 212 k (fun q => absurd q (by decide))).trans ((eh810.1 212 k (fun q => absurd q (by decide))).trans ((k806.2.2.1 212 k rfl).trans ((eh798.1 212 k (fun q => absurd q (by decide))).trans (eh794.1 212 k (fun q => absurd q (by decide)))))))))) ; exact (funext (fun k => ((k821.2.2.1 213 k rfl).trans ((eh813.1 213 k (fun q => absurd q (by decide))).trans ((eh810.1 213 k (fun q => absurd q (by decide))).trans ((k806.2.2.1 213 k rfl).trans ((eh798.1 213 k (fun q => absurd q (by decide))).trans (eh794.1 213 k (fun q => absurd q (by decide)))))))))))⟩), k823⟩
            · refine A_aload_n 0 d_MD_voicePart_302 rfl rfl ?_
              refine A_iconst d_MD_voicePart_303 rfl ?_
              have zf827 := esd1.symm
              have zf828 := esd2.symm
              have zf829 := esd3.symm
              have zf830 := esd4.symm
              have zf831 := esd5.symm
              refine A_callV1 m_MD_put T_ok d_MD_voicePart_304 l_MD_369 k_MD_put (mi_s k0.1 sf_170) rfl (by decide +kernel) (by decide) (Nat.le_of_ble_eq_true rfl) (s_MD_put k0.1 (by first | (clear hps; omega) | omega) (by first | (clear hps; omega) | omega) esd3.symm (by first | (clear hps; omega) | omega)) (fun r h826 hq => ?_)
              obtain ⟨rfl, xk832, k832⟩ := hq
              have k833 := kM_t k0 k832 (pm_s (by decide) (by decide))
              refine A_aload_n 0 d_MD_voicePart_307 rfl rfl ?_
              have zf835 := ((k832.2.2.1 _ _ rfl).trans esd1.symm)
              have zf836 := ((k832.2.2.1 _ _ rfl).trans esd2.symm)
              have zf837 := xk832.1
              have zf838 := ((k832.2.2.1 _ _ rfl).trans esd4.symm)
              have zf839 := ((k832.2.2.1 _ _ rfl).trans esd5.symm)
              refine A_callV0 m_MD_next T_ok d_MD_voicePart_308 l_MD_309 k_MD_next (mi_s k833.1 sf_170) rfl (by decide +kernel) (by decide) (Nat.le_of_ble_eq_true rfl) (s_MD_next k833.1 (by have qq0 := ((k832.2.2.1 _ _ rfl).trans esd1.symm); have qq1 := ((k832.2.2.1 _ _ rfl).trans esd2.symm); first | (clear hps; omega) | omega)) (fun r h834 hq => ?_)
              obtain ⟨x841, rfl, ⟨_, _⟩, xx841, k840⟩ := hq
              have xa841 := xx841.1
              have xb841 := xx841.2.1
              have k842 := kM_t k833 k840 (pm_s (by decide) (by decide))
              obtain ⟨sd843, esd843⟩ : ∃ x, x = h834.2.1 170 3 := ⟨_, rfl⟩
              have rsd843 : 0 ≤ sd843 ∧ sd843 ≤ 2000 := (by rw [esd843]; exact mi_g k842.1 (by decide) mr_170_3)
              obtain ⟨sd844, esd844⟩ : ∃ x, x = h834.2.1 170 4 := ⟨_, rfl⟩
              have rsd844 : 0 ≤ sd844 ∧ sd844 ≤ 6 := (by rw [esd844]; exact mi_g k842.1 (by decide) mr_170_4)
              exact A_zret d_MD_voicePart_311 (by decide) rfl (by first | (clear hps; omega) | omega) ⟨_, rfl, by first | (clear hps; omega) | omega, (fun hz => ⟨by first | (clear hps; omega) | omega, (by have qq0 := esd843.symm; have qq1 := ((k840.2.2.1 _ _ rfl).trans ((k832.2.2.1 _ _ rfl).trans esd2.symm)); have qq2 := esd844.symm; exact ⟨by first | (clear hps; omega) | omega, by first | (clear hps; omega) | omega, by first | (clear hps; omega) | omega, by first | (clear hps; omega) | omega⟩), (by have qq0 := esd843.symm; have qq1 := ((k840.2.2.1 _ _ rfl).trans ((k832.2.2.1 _ _ rfl).trans esd2.symm)); have qq2 := esd844.symm; have qq3 := ((k840.2.2.1 _ _ rfl).trans xk832.1); exact ⟨by first | (clear hps; omega) | omega, by first | (clear hps; omega) | omega⟩), VH_s (x := sd3) hVH esd3.symm ((k840.2.2.1 _ _ rfl).trans xk832.1) (((k840.2.2.1 170 63 rfl).trans (k832.2.2.1 170 63 rfl))) (fun k hk => ((k840.2.2.1 201 k rfl).trans (xk832.2.1 k hk))) (Or.inl ((k840.2.2.1 _ _ rfl).trans xk832.2.2)) (fun k hk => ((k840.2.2.1 202 k rfl).trans (k832.2.2.1 202 k rfl))) (by intro a ha; simp only [List.mem_cons, List.not_mem_nil, or_false] at ha; rcases ha with rfl | rfl | rfl | rfl | rfl | rfl | rfl | rfl ; exact (funext (fun k => ((k840.2.2.1 203 k rfl).trans (k832.2.2.1 203 k rfl)))) ; exact (funext (fun k => ((k840.2.2.1 210 k rfl).trans (k832.2.2.1 210 k rfl)))) ; exact (funext (fun k => ((k840.2.2.1 211 k rfl).trans (k832.2.2.1 211 k rfl)))) ; exact (funext (fun k => ((k840.2.2.1 212 k rfl).trans (k832.2.2.1 212 k rfl)))) ; exact (funext (fun k => ((k840.2.2.1 213 k rfl).trans (k832.2.2.1 213 k rfl)))) ; exact (funext (fun k => ((k840.2.2.1 214 k rfl).trans (k832.2.2.1 214 k rfl)))) ; exact (funext (fun k => ((k840.2.2.1 215 k rfl).trans (k832.2.2.1 215 k rfl)))) ; exact (funext (fun k => ((k840.2.2.1 216 k rfl).trans (k832.2.2.1 216 k rfl)))))⟩), k842⟩
          · refine A_aload_n 0 d_MD_voicePart_283 rfl rfl ?_
            refine A_iconst d_MD_voicePart_284 rfl ?_
            refine A_aload_n 0 d_MD_voicePart_285 rfl rfl ?_
            refine A_getIn (lo := 0) (hi := 2000) T_ok d_MD_voicePart_286 f_MD_242 (mi_s k0.1 sf_170) (mi_g k0.1 (by decide) mr_170_5) (fun x845 ex845 _ _ => ?_)
            have zf847 := esd1.symm
            have zf848 := esd2.symm
            have zf849 := esd3.symm
            have zf850 := esd4.symm
            have zf851 := esd5.symm
            refine A_callV2 m_MD_wrong T_ok d_MD_voicePart_289 l_MD_245 k_MD_wrong (mi_s k0.1 sf_170) rfl (by decide +kernel) (by decide) (Nat.le_of_ble_eq_true rfl) (s_MD_wrong k0.1 (by first | (clear hps; omega) | omega) (by first | (clear hps; omega) | omega) (by first | (clear hps; omega) | omega) (by first | (clear hps; omega) | omega)) (fun r h846 hq => ?_)
            obtain ⟨x853, rfl, ⟨_, _⟩, k852⟩ := hq
            have k854 := kM_t k0 k852 (pm_s (by decide) (by decide))
            obtain rfl : x853 = 0 := by first | (clear hps; omega) | omega
            exact A_zret d_MD_voicePart_292 (by decide) rfl (by first | (clear hps; omega) | omega) ⟨_, rfl, by first | (clear hps; omega) | omega, (fun q => absurd q (by decide)), k854⟩
        · refine A_aload_n 0 d_MD_voicePart_215 rfl rfl ?_
          refine A_iconst d_MD_voicePart_216 rfl ?_
          have zf856 := esd1.symm
          have zf857 := esd2.symm
          have zf858 := esd3.symm
          have zf859 := esd4.symm
          have zf860 := esd5.symm
          refine A_callV1 m_MD_isWord T_ok d_MD_voicePart_217 l_MD_326 k_MD_isWord (mi_s k0.1 sf_170) rfl (by decide +kernel) (by decide) (Nat.le_of_ble_eq_true rfl) (s_MD_isWord k0.1 ) (fun r h855 hq => ?_)
          obtain ⟨x862, rfl, bx862, xx862, rfl⟩ := hq
          refine A_if_ne (tgt := 259) d_MD_voicePart_220 (by decide) (fun c863 => ?_) (fun c863 => ?_)
          · refine A_iconst d_MD_voicePart_259 rfl ?_
            refine A_goto (tgt := 264) d_MD_voicePart_260 (by decide) ?_
            refine A_istore_n 1 (L' := [some (av_R (some 170)), some (av_I 1), none]) d_MD_voicePart_264 rfl (Nat.le_of_ble_eq_true rfl) rfl ?_
            refine A_iload_n 1 d_MD_voicePart_265 rfl rfl ?_
            refine A_if_ne (tgt := 274) d_MD_voicePart_266 (by decide) (fun _ => ?_) (fun c => absurd c (by decide))
            refine A_aload_n 0 d_MD_voicePart_274 rfl rfl ?_
            refine A_getIv (z := sd4) T_ok d_MD_voicePart_275 f_MD_357 (mi_s k0.1 sf_170) esd4.symm ?_
            refine A_bipush d_MD_voicePart_278 rfl ?_
            refine A_icmp_le (tgt := 293) d_MD_voicePart_280 (by decide) (fun c866 => ?_) (fun c866 => ?_)
            · refine A_aload_n 0 d_MD_voicePart_293 rfl rfl ?_
              refine A_bipush d_MD_voicePart_294 rfl ?_
              have zf868 := esd1.symm
              have zf869 := esd2.symm
              have zf870 := esd3.symm
              have zf871 := esd4.symm
              have zf872 := esd5.symm
              refine A_callV1 m_MD_isSign T_ok d_MD_voicePart_296 l_MD_306 k_MD_isSign (mi_s k0.1 sf_170) rfl (by decide +kernel) (by decide) (Nat.le_of_ble_eq_true rfl) (s_MD_isSign k0.1 ) (fun r h867 hq => ?_)
              obtain ⟨x874, rfl, bx874, xx874, rfl⟩ := hq
              refine A_if_eq (tgt := 312) d_MD_voicePart_299 (by decide) (fun c875 => ?_) (fun c875 => ?_)
              · refine A_aload_n 0 d_MD_voicePart_312 rfl rfl ?_
                refine A_bipush d_MD_voicePart_313 rfl ?_
                have zf877 := esd1.symm
                have zf878 := esd2.symm
                have zf879 := esd3.symm
                have zf880 := esd4.symm
                have zf881 := esd5.symm
                refine A_callV1 m_MD_isSign T_ok d_MD_voicePart_315 l_MD_306 k_MD_isSign (mi_s k0.1 sf_170) rfl (by decide +kernel) (by decide) (Nat.le_of_ble_eq_true rfl) (s_MD_isSign k0.1 ) (fun r h876 hq => ?_)
                obtain ⟨x883, rfl, bx883, xx883, rfl⟩ := hq
                refine A_if_eq (tgt := 374) d_MD_voicePart_318 (by decide) (fun c884 => ?_) (fun c884 => ?_)
                · refine A_aload_n 0 d_MD_voicePart_374 rfl rfl ?_
                  refine A_bipush d_MD_voicePart_375 rfl ?_
                  have zf886 := esd1.symm
                  have zf887 := esd2.symm
                  have zf888 := esd3.symm
                  have zf889 := esd4.symm
                  have zf890 := esd5.symm
                  refine A_callV1 m_MD_isSign T_ok d_MD_voicePart_377 l_MD_306 k_MD_isSign (mi_s k0.1 sf_170) rfl (by decide +kernel) (by decide) (Nat.le_of_ble_eq_true rfl) (s_MD_isSign k0.1 ) (fun r h885 hq => ?_)
                  obtain ⟨x892, rfl, bx892, xx892, rfl⟩ := hq
                  refine A_if_eq (tgt := 388) d_MD_voicePart_380 (by decide) (fun c893 => ?_) (fun c893 => ?_)
                  · refine A_aload_n 0 d_MD_voicePart_388 rfl rfl ?_
                    have zf895 := esd1.symm
                    have zf896 := esd2.symm
                    have zf897 := esd3.symm
                    have zf898 := esd4.symm
                    have zf899 := esd5.symm
                    refine A_callV0 m_MD_soundPart T_ok d_MD_voicePart_389 l_MD_375 k_MD_soundPart (mi_s k0.1 sf_170) rfl (by decide +kernel) (by decide) (Nat.le_of_ble_eq_true rfl) (s_MD_soundPart k0.1 (by have qq0 := esd1.symm; have qq1 := esd2.symm; first | (clear hps; omega) | omega) (by have qq0 := esd1.symm; have qq1 := esd2.symm; have qq2 := esd5.symm; have qq3 := esd3.symm; exact ⟨by first | (clear hps; omega) | omega, by first | (clear hps; omega) | omega⟩) (by have qq0 := esd5.symm; exact ⟨by first | (clear hps; omega) | omega, by first | (clear hps; omega) | omega⟩) hVH) (fun r h894 hq => ?_)
                    obtain ⟨x901, rfl, bx901, xx901, k900⟩ := hq
                    have k902 := kM_t k0 k900 (pm_s (by decide) (by decide))
                    obtain ⟨sd903, esd903⟩ : ∃ x, x = h894.2.1 170 3 := ⟨_, rfl⟩
                    have rsd903 : 0 ≤ sd903 ∧ sd903 ≤ 2000 := (by rw [esd903]; exact mi_g k902.1 (by decide) mr_170_3)
                    obtain ⟨sd904, esd904⟩ : ∃ x, x = h894.2.1 170 43 := ⟨_, rfl⟩
                    have rsd904 : 0 ≤ sd904 ∧ sd904 ≤ 2001 := (by rw [esd904]; exact mi_g k902.1 (by decide) mr_170_43)
                    obtain ⟨sd905, esd905⟩ : ∃ x, x = h894.2.1 170 4 := ⟨_, rfl⟩
                    have rsd905 : 0 ≤ sd905 ∧ sd905 ≤ 6 := (by rw [esd905]; exact mi_g k902.1 (by decide) mr_170_4)
                    exact A_zret d_MD_voicePart_392 (by decide) rfl (by first | (clear hps; omega) | omega) ⟨_, rfl, by first | (clear hps; omega) | omega, (fun hz => ⟨by first | (clear hps; omega) | omega, (by have qq0 := esd903.symm; have qq1 := ((k900.2.2.1 _ _ rfl).trans esd2.symm); have qq2 := esd905.symm; exact ⟨by first | (clear hps; omega) | omega, by first | (clear hps; omega) | omega, by first | (clear hps; omega) | omega, by first | (clear hps; omega) | omega⟩), (by have qq0 := esd903.symm; have qq1 := ((k900.2.2.1 _ _ rfl).trans esd2.symm); have qq2 := esd905.symm; have qq3 := esd904.symm; exact ⟨by first | (clear hps; omega) | omega, by first | (clear hps; omega) | omega⟩), (xx901 hz).2.2⟩), k902⟩
                  · refine A_aload_n 0 d_MD_voicePart_383 rfl rfl ?_
                    have zf907 := esd1.symm
                    have zf908 := esd2.symm
                    have zf909 := esd3.symm
                    have zf910 := esd4.symm
                    have zf911 := esd5.symm
                    refine A_callV0 m_MD_timesPart T_ok d_MD_voicePart_384 l_MD_372 k_MD_timesPart (mi_s k0.1 sf_170) rfl (by decide +kernel) (by decide) (Nat.le_of_ble_eq_true rfl) (s_MD_timesPart k0.1 (by have qq0 := esd1.symm; have qq1 := esd2.symm; first | (clear hps; omega) | omega) (by have qq0 := esd1.symm; have qq1 := esd2.symm; have qq2 := esd5.symm; have qq3 := esd3.symm; exact ⟨by first | (clear hps; omega) | omega, by first | (clear hps; omega) | omega⟩) (by have qq0 := esd5.symm; exact ⟨by first | (clear hps; omega) | omega, by first | (clear hps; omega) | omega⟩) hVH (by have qq0 := esd4.symm; first | (clear hps; omega) | omega)) (fun r h906 hq => ?_)
                    obtain ⟨x913, rfl, bx913, xx913, k912⟩ := hq
                    have k914 := kM_t k0 k912 (pm_s (by decide) (by decide))
                    obtain ⟨sd915, esd915⟩ : ∃ x, x = h906.2.1 170 3 := ⟨_, rfl⟩
                    have rsd915 : 0 ≤ sd915 ∧ sd915 ≤ 2000 := (by rw [esd915]; exact mi_g k914.1 (by decide) mr_170_3)
                    obtain ⟨sd916, esd916⟩ : ∃ x, x = h906.2.1 170 43 := ⟨_, rfl⟩
                    have rsd916 : 0 ≤ sd916 ∧ sd916 ≤ 2001 := (by rw [esd916]; exact mi_g k914.1 (by decide) mr_170_43)
                    obtain ⟨sd917, esd917⟩ : ∃ x, x = h906.2.1 170 63 := ⟨_, rfl⟩
                    have rsd917 : 0 ≤ sd917 ∧ sd917 ≤ 7 := (by rw [esd917]; exact mi_g k914.1 (by decide) mr_170_63)
                    obtain ⟨sd918, esd918⟩ : ∃ x, x = h906.2.1 170 4 := ⟨_, rfl⟩
                    have rsd918 : 0 ≤ sd918 ∧ sd918 ≤ 6 := (by rw [esd918]; exact mi_g k914.1 (by decide) mr_170_4)
                    exact A_zret d_MD_voicePart_387 (by decide) rfl (by first | (clear hps; omega) | omega) ⟨_, rfl, by first | (clear hps; omega) | omega, (fun hz => ⟨by first | (clear hps; omega) | omega, (by have qq0 := esd915.symm; have qq1 := ((k912.2.2.1 _ _ rfl).trans esd2.symm); have qq2 := esd918.symm; exact ⟨by first | (clear hps; omega) | omega, by first | (clear hps; omega) | omega, by first | (clear hps; omega) | omega, by first | (clear hps; omega) | omega⟩), (by have qq0 := esd915.symm; have qq1 := ((k912.2.2.1 _ _ rfl).trans esd2.symm); have qq2 := esd918.symm; have qq3 := esd916.symm; exact ⟨by first | (clear hps; omega) | omega, by first | (clear hps; omega) | omega⟩), (xx913 hz).2.2⟩), k914⟩
                · refine A_aload_n 0 d_MD_voicePart_321 rfl rfl ?_
                  refine A_getAv (z := some 215) T_ok d_MD_voicePart_322 f_MD_148 (mi_s k0.1 sf_170) (mi_r k0.1 rfm_58) ?_
                  refine A_aload_n 0 d_MD_voicePart_325 rfl rfl ?_
                  refine A_getIv (z := sd4) T_ok d_MD_voicePart_326 f_MD_357 (mi_s k0.1 sf_170) esd4.symm ?_
                  refine A_aload_n 0 d_MD_voicePart_329 rfl rfl ?_
                  refine A_pc (pc' := 330) rfl ?_
                  refine A_getIv (z := sd3) T_ok d_MD_voicePart_330 f_MD_354 (mi_s k0.1 sf_170) esd3.symm ?_
                  refine A_iastorek (KR := kM (pm [3, 4, 5, 6, 7, 8, 9, 10, 11, 12, 43, 63, 64] [201, 202, 203, 204, 205, 206, 207, 208, 209, 210, 211, 212, 213, 214, 215, 216]) h) d_MD_voicePart_333 (mi_s k0.1 sf_215) (by first | (clear hps; omega) | omega) (by first | (clear hps; omega) | omega) (kM_i k0 (by decide) rfl (mr_215 _) (by first | (clear hps; omega) | omega) (by first | (clear hps; omega) | omega)) (fun h922 k923 eh922 => ?_)
                  refine A_aload_n 0 d_MD_voicePart_334 rfl rfl ?_
                  refine A_getAv (z := some 214) T_ok d_MD_voicePart_335 f_MD_145 (mi_s k923.1 sf_170) (mi_r k923.1 rfm_57) ?_
                  refine A_aload_n 0 d_MD_voicePart_338 rfl rfl ?_
                  refine A_getIv (z := sd3) T_ok d_MD_voicePart_339 f_MD_354 (mi_s k923.1 sf_170) ((eh922.1 _ _ (fun q => absurd q (by decide))).trans esd3.symm) ?_
                  refine A_pc (pc' := 342) rfl ?_
                  refine A_iconst d_MD_voicePart_342 rfl ?_
                  refine A_iastorek (KR := kM (pm [3, 4, 5, 6, 7, 8, 9, 10, 11, 12, 43, 63, 64] [201, 202, 203, 204, 205, 206, 207, 208, 209, 210, 211, 212, 213, 214, 215, 216]) h) d_MD_voicePart_343 (mi_s k923.1 sf_214) (by first | (clear hps; omega) | omega) (by first | (clear hps; omega) | omega) (kM_i k923 (by decide) rfl (mr_214 _) (by first | (clear hps; omega) | omega) (by first | (clear hps; omega) | omega)) (fun h926 k927 eh926 => ?_)
                  refine A_aload_n 0 d_MD_voicePart_344 rfl rfl ?_
                  refine A_iconst d_MD_voicePart_345 rfl ?_
                  have zf929 := ((eh926.1 _ _ (fun q => absurd q (by decide))).trans ((eh922.1 _ _ (fun q => absurd q (by decide))).trans esd1.symm))
                  have zf930 := ((eh926.1 _ _ (fun q => absurd q (by decide))).trans ((eh922.1 _ _ (fun q => absurd q (by decide))).trans esd2.symm))
                  have zf931 := ((eh926.1 _ _ (fun q => absurd q (by decide))).trans ((eh922.1 _ _ (fun q => absurd q (by decide))).trans esd3.symm))
                  have zf932 := ((eh926.1 _ _ (fun q => absurd q (by decide))).trans ((eh922.1 _ _ (fun q => absurd q (by decide))).trans esd4.symm))
                  have zf933 := ((eh926.1 _ _ (fun q => absurd q (by decide))).trans ((eh922.1 _ _ (fun q => absurd q (by decide))).trans esd5.symm))
                  refine A_callV1 m_MD_put T_ok d_MD_voicePart_346 l_MD_369 k_MD_put (mi_s k927.1 sf_170) rfl (by decide +kernel) (by decide) (Nat.le_of_ble_eq_true rfl) (s_MD_put k927.1 (by first | (clear hps; omega) | omega) (by first | (clear hps; omega) | omega) ((eh926.1 _ _ (fun q => absurd q (by decide))).trans ((eh922.1 _ _ (fun q => absurd q (by decide))).trans esd3.symm)) (by first | (clear hps; omega) | omega)) (fun r h928 hq => ?_)
                  obtain ⟨rfl, xk934, k934⟩ := hq
                  have k935 := kM_t k927 k934 (pm_s (by decide) (by decide))
                  refine A_aload_n 0 d_MD_voicePart_349 rfl rfl ?_
                  refine A_getAv (z := some 216) T_ok d_MD_voicePart_350 f_MD_151 (mi_s k935.1 sf_170) (mi_r k935.1 rfm_62) ?_
                  refine A_aload_n 0 d_MD_voicePart_353 rfl rfl ?_
                  refine A_getIv (z := sd4) T_ok d_MD_voicePart_354 f_MD_357 (mi_s k935.1 sf_170) ((k934.2.2.1 _ _ rfl).trans ((eh926.1 _ _ (fun q => absurd q (by decide))).trans ((eh922.1 _ _ (fun q => absurd q (by decide))).trans esd4.symm))) ?_
                  refine A_iconst d_MD_voicePart_357 rfl ?_
                  refine A_pc (pc' := 358) rfl ?_
                  refine A_iastorek (KR := kM (pm [3, 4, 5, 6, 7, 8, 9, 10, 11, 12, 43, 63, 64] [201, 202, 203, 204, 205, 206, 207, 208, 209, 210, 211, 212, 213, 214, 215, 216]) h) d_MD_voicePart_358 (mi_s k935.1 sf_216) (by first | (clear hps; omega) | omega) (by first | (clear hps; omega) | omega) (kM_i k935 (by decide) rfl (mr_216 _) (by first | (clear hps; omega) | omega) (by first | (clear hps; omega) | omega)) (fun h938 k939 eh938 => ?_)
                  refine A_aload_n 0 d_MD_voicePart_359 rfl rfl ?_
                  refine A_dupR d_MD_voicePart_360 ?_
                  refine A_getIv (z := sd4) T_ok d_MD_voicePart_361 f_MD_357 (mi_s k939.1 sf_170) ((eh938.1 _ _ (fun q => absurd q (by decide))).trans ((k934.2.2.1 _ _ rfl).trans ((eh926.1 _ _ (fun q => absurd q (by decide))).trans ((eh922.1 _ _ (fun q => absurd q (by decide))).trans esd4.symm)))) ?_
                  refine A_iconst d_MD_voicePart_364 rfl ?_
                  refine A_iaddv (z := (sd4 + 1)) d_MD_voicePart_365 (w32_to (by first | (clear hps; omega) | omega) (by unfold i32; first | (clear hps; omega) | omega)) ?_
                  refine A_pc (pc' := 366) rfl ?_
                  refine A_putIk (KR := kM (pm [3, 4, 5, 6, 7, 8, 9, 10, 11, 12, 43, 63, 64] [201, 202, 203, 204, 205, 206, 207, 208, 209, 210, 211, 212, 213, 214, 215, 216]) h) T_ok d_MD_voicePart_366 f_MD_357 (mi_s k939.1 sf_170) fin_f (kM_i k939 (by decide) (by decide) mr_170_63 (by first | (clear hps; omega) | omega) (by first | (clear hps; omega) | omega)) (fun h941 k942 eh941 => ?_)
                  refine A_aload_n 0 d_MD_voicePart_369 rfl rfl ?_
                  have zf944 := ((eh941.1 _ _ (fun _ => by decide)).trans ((eh938.1 _ _ (fun q => absurd q (by decide))).trans ((k934.2.2.1 _ _ rfl).trans ((eh926.1 _ _ (fun q => absurd q (by decide))).trans ((eh922.1 _ _ (fun q => absurd q (by decide))).trans esd1.symm)))))
                  have zf945 := ((eh941.1 _ _ (fun _ => by decide)).trans ((eh938.1 _ _ (fun q => absurd q (by decide))).trans ((k934.2.2.1 _ _ rfl).trans ((eh926.1 _ _ (fun q => absurd q (by decide))).trans ((eh922.1 _ _ (fun q => absurd q (by decide))).trans esd2.symm)))))
                  have zf946 := ((eh941.1 _ _ (fun _ => by decide)).trans ((eh938.1 _ _ (fun q => absurd q (by decide))).trans xk934.1))
                  have zf947 := eh941.2.1
                  have zf948 := ((eh941.1 _ _ (fun _ => by decide)).trans ((eh938.1 _ _ (fun q => absurd q (by decide))).trans ((k934.2.2.1 _ _ rfl).trans ((eh926.1 _ _ (fun q => absurd q (by decide))).trans ((eh922.1 _ _ (fun q => absurd q (by decide))).trans esd5.symm)))))
                  refine A_callV0 m_MD_next T_ok d_MD_voicePart_370 l_MD_309 k_MD_next (mi_s k942.1 sf_170) rfl (by decide +kernel) (by decide) (Nat.le_of_ble_eq_true rfl) (s_MD_next k942.1 (by have qq0 := ((eh941.1 _ _ (fun _ => by decide)).trans ((eh938.1 _ _ (fun q => absurd q (by decide))).trans ((k934.2.2.1 _ _ rfl).trans ((eh926.1 _ _ (fun q => absurd q (by decide))).trans ((eh922.1 _ _ (fun q => absurd q (by decide))).trans esd1.symm))))); have qq1 := ((eh941.1 _ _ (fun _ => by decide)).trans ((eh938.1 _ _ (fun q => absurd q (by decide))).trans ((k934.2.2.1 _ _ rfl).trans ((eh926.1 _ _ (fun q => absurd q (by decide))).trans ((eh922.1 _ _ (fun q => absurd q (by decide))).trans esd2.symm))))); first | (clear hps; omega) | omega)) (fun r h943 hq => ?_)
                  obtain ⟨x950, rfl, ⟨_, _⟩, xx950, k949⟩ := hq
                  have xa950 := xx950.1
                  have xb950 := xx950.2.1
                  have k951 := kM_t k942 k949 (pm_s (by decide) (by decide))
                  obtain ⟨sd952, esd952⟩ : ∃ x, x = h943.2.1 170 3 := ⟨_, rfl⟩
                  have rsd952 : 0 ≤ sd952 ∧ sd952 ≤ 2000 := (by rw [esd952]; exact mi_g k951.1 (by decide) mr_170_3)
                  obtain ⟨sd953, esd953⟩ : ∃ x, x = h943.2.1 170 4 := ⟨_, rfl⟩
                  have rsd953 : 0 ≤ sd953 ∧ sd953 ≤ 6 := (by rw [esd953]; exact mi_g k951.1 (by decide) mr_170_4)
                  exact A_zret d_MD_voicePart_373 (by decide) rfl (by first | (clear hps; omega) | omega) ⟨_, rfl, by first | (clear hps; omega) | omega, (fun hz => ⟨by first | (clear hps; omega) | omega, (by have qq0 := esd952.symm; have qq1 := ((k949.2.2.1 _ _ rfl).trans ((eh941.1 _ _ (fun _ => by decide)).trans ((eh938.1 _ _ (fun q => absurd q (by decide))).trans ((k934.2.2.1 _ _ rfl).trans ((eh926.1 _ _ (fun q => absurd q (by decide))).trans ((eh922.1 _ _ (fun q => absurd q (by decide))).trans esd2.symm)))))); have qq2 := esd953.symm; exact ⟨by first | (clear hps; omega) | omega, by first | (clear hps; omega) | omega, by first | (clear hps; omega) | omega, by first | (clear hps; omega) | omega⟩), (by have qq0 := esd952.symm; have qq1 := ((k949.2.2.1 _ _ rfl).trans ((eh941.1 _ _ (fun _ => by decide)).trans ((eh938.1 _ _ (fun q => absurd q (by decide))).trans ((k934.2.2.1 _ _ rfl).trans ((eh926.1 _ _ (fun q => absurd q (by decide))).trans ((eh922.1 _ _ (fun q => absurd q (by decide))).trans esd2.symm)))))); have qq2 := esd953.symm; have qq3 := ((k949.2.2.1 _ _ rfl).trans ((eh941.1 _ _ (fun _ => by decide)).trans ((eh938.1 _ _ (fun q => absurd q (by decide))).trans xk934.1))); exact ⟨by first | (clear hps; omega) | omega, by first | (clear hps; omega) | omega⟩), VH_o (x := sd3) (m := sd4) (c := 2) hVH esd3.symm esd4.symm (by first | (clear hps; omega) | omega) ((k949.2.2.1 _ _ rfl).trans ((eh941.1 _ _ (fun _ => by decide)).trans ((eh938.1 _ _ (fun q => absurd q (by decide))).trans xk934.1))) ((k949.2.2.1 _ _ rfl).trans eh941.2.1) (by decide) (fun k hk => ((k949.2.2.1 201 k rfl).trans ((eh941.1 201 k (fun q => absurd q (by decide))).trans ((eh938.1 201 k (fun q => absurd q (by decide))).trans ((xk934.2.1 k hk).trans ((eh926.1 201 k (fun q => absurd q (by decide))).trans (eh922.1 201 k (fun q => absurd q (by decide))))))))) ((k949.2.2.1 _ _ rfl).trans ((eh941.1 _ _ (fun q => absurd q (by decide))).trans ((eh938.1 _ _ (fun q => absurd q (by decide))).trans xk934.2.2))) (fun k hk => ((k949.2.2.1 202 k rfl).trans ((eh941.1 202 k (fun q => absurd q (by decide))).trans ((eh938.1 202 k (fun q => absurd q (by decide))).trans ((k934.2.2.1 202 k rfl).trans ((eh926.1 202 k (fun q => absurd q (by decide))).trans (eh922.1 202 k (fun q => absurd q (by decide))))))))) (fun k hk => ((k949.2.2.1 203 k rfl).trans ((eh941.1 203 k (fun q => absurd q (by decide))).trans ((eh938.1 203 k (fun q => absurd q (by decide))).trans ((k934.2.2.1 203 k rfl).trans ((eh926.1 203 k (fun q => absurd q (by decide))).trans (eh922.1 203 k (fun q => absurd q (by decide))))))))) (fun q => absurd q (by decide)) (fun k hk => ((k949.2.2.1 214 k rfl).trans ((eh941.1 214 k (fun q => absurd q (by decide))).trans ((eh938.1 214 k (fun q => absurd q (by decide))).trans ((k934.2.2.1 214 k rfl).trans ((eh926.1 214 k (fun _ => hk)).trans (eh922.1 214 k (fun q => absurd q (by decide))))))))) (fun _ => ((k949.2.2.1 _ _ rfl).trans ((eh941.1 _ _ (fun q => absurd q (by decide))).trans ((eh938.1 _ _ (fun q => absurd q (by decide))).trans ((k934.2.2.1 _ _ rfl).trans eh926.2.1))))) (fun k hk => ((k949.2.2.1 215 k rfl).trans ((eh941.1 215 k (fun q => absurd q (by decide))).trans ((eh938.1 215 k (fun q => absurd q (by decide))).trans ((k934.2.2.1 215 k rfl).trans ((eh926.1 215 k (fun q => absurd q (by decide))).trans (eh922.1 215 k (fun _ => hk)))))))) ((k949.2.2.1 _ _ rfl).trans ((eh941.1 _ _ (fun q => absurd q (by decide))).trans ((eh938.1 _ _ (fun q => absurd q (by decide))).trans ((k934.2.2.1 _ _ rfl).trans ((eh926.1 _ _ (fun q => absurd q (by decide))).trans eh922.2.1))))) (fun k hk => ((k949.2.2.1 216 k rfl).trans ((eh941.1 216 k (fun q => absurd q (by decide))).trans ((eh938.1 216 k (fun _ => hk)).trans ((k934.2.2.1 216 k rfl).trans ((eh926.1 216 k (fun q => absurd q (by decide))).trans (eh922.1 216 k (fun q => absurd q (by decide))))))))) ((k949.2.2.1 _ _ rfl).trans ((eh941.1 _ _ (fun q => absurd q (by decide))).trans eh938.2.1)) (by intro a ha; simp only [List.mem_cons, List.not_mem_nil, or_false] at ha; rcases ha with rfl | rfl | rfl | rfl ; exact (funext (fun k => ((k949.2.2.1 210 k rfl).trans ((eh941.1 210 k (fun q => absurd q (by decide))).trans ((eh938.1 210 k (fun q => absurd q (by decide))).trans ((k934.2.2.1 210 k rfl).trans ((eh926.1 210 k (fun q => absurd q (by decide))).trans (eh922.1 210 k (fun q => absurd q (by decide)))))))))) ; exact (funext (fun k => ((k949.2.2.1 211 k rfl).trans ((eh941.1 211 k (fun q => absurd q (by decide))).trans ((eh938.1 211 k (fun q => absurd q (by decide))).trans ((k934.2.2.1 211 k rfl).trans ((eh926.1 211 k (fun q => absurd q (by decide))).trans (eh922.1 211 k (fun q => absurd q (by decide)))))))))) ; exact (funext (fun k => ((k949.2.2.1 212 k rfl).trans ((eh941.1 212 k (fun q => absurd q (by decide))).trans ((eh938.1 212 k (fun q => absurd q (by decide))).trans ((k934.2.2.1 212 k rfl).trans ((eh926.1 212 k (fun q => absurd q (by decide))).trans (eh922.1 212 k (fun q => absurd q (by decide)))))))))) ; exact (funext (fun k => ((k949.2.2.1 213 k rfl).trans ((eh941.1 213 k (fun q => absurd q (by decide))).trans ((eh938.1 213 k (fun q => absurd q (by decide))).trans ((k934.2.2.1 213 k rfl).trans ((eh926.1 213 k (fun q => absurd q (by decide))).trans (eh922.1 213 k (fun q => absurd q (by decide)))))))))))⟩), k951⟩
              · refine A_aload_n 0 d_MD_voicePart_302 rfl rfl ?_
                refine A_iconst d_MD_voicePart_303 rfl ?_
                have zf955 := esd1.symm
                have zf956 := esd2.symm
                have zf957 := esd3.symm
                have zf958 := esd4.symm
                have zf959 := esd5.symm
                refine A_callV1 m_MD_put T_ok d_MD_voicePart_304 l_MD_369 k_MD_put (mi_s k0.1 sf_170) rfl (by decide +kernel) (by decide) (Nat.le_of_ble_eq_true rfl) (s_MD_put k0.1 (by first | (clear hps; omega) | omega) (by first | (clear hps; omega) | omega) esd3.symm (by first | (clear hps; omega) | omega)) (fun r h954 hq => ?_)
                obtain ⟨rfl, xk960, k960⟩ := hq
                have k961 := kM_t k0 k960 (pm_s (by decide) (by decide))
                refine A_aload_n 0 d_MD_voicePart_307 rfl rfl ?_
                have zf963 := ((k960.2.2.1 _ _ rfl).trans esd1.symm)
                have zf964 := ((k960.2.2.1 _ _ rfl).trans esd2.symm)
                have zf965 := xk960.1
                have zf966 := ((k960.2.2.1 _ _ rfl).trans esd4.symm)
                have zf967 := ((k960.2.2.1 _ _ rfl).trans esd5.symm)
                refine A_callV0 m_MD_next T_ok d_MD_voicePart_308 l_MD_309 k_MD_next (mi_s k961.1 sf_170) rfl (by decide +kernel) (by decide) (Nat.le_of_ble_eq_true rfl) (s_MD_next k961.1 (by have qq0 := ((k960.2.2.1 _ _ rfl).trans esd1.symm); have qq1 := ((k960.2.2.1 _ _ rfl).trans esd2.symm); first | (clear hps; omega) | omega)) (fun r h962 hq => ?_)
                obtain ⟨x969, rfl, ⟨_, _⟩, xx969, k968⟩ := hq
                have xa969 := xx969.1
                have xb969 := xx969.2.1
                have k970 := kM_t k961 k968 (pm_s (by decide) (by decide))
                obtain ⟨sd971, esd971⟩ : ∃ x, x = h962.2.1 170 3 := ⟨_, rfl⟩
                have rsd971 : 0 ≤ sd971 ∧ sd971 ≤ 2000 := (by rw [esd971]; exact mi_g k970.1 (by decide) mr_170_3)
                obtain ⟨sd972, esd972⟩ : ∃ x, x = h962.2.1 170 4 := ⟨_, rfl⟩
                have rsd972 : 0 ≤ sd972 ∧ sd972 ≤ 6 := (by rw [esd972]; exact mi_g k970.1 (by decide) mr_170_4)
                exact A_zret d_MD_voicePart_311 (by decide) rfl (by first | (clear hps; omega) | omega) ⟨_, rfl, by first | (clear hps; omega) | omega, (fun hz => ⟨by first | (clear hps; omega) | omega, (by have qq0 := esd971.symm; have qq1 := ((k968.2.2.1 _ _ rfl).trans ((k960.2.2.1 _ _ rfl).trans esd2.symm)); have qq2 := esd972.symm; exact ⟨by first | (clear hps; omega) | omega, by first | (clear hps; omega) | omega, by first | (clear hps; omega) | omega, by first | (clear hps; omega) | omega⟩), (by have qq0 := esd971.symm; have qq1 := ((k968.2.2.1 _ _ rfl).trans ((k960.2.2.1 _ _ rfl).trans esd2.symm)); have qq2 := esd972.symm; have qq3 := ((k968.2.2.1 _ _ rfl).trans xk960.1); exact ⟨by first | (clear hps; omega) | omega, by first | (clear hps; omega) | omega⟩), VH_s (x := sd3) hVH esd3.symm ((k968.2.2.1 _ _ rfl).trans xk960.1) (((k968.2.2.1 170 63 rfl).trans (k960.2.2.1 170 63 rfl))) (fun k hk => ((k968.2.2.1 201 k rfl).trans (xk960.2.1 k hk))) (Or.inl ((k968.2.2.1 _ _ rfl).trans xk960.2.2)) (fun k hk => ((k968.2.2.1 202 k rfl).trans (k960.2.2.1 202 k rfl))) (by intro a ha; simp only [List.mem_cons, List.not_mem_nil, or_false] at ha; rcases ha with rfl | rfl | rfl | rfl | rfl | rfl | rfl | rfl ; exact (funext (fun k => ((k968.2.2.1 203 k rfl).trans (k960.2.2.1 203 k rfl)))) ; exact (funext (fun k => ((k968.2.2.1 210 k rfl).trans (k960.2.2.1 210 k rfl)))) ; exact (funext (fun k => ((k968.2.2.1 211 k rfl).trans (k960.2.2.1 211 k rfl)))) ; exact (funext (fun k => ((k968.2.2.1 212 k rfl).trans (k960.2.2.1 212 k rfl)))) ; exact (funext (fun k => ((k968.2.2.1 213 k rfl).trans (k960.2.2.1 213 k rfl)))) ; exact (funext (fun k => ((k968.2.2.1 214 k rfl).trans (k960.2.2.1 214 k rfl)))) ; exact (funext (fun k => ((k968.2.2.1 215 k rfl).trans (k960.2.2.1 215 k rfl)))) ; exact (funext (fun k => ((k968.2.2.1 216 k rfl).trans (k960.2.2.1 216 k rfl)))))⟩), k970⟩
            · refine A_aload_n 0 d_MD_voicePart_283 rfl rfl ?_
              refine A_iconst d_MD_voicePart_284 rfl ?_
              refine A_aload_n 0 d_MD_voicePart_285 rfl rfl ?_
              refine A_getIn (lo := 0) (hi := 2000) T_ok d_MD_voicePart_286 f_MD_242 (mi_s k0.1 sf_170) (mi_g k0.1 (by decide) mr_170_5) (fun x973 ex973 _ _ => ?_)
              have zf975 := esd1.symm
              have zf976 := esd2.symm
              have zf977 := esd3.symm
              have zf978 := esd4.symm
              have zf979 := esd5.symm
              refine A_callV2 m_MD_wrong T_ok d_MD_voicePart_289 l_MD_245 k_MD_wrong (mi_s k0.1 sf_170) rfl (by decide +kernel) (by decide) (Nat.le_of_ble_eq_true rfl) (s_MD_wrong k0.1 (by first | (clear hps; omega) | omega) (by first | (clear hps; omega) | omega) (by first | (clear hps; omega) | omega) (by first | (clear hps; omega) | omega)) (fun r h974 hq => ?_)
              obtain ⟨x981, rfl, ⟨_, _⟩, k980⟩ := hq
              have k982 := kM_t k0 k980 (pm_s (by decide) (by decide))
              obtain rfl : x981 = 0 := by first | (clear hps; omega) | omega
              exact A_zret d_MD_voicePart_292 (by decide) rfl (by first | (clear hps; omega) | omega) ⟨_, rfl, by first | (clear hps; omega) | omega, (fun q => absurd q (by decide)), k982⟩
          · refine A_aload_n 0 d_MD_voicePart_223 rfl rfl ?_
            refine A_bipush d_MD_voicePart_224 rfl ?_
            have zf984 := esd1.symm
            have zf985 := esd2.symm
            have zf986 := esd3.symm
            have zf987 := esd4.symm
            have zf988 := esd5.symm
            refine A_callV1 m_MD_isSign T_ok d_MD_voicePart_226 l_MD_306 k_MD_isSign (mi_s k0.1 sf_170) rfl (by decide +kernel) (by decide) (Nat.le_of_ble_eq_true rfl) (s_MD_isSign k0.1 ) (fun r h983 hq => ?_)
            obtain ⟨x990, rfl, bx990, xx990, rfl⟩ := hq
            refine A_if_ne (tgt := 259) d_MD_voicePart_229 (by decide) (fun c991 => ?_) (fun c991 => ?_)
            · refine A_iconst d_MD_voicePart_259 rfl ?_
              refine A_goto (tgt := 264) d_MD_voicePart_260 (by decide) ?_
              refine A_istore_n 1 (L' := [some (av_R (some 170)), some (av_I 1), none]) d_MD_voicePart_264 rfl (Nat.le_of_ble_eq_true rfl) rfl ?_
              refine A_iload_n 1 d_MD_voicePart_265 rfl rfl ?_
              refine A_if_ne (tgt := 274) d_MD_voicePart_266 (by decide) (fun _ => ?_) (fun c => absurd c (by decide))
              refine A_aload_n 0 d_MD_voicePart_274 rfl rfl ?_
              refine A_getIv (z := sd4) T_ok d_MD_voicePart_275 f_MD_357 (mi_s k0.1 sf_170) esd4.symm ?_
              refine A_bipush d_MD_voicePart_278 rfl ?_
              refine A_icmp_le (tgt := 293) d_MD_voicePart_280 (by decide) (fun c994 => ?_) (fun c994 => ?_)
              · refine A_aload_n 0 d_MD_voicePart_293 rfl rfl ?_
                refine A_bipush d_MD_voicePart_294 rfl ?_
                have zf996 := esd1.symm
                have zf997 := esd2.symm
                have zf998 := esd3.symm
                have zf999 := esd4.symm
                have zf1000 := esd5.symm
                refine A_callV1 m_MD_isSign T_ok d_MD_voicePart_296 l_MD_306 k_MD_isSign (mi_s k0.1 sf_170) rfl (by decide +kernel) (by decide) (Nat.le_of_ble_eq_true rfl) (s_MD_isSign k0.1 ) (fun r h995 hq => ?_)
                obtain ⟨x1002, rfl, bx1002, xx1002, rfl⟩ := hq
                refine A_if_eq (tgt := 312) d_MD_voicePart_299 (by decide) (fun c1003 => ?_) (fun c1003 => ?_)
                · refine A_aload_n 0 d_MD_voicePart_312 rfl rfl ?_
                  refine A_bipush d_MD_voicePart_313 rfl ?_
                  have zf1005 := esd1.symm
                  have zf1006 := esd2.symm
                  have zf1007 := esd3.symm
                  have zf1008 := esd4.symm
                  have zf1009 := esd5.symm
                  refine A_callV1 m_MD_isSign T_ok d_MD_voicePart_315 l_MD_306 k_MD_isSign (mi_s k0.1 sf_170) rfl (by decide +kernel) (by decide) (Nat.le_of_ble_eq_true rfl) (s_MD_isSign k0.1 ) (fun r h1004 hq => ?_)
                  obtain ⟨x1011, rfl, bx1011, xx1011, rfl⟩ := hq
                  refine A_if_eq (tgt := 374) d_MD_voicePart_318 (by decide) (fun c1012 => ?_) (fun c1012 => ?_)
                  · refine A_aload_n 0 d_MD_voicePart_374 rfl rfl ?_
                    refine A_bipush d_MD_voicePart_375 rfl ?_
                    have zf1014 := esd1.symm
                    have zf1015 := esd2.symm
                    have zf1016 := esd3.symm
                    have zf1017 := esd4.symm
                    have zf1018 := esd5.symm
                    refine A_callV1 m_MD_isSign T_ok d_MD_voicePart_377 l_MD_306 k_MD_isSign (mi_s k0.1 sf_170) rfl (by decide +kernel) (by decide) (Nat.le_of_ble_eq_true rfl) (s_MD_isSign k0.1 ) (fun r h1013 hq => ?_)
                    obtain ⟨x1020, rfl, bx1020, xx1020, rfl⟩ := hq
                    refine A_if_eq (tgt := 388) d_MD_voicePart_380 (by decide) (fun c1021 => ?_) (fun c1021 => ?_)
                    · refine A_aload_n 0 d_MD_voicePart_388 rfl rfl ?_
                      have zf1023 := esd1.symm
                      have zf1024 := esd2.symm
                      have zf1025 := esd3.symm
                      have zf1026 := esd4.symm
                      have zf1027 := esd5.symm
                      refine A_callV0 m_MD_soundPart T_ok d_MD_voicePart_389 l_MD_375 k_MD_soundPart (mi_s k0.1 sf_170) rfl (by decide +kernel) (by decide) (Nat.le_of_ble_eq_true rfl) (s_MD_soundPart k0.1 (by have qq0 := esd1.symm; have qq1 := esd2.symm; first | (clear hps; omega) | omega) (by have qq0 := esd1.symm; have qq1 := esd2.symm; have qq2 := esd5.symm; have qq3 := esd3.symm; exact ⟨by first | (clear hps; omega) | omega, by first | (clear hps; omega) | omega⟩) (by have qq0 := esd5.symm; exact ⟨by first | (clear hps; omega) | omega, by first | (clear hps; omega) | omega⟩) hVH) (fun r h1022 hq => ?_)
                      obtain ⟨x1029, rfl, bx1029, xx1029, k1028⟩ := hq
                      have k1030 := kM_t k0 k1028 (pm_s (by decide) (by decide))
                      obtain ⟨sd1031, esd1031⟩ : ∃ x, x = h1022.2.1 170 3 := ⟨_, rfl⟩
                      have rsd1031 : 0 ≤ sd1031 ∧ sd1031 ≤ 2000 := (by rw [esd1031]; exact mi_g k1030.1 (by decide) mr_170_3)
                      obtain ⟨sd1032, esd1032⟩ : ∃ x, x = h1022.2.1 170 43 := ⟨_, rfl⟩
                      have rsd1032 : 0 ≤ sd1032 ∧ sd1032 ≤ 2001 := (by rw [esd1032]; exact mi_g k1030.1 (by decide) mr_170_43)
                      obtain ⟨sd1033, esd1033⟩ : ∃ x, x = h1022.2.1 170 4 := ⟨_, rfl⟩
                      have rsd1033 : 0 ≤ sd1033 ∧ sd1033 ≤ 6 := (by rw [esd1033]; exact mi_g k1030.1 (by decide) mr_170_4)
                      exact A_zret d_MD_voicePart_392 (by decide) rfl (by first | (clear hps; omega) | omega) ⟨_, rfl, by first | (clear hps; omega) | omega, (fun hz => ⟨by first | (clear hps; omega) | omega, (by have qq0 := esd1031.symm; have qq1 := ((k1028.2.2.1 _ _ rfl).trans esd2.symm); have qq2 := esd1033.symm; exact ⟨by first | (clear hps; omega) | omega, by first | (clear hps; omega) | omega, by first | (clear hps; omega) | omega, by first | (clear hps; omega) | omega⟩), (by have qq0 := esd1031.symm; have qq1 := ((k1028.2.2.1 _ _ rfl).trans esd2.symm); have qq2 := esd1033.symm; have qq3 := esd1032.symm; exact ⟨by first | (clear hps; omega) | omega, by first | (clear hps; omega) | omega⟩), (xx1029 hz).2.2⟩), k1030⟩
                    · refine A_aload_n 0 d_MD_voicePart_383 rfl rfl ?_
                      have zf1035 := esd1.symm
                      have zf1036 := esd2.symm
                      have zf1037 := esd3.symm
                      have zf1038 := esd4.symm
                      have zf1039 := esd5.symm
                      refine A_callV0 m_MD_timesPart T_ok d_MD_voicePart_384 l_MD_372 k_MD_timesPart (mi_s k0.1 sf_170) rfl (by decide +kernel) (by decide) (Nat.le_of_ble_eq_true rfl) (s_MD_timesPart k0.1 (by have qq0 := esd1.symm; have qq1 := esd2.symm; first | (clear hps; omega) | omega) (by have qq0 := esd1.symm; have qq1 := esd2.symm; have qq2 := esd5.symm; have qq3 := esd3.symm; exact ⟨by first | (clear hps; omega) | omega, by first | (clear hps; omega) | omega⟩) (by have qq0 := esd5.symm; exact ⟨by first | (clear hps; omega) | omega, by first | (clear hps; omega) | omega⟩) hVH (by have qq0 := esd4.symm; first | (clear hps; omega) | omega)) (fun r h1034 hq => ?_)
                      obtain ⟨x1041, rfl, bx1041, xx1041, k1040⟩ := hq
                      have k1042 := kM_t k0 k1040 (pm_s (by decide) (by decide))
                      obtain ⟨sd1043, esd1043⟩ : ∃ x, x = h1034.2.1 170 3 := ⟨_, rfl⟩
                      have rsd1043 : 0 ≤ sd1043 ∧ sd1043 ≤ 2000 := (by rw [esd1043]; exact mi_g k1042.1 (by decide) mr_170_3)
                      obtain ⟨sd1044, esd1044⟩ : ∃ x, x = h1034.2.1 170 43 := ⟨_, rfl⟩
                      have rsd1044 : 0 ≤ sd1044 ∧ sd1044 ≤ 2001 := (by rw [esd1044]; exact mi_g k1042.1 (by decide) mr_170_43)
                      obtain ⟨sd1045, esd1045⟩ : ∃ x, x = h1034.2.1 170 63 := ⟨_, rfl⟩
                      have rsd1045 : 0 ≤ sd1045 ∧ sd1045 ≤ 7 := (by rw [esd1045]; exact mi_g k1042.1 (by decide) mr_170_63)
                      obtain ⟨sd1046, esd1046⟩ : ∃ x, x = h1034.2.1 170 4 := ⟨_, rfl⟩
                      have rsd1046 : 0 ≤ sd1046 ∧ sd1046 ≤ 6 := (by rw [esd1046]; exact mi_g k1042.1 (by decide) mr_170_4)
                      exact A_zret d_MD_voicePart_387 (by decide) rfl (by first | (clear hps; omega) | omega) ⟨_, rfl, by first | (clear hps; omega) | omega, (fun hz => ⟨by first | (clear hps; omega) | omega, (by have qq0 := esd1043.symm; have qq1 := ((k1040.2.2.1 _ _ rfl).trans esd2.symm); have qq2 := esd1046.symm; exact ⟨by first | (clear hps; omega) | omega, by first | (clear hps; omega) | omega, by first | (clear hps; omega) | omega, by first | (clear hps; omega) | omega⟩), (by have qq0 := esd1043.symm; have qq1 := ((k1040.2.2.1 _ _ rfl).trans esd2.symm); have qq2 := esd1046.symm; have qq3 := esd1044.symm; exact ⟨by first | (clear hps; omega) | omega, by first | (clear hps; omega) | omega⟩), (xx1041 hz).2.2⟩), k1042⟩
                  · refine A_aload_n 0 d_MD_voicePart_321 rfl rfl ?_
                    refine A_getAv (z := some 215) T_ok d_MD_voicePart_322 f_MD_148 (mi_s k0.1 sf_170) (mi_r k0.1 rfm_58) ?_
                    refine A_aload_n 0 d_MD_voicePart_325 rfl rfl ?_
                    refine A_getIv (z := sd4) T_ok d_MD_voicePart_326 f_MD_357 (mi_s k0.1 sf_170) esd4.symm ?_
                    refine A_aload_n 0 d_MD_voicePart_329 rfl rfl ?_
                    refine A_pc (pc' := 330) rfl ?_
                    refine A_getIv (z := sd3) T_ok d_MD_voicePart_330 f_MD_354 (mi_s k0.1 sf_170) esd3.symm ?_
                    refine A_iastorek (KR := kM (pm [3, 4, 5, 6, 7, 8, 9, 10, 11, 12, 43, 63, 64] [201, 202, 203, 204, 205, 206, 207, 208, 209, 210, 211, 212, 213, 214, 215, 216]) h) d_MD_voicePart_333 (mi_s k0.1 sf_215) (by first | (clear hps; omega) | omega) (by first | (clear hps; omega) | omega) (kM_i k0 (by decide) rfl (mr_215 _) (by first | (clear hps; omega) | omega) (by first | (clear hps; omega) | omega)) (fun h1050 k1051 eh1050 => ?_)
                    refine A_aload_n 0 d_MD_voicePart_334 rfl rfl ?_
                    refine A_getAv (z := some 214) T_ok d_MD_voicePart_335 f_MD_145 (mi_s k1051.1 sf_170) (mi_r k1051.1 rfm_57) ?_
                    refine A_aload_n 0 d_MD_voicePart_338 rfl rfl ?_
                    refine A_getIv (z := sd3) T_ok d_MD_voicePart_339 f_MD_354 (mi_s k1051.1 sf_170) ((eh1050.1 _ _ (fun q => absurd q (by decide))).trans esd3.symm) ?_
                    refine A_pc (pc' := 342) rfl ?_
                    refine A_iconst d_MD_voicePart_342 rfl ?_
                    refine A_iastorek (KR := kM (pm [3, 4, 5, 6, 7, 8, 9, 10, 11, 12, 43, 63, 64] [201, 202, 203, 204, 205, 206, 207, 208, 209, 210, 211, 212, 213, 214, 215, 216]) h) d_MD_voicePart_343 (mi_s k1051.1 sf_214) (by first | (clear hps; omega) | omega) (by first | (clear hps; omega) | omega) (kM_i k1051 (by decide) rfl (mr_214 _) (by first | (clear hps; omega) | omega) (by first | (clear hps; omega) | omega)) (fun h1054 k1055 eh1054 => ?_)
                    refine A_aload_n 0 d_MD_voicePart_344 rfl rfl ?_
                    refine A_iconst d_MD_voicePart_345 rfl ?_
                    have zf1057 := ((eh1054.1 _ _ (fun q => absurd q (by decide))).trans ((eh1050.1 _ _ (fun q => absurd q (by decide))).trans esd1.symm))
                    have zf1058 := ((eh1054.1 _ _ (fun q => absurd q (by decide))).trans ((eh1050.1 _ _ (fun q => absurd q (by decide))).trans esd2.symm))
                    have zf1059 := ((eh1054.1 _ _ (fun q => absurd q (by decide))).trans ((eh1050.1 _ _ (fun q => absurd q (by decide))).trans esd3.symm))
                    have zf1060 := ((eh1054.1 _ _ (fun q => absurd q (by decide))).trans ((eh1050.1 _ _ (fun q => absurd q (by decide))).trans esd4.symm))
                    have zf1061 := ((eh1054.1 _ _ (fun q => absurd q (by decide))).trans ((eh1050.1 _ _ (fun q => absurd q (by decide))).trans esd5.symm))
                    refine A_callV1 m_MD_put T_ok d_MD_voicePart_346 l_MD_369 k_MD_put (mi_s k1055.1 sf_170) rfl (by decide +kernel) (by decide) (Nat.le_of_ble_eq_true rfl) (s_MD_put k1055.1 (by first | (clear hps; omega) | omega) (by first | (clear hps; omega) | omega) ((eh1054.1 _ _ (fun q => absurd q (by decide))).trans ((eh1050.1 _ _ (fun q => absurd q (by decide))).trans esd3.symm)) (by first | (clear hps; omega) | omega)) (fun r h1056 hq => ?_)
                    obtain ⟨rfl, xk1062, k1062⟩ := hq
                    have k1063 := kM_t k1055 k1062 (pm_s (by decide) (by decide))
                    refine A_aload_n 0 d_MD_voicePart_349 rfl rfl ?_
                    refine A_getAv (z := some 216) T_ok d_MD_voicePart_350 f_MD_151 (mi_s k1063.1 sf_170) (mi_r k1063.1 rfm_62) ?_
                    refine A_aload_n 0 d_MD_voicePart_353 rfl rfl ?_
                    refine A_getIv (z := sd4) T_ok d_MD_voicePart_354 f_MD_357 (mi_s k1063.1 sf_170) ((k1062.2.2.1 _ _ rfl).trans ((eh1054.1 _ _ (fun q => absurd q (by decide))).trans ((eh1050.1 _ _ (fun q => absurd q (by decide))).trans esd4.symm))) ?_
                    refine A_iconst d_MD_voicePart_357 rfl ?_
                    refine A_pc (pc' := 358) rfl ?_
                    refine A_iastorek (KR := kM (pm [3, 4, 5, 6, 7, 8, 9, 10, 11, 12, 43, 63, 64] [201, 202, 203, 204, 205, 206, 207, 208, 209, 210, 211, 212, 213, 214, 215, 216]) h) d_MD_voicePart_358 (mi_s k1063.1 sf_216) (by first | (clear hps; omega) | omega) (by first | (clear hps; omega) | omega) (kM_i k1063 (by decide) rfl (mr_216 _) (by first | (clear hps; omega) | omega) (by first | (clear hps; omega) | omega)) (fun h1066 k1067 eh1066 => ?_)
                    refine A_aload_n 0 d_MD_voicePart_359 rfl rfl ?_
                    refine A_dupR d_MD_voicePart_360 ?_
                    refine A_getIv (z := sd4) T_ok d_MD_voicePart_361 f_MD_357 (mi_s k1067.1 sf_170) ((eh1066.1 _ _ (fun q => absurd q (by decide))).trans ((k1062.2.2.1 _ _ rfl).trans ((eh1054.1 _ _ (fun q => absurd q (by decide))).trans ((eh1050.1 _ _ (fun q => absurd q (by decide))).trans esd4.symm)))) ?_
                    refine A_iconst d_MD_voicePart_364 rfl ?_
                    refine A_iaddv (z := (sd4 + 1)) d_MD_voicePart_365 (w32_to (by first | (clear hps; omega) | omega) (by unfold i32; first | (clear hps; omega) | omega)) ?_
                    refine A_pc (pc' := 366) rfl ?_
                    refine A_putIk (KR := kM (pm [3, 4, 5, 6, 7, 8, 9, 10, 11, 12, 43, 63, 64] [201, 202, 203, 204, 205, 206, 207, 208, 209, 210, 211, 212, 213, 214, 215, 216]) h) T_ok d_MD_voicePart_366 f_MD_357 (mi_s k1067.1 sf_170) fin_f (kM_i k1067 (by decide) (by decide) mr_170_63 (by first | (clear hps; omega) | omega) (by first | (clear hps; omega) | omega)) (fun h1069 k1070 eh1069 => ?_)
                    refine A_aload_n 0 d_MD_voicePart_369 rfl rfl ?_
                    have zf1072 := ((eh1069.1 _ _ (fun _ => by decide)).trans ((eh1066.1 _ _ (fun q => absurd q (by decide))).trans ((k1062.2.2.1 _ _ rfl).trans ((eh1054.1 _ _ (fun q => absurd q (by decide))).trans ((eh1050.1 _ _ (fun q => absurd q (by decide))).trans esd1.symm)))))
                    have zf1073 := ((eh1069.1 _ _ (fun _ => by decide)).trans ((eh1066.1 _ _ (fun q => absurd q (by decide))).trans ((k1062.2.2.1 _ _ rfl).trans ((eh1054.1 _ _ (fun q => absurd q (by decide))).trans ((eh1050.1 _ _ (fun q => absurd q (by decide))).trans esd2.symm)))))
                    have zf1074 := ((eh1069.1 _ _ (fun _ => by decide)).trans ((eh1066.1 _ _ (fun q => absurd q (by decide))).trans xk1062.1))
                    have zf1075 := eh1069.2.1
                    have zf1076 := ((eh1069.1 _ _ (fun _ => by decide)).trans ((eh1066.1 _ _ (fun q => absurd q (by decide))).trans ((k1062.2.2.1 _ _ rfl).trans ((eh1054.1 _ _ (fun q => absurd q (by decide))).trans ((eh1050.1 _ _ (fun q => absurd q (by decide))).trans esd5.symm)))))
                    refine A_callV0 m_MD_next T_ok d_MD_voicePart_370 l_MD_309 k_MD_next (mi_s k1070.1 sf_170) rfl (by decide +kernel) (by decide) (Nat.le_of_ble_eq_true rfl) (s_MD_next k1070.1 (by have qq0 := ((eh1069.1 _ _ (fun _ => by decide)).trans ((eh1066.1 _ _ (fun q => absurd q (by decide))).trans ((k1062.2.2.1 _ _ rfl).trans ((eh1054.1 _ _ (fun q => absurd q (by decide))).trans ((eh1050.1 _ _ (fun q => absurd q (by decide))).trans esd1.symm))))); have qq1 := ((eh1069.1 _ _ (fun _ => by decide)).trans ((eh1066.1 _ _ (fun q => absurd q (by decide))).trans ((k1062.2.2.1 _ _ rfl).trans ((eh1054.1 _ _ (fun q => absurd q (by decide))).trans ((eh1050.1 _ _ (fun q => absurd q (by decide))).trans esd2.symm))))); first | (clear hps; omega) | omega)) (fun r h1071 hq => ?_)
                    obtain ⟨x1078, rfl, ⟨_, _⟩, xx1078, k1077⟩ := hq
                    have xa1078 := xx1078.1
                    have xb1078 := xx1078.2.1
                    have k1079 := kM_t k1070 k1077 (pm_s (by decide) (by decide))
                    obtain ⟨sd1080, esd1080⟩ : ∃ x, x = h1071.2.1 170 3 := ⟨_, rfl⟩
                    have rsd1080 : 0 ≤ sd1080 ∧ sd1080 ≤ 2000 := (by rw [esd1080]; exact mi_g k1079.1 (by decide) mr_170_3)
                    obtain ⟨sd1081, esd1081⟩ : ∃ x, x = h1071.2.1 170 4 := ⟨_, rfl⟩
                    have rsd1081 : 0 ≤ sd1081 ∧ sd1081 ≤ 6 := (by rw [esd1081]; exact mi_g k1079.1 (by decide) mr_170_4)
                    exact A_zret d_MD_voicePart_373 (by decide) rfl (by first | (clear hps; omega) | omega) ⟨_, rfl, by first | (clear hps; omega) | omega, (fun hz => ⟨by first | (clear hps; omega) | omega, (by have qq0 := esd1080.symm; have qq1 := ((k1077.2.2.1 _ _ rfl).trans ((eh1069.1 _ _ (fun _ => by decide)).trans ((eh1066.1 _ _ (fun q => absurd q (by decide))).trans ((k1062.2.2.1 _ _ rfl).trans ((eh1054.1 _ _ (fun q => absurd q (by decide))).trans ((eh1050.1 _ _ (fun q => absurd q (by decide))).trans esd2.symm)))))); have qq2 := esd1081.symm; exact ⟨by first | (clear hps; omega) | omega, by first | (clear hps; omega) | omega, by first | (clear hps; omega) | omega, by first | (clear hps; omega) | omega⟩), (by have qq0 := esd1080.symm; have qq1 := ((k1077.2.2.1 _ _ rfl).trans ((eh1069.1 _ _ (fun _ => by decide)).trans ((eh1066.1 _ _ (fun q => absurd q (by decide))).trans ((k1062.2.2.1 _ _ rfl).trans ((eh1054.1 _ _ (fun q => absurd q (by decide))).trans ((eh1050.1 _ _ (fun q => absurd q (by decide))).trans esd2.symm)))))); have qq2 := esd1081.symm; have qq3 := ((k1077.2.2.1 _ _ rfl).trans ((eh1069.1 _ _ (fun _ => by decide)).trans ((eh1066.1 _ _ (fun q => absurd q (by decide))).trans xk1062.1))); exact ⟨by first | (clear hps; omega) | omega, by first | (clear hps; omega) | omega⟩), VH_o (x := sd3) (m := sd4) (c := 2) hVH esd3.symm esd4.symm (by first | (clear hps; omega) | omega) ((k1077.2.2.1 _ _ rfl).trans ((eh1069.1 _ _ (fun _ => by decide)).trans ((eh1066.1 _ _ (fun q => absurd q (by decide))).trans xk1062.1))) ((k1077.2.2.1 _ _ rfl).trans eh1069.2.1) (by decide) (fun k hk => ((k1077.2.2.1 201 k rfl).trans ((eh1069.1 201 k (fun q => absurd q (by decide))).trans ((eh1066.1 201 k (fun q => absurd q (by decide))).trans ((xk1062.2.1 k hk).trans ((eh1054.1 201 k (fun q => absurd q (by decide))).trans (eh1050.1 201 k (fun q => absurd q (by decide))))))))) ((k1077.2.2.1 _ _ rfl).trans ((eh1069.1 _ _ (fun q => absurd q (by decide))).trans ((eh1066.1 _ _ (fun q => absurd q (by decide))).trans xk1062.2.2))) (fun k hk => ((k1077.2.2.1 202 k rfl).trans ((eh1069.1 202 k (fun q => absurd q (by decide))).trans ((eh1066.1 202 k (fun q => absurd q (by decide))).trans ((k1062.2.2.1 202 k rfl).trans ((eh1054.1 202 k (fun q => absurd q (by decide))).trans (eh1050.1 202 k (fun q => absurd q (by decide))))))))) (fun k hk => ((k1077.2.2.1 203 k rfl).trans ((eh1069.1 203 k (fun q => absurd q (by decide))).trans ((eh1066.1 203 k (fun q => absurd q (by decide))).trans ((k1062.2.2.1 203 k rfl).trans ((eh1054.1 203 k (fun q => absurd q (by decide))).trans (eh1050.1 203 k (fun q => absurd q (by decide))))))))) (fun q => absurd q (by decide)) (fun k hk => ((k1077.2.2.1 214 k rfl).trans ((eh1069.1 214 k (fun q => absurd q (by decide))).trans ((eh1066.1 214 k (fun q => absurd q (by decide))).trans ((k1062.2.2.1 214 k rfl).trans ((eh1054.1 214 k (fun _ => hk)).trans (eh1050.1 214 k (fun q => absurd q (by decide))))))))) (fun _ => ((k1077.2.2.1 _ _ rfl).trans ((eh1069.1 _ _ (fun q => absurd q (by decide))).trans ((eh1066.1 _ _ (fun q => absurd q (by decide))).trans ((k1062.2.2.1 _ _ rfl).trans eh1054.2.1))))) (fun k hk => ((k1077.2.2.1 215 k rfl).trans ((eh1069.1 215 k (fun q => absurd q (by decide))).trans ((eh1066.1 215 k (fun q => absurd q (by decide))).trans ((k1062.2.2.1 215 k rfl).trans ((eh1054.1 215 k (fun q => absurd q (by decide))).trans (eh1050.1 215 k (fun _ => hk)))))))) ((k1077.2.2.1 _ _ rfl).trans ((eh1069.1 _ _ (fun q => absurd q (by decide))).trans ((eh1066.1 _ _ (fun q => absurd q (by decide))).trans ((k1062.2.2.1 _ _ rfl).trans ((eh1054.1 _ _ (fun q => absurd q (by decide))).trans eh1050.2.1))))) (fun k hk => ((k1077.2.2.1 216 k rfl).trans ((eh1069.1 216 k (fun q => absurd q (by decide))).trans ((eh1066.1 216 k (fun _ => hk)).trans ((k1062.2.2.1 216 k rfl).trans ((eh1054.1 216 k (fun q => absurd q (by decide))).trans (eh1050.1 216 k (fun q => absurd q (by decide))))))))) ((k1077.2.2.1 _ _ rfl).trans ((eh1069.1 _ _ (fun q => absurd q (by decide))).trans eh1066.2.1)) (by intro a ha; simp only [List.mem_cons, List.not_mem_nil, or_false] at ha; rcases ha with rfl | rfl | rfl | rfl ; exact (funext (fun k => ((k1077.2.2.1 210 k rfl).trans ((eh1069.1 210 k (fun q => absurd q (by decide))).trans ((eh1066.1 210 k (fun q => absurd q (by decide))).trans ((k1062.2.2.1 210 k rfl).trans ((eh1054.1 210 k (fun q => absurd q (by decide))).trans (eh1050.1 210 k (fun q => absurd q (by decide)))))))))) ; exact (funext (fun k => ((k1077.2.2.1 211 k rfl).trans ((eh1069.1 211 k (fun q => absurd q (by decide))).trans ((eh1066.1 211 k (fun q => absurd q (by decide))).trans ((k1062.2.2.1 211 k rfl).trans ((eh1054.1 211 k (fun q => absurd q (by decide))).trans (eh1050.1 211 k (fun q => absurd q (by decide)))))))))) ; exact (funext (fun k => ((k1077.2.2.1 212 k rfl).trans ((eh1069.1 212 k (fun q => absurd q (by decide))).trans ((eh1066.1 212 k (fun q => absurd q (by decide))).trans ((k1062.2.2.1 212 k rfl).trans ((eh1054.1 212 k (fun q => absurd q (by decide))).trans (eh1050.1 212 k (fun q => absurd q (by decide)))))))))) ; exact (funext (fun k => ((k1077.2.2.1 213 k rfl).trans ((eh1069.1 213 k (fun q => absurd q (by decide))).trans ((eh1066.1 213 k (fun q => absurd q (by decide))).trans ((k1062.2.2.1 213 k rfl).trans ((eh1054.1 213 k (fun q => absurd q (by decide))).trans (eh1050.1 213 k (fun q => absurd q (by decide)))))))))))⟩), k1079⟩
                · refine A_aload_n 0 d_MD_voicePart_302 rfl rfl ?_
                  refine A_iconst d_MD_voicePart_303 rfl ?_
                  have zf1083 := esd1.symm
                  have zf1084 := esd2.symm
                  have zf1085 := esd3.symm
                  have zf1086 := esd4.symm
                  have zf1087 := esd5.symm
                  refine A_callV1 m_MD_put T_ok d_MD_voicePart_304 l_MD_369 k_MD_put (mi_s k0.1 sf_170) rfl (by decide +kernel) (by decide) (Nat.le_of_ble_eq_true rfl) (s_MD_put k0.1 (by first | (clear hps; omega) | omega) (by first | (clear hps; omega) | omega) esd3.symm (by first | (clear hps; omega) | omega)) (fun r h1082 hq => ?_)
                  obtain ⟨rfl, xk1088, k1088⟩ := hq
                  have k1089 := kM_t k0 k1088 (pm_s (by decide) (by decide))
                  refine A_aload_n 0 d_MD_voicePart_307 rfl rfl ?_
                  have zf1091 := ((k1088.2.2.1 _ _ rfl).trans esd1.symm)
                  have zf1092 := ((k1088.2.2.1 _ _ rfl).trans esd2.symm)
                  have zf1093 := xk1088.1
                  have zf1094 := ((k1088.2.2.1 _ _ rfl).trans esd4.symm)
                  have zf1095 := ((k1088.2.2.1 _ _ rfl).trans esd5.symm)
                  refine A_callV0 m_MD_next T_ok d_MD_voicePart_308 l_MD_309 k_MD_next (mi_s k1089.1 sf_170) rfl (by decide +kernel) (by decide) (Nat.le_of_ble_eq_true rfl) (s_MD_next k1089.1 (by have qq0 := ((k1088.2.2.1 _ _ rfl).trans esd1.symm); have qq1 := ((k1088.2.2.1 _ _ rfl).trans esd2.symm); first | (clear hps; omega) | omega)) (fun r h1090 hq => ?_)
                  obtain ⟨x1097, rfl, ⟨_, _⟩, xx1097, k1096⟩ := hq
                  have xa1097 := xx1097.1
                  have xb1097 := xx1097.2.1
                  have k1098 := kM_t k1089 k1096 (pm_s (by decide) (by decide))
                  obtain ⟨sd1099, esd1099⟩ : ∃ x, x = h1090.2.1 170 3 := ⟨_, rfl⟩
                  have rsd1099 : 0 ≤ sd1099 ∧ sd1099 ≤ 2000 := (by rw [esd1099]; exact mi_g k1098.1 (by decide) mr_170_3)
                  obtain ⟨sd1100, esd1100⟩ : ∃ x, x = h1090.2.1 170 4 := ⟨_, rfl⟩
                  have rsd1100 : 0 ≤ sd1100 ∧ sd1100 ≤ 6 := (by rw [esd1100]; exact mi_g k1098.1 (by decide) mr_170_4)
                  exact A_zret d_MD_voicePart_311 (by decide) rfl (by first | (clear hps; omega) | omega) ⟨_, rfl, by first | (clear hps; omega) | omega, (fun hz => ⟨by first | (clear hps; omega) | omega, (by have qq0 := esd1099.symm; have qq1 := ((k1096.2.2.1 _ _ rfl).trans ((k1088.2.2.1 _ _ rfl).trans esd2.symm)); have qq2 := esd1100.symm; exact ⟨by first | (clear hps; omega) | omega, by first | (clear hps; omega) | omega, by first | (clear hps; omega) | omega, by first | (clear hps; omega) | omega⟩), (by have qq0 := esd1099.symm; have qq1 := ((k1096.2.2.1 _ _ rfl).trans ((k1088.2.2.1 _ _ rfl).trans esd2.symm)); have qq2 := esd1100.symm; have qq3 := ((k1096.2.2.1 _ _ rfl).trans xk1088.1); exact ⟨by first | (clear hps; omega) | omega, by first | (clear hps; omega) | omega⟩), VH_s (x := sd3) hVH esd3.symm ((k1096.2.2.1 _ _ rfl).trans xk1088.1) (((k1096.2.2.1 170 63 rfl).trans (k1088.2.2.1 170 63 rfl))) (fun k hk => ((k1096.2.2.1 201 k rfl).trans (xk1088.2.1 k hk))) (Or.inl ((k1096.2.2.1 _ _ rfl).trans xk1088.2.2)) (fun k hk => ((k1096.2.2.1 202 k rfl).trans (k1088.2.2.1 202 k rfl))) (by intro a ha; simp only [List.mem_cons, List.not_mem_nil, or_false] at ha; rcases ha with rfl | rfl | rfl | rfl | rfl | rfl | rfl | rfl ; exact (funext (fun k => ((k1096.2.2.1 203 k rfl).trans (k1088.2.2.1 203 k rfl)))) ; exact (funext (fun k => ((k1096.2.2.1 210 k rfl).trans (k1088.2.2.1 210 k rfl)))) ; exact (funext (fun k => ((k1096.2.2.1 211 k rfl).trans (k1088.2.2.1 211 k rfl)))) ; exact (funext (fun k => ((k1096.2.2.1 212 k rfl).trans (k1088.2.2.1 212 k rfl)))) ; exact (funext (fun k => ((k1096.2.2.1 213 k rfl).trans (k1088.2.2.1 213 k rfl)))) ; exact (funext (fun k => ((k1096.2.2.1 214 k rfl).trans (k1088.2.2.1 214 k rfl)))) ; exact (funext (fun k => ((k1096.2.2.1 215 k rfl).trans (k1088.2.2.1 215 k rfl)))) ; exact (funext (fun k => ((k1096.2.2.1 216 k rfl).trans (k1088.2.2.1 216 k rfl)))))⟩), k1098⟩
              · refine A_aload_n 0 d_MD_voicePart_283 rfl rfl ?_
                refine A_iconst d_MD_voicePart_284 rfl ?_
                refine A_aload_n 0 d_MD_voicePart_285 rfl rfl ?_
                refine A_getIn (lo := 0) (hi := 2000) T_ok d_MD_voicePart_286 f_MD_242 (mi_s k0.1 sf_170) (mi_g k0.1 (by decide) mr_170_5) (fun x1101 ex1101 _ _ => ?_)
                have zf1103 := esd1.symm
                have zf1104 := esd2.symm
                have zf1105 := esd3.symm
                have zf1106 := esd4.symm
                have zf1107 := esd5.symm
                refine A_callV2 m_MD_wrong T_ok d_MD_voicePart_289 l_MD_245 k_MD_wrong (mi_s k0.1 sf_170) rfl (by decide +kernel) (by decide) (Nat.le_of_ble_eq_true rfl) (s_MD_wrong k0.1 (by first | (clear hps; omega) | omega) (by first | (clear hps; omega) | omega) (by first | (clear hps; omega) | omega) (by first | (clear hps; omega) | omega)) (fun r h1102 hq => ?_)
                obtain ⟨x1109, rfl, ⟨_, _⟩, k1108⟩ := hq
                have k1110 := kM_t k0 k1108 (pm_s (by decide) (by decide))
                obtain rfl : x1109 = 0 := by first | (clear hps; omega) | omega
                exact A_zret d_MD_voicePart_292 (by decide) rfl (by first | (clear hps; omega) | omega) ⟨_, rfl, by first | (clear hps; omega) | omega, (fun q => absurd q (by decide)), k1110⟩
            · refine A_aload_n 0 d_MD_voicePart_232 rfl rfl ?_
              refine A_bipush d_MD_voicePart_233 rfl ?_
              have zf1112 := esd1.symm
              have zf1113 := esd2.symm
              have zf1114 := esd3.symm
              have zf1115 := esd4.symm
              have zf1116 := esd5.symm
              refine A_callV1 m_MD_isSign T_ok d_MD_voicePart_235 l_MD_306 k_MD_isSign (mi_s k0.1 sf_170) rfl (by decide +kernel) (by decide) (Nat.le_of_ble_eq_true rfl) (s_MD_isSign k0.1 ) (fun r h1111 hq => ?_)
              obtain ⟨x1118, rfl, bx1118, xx1118, rfl⟩ := hq
              refine A_if_ne (tgt := 259) d_MD_voicePart_238 (by decide) (fun c1119 => ?_) (fun c1119 => ?_)
              · refine A_iconst d_MD_voicePart_259 rfl ?_
                refine A_goto (tgt := 264) d_MD_voicePart_260 (by decide) ?_
                refine A_istore_n 1 (L' := [some (av_R (some 170)), some (av_I 1), none]) d_MD_voicePart_264 rfl (Nat.le_of_ble_eq_true rfl) rfl ?_
                refine A_iload_n 1 d_MD_voicePart_265 rfl rfl ?_
                refine A_if_ne (tgt := 274) d_MD_voicePart_266 (by decide) (fun _ => ?_) (fun c => absurd c (by decide))
                refine A_aload_n 0 d_MD_voicePart_274 rfl rfl ?_
                refine A_getIv (z := sd4) T_ok d_MD_voicePart_275 f_MD_357 (mi_s k0.1 sf_170) esd4.symm ?_
                refine A_bipush d_MD_voicePart_278 rfl ?_
                refine A_icmp_le (tgt := 293) d_MD_voicePart_280 (by decide) (fun c1122 => ?_) (fun c1122 => ?_)
                · refine A_aload_n 0 d_MD_voicePart_293 rfl rfl ?_
                  refine A_bipush d_MD_voicePart_294 rfl ?_
                  have zf1124 := esd1.symm
                  have zf1125 := esd2.symm
                  have zf1126 := esd3.symm
                  have zf1127 := esd4.symm
                  have zf1128 := esd5.symm
                  refine A_callV1 m_MD_isSign T_ok d_MD_voicePart_296 l_MD_306 k_MD_isSign (mi_s k0.1 sf_170) rfl (by decide +kernel) (by decide) (Nat.le_of_ble_eq_true rfl) (s_MD_isSign k0.1 ) (fun r h1123 hq => ?_)
                  obtain ⟨x1130, rfl, bx1130, xx1130, rfl⟩ := hq
                  refine A_if_eq (tgt := 312) d_MD_voicePart_299 (by decide) (fun c1131 => ?_) (fun c1131 => ?_)
                  · refine A_aload_n 0 d_MD_voicePart_312 rfl rfl ?_
                    refine A_bipush d_MD_voicePart_313 rfl ?_
                    have zf1133 := esd1.symm
                    have zf1134 := esd2.symm
                    have zf1135 := esd3.symm
                    have zf1136 := esd4.symm
                    have zf1137 := esd5.symm
                    refine A_callV1 m_MD_isSign T_ok d_MD_voicePart_315 l_MD_306 k_MD_isSign (mi_s k0.1 sf_170) rfl (by decide +kernel) (by decide) (Nat.le_of_ble_eq_true rfl) (s_MD_isSign k0.1 ) (fun r h1132 hq => ?_)
                    obtain ⟨x1139, rfl, bx1139, xx1139, rfl⟩ := hq
                    refine A_if_eq (tgt := 374) d_MD_voicePart_318 (by decide) (fun c1140 => ?_) (fun c1140 => ?_)
                    · refine A_aload_n 0 d_MD_voicePart_374 rfl rfl ?_
                      refine A_bipush d_MD_voicePart_375 rfl ?_
                      have zf1142 := esd1.symm
                      have zf1143 := esd2.symm
                      have zf1144 := esd3.symm
                      have zf1145 := esd4.symm
                      have zf1146 := esd5.symm
                      refine A_callV1 m_MD_isSign T_ok d_MD_voicePart_377 l_MD_306 k_MD_isSign (mi_s k0.1 sf_170) rfl (by decide +kernel) (by decide) (Nat.le_of_ble_eq_true rfl) (s_MD_isSign k0.1 ) (fun r h1141 hq => ?_)
                      obtain ⟨x1148, rfl, bx1148, xx1148, rfl⟩ := hq
                      refine A_if_eq (tgt := 388) d_MD_voicePart_380 (by decide) (fun c1149 => ?_) (fun c1149 => ?_)
                      · refine A_aload_n 0 d_MD_voicePart_388 rfl rfl ?_
                        have zf1151 := esd1.symm
                        have zf1152 := esd2.symm
                        have zf1153 := esd3.symm
                        have zf1154 := esd4.symm
                        have zf1155 := esd5.symm
                        refine A_callV0 m_MD_soundPart T_ok d_MD_voicePart_389 l_MD_375 k_MD_soundPart (mi_s k0.1 sf_170) rfl (by decide +kernel) (by decide) (Nat.le_of_ble_eq_true rfl) (s_MD_soundPart k0.1 (by have qq0 := esd1.symm; have qq1 := esd2.symm; first | (clear hps; omega) | omega) (by have qq0 := esd1.symm; have qq1 := esd2.symm; have qq2 := esd5.symm; have qq3 := esd3.symm; exact ⟨by first | (clear hps; omega) | omega, by first | (clear hps; omega) | omega⟩) (by have qq0 := esd5.symm; exact ⟨by first | (clear hps; omega) | omega, by first | (clear hps; omega) | omega⟩) hVH) (fun r h1150 hq => ?_)
                        obtain ⟨x1157, rfl, bx1157, xx1157, k1156⟩ := hq
                        have k1158 := kM_t k0 k1156 (pm_s (by decide) (by decide))
                        obtain ⟨sd1159, esd1159⟩ : ∃ x, x = h1150.2.1 170 3 := ⟨_, rfl⟩
                        have rsd1159 : 0 ≤ sd1159 ∧ sd1159 ≤ 2000 := (by rw [esd1159]; exact mi_g k1158.1 (by decide) mr_170_3)
                        obtain ⟨sd1160, esd1160⟩ : ∃ x, x = h1150.2.1 170 43 := ⟨_, rfl⟩
                        have rsd1160 : 0 ≤ sd1160 ∧ sd1160 ≤ 2001 := (by rw [esd1160]; exact mi_g k1158.1 (by decide) mr_170_43)
                        obtain ⟨sd1161, esd1161⟩ : ∃ x, x = h1150.2.1 170 4 := ⟨_, rfl⟩
                        have rsd1161 : 0 ≤ sd1161 ∧ sd1161 ≤ 6 := (by rw [esd1161]; exact mi_g k1158.1 (by decide) mr_170_4)
                        exact A_zret d_MD_voicePart_392 (by decide) rfl (by first | (clear hps; omega) | omega) ⟨_, rfl, by first | (clear hps; omega) | omega, (fun hz => ⟨by first | (clear hps; omega) | omega, (by have qq0 := esd1159.symm; have qq1 := ((k1156.2.2.1 _ _ rfl).trans esd2.symm); have qq2 := esd1161.symm; exact ⟨by first | (clear hps; omega) | omega, by first | (clear hps; omega) | omega, by first | (clear hps; omega) | omega, by first | (clear hps; omega) | omega⟩), (by have qq0 := esd1159.symm; have qq1 := ((k1156.2.2.1 _ _ rfl).trans esd2.symm); have qq2 := esd1161.symm; have qq3 := esd1160.symm; exact ⟨by first | (clear hps; omega) | omega, by first | (clear hps; omega) | omega⟩), (xx1157 hz).2.2⟩), k1158⟩
                      · refine A_aload_n 0 d_MD_voicePart_383 rfl rfl ?_
                        have zf1163 := esd1.symm
                        have zf1164 := esd2.symm
                        have zf1165 := esd3.symm
                        have zf1166 := esd4.symm
                        have zf1167 := esd5.symm
                        refine A_callV0 m_MD_timesPart T_ok d_MD_voicePart_384 l_MD_372 k_MD_timesPart (mi_s k0.1 sf_170) rfl (by decide +kernel) (by decide) (Nat.le_of_ble_eq_true rfl) (s_MD_timesPart k0.1 (by have qq0 := esd1.symm; have qq1 := esd2.symm; first | (clear hps; omega) | omega) (by have qq0 := esd1.symm; have qq1 := esd2.symm; have qq2 := esd5.symm; have qq3 := esd3.symm; exact ⟨by first | (clear hps; omega) | omega, by first | (clear hps; omega) | omega⟩) (by have qq0 := esd5.symm; exact ⟨by first | (clear hps; omega) | omega, by first | (clear hps; omega) | omega⟩) hVH (by have qq0 := esd4.symm; first | (clear hps; omega) | omega)) (fun r h1162 hq => ?_)
                        obtain ⟨x1169, rfl, bx1169, xx1169, k1168⟩ := hq
                        have k1170 := kM_t k0 k1168 (pm_s (by decide) (by decide))
                        obtain ⟨sd1171, esd1171⟩ : ∃ x, x = h1162.2.1 170 3 := ⟨_, rfl⟩
                        have rsd1171 : 0 ≤ sd1171 ∧ sd1171 ≤ 2000 := (by rw [esd1171]; exact mi_g k1170.1 (by decide) mr_170_3)
                        obtain ⟨sd1172, esd1172⟩ : ∃ x, x = h1162.2.1 170 43 := ⟨_, rfl⟩
                        have rsd1172 : 0 ≤ sd1172 ∧ sd1172 ≤ 2001 := (by rw [esd1172]; exact mi_g k1170.1 (by decide) mr_170_43)
                        obtain ⟨sd1173, esd1173⟩ : ∃ x, x = h1162.2.1 170 63 := ⟨_, rfl⟩
                        have rsd1173 : 0 ≤ sd1173 ∧ sd1173 ≤ 7 := (by rw [esd1173]; exact mi_g k1170.1 (by decide) mr_170_63)
                        obtain ⟨sd1174, esd1174⟩ : ∃ x, x = h1162.2.1 170 4 := ⟨_, rfl⟩
                        have rsd1174 : 0 ≤ sd1174 ∧ sd1174 ≤ 6 := (by rw [esd1174]; exact mi_g k1170.1 (by decide) mr_170_4)
                        exact A_zret d_MD_voicePart_387 (by decide) rfl (by first | (clear hps; omega) | omega) ⟨_, rfl, by first | (clear hps; omega) | omega, (fun hz => ⟨by first | (clear hps; omega) | omega, (by have qq0 := esd1171.symm; have qq1 := ((k1168.2.2.1 _ _ rfl).trans esd2.symm); have qq2 := esd1174.symm; exact ⟨by first | (clear hps; omega) | omega, by first | (clear hps; omega) | omega, by first | (clear hps; omega) | omega, by first | (clear hps; omega) | omega⟩), (by have qq0 := esd1171.symm; have qq1 := ((k1168.2.2.1 _ _ rfl).trans esd2.symm); have qq2 := esd1174.symm; have qq3 := esd1172.symm; exact ⟨by first | (clear hps; omega) | omega, by first | (clear hps; omega) | omega⟩), (xx1169 hz).2.2⟩), k1170⟩
                    · refine A_aload_n 0 d_MD_voicePart_321 rfl rfl ?_
                      refine A_getAv (z := some 215) T_ok d_MD_voicePart_322 f_MD_148 (mi_s k0.1 sf_170) (mi_r k0.1 rfm_58) ?_
                      refine A_aload_n 0 d_MD_voicePart_325 rfl rfl ?_
                      refine A_getIv (z := sd4) T_ok d_MD_voicePart_326 f_MD_357 (mi_s k0.1 sf_170) esd4.symm ?_
                      refine A_aload_n 0 d_MD_voicePart_329 rfl rfl ?_
                      refine A_pc (pc' := 330) rfl ?_
                      refine A_getIv (z := sd3) T_ok d_MD_voicePart_330 f_MD_354 (mi_s k0.1 sf_170) esd3.symm ?_
                      refine A_iastorek (KR := kM (pm [3, 4, 5, 6, 7, 8, 9, 10, 11, 12, 43, 63, 64] [201, 202, 203, 204, 205, 206, 207, 208, 209, 210, 211, 212, 213, 214, 215, 216]) h) d_MD_voicePart_333 (mi_s k0.1 sf_215) (by first | (clear hps; omega) | omega) (by first | (clear hps; omega) | omega) (kM_i k0 (by decide) rfl (mr_215 _) (by first | (clear hps; omega) | omega) (by first | (clear hps; omega) | omega)) (fun h1178 k1179 eh1178 => ?_)
                      refine A_aload_n 0 d_MD_voicePart_334 rfl rfl ?_
                      refine A_getAv (z := some 214) T_ok d_MD_voicePart_335 f_MD_145 (mi_s k1179.1 sf_170) (mi_r k1179.1 rfm_57) ?_
                      refine A_aload_n 0 d_MD_voicePart_338 rfl rfl ?_
                      refine A_getIv (z := sd3) T_ok d_MD_voicePart_339 f_MD_354 (mi_s k1179.1 sf_170) ((eh1178.1 _ _ (fun q => absurd q (by decide))).trans esd3.symm) ?_
                      refine A_pc (pc' := 342) rfl ?_
                      refine A_iconst d_MD_voicePart_342 rfl ?_
                      refine A_iastorek (KR := kM (pm [3, 4, 5, 6, 7, 8, 9, 10, 11, 12, 43, 63, 64] [201, 202, 203, 204, 205, 206, 207, 208, 209, 210, 211, 212, 213, 214, 215, 216]) h) d_MD_voicePart_343 (mi_s k1179.1 sf_214) (by first | (clear hps; omega) | omega) (by first | (clear hps; omega) | omega) (kM_i k1179 (by decide) rfl (mr_214 _) (by first | (clear hps; omega) | omega) (by first | (clear hps; omega) | omega)) (fun h1182 k1183 eh1182 => ?_)
                      refine A_aload_n 0 d_MD_voicePart_344 rfl rfl ?_
                      refine A_iconst d_MD_voicePart_345 rfl ?_
                      have zf1185 := ((eh1182.1 _ _ (fun q => absurd q (by decide))).trans ((eh1178.1 _ _ (fun q => absurd q (by decide))).trans esd1.symm))
                      have zf1186 := ((eh1182.1 _ _ (fun q => absurd q (by decide))).trans ((eh1178.1 _ _ (fun q => absurd q (by decide))).trans esd2.symm))
                      have zf1187 := ((eh1182.1 _ _ (fun q => absurd q (by decide))).trans ((eh1178.1 _ _ (fun q => absurd q (by decide))).trans esd3.symm))
                      have zf1188 := ((eh1182.1 _ _ (fun q => absurd q (by decide))).trans ((eh1178.1 _ _ (fun q => absurd q (by decide))).trans esd4.symm))
                      have zf1189 := ((eh1182.1 _ _ (fun q => absurd q (by decide))).trans ((eh1178.1 _ _ (fun q => absurd q (by decide))).trans esd5.symm))
                      refine A_callV1 m_MD_put T_ok d_MD_voicePart_346 l_MD_369 k_MD_put (mi_s k1183.1 sf_170) rfl (by decide +kernel) (by decide) (Nat.le_of_ble_eq_true rfl) (s_MD_put k1183.1 (by first | (clear hps; omega) | omega) (by first | (clear hps; omega) | omega) ((eh1182.1 _ _ (fun q => absurd q (by decide))).trans ((eh1178.1 _ _ (fun q => absurd q (by decide))).trans esd3.symm)) (by first | (clear hps; omega) | omega)) (fun r h1184 hq => ?_)
                      obtain ⟨rfl, xk1190, k1190⟩ := hq
                      have k1191 := kM_t k1183 k1190 (pm_s (by decide) (by decide))
                      refine A_aload_n 0 d_MD_voicePart_349 rfl rfl ?_
                      refine A_getAv (z := some 216) T_ok d_MD_voicePart_350 f_MD_151 (mi_s k1191.1 sf_170) (mi_r k1191.1 rfm_62) ?_
                      refine A_aload_n 0 d_MD_voicePart_353 rfl rfl ?_
                      refine A_getIv (z := sd4) T_ok d_MD_voicePart_354 f_MD_357 (mi_s k1191.1 sf_170) ((k1190.2.2.1 _ _ rfl).trans ((eh1182.1 _ _ (fun q => absurd q (by decide))).trans ((eh1178.1 _ _ (fun q => absurd q (by decide))).trans esd4.symm))) ?_
                      refine A_iconst d_MD_voicePart_357 rfl ?_
                      refine A_pc (pc' := 358) rfl ?_
                      refine A_iastorek (KR := kM (pm [3, 4, 5, 6, 7, 8, 9, 10, 11, 12, 43, 63, 64] [201, 202, 203, 204, 205, 206, 207, 208, 209, 210, 211, 212, 213, 214, 215, 216]) h) d_MD_voicePart_358 (mi_s k1191.1 sf_216) (by first | (clear hps; omega) | omega) (by first | (clear hps; omega) | omega) (kM_i k1191 (by decide) rfl (mr_216 _) (by first | (clear hps; omega) | omega) (by first | (clear hps; omega) | omega)) (fun h1194 k1195 eh1194 => ?_)
                      refine A_aload_n 0 d_MD_voicePart_359 rfl rfl ?_
                      refine A_dupR d_MD_voicePart_360 ?_
                      refine A_getIv (z := sd4) T_ok d_MD_voicePart_361 f_MD_357 (mi_s k1195.1 sf_170) ((eh1194.1 _ _ (fun q => absurd q (by decide))).trans ((k1190.2.2.1 _ _ rfl).trans ((eh1182.1 _ _ (fun q => absurd q (by decide))).trans ((eh1178.1 _ _ (fun q => absurd q (by decide))).trans esd4.symm)))) ?_
                      refine A_iconst d_MD_voicePart_364 rfl ?_
                      refine A_iaddv (z := (sd4 + 1)) d_MD_voicePart_365 (w32_to (by first | (clear hps; omega) | omega) (by unfold i32; first | (clear hps; omega) | omega)) ?_
                      refine A_pc (pc' := 366) rfl ?_
                      refine A_putIk (KR := kM (pm [3, 4, 5, 6, 7, 8, 9, 10, 11, 12, 43, 63, 64] [201, 202, 203, 204, 205, 206, 207, 208, 209, 210, 211, 212, 213, 214, 215, 216]) h) T_ok d_MD_voicePart_366 f_MD_357 (mi_s k1195.1 sf_170) fin_f (kM_i k1195 (by decide) (by decide) mr_170_63 (by first | (clear hps; omega) | omega) (by first | (clear hps; omega) | omega)) (fun h1197 k1198 eh1197 => ?_)
                      refine A_aload_n 0 d_MD_voicePart_369 rfl rfl ?_
                      have zf1200 := ((eh1197.1 _ _ (fun _ => by decide)).trans ((eh1194.1 _ _ (fun q => absurd q (by decide))).trans ((k1190.2.2.1 _ _ rfl).trans ((eh1182.1 _ _ (fun q => absurd q (by decide))).trans ((eh1178.1 _ _ (fun q => absurd q (by decide))).trans esd1.symm)))))
                      have zf1201 := ((eh1197.1 _ _ (fun _ => by decide)).trans ((eh1194.1 _ _ (fun q => absurd q (by decide))).trans ((k1190.2.2.1 _ _ rfl).trans ((eh1182.1 _ _ (fun q => absurd q (by decide))).trans ((eh1178.1 _ _ (fun q => absurd q (by decide))).trans esd2.symm)))))
                      have zf1202 := ((eh1197.1 _ _ (fun _ => by decide)).trans ((eh1194.1 _ _ (fun q => absurd q (by decide))).trans xk1190.1))
                      have zf1203 := eh1197.2.1
                      have zf1204 := ((eh1197.1 _ _ (fun _ => by decide)).trans ((eh1194.1 _ _ (fun q => absurd q (by decide))).trans ((k1190.2.2.1 _ _ rfl).trans ((eh1182.1 _ _ (fun q => absurd q (by decide))).trans ((eh1178.1 _ _ (fun q => absurd q (by decide))).trans esd5.symm)))))
                      refine A_callV0 m_MD_next T_ok d_MD_voicePart_370 l_MD_309 k_MD_next (mi_s k1198.1 sf_170) rfl (by decide +kernel) (by decide) (Nat.le_of_ble_eq_true rfl) (s_MD_next k1198.1 (by have qq0 := ((eh1197.1 _ _ (fun _ => by decide)).trans ((eh1194.1 _ _ (fun q => absurd q (by decide))).trans ((k1190.2.2.1 _ _ rfl).trans ((eh1182.1 _ _ (fun q => absurd q (by decide))).trans ((eh1178.1 _ _ (fun q => absurd q (by decide))).trans esd1.symm))))); have qq1 := ((eh1197.1 _ _ (fun _ => by decide)).trans ((eh1194.1 _ _ (fun q => absurd q (by decide))).trans ((k1190.2.2.1 _ _ rfl).trans ((eh1182.1 _ _ (fun q => absurd q (by decide))).trans ((eh1178.1 _ _ (fun q => absurd q (by decide))).trans esd2.symm))))); first | (clear hps; omega) | omega)) (fun r h1199 hq => ?_)
                      obtain ⟨x1206, rfl, ⟨_, _⟩, xx1206, k1205⟩ := hq
                      have xa1206 := xx1206.1
                      have xb1206 := xx1206.2.1
                      have k1207 := kM_t k1198 k1205 (pm_s (by decide) (by decide))
                      obtain ⟨sd1208, esd1208⟩ : ∃ x, x = h1199.2.1 170 3 := ⟨_, rfl⟩
                      have rsd1208 : 0 ≤ sd1208 ∧ sd1208 ≤ 2000 := (by rw [esd1208]; exact mi_g k1207.1 (by decide) mr_170_3)
                      obtain ⟨sd1209, esd1209⟩ : ∃ x, x = h1199.2.1 170 4 := ⟨_, rfl⟩
                      have rsd1209 : 0 ≤ sd1209 ∧ sd1209 ≤ 6 := (by rw [esd1209]; exact mi_g k1207.1 (by decide) mr_170_4)
                      exact A_zret d_MD_voicePart_373 (by decide) rfl (by first | (clear hps; omega) | omega) ⟨_, rfl, by first | (clear hps; omega) | omega, (fun hz => ⟨by first | (clear hps; omega) | omega, (by have qq0 := esd1208.symm; have qq1 := ((k1205.2.2.1 _ _ rfl).trans ((eh1197.1 _ _ (fun _ => by decide)).trans ((eh1194.1 _ _ (fun q => absurd q (by decide))).trans ((k1190.2.2.1 _ _ rfl).trans ((eh1182.1 _ _ (fun q => absurd q (by decide))).trans ((eh1178.1 _ _ (fun q => absurd q (by decide))).trans esd2.symm)))))); have qq2 := esd1209.symm; exact ⟨by first | (clear hps; omega) | omega, by first | (clear hps; omega) | omega, by first | (clear hps; omega) | omega, by first | (clear hps; omega) | omega⟩), (by have qq0 := esd1208.symm; have qq1 := ((k1205.2.2.1 _ _ rfl).trans ((eh1197.1 _ _ (fun _ => by decide)).trans ((eh1194.1 _ _ (fun q => absurd q (by decide))).trans ((k1190.2.2.1 _ _ rfl).trans ((eh1182.1 _ _ (fun q => absurd q (by decide))).trans ((eh1178.1 _ _ (fun q => absurd q (by decide))).trans esd2.symm)))))); have qq2 := esd1209.symm; have qq3 := ((k1205.2.2.1 _ _ rfl).trans ((eh1197.1 _ _ (fun _ => by decide)).trans ((eh1194.1 _ _ (fun q => absurd q (by decide))).trans xk1190.1))); exact ⟨by first | (clear hps; omega) | omega, by first | (clear hps; omega) | omega⟩), VH_o (x := sd3) (m := sd4) (c := 2) hVH esd3.symm esd4.symm (by first | (clear hps; omega) | omega) ((k1205.2.2.1 _ _ rfl).trans ((eh1197.1 _ _ (fun _ => by decide)).trans ((eh1194.1 _ _ (fun q => absurd q (by decide))).trans xk1190.1))) ((k1205.2.2.1 _ _ rfl).trans eh1197.2.1) (by decide) (fun k hk => ((k1205.2.2.1 201 k rfl).trans ((eh1197.1 201 k (fun q => absurd q (by decide))).trans ((eh1194.1 201 k (fun q => absurd q (by decide))).trans ((xk1190.2.1 k hk).trans ((eh1182.1 201 k (fun q => absurd q (by decide))).trans (eh1178.1 201 k (fun q => absurd q (by decide))))))))) ((k1205.2.2.1 _ _ rfl).trans ((eh1197.1 _ _ (fun q => absurd q (by decide))).trans ((eh1194.1 _ _ (fun q => absurd q (by decide))).trans xk1190.2.2))) (fun k hk => ((k1205.2.2.1 202 k rfl).trans ((eh1197.1 202 k (fun q => absurd q (by decide))).trans ((eh1194.1 202 k (fun q => absurd q (by decide))).trans ((k1190.2.2.1 202 k rfl).trans ((eh1182.1 202 k (fun q => absurd q (by decide))).trans (eh1178.1 202 k (fun q => absurd q (by decide))))))))) (fun k hk => ((k1205.2.2.1 203 k rfl).trans ((eh1197.1 203 k (fun q => absurd q (by decide))).trans ((eh1194.1 203 k (fun q => absurd q (by decide))).trans ((k1190.2.2.1 203 k rfl).trans ((eh1182.1 203 k (fun q => absurd q (by decide))).trans (eh1178.1 203 k (fun q => absurd q (by decide))))))))) (fun q => absurd q (by decide)) (fun k hk => ((k1205.2.2.1 214 k rfl).trans ((eh1197.1 214 k (fun q => absurd q (by decide))).trans ((eh1194.1 214 k (fun q => absurd q (by decide))).trans ((k1190.2.2.1 214 k rfl).trans ((eh1182.1 214 k (fun _ => hk)).trans (eh1178.1 214 k (fun q => absurd q (by decide))))))))) (fun _ => ((k1205.2.2.1 _ _ rfl).trans ((eh1197.1 _ _ (fun q => absurd q (by decide))).trans ((eh1194.1 _ _ (fun q => absurd q (by decide))).trans ((k1190.2.2.1 _ _ rfl).trans eh1182.2.1))))) (fun k hk => ((k1205.2.2.1 215 k rfl).trans ((eh1197.1 215 k (fun q => absurd q (by decide))).trans ((eh1194.1 215 k (fun q => absurd q (by decide))).trans ((k1190.2.2.1 215 k rfl).trans ((eh1182.1 215 k (fun q => absurd q (by decide))).trans (eh1178.1 215 k (fun _ => hk)))))))) ((k1205.2.2.1 _ _ rfl).trans ((eh1197.1 _ _ (fun q => absurd q (by decide))).trans ((eh1194.1 _ _ (fun q => absurd q (by decide))).trans ((k1190.2.2.1 _ _ rfl).trans ((eh1182.1 _ _ (fun q => absurd q (by decide))).trans eh1178.2.1))))) (fun k hk => ((k1205.2.2.1 216 k rfl).trans ((eh1197.1 216 k (fun q => absurd q (by decide))).trans ((eh1194.1 216 k (fun _ => hk)).trans ((k1190.2.2.1 216 k rfl).trans ((eh1182.1 216 k (fun q => absurd q (by decide))).trans (eh1178.1 216 k (fun q => absurd q (by decide))))))))) ((k1205.2.2.1 _ _ rfl).trans ((eh1197.1 _ _ (fun q => absurd q (by decide))).trans eh1194.2.1)) (by intro a ha; simp only [List.mem_cons, List.not_mem_nil, or_false] at ha; rcases ha with rfl | rfl | rfl | rfl ; exact (funext (fun k => ((k1205.2.2.1 210 k rfl).trans ((eh1197.1 210 k (fun q => absurd q (by decide))).trans ((eh1194.1 210 k (fun q => absurd q (by decide))).trans ((k1190.2.2.1 210 k rfl).trans ((eh1182.1 210 k (fun q => absurd q (by decide))).trans (eh1178.1 210 k (fun q => absurd q (by decide)))))))))) ; exact (funext (fun k => ((k1205.2.2.1 211 k rfl).trans ((eh1197.1 211 k (fun q => absurd q (by decide))).trans ((eh1194.1 211 k (fun q => absurd q (by decide))).trans ((k1190.2.2.1 211 k rfl).trans ((eh1182.1 211 k (fun q => absurd q (by decide))).trans (eh1178.1 211 k (fun q => absurd q (by decide)))))))))) ; exact (funext (fun k => ((k1205.2.2.1 212 k rfl).trans ((eh1197.1 212 k (fun q => absurd q (by decide))).trans ((eh1194.1 212 k (fun q => absurd q (by decide))).trans ((k1190.2.2.1 212 k rfl).trans ((eh1182.1 212 k (fun q => absurd q (by decide))).trans (eh1178.1 212 k (fun q => absurd q (by decide)))))))))) ; exact (funext (fun k => ((k1205.2.2.1 213 k rfl).trans ((eh1197.1 213 k (fun q => absurd q (by decide))).trans ((eh1194.1 213 k (fun q => absurd q (by decide))).trans ((k1190.2.2.1 213 k rfl).trans ((eh1182.1 213 k (fun q => absurd q (by decide))).trans (eh1178.1 213 k (fun q => absurd q (by decide)))))))))))⟩), k1207⟩
                  · refine A_aload_n 0 d_MD_voicePart_302 rfl rfl ?_
                    refine A_iconst d_MD_voicePart_303 rfl ?_
                    have zf1211 := esd1.symm
                    have zf1212 := esd2.symm
                    have zf1213 := esd3.symm
                    have zf1214 := esd4.symm
                    have zf1215 := esd5.symm
                    refine A_callV1 m_MD_put T_ok d_MD_voicePart_304 l_MD_369 k_MD_put (mi_s k0.1 sf_170) rfl (by decide +kernel) (by decide) (Nat.le_of_ble_eq_true rfl) (s_MD_put k0.1 (by first | (clear hps; omega) | omega) (by first | (clear hps; omega) | omega) esd3.symm (by first | (clear hps; omega) | omega)) (fun r h1210 hq => ?_)
                    obtain ⟨rfl, xk1216, k1216⟩ := hq
                    have k1217 := kM_t k0 k1216 (pm_s (by decide) (by decide))
                    refine A_aload_n 0 d_MD_voicePart_307 rfl rfl ?_
                    have zf1219 := ((k1216.2.2.1 _ _ rfl).trans esd1.symm)
                    have zf1220 := ((k1216.2.2.1 _ _ rfl).trans esd2.symm)
                    have zf1221 := xk1216.1
                    have zf1222 := ((k1216.2.2.1 _ _ rfl).trans esd4.symm)
                    have zf1223 := ((k1216.2.2.1 _ _ rfl).trans esd5.symm)
                    refine A_callV0 m_MD_next T_ok d_MD_voicePart_308 l_MD_309 k_MD_next (mi_s k1217.1 sf_170) rfl (by decide +kernel) (by decide) (Nat.le_of_ble_eq_true rfl) (s_MD_next k1217.1 (by have qq0 := ((k1216.2.2.1 _ _ rfl).trans esd1.symm); have qq1 := ((k1216.2.2.1 _ _ rfl).trans esd2.symm); first | (clear hps; omega) | omega)) (fun r h1218 hq => ?_)
                    obtain ⟨x1225, rfl, ⟨_, _⟩, xx1225, k1224⟩ := hq
                    have xa1225 := xx1225.1
                    have xb1225 := xx1225.2.1
                    have k1226 := kM_t k1217 k1224 (pm_s (by decide) (by decide))
                    obtain ⟨sd1227, esd1227⟩ : ∃ x, x = h1218.2.1 170 3 := ⟨_, rfl⟩
                    have rsd1227 : 0 ≤ sd1227 ∧ sd1227 ≤ 2000 := (by rw [esd1227]; exact mi_g k1226.1 (by decide) mr_170_3)
                    obtain ⟨sd1228, esd1228⟩ : ∃ x, x = h1218.2.1 170 4 := ⟨_, rfl⟩
                    have rsd1228 : 0 ≤ sd1228 ∧ sd1228 ≤ 6 := (by rw [esd1228]; exact mi_g k1226.1 (by decide) mr_170_4)
                    exact A_zret d_MD_voicePart_311 (by decide) rfl (by first | (clear hps; omega) | omega) ⟨_, rfl, by first | (clear hps; omega) | omega, (fun hz => ⟨by first | (clear hps; omega) | omega, (by have qq0 := esd1227.symm; have qq1 := ((k1224.2.2.1 _ _ rfl).trans ((k1216.2.2.1 _ _ rfl).trans esd2.symm)); have qq2 := esd1228.symm; exact ⟨by first | (clear hps; omega) | omega, by first | (clear hps; omega) | omega, by first | (clear hps; omega) | omega, by first | (clear hps; omega) | omega⟩), (by have qq0 := esd1227.symm; have qq1 := ((k1224.2.2.1 _ _ rfl).trans ((k1216.2.2.1 _ _ rfl).trans esd2.symm)); have qq2 := esd1228.symm; have qq3 := ((k1224.2.2.1 _ _ rfl).trans xk1216.1); exact ⟨by first | (clear hps; omega) | omega, by first | (clear hps; omega) | omega⟩), VH_s (x := sd3) hVH esd3.symm ((k1224.2.2.1 _ _ rfl).trans xk1216.1) (((k1224.2.2.1 170 63 rfl).trans (k1216.2.2.1 170 63 rfl))) (fun k hk => ((k1224.2.2.1 201 k rfl).trans (xk1216.2.1 k hk))) (Or.inl ((k1224.2.2.1 _ _ rfl).trans xk1216.2.2)) (fun k hk => ((k1224.2.2.1 202 k rfl).trans (k1216.2.2.1 202 k rfl))) (by intro a ha; simp only [List.mem_cons, List.not_mem_nil, or_false] at ha; rcases ha with rfl | rfl | rfl | rfl | rfl | rfl | rfl | rfl ; exact (funext (fun k => ((k1224.2.2.1 203 k rfl).trans (k1216.2.2.1 203 k rfl)))) ; exact (funext (fun k => ((k1224.2.2.1 210 k rfl).trans (k1216.2.2.1 210 k rfl)))) ; exact (funext (fun k => ((k1224.2.2.1 211 k rfl).trans (k1216.2.2.1 211 k rfl)))) ; exact (funext (fun k => ((k1224.2.2.1 212 k rfl).trans (k1216.2.2.1 212 k rfl)))) ; exact (funext (fun k => ((k1224.2.2.1 213 k rfl).trans (k1216.2.2.1 213 k rfl)))) ; exact (funext (fun k => ((k1224.2.2.1 214 k rfl).trans (k1216.2.2.1 214 k rfl)))) ; exact (funext (fun k => ((k1224.2.2.1 215 k rfl).trans (k1216.2.2.1 215 k rfl)))) ; exact (funext (fun k => ((k1224.2.2.1 216 k rfl).trans (k1216.2.2.1 216 k rfl)))))⟩), k1226⟩
                · refine A_aload_n 0 d_MD_voicePart_283 rfl rfl ?_
                  refine A_iconst d_MD_voicePart_284 rfl ?_
                  refine A_aload_n 0 d_MD_voicePart_285 rfl rfl ?_
                  refine A_getIn (lo := 0) (hi := 2000) T_ok d_MD_voicePart_286 f_MD_242 (mi_s k0.1 sf_170) (mi_g k0.1 (by decide) mr_170_5) (fun x1229 ex1229 _ _ => ?_)
                  have zf1231 := esd1.symm
                  have zf1232 := esd2.symm
                  have zf1233 := esd3.symm
                  have zf1234 := esd4.symm
                  have zf1235 := esd5.symm
                  refine A_callV2 m_MD_wrong T_ok d_MD_voicePart_289 l_MD_245 k_MD_wrong (mi_s k0.1 sf_170) rfl (by decide +kernel) (by decide) (Nat.le_of_ble_eq_true rfl) (s_MD_wrong k0.1 (by first | (clear hps; omega) | omega) (by first | (clear hps; omega) | omega) (by first | (clear hps; omega) | omega) (by first | (clear hps; omega) | omega)) (fun r h1230 hq => ?_)
                  obtain ⟨x1237, rfl, ⟨_, _⟩, k1236⟩ := hq
                  have k1238 := kM_t k0 k1236 (pm_s (by decide) (by decide))
                  obtain rfl : x1237 = 0 := by first | (clear hps; omega) | omega
                  exact A_zret d_MD_voicePart_292 (by decide) rfl (by first | (clear hps; omega) | omega) ⟨_, rfl, by first | (clear hps; omega) | omega, (fun q => absurd q (by decide)), k1238⟩
              · refine A_aload_n 0 d_MD_voicePart_241 rfl rfl ?_
                refine A_bipush d_MD_voicePart_242 rfl ?_
                have zf1240 := esd1.symm
                have zf1241 := esd2.symm
                have zf1242 := esd3.symm
                have zf1243 := esd4.symm
                have zf1244 := esd5.symm
                refine A_callV1 m_MD_isSign T_ok d_MD_voicePart_244 l_MD_306 k_MD_isSign (mi_s k0.1 sf_170) rfl (by decide +kernel) (by decide) (Nat.le_of_ble_eq_true rfl) (s_MD_isSign k0.1 ) (fun r h1239 hq => ?_)
                obtain ⟨x1246, rfl, bx1246, xx1246, rfl⟩ := hq
                refine A_if_ne (tgt := 259) d_MD_voicePart_247 (by decide) (fun c1247 => ?_) (fun c1247 => ?_)
                · refine A_iconst d_MD_voicePart_259 rfl ?_
                  refine A_goto (tgt := 264) d_MD_voicePart_260 (by decide) ?_
                  refine A_istore_n 1 (L' := [some (av_R (some 170)), some (av_I 1), none]) d_MD_voicePart_264 rfl (Nat.le_of_ble_eq_true rfl) rfl ?_
                  refine A_iload_n 1 d_MD_voicePart_265 rfl rfl ?_
                  refine A_if_ne (tgt := 274) d_MD_voicePart_266 (by decide) (fun _ => ?_) (fun c => absurd c (by decide))
                  refine A_aload_n 0 d_MD_voicePart_274 rfl rfl ?_
                  refine A_getIv (z := sd4) T_ok d_MD_voicePart_275 f_MD_357 (mi_s k0.1 sf_170) esd4.symm ?_
                  refine A_bipush d_MD_voicePart_278 rfl ?_
                  refine A_icmp_le (tgt := 293) d_MD_voicePart_280 (by decide) (fun c1250 => ?_) (fun c1250 => ?_)
                  · refine A_aload_n 0 d_MD_voicePart_293 rfl rfl ?_
                    refine A_bipush d_MD_voicePart_294 rfl ?_
                    have zf1252 := esd1.symm
                    have zf1253 := esd2.symm
                    have zf1254 := esd3.symm
                    have zf1255 := esd4.symm
                    have zf1256 := esd5.symm
                    refine A_callV1 m_MD_isSign T_ok d_MD_voicePart_296 l_MD_306 k_MD_isSign (mi_s k0.1 sf_170) rfl (by decide +kernel) (by decide) (Nat.le_of_ble_eq_true rfl) (s_MD_isSign k0.1 ) (fun r h1251 hq => ?_)
                    obtain ⟨x1258, rfl, bx1258, xx1258, rfl⟩ := hq
                    refine A_if_eq (tgt := 312) d_MD_voicePart_299 (by decide) (fun c1259 => ?_) (fun c1259 => ?_)
                    · refine A_aload_n 0 d_MD_voicePart_312 rfl rfl ?_
                      refine A_bipush d_MD_voicePart_313 rfl ?_
                      have zf1261 := esd1.symm
                      have zf1262 := esd2.symm
                      have zf1263 := esd3.symm
                      have zf1264 := esd4.symm
                      have zf1265 := esd5.symm
                      refine A_callV1 m_MD_isSign T_ok d_MD_voicePart_315 l_MD_306 k_MD_isSign (mi_s k0.1 sf_170) rfl (by decide +kernel) (by decide) (Nat.le_of_ble_eq_true rfl) (s_MD_isSign k0.1 ) (fun r h1260 hq => ?_)
                      obtain ⟨x1267, rfl, bx1267, xx1267, rfl⟩ := hq
                      refine A_if_eq (tgt := 374) d_MD_voicePart_318 (by decide) (fun c1268 => ?_) (fun c1268 => ?_)
                      · refine A_aload_n 0 d_MD_voicePart_374 rfl rfl ?_
                        refine A_bipush d_MD_voicePart_375 rfl ?_
                        have zf1270 := esd1.symm
                        have zf1271 := esd2.symm
                        have zf1272 := esd3.symm
                        have zf1273 := esd4.symm
                        have zf1274 := esd5.symm
                        refine A_callV1 m_MD_isSign T_ok d_MD_voicePart_377 l_MD_306 k_MD_isSign (mi_s k0.1 sf_170) rfl (by decide +kernel) (by decide) (Nat.le_of_ble_eq_true rfl) (s_MD_isSign k0.1 ) (fun r h1269 hq => ?_)
                        obtain ⟨x1276, rfl, bx1276, xx1276, rfl⟩ := hq
                        refine A_if_eq (tgt := 388) d_MD_voicePart_380 (by decide) (fun c1277 => ?_) (fun c1277 => ?_)
                        · refine A_aload_n 0 d_MD_voicePart_388 rfl rfl ?_
                          have zf1279 := esd1.symm
                          have zf1280 := esd2.symm
                          have zf1281 := esd3.symm
                          have zf1282 := esd4.symm
                          have zf1283 := esd5.symm
                          refine A_callV0 m_MD_soundPart T_ok d_MD_voicePart_389 l_MD_375 k_MD_soundPart (mi_s k0.1 sf_170) rfl (by decide +kernel) (by decide) (Nat.le_of_ble_eq_true rfl) (s_MD_soundPart k0.1 (by have qq0 := esd1.symm; have qq1 := esd2.symm; first | (clear hps; omega) | omega) (by have qq0 := esd1.symm; have qq1 := esd2.symm; have qq2 := esd5.symm; have qq3 := esd3.symm; exact ⟨by first | (clear hps; omega) | omega, by first | (clear hps; omega) | omega⟩) (by have qq0 := esd5.symm; exact ⟨by first | (clear hps; omega) | omega, by first | (clear hps; omega) | omega⟩) hVH) (fun r h1278 hq => ?_)
                          obtain ⟨x1285, rfl, bx1285, xx1285, k1284⟩ := hq
                          have k1286 := kM_t k0 k1284 (pm_s (by decide) (by decide))
                          obtain ⟨sd1287, esd1287⟩ : ∃ x, x = h1278.2.1 170 3 := ⟨_, rfl⟩
                          have rsd1287 : 0 ≤ sd1287 ∧ sd1287 ≤ 2000 := (by rw [esd1287]; exact mi_g k1286.1 (by decide) mr_170_3)
                          obtain ⟨sd1288, esd1288⟩ : ∃ x, x = h1278.2.1 170 43 := ⟨_, rfl⟩
                          have rsd1288 : 0 ≤ sd1288 ∧ sd1288 ≤ 2001 := (by rw [esd1288]; exact mi_g k1286.1 (by decide) mr_170_43)
                          obtain ⟨sd1289, esd1289⟩ : ∃ x, x = h1278.2.1 170 4 := ⟨_, rfl⟩
                          have rsd1289 : 0 ≤ sd1289 ∧ sd1289 ≤ 6 := (by rw [esd1289]; exact mi_g k1286.1 (by decide) mr_170_4)
                          exact A_zret d_MD_voicePart_392 (by decide) rfl (by first | (clear hps; omega) | omega) ⟨_, rfl, by first | (clear hps; omega) | omega, (fun hz => ⟨by first | (clear hps; omega) | omega, (by have qq0 := esd1287.symm; have qq1 := ((k1284.2.2.1 _ _ rfl).trans esd2.symm); have qq2 := esd1289.symm; exact ⟨by first | (clear hps; omega) | omega, by first | (clear hps; omega) | omega, by first | (clear hps; omega) | omega, by first | (clear hps; omega) | omega⟩), (by have qq0 := esd1287.symm; have qq1 := ((k1284.2.2.1 _ _ rfl).trans esd2.symm); have qq2 := esd1289.symm; have qq3 := esd1288.symm; exact ⟨by first | (clear hps; omega) | omega, by first | (clear hps; omega) | omega⟩), (xx1285 hz).2.2⟩), k1286⟩
                        · refine A_aload_n 0 d_MD_voicePart_383 rfl rfl ?_
                          have zf1291 := esd1.symm
                          have zf1292 := esd2.symm
                          have zf1293 := esd3.symm
                          have zf1294 := esd4.symm
                          have zf1295 := esd5.symm
                          refine A_callV0 m_MD_timesPart T_ok d_MD_voicePart_384 l_MD_372 k_MD_timesPart (mi_s k0.1 sf_170) rfl (by decide +kernel) (by decide) (Nat.le_of_ble_eq_true rfl) (s_MD_timesPart k0.1 (by have qq0 := esd1.symm; have qq1 := esd2.symm; first | (clear hps; omega) | omega) (by have qq0 := esd1.symm; have qq1 := esd2.symm; have qq2 := esd5.symm; have qq3 := esd3.symm; exact ⟨by first | (clear hps; omega) | omega, by first | (clear hps; omega) | omega⟩) (by have qq0 := esd5.symm; exact ⟨by first | (clear hps; omega) | omega, by first | (clear hps; omega) | omega⟩) hVH (by have qq0 := esd4.symm; first | (clear hps; omega) | omega)) (fun r h1290 hq => ?_)
                          obtain ⟨x1297, rfl, bx1297, xx1297, k1296⟩ := hq
                          have k1298 := kM_t k0 k1296 (pm_s (by decide) (by decide))
                          obtain ⟨sd1299, esd1299⟩ : ∃ x, x = h1290.2.1 170 3 := ⟨_, rfl⟩
                          have rsd1299 : 0 ≤ sd1299 ∧ sd1299 ≤ 2000 := (by rw [esd1299]; exact mi_g k1298.1 (by decide) mr_170_3)
                          obtain ⟨sd1300, esd1300⟩ : ∃ x, x = h1290.2.1 170 43 := ⟨_, rfl⟩
                          have rsd1300 : 0 ≤ sd1300 ∧ sd1300 ≤ 2001 := (by rw [esd1300]; exact mi_g k1298.1 (by decide) mr_170_43)
                          obtain ⟨sd1301, esd1301⟩ : ∃ x, x = h1290.2.1 170 63 := ⟨_, rfl⟩
                          have rsd1301 : 0 ≤ sd1301 ∧ sd1301 ≤ 7 := (by rw [esd1301]; exact mi_g k1298.1 (by decide) mr_170_63)
                          obtain ⟨sd1302, esd1302⟩ : ∃ x, x = h1290.2.1 170 4 := ⟨_, rfl⟩
                          have rsd1302 : 0 ≤ sd1302 ∧ sd1302 ≤ 6 := (by rw [esd1302]; exact mi_g k1298.1 (by decide) mr_170_4)
                          exact A_zret d_MD_voicePart_387 (by decide) rfl (by first | (clear hps; omega) | omega) ⟨_, rfl, by first | (clear hps; omega) | omega, (fun hz => ⟨by first | (clear hps; omega) | omega, (by have qq0 := esd1299.symm; have qq1 := ((k1296.2.2.1 _ _ rfl).trans esd2.symm); have qq2 := esd1302.symm; exact ⟨by first | (clear hps; omega) | omega, by first | (clear hps; omega) | omega, by first | (clear hps; omega) | omega, by first | (clear hps; omega) | omega⟩), (by have qq0 := esd1299.symm; have qq1 := ((k1296.2.2.1 _ _ rfl).trans esd2.symm); have qq2 := esd1302.symm; have qq3 := esd1300.symm; exact ⟨by first | (clear hps; omega) | omega, by first | (clear hps; omega) | omega⟩), (xx1297 hz).2.2⟩), k1298⟩
                      · refine A_aload_n 0 d_MD_voicePart_321 rfl rfl ?_
                        refine A_getAv (z := some 215) T_ok d_MD_voicePart_322 f_MD_148 (mi_s k0.1 sf_170) (mi_r k0.1 rfm_58) ?_
                        refine A_aload_n 0 d_MD_voicePart_325 rfl rfl ?_
                        refine A_getIv (z := sd4) T_ok d_MD_voicePart_326 f_MD_357 (mi_s k0.1 sf_170) esd4.symm ?_
                        refine A_aload_n 0 d_MD_voicePart_329 rfl rfl ?_
                        refine A_pc (pc' := 330) rfl ?_
                        refine A_getIv (z := sd3) T_ok d_MD_voicePart_330 f_MD_354 (mi_s k0.1 sf_170) esd3.symm ?_
                        refine A_iastorek (KR := kM (pm [3, 4, 5, 6, 7, 8, 9, 10, 11, 12, 43, 63, 64] [201, 202, 203, 204, 205, 206, 207, 208, 209, 210, 211, 212, 213, 214, 215, 216]) h) d_MD_voicePart_333 (mi_s k0.1 sf_215) (by first | (clear hps; omega) | omega) (by first | (clear hps; omega) | omega) (kM_i k0 (by decide) rfl (mr_215 _) (by first | (clear hps; omega) | omega) (by first | (clear hps; omega) | omega)) (fun h1306 k1307 eh1306 => ?_)
                        refine A_aload_n 0 d_MD_voicePart_334 rfl rfl ?_
                        refine A_getAv (z := some 214) T_ok d_MD_voicePart_335 f_MD_145 (mi_s k1307.1 sf_170) (mi_r k1307.1 rfm_57) ?_
                        refine A_aload_n 0 d_MD_voicePart_338 rfl rfl ?_
                        refine A_getIv (z := sd3) T_ok d_MD_voicePart_339 f_MD_354 (mi_s k1307.1 sf_170) ((eh1306.1 _ _ (fun q => absurd q (by decide))).trans esd3.symm) ?_
                        refine A_pc (pc' := 342) rfl ?_
                        refine A_iconst d_MD_voicePart_342 rfl ?_
                        refine A_iastorek (KR := kM (pm [3, 4, 5, 6, 7, 8, 9, 10, 11, 12, 43, 63, 64] [201, 202, 203, 204, 205, 206, 207, 208, 209, 210, 211, 212, 213, 214, 215, 216]) h) d_MD_voicePart_343 (mi_s k1307.1 sf_214) (by first | (clear hps; omega) | omega) (by first | (clear hps; omega) | omega) (kM_i k1307 (by decide) rfl (mr_214 _) (by first | (clear hps; omega) | omega) (by first | (clear hps; omega) | omega)) (fun h1310 k1311 eh1310 => ?_)
                        refine A_aload_n 0 d_MD_voicePart_344 rfl rfl ?_
                        refine A_iconst d_MD_voicePart_345 rfl ?_
                        have zf1313 := ((eh1310.1 _ _ (fun q => absurd q (by decide))).trans ((eh1306.1 _ _ (fun q => absurd q (by decide))).trans esd1.symm))
                        have zf1314 := ((eh1310.1 _ _ (fun q => absurd q (by decide))).trans ((eh1306.1 _ _ (fun q => absurd q (by decide))).trans esd2.symm))
                        have zf1315 := ((eh1310.1 _ _ (fun q => absurd q (by decide))).trans ((eh1306.1 _ _ (fun q => absurd q (by decide))).trans esd3.symm))
                        have zf1316 := ((eh1310.1 _ _ (fun q => absurd q (by decide))).trans ((eh1306.1 _ _ (fun q => absurd q (by decide))).trans esd4.symm))
                        have zf1317 := ((eh1310.1 _ _ (fun q => absurd q (by decide))).trans ((eh1306.1 _ _ (fun q => absurd q (by decide))).trans esd5.symm))
                        refine A_callV1 m_MD_put T_ok d_MD_voicePart_346 l_MD_369 k_MD_put (mi_s k1311.1 sf_170) rfl (by decide +kernel) (by decide) (Nat.le_of_ble_eq_true rfl) (s_MD_put k1311.1 (by first | (clear hps; omega) | omega) (by first | (clear hps; omega) | omega) ((eh1310.1 _ _ (fun q => absurd q (by decide))).trans ((eh1306.1 _ _ (fun q => absurd q (by decide))).trans esd3.symm)) (by first | (clear hps; omega) | omega)) (fun r h1312 hq => ?_)
                        obtain ⟨rfl, xk1318, k1318⟩ := hq
                        have k1319 := kM_t k1311 k1318 (pm_s (by decide) (by decide))
                        refine A_aload_n 0 d_MD_voicePart_349 rfl rfl ?_
                        refine A_getAv (z := some 216) T_ok d_MD_voicePart_350 f_MD_151 (mi_s k1319.1 sf_170) (mi_r k1319.1 rfm_62) ?_
                        refine A_aload_n 0 d_MD_voicePart_353 rfl rfl ?_
                        refine A_getIv (z := sd4) T_ok d_MD_voicePart_354 f_MD_357 (mi_s k1319.1 sf_170) ((k1318.2.2.1 _ _ rfl).trans ((eh1310.1 _ _ (fun q => absurd q (by decide))).trans ((eh1306.1 _ _ (fun q => absurd q (by decide))).trans esd4.symm))) ?_
                        refine A_iconst d_MD_voicePart_357 rfl ?_
                        refine A_pc (pc' := 358) rfl ?_
                        refine A_iastorek (KR := kM (pm [3, 4, 5, 6, 7, 8, 9, 10, 11, 12, 43, 63, 64] [201, 202, 203, 204, 205, 206, 207, 208, 209, 210, 211, 212, 213, 214, 215, 216]) h) d_MD_voicePart_358 (mi_s k1319.1 sf_216) (by first | (clear hps; omega) | omega) (by first | (clear hps; omega) | omega) (kM_i k1319 (by decide) rfl (mr_216 _) (by first | (clear hps; omega) | omega) (by first | (clear hps; omega) | omega)) (fun h1322 k1323 eh1322 => ?_)
                        refine A_aload_n 0 d_MD_voicePart_359 rfl rfl ?_
                        refine A_dupR d_MD_voicePart_360 ?_
                        refine A_getIv (z := sd4) T_ok d_MD_voicePart_361 f_MD_357 (mi_s k1323.1 sf_170) ((eh1322.1 _ _ (fun q => absurd q (by decide))).trans ((k1318.2.2.1 _ _ rfl).trans ((eh1310.1 _ _ (fun q => absurd q (by decide))).trans ((eh1306.1 _ _ (fun q => absurd q (by decide))).trans esd4.symm)))) ?_
                        refine A_iconst d_MD_voicePart_364 rfl ?_
                        refine A_iaddv (z := (sd4 + 1)) d_MD_voicePart_365 (w32_to (by first | (clear hps; omega) | omega) (by unfold i32; first | (clear hps; omega) | omega)) ?_
                        refine A_pc (pc' := 366) rfl ?_
                        refine A_putIk (KR := kM (pm [3, 4, 5, 6, 7, 8, 9, 10, 11, 12, 43, 63, 64] [201, 202, 203, 204, 205, 206, 207, 208, 209, 210, 211, 212, 213, 214, 215, 216]) h) T_ok d_MD_voicePart_366 f_MD_357 (mi_s k1323.1 sf_170) fin_f (kM_i k1323 (by decide) (by decide) mr_170_63 (by first | (clear hps; omega) | omega) (by first | (clear hps; omega) | omega)) (fun h1325 k1326 eh1325 => ?_)
                        refine A_aload_n 0 d_MD_voicePart_369 rfl rfl ?_
                        have zf1328 := ((eh1325.1 _ _ (fun _ => by decide)).trans ((eh1322.1 _ _ (fun q => absurd q (by decide))).trans ((k1318.2.2.1 _ _ rfl).trans ((eh1310.1 _ _ (fun q => absurd q (by decide))).trans ((eh1306.1 _ _ (fun q => absurd q (by decide))).trans esd1.symm)))))
                        have zf1329 := ((eh1325.1 _ _ (fun _ => by decide)).trans ((eh1322.1 _ _ (fun q => absurd q (by decide))).trans ((k1318.2.2.1 _ _ rfl).trans ((eh1310.1 _ _ (fun q => absurd q (by decide))).trans ((eh1306.1 _ _ (fun q => absurd q (by decide))).trans esd2.symm)))))
                        have zf1330 := ((eh1325.1 _ _ (fun _ => by decide)).trans ((eh1322.1 _ _ (fun q => absurd q (by decide))).trans xk1318.1))
                        have zf1331 := eh1325.2.1
                        have zf1332 := ((eh1325.1 _ _ (fun _ => by decide)).trans ((eh1322.1 _ _ (fun q => absurd q (by decide))).trans ((k1318.2.2.1 _ _ rfl).trans ((eh1310.1 _ _ (fun q => absurd q (by decide))).trans ((eh1306.1 _ _ (fun q => absurd q (by decide))).trans esd5.symm)))))
                        refine A_callV0 m_MD_next T_ok d_MD_voicePart_370 l_MD_309 k_MD_next (mi_s k1326.1 sf_170) rfl (by decide +kernel) (by decide) (Nat.le_of_ble_eq_true rfl) (s_MD_next k1326.1 (by have qq0 := ((eh1325.1 _ _ (fun _ => by decide)).trans ((eh1322.1 _ _ (fun q => absurd q (by decide))).trans ((k1318.2.2.1 _ _ rfl).trans ((eh1310.1 _ _ (fun q => absurd q (by decide))).trans ((eh1306.1 _ _ (fun q => absurd q (by decide))).trans esd1.symm))))); have qq1 := ((eh1325.1 _ _ (fun _ => by decide)).trans ((eh1322.1 _ _ (fun q => absurd q (by decide))).trans ((k1318.2.2.1 _ _ rfl).trans ((eh1310.1 _ _ (fun q => absurd q (by decide))).trans ((eh1306.1 _ _ (fun q => absurd q (by decide))).trans esd2.symm))))); first | (clear hps; omega) | omega)) (fun r h1327 hq => ?_)
                        obtain ⟨x1334, rfl, ⟨_, _⟩, xx1334, k1333⟩ := hq
                        have xa1334 := xx1334.1
                        have xb1334 := xx1334.2.1
                        have k1335 := kM_t k1326 k1333 (pm_s (by decide) (by decide))
                        obtain ⟨sd1336, esd1336⟩ : ∃ x, x = h1327.2.1 170 3 := ⟨_, rfl⟩
                        have rsd1336 : 0 ≤ sd1336 ∧ sd1336 ≤ 2000 := (by rw [esd1336]; exact mi_g k1335.1 (by decide) mr_170_3)
                        obtain ⟨sd1337, esd1337⟩ : ∃ x, x = h1327.2.1 170 4 := ⟨_, rfl⟩
                        have rsd1337 : 0 ≤ sd1337 ∧ sd1337 ≤ 6 := (by rw [esd1337]; exact mi_g k1335.1 (by decide) mr_170_4)
                        exact A_zret d_MD_voicePart_373 (by decide) rfl (by first | (clear hps; omega) | omega) ⟨_, rfl, by first | (clear hps; omega) | omega, (fun hz => ⟨by first | (clear hps; omega) | omega, (by have qq0 := esd1336.symm; have qq1 := ((k1333.2.2.1 _ _ rfl).trans ((eh1325.1 _ _ (fun _ => by decide)).trans ((eh1322.1 _ _ (fun q => absurd q (by decide))).trans ((k1318.2.2.1 _ _ rfl).trans ((eh1310.1 _ _ (fun q => absurd q (by decide))).trans ((eh1306.1 _ _ (fun q => absurd q (by decide))).trans esd2.symm)))))); have qq2 := esd1337.symm; exact ⟨by first | (clear hps; omega) | omega, by first | (clear hps; omega) | omega, by first | (clear hps; omega) | omega, by first | (clear hps; omega) | omega⟩), (by have qq0 := esd1336.symm; have qq1 := ((k1333.2.2.1 _ _ rfl).trans ((eh1325.1 _ _ (fun _ => by decide)).trans ((eh1322.1 _ _ (fun q => absurd q (by decide))).trans ((k1318.2.2.1 _ _ rfl).trans ((eh1310.1 _ _ (fun q => absurd q (by decide))).trans ((eh1306.1 _ _ (fun q => absurd q (by decide))).trans esd2.symm)))))); have qq2 := esd1337.symm; have qq3 := ((k1333.2.2.1 _ _ rfl).trans ((eh1325.1 _ _ (fun _ => by decide)).trans ((eh1322.1 _ _ (fun q => absurd q (by decide))).trans xk1318.1))); exact ⟨by first | (clear hps; omega) | omega, by first | (clear hps; omega) | omega⟩), VH_o (x := sd3) (m := sd4) (c := 2) hVH esd3.symm esd4.symm (by first | (clear hps; omega) | omega) ((k1333.2.2.1 _ _ rfl).trans ((eh1325.1 _ _ (fun _ => by decide)).trans ((eh1322.1 _ _ (fun q => absurd q (by decide))).trans xk1318.1))) ((k1333.2.2.1 _ _ rfl).trans eh1325.2.1) (by decide) (fun k hk => ((k1333.2.2.1 201 k rfl).trans ((eh1325.1 201 k (fun q => absurd q (by decide))).trans ((eh1322.1 201 k (fun q => absurd q (by decide))).trans ((xk1318.2.1 k hk).trans ((eh1310.1 201 k (fun q => absurd q (by decide))).trans (eh1306.1 201 k (fun q => absurd q (by decide))))))))) ((k1333.2.2.1 _ _ rfl).trans ((eh1325.1 _ _ (fun q => absurd q (by decide))).trans ((eh1322.1 _ _ (fun q => absurd q (by decide))).trans xk1318.2.2))) (fun k hk => ((k1333.2.2.1 202 k rfl).trans ((eh1325.1 202 k (fun q => absurd q (by decide))).trans ((eh1322.1 202 k (fun q => absurd q (by decide))).trans ((k1318.2.2.1 202 k rfl).trans ((eh1310.1 202 k (fun q => absurd q (by decide))).trans (eh1306.1 202 k (fun q => absurd q (by decide))))))))) (fun k hk => ((k1333.2.2.1 203 k rfl).trans ((eh1325.1 203 k (fun q => absurd q (by decide))).trans ((eh1322.1 203 k (fun q => absurd q (by decide))).trans ((k1318.2.2.1 203 k rfl).trans ((eh1310.1 203 k (fun q => absurd q (by decide))).trans (eh1306.1 203 k (fun q => absurd q (by decide))))))))) (fun q => absurd q (by decide)) (fun k hk => ((k1333.2.2.1 214 k rfl).trans ((eh1325.1 214 k (fun q => absurd q (by decide))).trans ((eh1322.1 214 k (fun q => absurd q (by decide))).trans ((k1318.2.2.1 214 k rfl).trans ((eh1310.1 214 k (fun _ => hk)).trans (eh1306.1 214 k (fun q => absurd q (by decide))))))))) (fun _ => ((k1333.2.2.1 _ _ rfl).trans ((eh1325.1 _ _ (fun q => absurd q (by decide))).trans ((eh1322.1 _ _ (fun q => absurd q (by decide))).trans ((k1318.2.2.1 _ _ rfl).trans eh1310.2.1))))) (fun k hk => ((k1333.2.2.1 215 k rfl).trans ((eh1325.1 215 k (fun q => absurd q (by decide))).trans ((eh1322.1 215 k (fun q => absurd q (by decide))).trans ((k1318.2.2.1 215 k rfl).trans ((eh1310.1 215 k (fun q => absurd q (by decide))).trans (eh1306.1 215 k (fun _ => hk)))))))) ((k1333.2.2.1 _ _ rfl).trans ((eh1325.1 _ _ (fun q => absurd q (by decide))).trans ((eh1322.1 _ _ (fun q => absurd q (by decide))).trans ((k1318.2.2.1 _ _ rfl).trans ((eh1310.1 _ _ (fun q => absurd q (by decide))).trans eh1306.2.1))))) (fun k hk => ((k1333.2.2.1 216 k rfl).trans ((eh1325.1 216 k (fun q => absurd q (by decide))).trans ((eh1322.1 216 k (fun _ => hk)).trans ((k1318.2.2.1 216 k rfl).trans ((eh1310.1 216 k (fun q => absurd q (by decide))).trans (eh1306.1 216 k (fun q => absurd q (by decide))))))))) ((k1333.2.2.1 _ _ rfl).trans ((eh1325.1 _ _ (fun q => absurd q (by decide))).trans eh1322.2.1)) (by intro a ha; simp only [List.mem_cons, List.not_mem_nil, or_false] at ha; rcases ha with rfl | rfl | rfl | rfl ; exact (funext (fun k => ((k1333.2.2.1 210 k rfl).trans ((eh1325.1 210 k (fun q => absurd q (by decide))).trans ((eh1322.1 210 k (fun q => absurd q (by decide))).trans ((k1318.2.2.1 210 k rfl).trans ((eh1310.1 210 k (fun q => absurd q (by decide))).trans (eh1306.1 210 k (fun q => absurd q (by decide)))))))))) ; exact (funext (fun k => ((k1333.2.2.1 211 k rfl).trans ((eh1325.1 211 k (fun q => absurd q (by decide))).trans ((eh1322.1 211 k (fun q => absurd q (by decide))).trans ((k1318.2.2.1 211 k rfl).trans ((eh1310.1 211 k (fun q => absurd q (by decide))).trans (eh1306.1 211 k (fun q => absurd q (by decide)))))))))) ; exact (funext (fun k => ((k1333.2.2.1 212 k rfl).trans ((eh1325.1 212 k (fun q => absurd q (by decide))).trans ((eh1322.1 212 k (fun q => absurd q (by decide))).trans ((k1318.2.2.1 212 k rfl).trans ((eh1310.1 212 k (fun q => absurd q (by decide))).trans (eh1306.1 212 k (fun q => absurd q (by decide)))))))))) ; exact (funext (fun k => ((k1333.2.2.1 213 k rfl).trans ((eh1325.1 213 k (fun q => absurd q (by decide))).trans ((eh1322.1 213 k (fun q => absurd q (by decide))).trans ((k1318.2.2.1 213 k rfl).trans ((eh1310.1 213 k (fun q => absurd q (by decide))).trans (eh1306.1 213 k (fun q => absurd q (by decide)))))))))))⟩), k1335⟩
                    · refine A_aload_n 0 d_MD_voicePart_302 rfl rfl ?_
                      refine A_iconst d_MD_voicePart_303 rfl ?_
                      have zf1339 := esd1.symm
                      have zf1340 := esd2.symm
                      have zf1341 := esd3.symm
                      have zf1342 := esd4.symm
                      have zf1343 := esd5.symm
                      refine A_callV1 m_MD_put T_ok d_MD_voicePart_304 l_MD_369 k_MD_put (mi_s k0.1 sf_170) rfl (by decide +kernel) (by decide) (Nat.le_of_ble_eq_true rfl) (s_MD_put k0.1 (by first | (clear hps; omega) | omega) (by first | (clear hps; omega) | omega) esd3.symm (by first | (clear hps; omega) | omega)) (fun r h1338 hq => ?_)
                      obtain ⟨rfl, xk1344, k1344⟩ := hq
                      have k1345 := kM_t k0 k1344 (pm_s (by decide) (by decide))
                      refine A_aload_n 0 d_MD_voicePart_307 rfl rfl ?_
                      have zf1347 := ((k1344.2.2.1 _ _ rfl).trans esd1.symm)
                      have zf1348 := ((k1344.2.2.1 _ _ rfl).trans esd2.symm)
                      have zf1349 := xk1344.1
                      have zf1350 := ((k1344.2.2.1 _ _ rfl).trans esd4.symm)
                      have zf1351 := ((k1344.2.2.1 _ _ rfl).trans esd5.symm)
                      refine A_callV0 m_MD_next T_ok d_MD_voicePart_308 l_MD_309 k_MD_next (mi_s k1345.1 sf_170) rfl (by decide +kernel) (by decide) (Nat.le_of_ble_eq_true rfl) (s_MD_next k1345.1 (by have qq0 := ((k1344.2.2.1 _ _ rfl).trans esd1.symm); have qq1 := ((k1344.2.2.1 _ _ rfl).trans esd2.symm); first | (clear hps; omega) | omega)) (fun r h1346 hq => ?_)
                      obtain ⟨x1353, rfl, ⟨_, _⟩, xx1353, k1352⟩ := hq
                      have xa1353 := xx1353.1
                      have xb1353 := xx1353.2.1
                      have k1354 := kM_t k1345 k1352 (pm_s (by decide) (by decide))
                      obtain ⟨sd1355, esd1355⟩ : ∃ x, x = h1346.2.1 170 3 := ⟨_, rfl⟩
                      have rsd1355 : 0 ≤ sd1355 ∧ sd1355 ≤ 2000 := (by rw [esd1355]; exact mi_g k1354.1 (by decide) mr_170_3)
                      obtain ⟨sd1356, esd1356⟩ : ∃ x, x = h1346.2.1 170 4 := ⟨_, rfl⟩
                      have rsd1356 : 0 ≤ sd1356 ∧ sd1356 ≤ 6 := (by rw [esd1356]; exact mi_g k1354.1 (by decide) mr_170_4)
                      exact A_zret d_MD_voicePart_311 (by decide) rfl (by first | (clear hps; omega) | omega) ⟨_, rfl, by first | (clear hps; omega) | omega, (fun hz => ⟨by first | (clear hps; omega) | omega, (by have qq0 := esd1355.symm; have qq1 := ((k1352.2.2.1 _ _ rfl).trans ((k1344.2.2.1 _ _ rfl).trans esd2.symm)); have qq2 := esd1356.symm; exact ⟨by first | (clear hps; omega) | omega, by first | (clear hps; omega) | omega, by first | (clear hps; omega) | omega, by first | (clear hps; omega) | omega⟩), (by have qq0 := esd1355.symm; have qq1 := ((k1352.2.2.1 _ _ rfl).trans ((k1344.2.2.1 _ _ rfl).trans esd2.symm)); have qq2 := esd1356.symm; have qq3 := ((k1352.2.2.1 _ _ rfl).trans xk1344.1); exact ⟨by first | (clear hps; omega) | omega, by first | (clear hps; omega) | omega⟩), VH_s (x := sd3) hVH esd3.symm ((k1352.2.2.1 _ _ rfl).trans xk1344.1) (((k1352.2.2.1 170 63 rfl).trans (k1344.2.2.1 170 63 rfl))) (fun k hk => ((k1352.2.2.1 201 k rfl).trans (xk1344.2.1 k hk))) (Or.inl ((k1352.2.2.1 _ _ rfl).trans xk1344.2.2)) (fun k hk => ((k1352.2.2.1 202 k rfl).trans (k1344.2.2.1 202 k rfl))) (by intro a ha; simp only [List.mem_cons, List.not_mem_nil, or_false] at ha; rcases ha with rfl | rfl | rfl | rfl | rfl | rfl | rfl | rfl ; exact (funext (fun k => ((k1352.2.2.1 203 k rfl).trans (k1344.2.2.1 203 k rfl)))) ; exact (funext (fun k => ((k1352.2.2.1 210 k rfl).trans (k1344.2.2.1 210 k rfl)))) ; exact (funext (fun k => ((k1352.2.2.1 211 k rfl).trans (k1344.2.2.1 211 k rfl)))) ; exact (funext (fun k => ((k1352.2.2.1 212 k rfl).trans (k1344.2.2.1 212 k rfl)))) ; exact (funext (fun k => ((k1352.2.2.1 213 k rfl).trans (k1344.2.2.1 213 k rfl)))) ; exact (funext (fun k => ((k1352.2.2.1 214 k rfl).trans (k1344.2.2.1 214 k rfl)))) ; exact (funext (fun k => ((k1352.2.2.1 215 k rfl).trans (k1344.2.2.1 215 k rfl)))) ; exact (funext (fun k => ((k1352.2.2.1 216 k rfl).trans (k1344.2.2.1 216 k rfl)))))⟩), k1354⟩
                  · refine A_aload_n 0 d_MD_voicePart_283 rfl rfl ?_
                    refine A_iconst d_MD_voicePart_284 rfl ?_
                    refine A_aload_n 0 d_MD_voicePart_285 rfl rfl ?_
                    refine A_getIn (lo := 0) (hi := 2000) T_ok d_MD_voicePart_286 f_MD_242 (mi_s k0.1 sf_170) (mi_g k0.1 (by decide) mr_170_5) (fun x1357 ex1357 _ _ => ?_)
                    have zf1359 := esd1.symm
                    have zf1360 := esd2.symm
                    have zf1361 := esd3.symm
                    have zf1362 := esd4.symm
                    have zf1363 := esd5.symm
                    refine A_callV2 m_MD_wrong T_ok d_MD_voicePart_289 l_MD_245 k_MD_wrong (mi_s k0.1 sf_170) rfl (by decide +kernel) (by decide) (Nat.le_of_ble_eq_true rfl) (s_MD_wrong k0.1 (by first | (clear hps; omega) | omega) (by first | (clear hps; omega) | omega) (by first | (clear hps; omega) | omega) (by first | (clear hps; omega) | omega)) (fun r h1358 hq => ?_)
                    obtain ⟨x1365, rfl, ⟨_, _⟩, k1364⟩ := hq
                    have k1366 := kM_t k0 k1364 (pm_s (by decide) (by decide))
                    obtain rfl : x1365 = 0 := by first | (clear hps; omega) | omega
                    exact A_zret d_MD_voicePart_292 (by decide) rfl (by first | (clear hps; omega) | omega) ⟨_, rfl, by first | (clear hps; omega) | omega, (fun q => absurd q (by decide)), k1366⟩
                · refine A_aload_n 0 d_MD_voicePart_250 rfl rfl ?_
                  refine A_bipush d_MD_voicePart_251 rfl ?_
                  have zf1368 := esd1.symm
                  have zf1369 := esd2.symm
                  have zf1370 := esd3.symm
                  have zf1371 := esd4.symm
                  have zf1372 := esd5.symm
                  refine A_callV1 m_MD_isSign T_ok d_MD_voicePart_253 l_MD_306 k_MD_isSign (mi_s k0.1 sf_170) rfl (by decide +kernel) (by decide) (Nat.le_of_ble_eq_true rfl) (s_MD_isSign k0.1 ) (fun r h1367 hq => ?_)
                  obtain ⟨x1374, rfl, bx1374, xx1374, rfl⟩ := hq
                  refine A_if_eq (tgt := 263) d_MD_voicePart_256 (by decide) (fun c1375 => ?_) (fun c1375 => ?_)
                  · refine A_iconst d_MD_voicePart_263 rfl ?_
                    refine A_istore_n 1 (L' := [some (av_R (some 170)), some (av_I 0), none]) d_MD_voicePart_264 rfl (Nat.le_of_ble_eq_true rfl) rfl ?_
                    refine A_iload_n 1 d_MD_voicePart_265 rfl rfl ?_
                    refine A_if_ne (tgt := 274) d_MD_voicePart_266 (by decide) (fun c => absurd c (by decide)) (fun _ => ?_)
                    refine A_aload_n 0 d_MD_voicePart_269 rfl rfl ?_
                    have zf1378 := esd1.symm
                    have zf1379 := esd2.symm
                    have zf1380 := esd3.symm
                    have zf1381 := esd4.symm
                    have zf1382 := esd5.symm
                    refine A_callV0 m_MD_cant T_ok d_MD_voicePart_270 l_MD_313 k_MD_cant (mi_s k0.1 sf_170) rfl (by decide +kernel) (by decide) (Nat.le_of_ble_eq_true rfl) (s_MD_cant k0.1 ) (fun r h1377 hq => ?_)
                    obtain ⟨x1384, rfl, ⟨_, _⟩, k1383⟩ := hq
                    have k1385 := kM_t k0 k1383 (pm_s (by decide) (by decide))
                    obtain rfl : x1384 = 0 := by first | (clear hps; omega) | omega
                    exact A_zret d_MD_voicePart_273 (by decide) rfl (by first | (clear hps; omega) | omega) ⟨_, rfl, by first | (clear hps; omega) | omega, (fun q => absurd q (by decide)), k1385⟩
                  · refine A_iconst d_MD_voicePart_259 rfl ?_
                    refine A_goto (tgt := 264) d_MD_voicePart_260 (by decide) ?_
                    refine A_istore_n 1 (L' := [some (av_R (some 170)), some (av_I 1), none]) d_MD_voicePart_264 rfl (Nat.le_of_ble_eq_true rfl) rfl ?_
                    refine A_iload_n 1 d_MD_voicePart_265 rfl rfl ?_
                    refine A_if_ne (tgt := 274) d_MD_voicePart_266 (by decide) (fun _ => ?_) (fun c => absurd c (by decide))
                    refine A_aload_n 0 d_MD_voicePart_274 rfl rfl ?_
                    refine A_getIv (z := sd4) T_ok d_MD_voicePart_275 f_MD_357 (mi_s k0.1 sf_170) esd4.symm ?_
                    refine A_bipush d_MD_voicePart_278 rfl ?_
                    refine A_icmp_le (tgt := 293) d_MD_voicePart_280 (by decide) (fun c1388 => ?_) (fun c1388 => ?_)
                    · refine A_aload_n 0 d_MD_voicePart_293 rfl rfl ?_
                      refine A_bipush d_MD_voicePart_294 rfl ?_
                      have zf1390 := esd1.symm
                      have zf1391 := esd2.symm
                      have zf1392 := esd3.symm
                      have zf1393 := esd4.symm
                      have zf1394 := esd5.symm
                      refine A_callV1 m_MD_isSign T_ok d_MD_voicePart_296 l_MD_306 k_MD_isSign (mi_s k0.1 sf_170) rfl (by decide +kernel) (by decide) (Nat.le_of_ble_eq_true rfl) (s_MD_isSign k0.1 ) (fun r h1389 hq => ?_)
                      obtain ⟨x1396, rfl, bx1396, xx1396, rfl⟩ := hq
                      refine A_if_eq (tgt := 312) d_MD_voicePart_299 (by decide) (fun c1397 => ?_) (fun c1397 => ?_)
                      · refine A_aload_n 0 d_MD_voicePart_312 rfl rfl ?_
                        refine A_bipush d_MD_voicePart_313 rfl ?_
                        have zf1399 := esd1.symm
                        have zf1400 := esd2.symm
                        have zf1401 := esd3.symm
                        have zf1402 := esd4.symm
                        have zf1403 := esd5.symm
                        refine A_callV1 m_MD_isSign T_ok d_MD_voicePart_315 l_MD_306 k_MD_isSign (mi_s k0.1 sf_170) rfl (by decide +kernel) (by decide) (Nat.le_of_ble_eq_true rfl) (s_MD_isSign k0.1 ) (fun r h1398 hq => ?_)
                        obtain ⟨x1405, rfl, bx1405, xx1405, rfl⟩ := hq
                        refine A_if_eq (tgt := 374) d_MD_voicePart_318 (by decide) (fun c1406 => ?_) (fun c1406 => ?_)
                        · refine A_aload_n 0 d_MD_voicePart_374 rfl rfl ?_
                          refine A_bipush d_MD_voicePart_375 rfl ?_
                          have zf1408 := esd1.symm
                          have zf1409 := esd2.symm
                          have zf1410 := esd3.symm
                          have zf1411 := esd4.symm
                          have zf1412 := esd5.symm
                          refine A_callV1 m_MD_isSign T_ok d_MD_voicePart_377 l_MD_306 k_MD_isSign (mi_s k0.1 sf_170) rfl (by decide +kernel) (by decide) (Nat.le_of_ble_eq_true rfl) (s_MD_isSign k0.1 ) (fun r h1407 hq => ?_)
                          obtain ⟨x1414, rfl, bx1414, xx1414, rfl⟩ := hq
                          refine A_if_eq (tgt := 388) d_MD_voicePart_380 (by decide) (fun c1415 => ?_) (fun c1415 => ?_)
                          · refine A_aload_n 0 d_MD_voicePart_388 rfl rfl ?_
                            have zf1417 := esd1.symm
                            have zf1418 := esd2.symm
                            have zf1419 := esd3.symm
                            have zf1420 := esd4.symm
                            have zf1421 := esd5.symm
                            refine A_callV0 m_MD_soundPart T_ok d_MD_voicePart_389 l_MD_375 k_MD_soundPart (mi_s k0.1 sf_170) rfl (by decide +kernel) (by decide) (Nat.le_of_ble_eq_true rfl) (s_MD_soundPart k0.1 (by have qq0 := esd1.symm; have qq1 := esd2.symm; first | (clear hps; omega) | omega) (by have qq0 := esd1.symm; have qq1 := esd2.symm; have qq2 := esd5.symm; have qq3 := esd3.symm; exact ⟨by first | (clear hps; omega) | omega, by first | (clear hps; omega) | omega⟩) (by have qq0 := esd5.symm; exact ⟨by first | (clear hps; omega) | omega, by first | (clear hps; omega) | omega⟩) hVH) (fun r h1416 hq => ?_)
                            obtain ⟨x1423, rfl, bx1423, xx1423, k1422⟩ := hq
                            have k1424 := kM_t k0 k1422 (pm_s (by decide) (by decide))
                            obtain ⟨sd1425, esd1425⟩ : ∃ x, x = h1416.2.1 170 3 := ⟨_, rfl⟩
                            have rsd1425 : 0 ≤ sd1425 ∧ sd1425 ≤ 2000 := (by rw [esd1425]; exact mi_g k1424.1 (by decide) mr_170_3)
                            obtain ⟨sd1426, esd1426⟩ : ∃ x, x = h1416.2.1 170 43 := ⟨_, rfl⟩
                            have rsd1426 : 0 ≤ sd1426 ∧ sd1426 ≤ 2001 := (by rw [esd1426]; exact mi_g k1424.1 (by decide) mr_170_43)
                            obtain ⟨sd1427, esd1427⟩ : ∃ x, x = h1416.2.1 170 4 := ⟨_, rfl⟩
                            have rsd1427 : 0 ≤ sd1427 ∧ sd1427 ≤ 6 := (by rw [esd1427]; exact mi_g k1424.1 (by decide) mr_170_4)
                            exact A_zret d_MD_voicePart_392 (by decide) rfl (by first | (clear hps; omega) | omega) ⟨_, rfl, by first | (clear hps; omega) | omega, (fun hz => ⟨by first | (clear hps; omega) | omega, (by have qq0 := esd1425.symm; have qq1 := ((k1422.2.2.1 _ _ rfl).trans esd2.symm); have qq2 := esd1427.symm; exact ⟨by first | (clear hps; omega) | omega, by first | (clear hps; omega) | omega, by first | (clear hps; omega) | omega, by first | (clear hps; omega) | omega⟩), (by have qq0 := esd1425.symm; have qq1 := ((k1422.2.2.1 _ _ rfl).trans esd2.symm); have qq2 := esd1427.symm; have qq3 := esd1426.symm; exact ⟨by first | (clear hps; omega) | omega, by first | (clear hps; omega) | omega⟩), (xx1423 hz).2.2⟩), k1424⟩
                          · refine A_aload_n 0 d_MD_voicePart_383 rfl rfl ?_
                            have zf1429 := esd1.symm
                            have zf1430 := esd2.symm
                            have zf1431 := esd3.symm
                            have zf1432 := esd4.symm
                            have zf1433 := esd5.symm
                            refine A_callV0 m_MD_timesPart T_ok d_MD_voicePart_384 l_MD_372 k_MD_timesPart (mi_s k0.1 sf_170) rfl (by decide +kernel) (by decide) (Nat.le_of_ble_eq_true rfl) (s_MD_timesPart k0.1 (by have qq0 := esd1.symm; have qq1 := esd2.symm; first | (clear hps; omega) | omega) (by have qq0 := esd1.symm; have qq1 := esd2.symm; have qq2 := esd5.symm; have qq3 := esd3.symm; exact ⟨by first | (clear hps; omega) | omega, by first | (clear hps; omega) | omega⟩) (by have qq0 := esd5.symm; exact ⟨by first | (clear hps; omega) | omega, by first | (clear hps; omega) | omega⟩) hVH (by have qq0 := esd4.symm; first | (clear hps; omega) | omega)) (fun r h1428 hq => ?_)
                            obtain ⟨x1435, rfl, bx1435, xx1435, k1434⟩ := hq
                            have k1436 := kM_t k0 k1434 (pm_s (by decide) (by decide))
                            obtain ⟨sd1437, esd1437⟩ : ∃ x, x = h1428.2.1 170 3 := ⟨_, rfl⟩
                            have rsd1437 : 0 ≤ sd1437 ∧ sd1437 ≤ 2000 := (by rw [esd1437]; exact mi_g k1436.1 (by decide) mr_170_3)
                            obtain ⟨sd1438, esd1438⟩ : ∃ x, x = h1428.2.1 170 43 := ⟨_, rfl⟩
                            have rsd1438 : 0 ≤ sd1438 ∧ sd1438 ≤ 2001 := (by rw [esd1438]; exact mi_g k1436.1 (by decide) mr_170_43)
                            obtain ⟨sd1439, esd1439⟩ : ∃ x, x = h1428.2.1 170 63 := ⟨_, rfl⟩
                            have rsd1439 : 0 ≤ sd1439 ∧ sd1439 ≤ 7 := (by rw [esd1439]; exact mi_g k1436.1 (by decide) mr_170_63)
                            obtain ⟨sd1440, esd1440⟩ : ∃ x, x = h1428.2.1 170 4 := ⟨_, rfl⟩
                            have rsd1440 : 0 ≤ sd1440 ∧ sd1440 ≤ 6 := (by rw [esd1440]; exact mi_g k1436.1 (by decide) mr_170_4)
                            exact A_zret d_MD_voicePart_387 (by decide) rfl (by first | (clear hps; omega) | omega) ⟨_, rfl, by first | (clear hps; omega) | omega, (fun hz => ⟨by first | (clear hps; omega) | omega, (by have qq0 := esd1437.symm; have qq1 := ((k1434.2.2.1 _ _ rfl).trans esd2.symm); have qq2 := esd1440.symm; exact ⟨by first | (clear hps; omega) | omega, by first | (clear hps; omega) | omega, by first | (clear hps; omega) | omega, by first | (clear hps; omega) | omega⟩), (by have qq0 := esd1437.symm; have qq1 := ((k1434.2.2.1 _ _ rfl).trans esd2.symm); have qq2 := esd1440.symm; have qq3 := esd1438.symm; exact ⟨by first | (clear hps; omega) | omega, by first | (clear hps; omega) | omega⟩), (xx1435 hz).2.2⟩), k1436⟩
                        · refine A_aload_n 0 d_MD_voicePart_321 rfl rfl ?_
                          refine A_getAv (z := some 215) T_ok d_MD_voicePart_322 f_MD_148 (mi_s k0.1 sf_170) (mi_r k0.1 rfm_58) ?_
                          refine A_aload_n 0 d_MD_voicePart_325 rfl rfl ?_
                          refine A_getIv (z := sd4) T_ok d_MD_voicePart_326 f_MD_357 (mi_s k0.1 sf_170) esd4.symm ?_
                          refine A_aload_n 0 d_MD_voicePart_329 rfl rfl ?_
                          refine A_pc (pc' := 330) rfl ?_
                          refine A_getIv (z := sd3) T_ok d_MD_voicePart_330 f_MD_354 (mi_s k0.1 sf_170) esd3.symm ?_
                          refine A_iastorek (KR := kM (pm [3, 4, 5, 6, 7, 8, 9, 10, 11, 12, 43, 63, 64] [201, 202, 203, 204, 205, 206, 207, 208, 209, 210, 211, 212, 213, 214, 215, 216]) h) d_MD_voicePart_333 (mi_s k0.1 sf_215) (by first | (clear hps; omega) | omega) (by first | (clear hps; omega) | omega) (kM_i k0 (by decide) rfl (mr_215 _) (by first | (clear hps; omega) | omega) (by first | (clear hps; omega) | omega)) (fun h1444 k1445 eh1444 => ?_)
                          refine A_aload_n 0 d_MD_voicePart_334 rfl rfl ?_
                          refine A_getAv (z := some 214) T_ok d_MD_voicePart_335 f_MD_145 (mi_s k1445.1 sf_170) (mi_r k1445.1 rfm_57) ?_
                          refine A_aload_n 0 d_MD_voicePart_338 rfl rfl ?_
                          refine A_getIv (z := sd3) T_ok d_MD_voicePart_339 f_MD_354 (mi_s k1445.1 sf_170) ((eh1444.1 _ _ (fun q => absurd q (by decide))).trans esd3.symm) ?_
                          refine A_pc (pc' := 342) rfl ?_
                          refine A_iconst d_MD_voicePart_342 rfl ?_
                          refine A_iastorek (KR := kM (pm [3, 4, 5, 6, 7, 8, 9, 10, 11, 12, 43, 63, 64] [201, 202, 203, 204, 205, 206, 207, 208, 209, 210, 211, 212, 213, 214, 215, 216]) h) d_MD_voicePart_343 (mi_s k1445.1 sf_214) (by first | (clear hps; omega) | omega) (by first | (clear hps; omega) | omega) (kM_i k1445 (by decide) rfl (mr_214 _) (by first | (clear hps; omega) | omega) (by first | (clear hps; omega) | omega)) (fun h1448 k1449 eh1448 => ?_)
                          refine A_aload_n 0 d_MD_voicePart_344 rfl rfl ?_
                          refine A_iconst d_MD_voicePart_345 rfl ?_
                          have zf1451 := ((eh1448.1 _ _ (fun q => absurd q (by decide))).trans ((eh1444.1 _ _ (fun q => absurd q (by decide))).trans esd1.symm))
                          have zf1452 := ((eh1448.1 _ _ (fun q => absurd q (by decide))).trans ((eh1444.1 _ _ (fun q => absurd q (by decide))).trans esd2.symm))
                          have zf1453 := ((eh1448.1 _ _ (fun q => absurd q (by decide))).trans ((eh1444.1 _ _ (fun q => absurd q (by decide))).trans esd3.symm))
                          have zf1454 := ((eh1448.1 _ _ (fun q => absurd q (by decide))).trans ((eh1444.1 _ _ (fun q => absurd q (by decide))).trans esd4.symm))
                          have zf1455 := ((eh1448.1 _ _ (fun q => absurd q (by decide))).trans ((eh1444.1 _ _ (fun q => absurd q (by decide))).trans esd5.symm))
                          refine A_callV1 m_MD_put T_ok d_MD_voicePart_346 l_MD_369 k_MD_put (mi_s k1449.1 sf_170) rfl (by decide +kernel) (by decide) (Nat.le_of_ble_eq_true rfl) (s_MD_put k1449.1 (by first | (clear hps; omega) | omega) (by first | (clear hps; omega) | omega) ((eh1448.1 _ _ (fun q => absurd q (by decide))).trans ((eh1444.1 _ _ (fun q => absurd q (by decide))).trans esd3.symm)) (by first | (clear hps; omega) | omega)) (fun r h1450 hq => ?_)
                          obtain ⟨rfl, xk1456, k1456⟩ := hq
                          have k1457 := kM_t k1449 k1456 (pm_s (by decide) (by decide))
                          refine A_aload_n 0 d_MD_voicePart_349 rfl rfl ?_
                          refine A_getAv (z := some 216) T_ok d_MD_voicePart_350 f_MD_151 (mi_s k1457.1 sf_170) (mi_r k1457.1 rfm_62) ?_
                          refine A_aload_n 0 d_MD_voicePart_353 rfl rfl ?_
                          refine A_getIv (z := sd4) T_ok d_MD_voicePart_354 f_MD_357 (mi_s k1457.1 sf_170) ((k1456.2.2.1 _ _ rfl).trans ((eh1448.1 _ _ (fun q => absurd q (by decide))).trans ((eh1444.1 _ _ (fun q => absurd q (by decide))).trans esd4.symm))) ?_
                          refine A_iconst d_MD_voicePart_357 rfl ?_
                          refine A_pc (pc' := 358) rfl ?_
                          refine A_iastorek (KR := kM (pm [3, 4, 5, 6, 7, 8, 9, 10, 11, 12, 43, 63, 64] [201, 202, 203, 204, 205, 206, 207, 208, 209, 210, 211, 212, 213, 214, 215, 216]) h) d_MD_voicePart_358 (mi_s k1457.1 sf_216) (by first | (clear hps; omega) | omega) (by first | (clear hps; omega) | omega) (kM_i k1457 (by decide) rfl (mr_216 _) (by first | (clear hps; omega) | omega) (by first | (clear hps; omega) | omega)) (fun h1460 k1461 eh1460 => ?_)
                          refine A_aload_n 0 d_MD_voicePart_359 rfl rfl ?_
                          refine A_dupR d_MD_voicePart_360 ?_
                          refine A_getIv (z := sd4) T_ok d_MD_voicePart_361 f_MD_357 (mi_s k1461.1 sf_170) ((eh1460.1 _ _ (fun q => absurd q (by decide))).trans ((k1456.2.2.1 _ _ rfl).trans ((eh1448.1 _ _ (fun q => absurd q (by decide))).trans ((eh1444.1 _ _ (fun q => absurd q (by decide))).trans esd4.symm)))) ?_
                          refine A_iconst d_MD_voicePart_364 rfl ?_
                          refine A_iaddv (z := (sd4 + 1)) d_MD_voicePart_365 (w32_to (by first | (clear hps; omega) | omega) (by unfold i32; first | (clear hps; omega) | omega)) ?_
                          refine A_pc (pc' := 366) rfl ?_
                          refine A_putIk (KR := kM (pm [3, 4, 5, 6, 7, 8, 9, 10, 11, 12, 43, 63, 64] [201, 202, 203, 204, 205, 206, 207, 208, 209, 210, 211, 212, 213, 214, 215, 216]) h) T_ok d_MD_voicePart_366 f_MD_357 (mi_s k1461.1 sf_170) fin_f (kM_i k1461 (by decide) (by decide) mr_170_63 (by first | (clear hps; omega) | omega) (by first | (clear hps; omega) | omega)) (fun h1463 k1464 eh1463 => ?_)
                          refine A_aload_n 0 d_MD_voicePart_369 rfl rfl ?_
                          have zf1466 := ((eh1463.1 _ _ (fun _ => by decide)).trans ((eh1460.1 _ _ (fun q => absurd q (by decide))).trans ((k1456.2.2.1 _ _ rfl).trans ((eh1448.1 _ _ (fun q => absurd q (by decide))).trans ((eh1444.1 _ _ (fun q => absurd q (by decide))).trans esd1.symm)))))
                          have zf1467 := ((eh1463.1 _ _ (fun _ => by decide)).trans ((eh1460.1 _ _ (fun q => absurd q (by decide))).trans ((k1456.2.2.1 _ _ rfl).trans ((eh1448.1 _ _ (fun q => absurd q (by decide))).trans ((eh1444.1 _ _ (fun q => absurd q (by decide))).trans esd2.symm)))))
                          have zf1468 := ((eh1463.1 _ _ (fun _ => by decide)).trans ((eh1460.1 _ _ (fun q => absurd q (by decide))).trans xk1456.1))
                          have zf1469 := eh1463.2.1
                          have zf1470 := ((eh1463.1 _ _ (fun _ => by decide)).trans ((eh1460.1 _ _ (fun q => absurd q (by decide))).trans ((k1456.2.2.1 _ _ rfl).trans ((eh1448.1 _ _ (fun q => absurd q (by decide))).trans ((eh1444.1 _ _ (fun q => absurd q (by decide))).trans esd5.symm)))))
                          refine A_callV0 m_MD_next T_ok d_MD_voicePart_370 l_MD_309 k_MD_next (mi_s k1464.1 sf_170) rfl (by decide +kernel) (by decide) (Nat.le_of_ble_eq_true rfl) (s_MD_next k1464.1 (by have qq0 := ((eh1463.1 _ _ (fun _ => by decide)).trans ((eh1460.1 _ _ (fun q => absurd q (by decide))).trans ((k1456.2.2.1 _ _ rfl).trans ((eh1448.1 _ _ (fun q => absurd q (by decide))).trans ((eh1444.1 _ _ (fun q => absurd q (by decide))).trans esd1.symm))))); have qq1 := ((eh1463.1 _ _ (fun _ => by decide)).trans ((eh1460.1 _ _ (fun q => absurd q (by decide))).trans ((k1456.2.2.1 _ _ rfl).trans ((eh1448.1 _ _ (fun q => absurd q (by decide))).trans ((eh1444.1 _ _ (fun q => absurd q (by decide))).trans esd2.symm))))); first | (clear hps; omega) | omega)) (fun r h1465 hq => ?_)
                          obtain ⟨x1472, rfl, ⟨_, _⟩, xx1472, k1471⟩ := hq
                          have xa1472 := xx1472.1
                          have xb1472 := xx1472.2.1
                          have k1473 := kM_t k1464 k1471 (pm_s (by decide) (by decide))
                          obtain ⟨sd1474, esd1474⟩ : ∃ x, x = h1465.2.1 170 3 := ⟨_, rfl⟩
                          have rsd1474 : 0 ≤ sd1474 ∧ sd1474 ≤ 2000 := (by rw [esd1474]; exact mi_g k1473.1 (by decide) mr_170_3)
                          obtain ⟨sd1475, esd1475⟩ : ∃ x, x = h1465.2.1 170 4 := ⟨_, rfl⟩
                          have rsd1475 : 0 ≤ sd1475 ∧ sd1475 ≤ 6 := (by rw [esd1475]; exact mi_g k1473.1 (by decide) mr_170_4)
                          exact A_zret d_MD_voicePart_373 (by decide) rfl (by first | (clear hps; omega) | omega) ⟨_, rfl, by first | (clear hps; omega) | omega, (fun hz => ⟨by first | (clear hps; omega) | omega, (by have qq0 := esd1474.symm; have qq1 := ((k1471.2.2.1 _ _ rfl).trans ((eh1463.1 _ _ (fun _ => by decide)).trans ((eh1460.1 _ _ (fun q => absurd q (by decide))).trans ((k1456.2.2.1 _ _ rfl).trans ((eh1448.1 _ _ (fun q => absurd q (by decide))).trans ((eh1444.1 _ _ (fun q => absurd q (by decide))).trans esd2.symm)))))); have qq2 := esd1475.symm; exact ⟨by first | (clear hps; omega) | omega, by first | (clear hps; omega) | omega, by first | (clear hps; omega) | omega, by first | (clear hps; omega) | omega⟩), (by have qq0 := esd1474.symm; have qq1 := ((k1471.2.2.1 _ _ rfl).trans ((eh1463.1 _ _ (fun _ => by decide)).trans ((eh1460.1 _ _ (fun q => absurd q (by decide))).trans ((k1456.2.2.1 _ _ rfl).trans ((eh1448.1 _ _ (fun q => absurd q (by decide))).trans ((eh1444.1 _ _ (fun q => absurd q (by decide))).trans esd2.symm)))))); have qq2 := esd1475.symm; have qq3 := ((k1471.2.2.1 _ _ rfl).trans ((eh1463.1 _ _ (fun _ => by decide)).trans ((eh1460.1 _ _ (fun q => absurd q (by decide))).trans xk1456.1))); exact ⟨by first | (clear hps; omega) | omega, by first | (clear hps; omega) | omega⟩), VH_o (x := sd3) (m := sd4) (c := 2) hVH esd3.symm esd4.symm (by first | (clear hps; omega) | omega) ((k1471.2.2.1 _ _ rfl).trans ((eh1463.1 _ _ (fun _ => by decide)).trans ((eh1460.1 _ _ (fun q => absurd q (by decide))).trans xk1456.1))) ((k1471.2.2.1 _ _ rfl).trans eh1463.2.1) (by decide) (fun k hk => ((k1471.2.2.1 201 k rfl).trans ((eh1463.1 201 k (fun q => absurd q (by decide))).trans ((eh1460.1 201 k (fun q => absurd q (by decide))).trans ((xk1456.2.1 k hk).trans ((eh1448.1 201 k (fun q => absurd q (by decide))).trans (eh1444.1 201 k (fun q => absurd q (by decide))))))))) ((k1471.2.2.1 _ _ rfl).trans ((eh1463.1 _ _ (fun q => absurd q (by decide))).trans ((eh1460.1 _ _ (fun q => absurd q (by decide))).trans xk1456.2.2))) (fun k hk => ((k1471.2.2.1 202 k rfl).trans ((eh1463.1 202 k (fun q => absurd q (by decide))).trans ((eh1460.1 202 k (fun q => absurd q (by decide))).trans ((k1456.2.2.1 202 k rfl).trans ((eh1448.1 202 k (fun q => absurd q (by decide))).trans (eh1444.1 202 k (fun q => absurd q (by decide))))))))) (fun k hk => ((k1471.2.2.1 203 k rfl).trans ((eh1463.1 203 k (fun q => absurd q (by decide))).trans ((eh1460.1 203 k (fun q => absurd q (by decide))).trans ((k1456.2.2.1 203 k rfl).trans ((eh1448.1 203 k (fun q => absurd q (by decide))).trans (eh1444.1 203 k (fun q => absurd q (by decide))))))))) (fun q => absurd q (by decide)) (fun k hk => ((k1471.2.2.1 214 k rfl).trans ((eh1463.1 214 k (fun q => absurd q (by decide))).trans ((eh1460.1 214 k (fun q => absurd q (by decide))).trans ((k1456.2.2.1 214 k rfl).trans ((eh1448.1 214 k (fun _ => hk)).trans (eh1444.1 214 k (fun q => absurd q (by decide))))))))) (fun _ => ((k1471.2.2.1 _ _ rfl).trans ((eh1463.1 _ _ (fun q => absurd q (by decide))).trans ((eh1460.1 _ _ (fun q => absurd q (by decide))).trans ((k1456.2.2.1 _ _ rfl).trans eh1448.2.1))))) (fun k hk => ((k1471.2.2.1 215 k rfl).trans ((eh1463.1 215 k (fun q => absurd q (by decide))).trans ((eh1460.1 215 k (fun q => absurd q (by decide))).trans ((k1456.2.2.1 215 k rfl).trans ((eh1448.1 215 k (fun q => absurd q (by decide))).trans (eh1444.1 215 k (fun _ => hk)))))))) ((k1471.2.2.1 _ _ rfl).trans ((eh1463.1 _ _ (fun q => absurd q (by decide))).trans ((eh1460.1 _ _ (fun q => absurd q (by decide))).trans ((k1456.2.2.1 _ _ rfl).trans ((eh1448.1 _ _ (fun q => absurd q (by decide))).trans eh1444.2.1))))) (fun k hk => ((k1471.2.2.1 216 k rfl).trans ((eh1463.1 216 k (fun q => absurd q (by decide))).trans ((eh1460.1 216 k (fun _ => hk)).trans ((k1456.2.2.1 216 k rfl).trans ((eh1448.1 216 k (fun q => absurd q (by decide))).trans (eh1444.1 216 k (fun q => absurd q (by decide))))))))) ((k1471.2.2.1 _ _ rfl).trans ((eh1463.1 _ _ (fun q => absurd q (by decide))).trans eh1460.2.1)) (by intro a ha; simp only [List.mem_cons, List.not_mem_nil, or_false] at ha; rcases ha with rfl | rfl | rfl | rfl ; exact (funext (fun k => ((k1471.2.2.1 210 k rfl).trans ((eh1463.1 210 k (fun q => absurd q (by decide))).trans ((eh1460.1 210 k (fun q => absurd q (by decide))).trans ((k1456.2.2.1 210 k rfl).trans ((eh1448.1 210 k (fun q => absurd q (by decide))).trans (eh1444.1 210 k (fun q => absurd q (by decide)))))))))) ; exact (funext (fun k => ((k1471.2.2.1 211 k rfl).trans ((eh1463.1 211 k (fun q => absurd q (by decide))).trans ((eh1460.1 211 k (fun q => absurd q (by decide))).trans ((k1456.2.2.1 211 k rfl).trans ((eh1448.1 211 k (fun q => absurd q (by decide))).trans (eh1444.1 211 k (fun q => absurd q (by decide)))))))))) ; exact (funext (fun k => ((k1471.2.2.1 212 k rfl).trans ((eh1463.1 212 k (fun q => absurd q (by decide))).trans ((eh1460.1 212 k (fun q => absurd q (by decide))).trans ((k1456.2.2.1 212 k rfl).trans ((eh1448.1 212 k (fun q => absurd q (by decide))).trans (eh1444.1 212 k (fun q => absurd q (by decide)))))))))) ; exact (funext (fun k => ((k1471.2.2.1 213 k rfl).trans ((eh1463.1 213 k (fun q => absurd q (by decide))).trans ((eh1460.1 213 k (fun q => absurd q (by decide))).trans ((k1456.2.2.1 213 k rfl).trans ((eh1448.1 213 k (fun q => absurd q (by decide))).trans (eh1444.1 213 k (fun q => absurd q (by decide)))))))))))⟩), k1473⟩
                      · refine A_aload_n 0 d_MD_voicePart_302 rfl rfl ?_
                        refine A_iconst d_MD_voicePart_303 rfl ?_
                        have zf1477 := esd1.symm
                        have zf1478 := esd2.symm
                        have zf1479 := esd3.symm
                        have zf1480 := esd4.symm
                        have zf1481 := esd5.symm
                        refine A_callV1 m_MD_put T_ok d_MD_voicePart_304 l_MD_369 k_MD_put (mi_s k0.1 sf_170) rfl (by decide +kernel) (by decide) (Nat.le_of_ble_eq_true rfl) (s_MD_put k0.1 (by first | (clear hps; omega) | omega) (by first | (clear hps; omega) | omega) esd3.symm (by first | (clear hps; omega) | omega)) (fun r h1476 hq => ?_)
                        obtain ⟨rfl, xk1482, k1482⟩ := hq
                        have k1483 := kM_t k0 k1482 (pm_s (by decide) (by decide))
                        refine A_aload_n 0 d_MD_voicePart_307 rfl rfl ?_
                        have zf1485 := ((k1482.2.2.1 _ _ rfl).trans esd1.symm)
                        have zf1486 := ((k1482.2.2.1 _ _ rfl).trans esd2.symm)
                        have zf1487 := xk1482.1
                        have zf1488 := ((k1482.2.2.1 _ _ rfl).trans esd4.symm)
                        have zf1489 := ((k1482.2.2.1 _ _ rfl).trans esd5.symm)
                        refine A_callV0 m_MD_next T_ok d_MD_voicePart_308 l_MD_309 k_MD_next (mi_s k1483.1 sf_170) rfl (by decide +kernel) (by decide) (Nat.le_of_ble_eq_true rfl) (s_MD_next k1483.1 (by have qq0 := ((k1482.2.2.1 _ _ rfl).trans esd1.symm); have qq1 := ((k1482.2.2.1 _ _ rfl).trans esd2.symm); first | (clear hps; omega) | omega)) (fun r h1484 hq => ?_)
                        obtain ⟨x1491, rfl, ⟨_, _⟩, xx1491, k1490⟩ := hq
                        have xa1491 := xx1491.1
                        have xb1491 := xx1491.2.1
                        have k1492 := kM_t k1483 k1490 (pm_s (by decide) (by decide))
                        obtain ⟨sd1493, esd1493⟩ : ∃ x, x = h1484.2.1 170 3 := ⟨_, rfl⟩
                        have rsd1493 : 0 ≤ sd1493 ∧ sd1493 ≤ 2000 := (by rw [esd1493]; exact mi_g k1492.1 (by decide) mr_170_3)
                        obtain ⟨sd1494, esd1494⟩ : ∃ x, x = h1484.2.1 170 4 := ⟨_, rfl⟩
                        have rsd1494 : 0 ≤ sd1494 ∧ sd1494 ≤ 6 := (by rw [esd1494]; exact mi_g k1492.1 (by decide) mr_170_4)
                        exact A_zret d_MD_voicePart_311 (by decide) rfl (by first | (clear hps; omega) | omega) ⟨_, rfl, by first | (clear hps; omega) | omega, (fun hz => ⟨by first | (clear hps; omega) | omega, (by have qq0 := esd1493.symm; have qq1 := ((k1490.2.2.1 _ _ rfl).trans ((k1482.2.2.1 _ _ rfl).trans esd2.symm)); have qq2 := esd1494.symm; exact ⟨by first | (clear hps; omega) | omega, by first | (clear hps; omega) | omega, by first | (clear hps; omega) | omega, by first | (clear hps; omega) | omega⟩), (by have qq0 := esd1493.symm; have qq1 := ((k1490.2.2.1 _ _ rfl).trans ((k1482.2.2.1 _ _ rfl).trans esd2.symm)); have qq2 := esd1494.symm; have qq3 := ((k1490.2.2.1 _ _ rfl).trans xk1482.1); exact ⟨by first | (clear hps; omega) | omega, by first | (clear hps; omega) | omega⟩), VH_s (x := sd3) hVH esd3.symm ((k1490.2.2.1 _ _ rfl).trans xk1482.1) (((k1490.2.2.1 170 63 rfl).trans (k1482.2.2.1 170 63 rfl))) (fun k hk => ((k1490.2.2.1 201 k rfl).trans (xk1482.2.1 k hk))) (Or.inl ((k1490.2.2.1 _ _ rfl).trans xk1482.2.2)) (fun k hk => ((k1490.2.2.1 202 k rfl).trans (k1482.2.2.1 202 k rfl))) (by intro a ha; simp only [List.mem_cons, List.not_mem_nil, or_false] at ha; rcases ha with rfl | rfl | rfl | rfl | rfl | rfl | rfl | rfl ; exact (funext (fun k => ((k1490.2.2.1 203 k rfl).trans (k1482.2.2.1 203 k rfl)))) ; exact (funext (fun k => ((k1490.2.2.1 210 k rfl).trans (k1482.2.2.1 210 k rfl)))) ; exact (funext (fun k => ((k1490.2.2.1 211 k rfl).trans (k1482.2.2.1 211 k rfl)))) ; exact (funext (fun k => ((k1490.2.2.1 212 k rfl).trans (k1482.2.2.1 212 k rfl)))) ; exact (funext (fun k => ((k1490.2.2.1 213 k rfl).trans (k1482.2.2.1 213 k rfl)))) ; exact (funext (fun k => ((k1490.2.2.1 214 k rfl).trans (k1482.2.2.1 214 k rfl)))) ; exact (funext (fun k => ((k1490.2.2.1 215 k rfl).trans (k1482.2.2.1 215 k rfl)))) ; exact (funext (fun k => ((k1490.2.2.1 216 k rfl).trans (k1482.2.2.1 216 k rfl)))))⟩), k1492⟩
                    · refine A_aload_n 0 d_MD_voicePart_283 rfl rfl ?_
                      refine A_iconst d_MD_voicePart_284 rfl ?_
                      refine A_aload_n 0 d_MD_voicePart_285 rfl rfl ?_
                      refine A_getIn (lo := 0) (hi := 2000) T_ok d_MD_voicePart_286 f_MD_242 (mi_s k0.1 sf_170) (mi_g k0.1 (by decide) mr_170_5) (fun x1495 ex1495 _ _ => ?_)
                      have zf1497 := esd1.symm
                      have zf1498 := esd2.symm
                      have zf1499 := esd3.symm
                      have zf1500 := esd4.symm
                      have zf1501 := esd5.symm
                      refine A_callV2 m_MD_wrong T_ok d_MD_voicePart_289 l_MD_245 k_MD_wrong (mi_s k0.1 sf_170) rfl (by decide +kernel) (by decide) (Nat.le_of_ble_eq_true rfl) (s_MD_wrong k0.1 (by first | (clear hps; omega) | omega) (by first | (clear hps; omega) | omega) (by first | (clear hps; omega) | omega) (by first | (clear hps; omega) | omega)) (fun r h1496 hq => ?_)
                      obtain ⟨x1503, rfl, ⟨_, _⟩, k1502⟩ := hq
                      have k1504 := kM_t k0 k1502 (pm_s (by decide) (by decide))
                      obtain rfl : x1503 = 0 := by first | (clear hps; omega) | omega
                      exact A_zret d_MD_voicePart_292 (by decide) rfl (by first | (clear hps; omega) | omega) ⟨_, rfl, by first | (clear hps; omega) | omega, (fun q => absurd q (by decide)), k1504⟩
      · obtain ⟨pp, hp1, hp2, hp3⟩ := VH_top hVH esd4.symm (by first | (clear hps; omega) | omega)
        refine A_aload_n 0 d_MD_voicePart_138 rfl rfl ?_
        refine A_getAv (z := some 210) T_ok d_MD_voicePart_139 f_MD_133 (mi_s k0.1 sf_170) (mi_r k0.1 rfm_53) ?_
        refine A_aload_n 0 d_MD_voicePart_142 rfl rfl ?_
        refine A_getIv (z := sd3) T_ok d_MD_voicePart_143 f_MD_354 (mi_s k0.1 sf_170) esd3.symm ?_
        refine A_aload_n 0 d_MD_voicePart_146 rfl rfl ?_
        refine A_pc (pc' := 147) rfl ?_
        refine A_getAv (z := some 215) T_ok d_MD_voicePart_147 f_MD_148 (mi_s k0.1 sf_170) (mi_r k0.1 rfm_58) ?_
        refine A_aload_n 0 d_MD_voicePart_150 rfl rfl ?_
        refine A_getIv (z := sd4) T_ok d_MD_voicePart_151 f_MD_357 (mi_s k0.1 sf_170) esd4.symm ?_
        refine A_iconst d_MD_voicePart_154 rfl ?_
        refine A_isubv (z := (sd4 - 1)) d_MD_voicePart_155 (w32_to (by first | (clear hps; omega) | omega) (by unfold i32; first | (clear hps; omega) | omega)) ?_
        refine A_ialoadn (lo := 0) (hi := 2000) d_MD_voicePart_156 (mi_s k0.1 sf_215) (by first | (clear hps; omega) | omega) (by first | (clear hps; omega) | omega) (mi_g k0.1 (by decide) (mr_215 _)) (fun x1509 ex1509 _ _ => ?_)
        have hpx : x1509 < sd3 := (by have q1 := ex1509; first | (clear hps; omega) | omega)
        refine A_pc (pc' := 157) rfl ?_
        refine A_iastorek (KR := kM (pm [3, 4, 5, 6, 7, 8, 9, 10, 11, 12, 43, 63, 64] [201, 202, 203, 204, 205, 206, 207, 208, 209, 210, 211, 212, 213, 214, 215, 216]) h) d_MD_voicePart_157 (mi_s k0.1 sf_210) (by first | (clear hps; omega) | omega) (by first | (clear hps; omega) | omega) (kM_i k0 (by decide) rfl (mr_210 _) (by first | (clear hps; omega) | omega) (by first | (clear hps; omega) | omega)) (fun h1510 k1511 eh1510 => ?_)
        refine A_aload_n 0 d_MD_voicePart_158 rfl rfl ?_
        refine A_getAv (z := some 210) T_ok d_MD_voicePart_159 f_MD_133 (mi_s k1511.1 sf_170) (mi_r k1511.1 rfm_53) ?_
        refine A_aload_n 0 d_MD_voicePart_162 rfl rfl ?_
        refine A_getAv (z := some 215) T_ok d_MD_voicePart_163 f_MD_148 (mi_s k1511.1 sf_170) (mi_r k1511.1 rfm_58) ?_
        refine A_aload_n 0 d_MD_voicePart_166 rfl rfl ?_
        refine A_pc (pc' := 167) rfl ?_
        refine A_getIv (z := sd4) T_ok d_MD_voicePart_167 f_MD_357 (mi_s k1511.1 sf_170) ((eh1510.1 _ _ (fun q => absurd q (by decide))).trans esd4.symm) ?_
        refine A_iconst d_MD_voicePart_170 rfl ?_
        refine A_isubv (z := (sd4 - 1)) d_MD_voicePart_171 (w32_to (by first | (clear hps; omega) | omega) (by unfold i32; first | (clear hps; omega) | omega)) ?_
        refine A_ialoadv (z := x1509) d_MD_voicePart_172 (mi_s k1511.1 sf_215) (by first | (clear hps; omega) | omega) (by first | (clear hps; omega) | omega) ((eh1510.1 _ _ (fun q => absurd q (by decide))).trans ex1509.symm) ?_
        refine A_aload_n 0 d_MD_voicePart_173 rfl rfl ?_
        refine A_getIv (z := sd3) T_ok d_MD_voicePart_174 f_MD_354 (mi_s k1511.1 sf_170) ((eh1510.1 _ _ (fun q => absurd q (by decide))).trans esd3.symm) ?_
        refine A_pc (pc' := 177) rfl ?_
        refine A_iastorek (KR := kM (pm [3, 4, 5, 6, 7, 8, 9, 10, 11, 12, 43, 63, 64] [201, 202, 203, 204, 205, 206, 207, 208, 209, 210, 211, 212, 213, 214, 215, 216]) h) d_MD_voicePart_177 (mi_s k1511.1 sf_210) (by first | (clear hps; omega) | omega) (by first | (clear hps; omega) | omega) (kM_i k1511 (by decide) rfl (mr_210 _) (by first | (clear hps; omega) | omega) (by first | (clear hps; omega) | omega)) (fun h1517 k1518 eh1517 => ?_)
        refine A_aload_n 0 d_MD_voicePart_178 rfl rfl ?_
        refine A_iload_n 1 d_MD_voicePart_179 rfl rfl ?_
        refine A_if_eq (tgt := 187) d_MD_voicePart_180 (by decide) (fun _ => ?_) (fun c => absurd c (by decide))
        refine A_bipush d_MD_voicePart_187 rfl ?_
        have zf1521 := ((eh1517.1 _ _ (fun q => absurd q (by decide))).trans ((eh1510.1 _ _ (fun q => absurd q (by decide))).trans esd1.symm))
        have zf1522 := ((eh1517.1 _ _ (fun q => absurd q (by decide))).trans ((eh1510.1 _ _ (fun q => absurd q (by decide))).trans esd2.symm))
        have zf1523 := ((eh1517.1 _ _ (fun q => absurd q (by decide))).trans ((eh1510.1 _ _ (fun q => absurd q (by decide))).trans esd3.symm))
        have zf1524 := ((eh1517.1 _ _ (fun q => absurd q (by decide))).trans ((eh1510.1 _ _ (fun q => absurd q (by decide))).trans esd4.symm))
        have zf1525 := ((eh1517.1 _ _ (fun q => absurd q (by decide))).trans ((eh1510.1 _ _ (fun q => absurd q (by decide))).trans esd5.symm))
        refine A_callV1 m_MD_put T_ok d_MD_voicePart_189 l_MD_369 k_MD_put (mi_s k1518.1 sf_170) rfl (by decide +kernel) (by decide) (Nat.le_of_ble_eq_true rfl) (s_MD_put k1518.1 (by first | (clear hps; omega) | omega) (by first | (clear hps; omega) | omega) ((eh1517.1 _ _ (fun q => absurd q (by decide))).trans ((eh1510.1 _ _ (fun q => absurd q (by decide))).trans esd3.symm)) (by first | (clear hps; omega) | omega)) (fun r h1520 hq => ?_)
        obtain ⟨rfl, xk1526, k1526⟩ := hq
        have k1527 := kM_t k1518 k1526 (pm_s (by decide) (by decide))
        refine A_aload_n 0 d_MD_voicePart_192 rfl rfl ?_
        refine A_dupR d_MD_voicePart_193 ?_
        refine A_getIv (z := sd4) T_ok d_MD_voicePart_194 f_MD_357 (mi_s k1527.1 sf_170) ((k1526.2.2.1 _ _ rfl).trans ((eh1517.1 _ _ (fun q => absurd q (by decide))).trans ((eh1510.1 _ _ (fun q => absurd q (by decide))).trans esd4.symm))) ?_
        refine A_iconst d_MD_voicePart_197 rfl ?_
        refine A_isubv (z := (sd4 - 1)) d_MD_voicePart_198 (w32_to (by first | (clear hps; omega) | omega) (by unfold i32; first | (clear hps; omega) | omega)) ?_
        refine A_pc (pc' := 199) rfl ?_
        refine A_putIk (KR := kM (pm [3, 4, 5, 6, 7, 8, 9, 10, 11, 12, 43, 63, 64] [201, 202, 203, 204, 205, 206, 207, 208, 209, 210, 211, 212, 213, 214, 215, 216]) h) T_ok d_MD_voicePart_199 f_MD_357 (mi_s k1527.1 sf_170) fin_f (kM_i k1527 (by decide) (by decide) mr_170_63 (by first | (clear hps; omega) | omega) (by first | (clear hps; omega) | omega)) (fun h1529 k1530 eh1529 => ?_)
        refine A_aload_n 0 d_MD_voicePart_202 rfl rfl ?_
        have zf1532 := ((eh1529.1 _ _ (fun _ => by decide)).trans ((k1526.2.2.1 _ _ rfl).trans ((eh1517.1 _ _ (fun q => absurd q (by decide))).trans ((eh1510.1 _ _ (fun q => absurd q (by decide))).trans esd1.symm))))
        have zf1533 := ((eh1529.1 _ _ (fun _ => by decide)).trans ((k1526.2.2.1 _ _ rfl).trans ((eh1517.1 _ _ (fun q => absurd q (by decide))).trans ((eh1510.1 _ _ (fun q => absurd q (by decide))).trans esd2.symm))))
        have zf1534 := ((eh1529.1 _ _ (fun _ => by decide)).trans xk1526.1)
        have zf1535 := eh1529.2.1
        have zf1536 := ((eh1529.1 _ _ (fun _ => by decide)).trans ((k1526.2.2.1 _ _ rfl).trans ((eh1517.1 _ _ (fun q => absurd q (by decide))).trans ((eh1510.1 _ _ (fun q => absurd q (by decide))).trans esd5.symm))))
        refine A_callV0 m_MD_next T_ok d_MD_voicePart_203 l_MD_309 k_MD_next (mi_s k1530.1 sf_170) rfl (by decide +kernel) (by decide) (Nat.le_of_ble_eq_true rfl) (s_MD_next k1530.1 (by have qq0 := ((eh1529.1 _ _ (fun _ => by decide)).trans ((k1526.2.2.1 _ _ rfl).trans ((eh1517.1 _ _ (fun q => absurd q (by decide))).trans ((eh1510.1 _ _ (fun q => absurd q (by decide))).trans esd1.symm)))); have qq1 := ((eh1529.1 _ _ (fun _ => by decide)).trans ((k1526.2.2.1 _ _ rfl).trans ((eh1517.1 _ _ (fun q => absurd q (by decide))).trans ((eh1510.1 _ _ (fun q => absurd q (by decide))).trans esd2.symm)))); first | (clear hps; omega) | omega)) (fun r h1531 hq => ?_)
        obtain ⟨x1538, rfl, ⟨_, _⟩, xx1538, k1537⟩ := hq
        have xa1538 := xx1538.1
        have xb1538 := xx1538.2.1
        have k1539 := kM_t k1530 k1537 (pm_s (by decide) (by decide))
        obtain ⟨sd1540, esd1540⟩ : ∃ x, x = h1531.2.1 170 3 := ⟨_, rfl⟩
        have rsd1540 : 0 ≤ sd1540 ∧ sd1540 ≤ 2000 := (by rw [esd1540]; exact mi_g k1539.1 (by decide) mr_170_3)
        obtain ⟨sd1541, esd1541⟩ : ∃ x, x = h1531.2.1 170 4 := ⟨_, rfl⟩
        have rsd1541 : 0 ≤ sd1541 ∧ sd1541 ≤ 6 := (by rw [esd1541]; exact mi_g k1539.1 (by decide) mr_170_4)
        exact A_zret d_MD_voicePart_206 (by decide) rfl (by first | (clear hps; omega) | omega) ⟨_, rfl, by first | (clear hps; omega) | omega, (fun hz => ⟨by first | (clear hps; omega) | omega, (by have qq0 := esd1540.symm; have qq1 := ((k1537.2.2.1 _ _ rfl).trans ((eh1529.1 _ _ (fun _ => by decide)).trans ((k1526.2.2.1 _ _ rfl).trans ((eh1517.1 _ _ (fun q => absurd q (by decide))).trans ((eh1510.1 _ _ (fun q => absurd q (by decide))).trans esd2.symm))))); have qq2 := esd1541.symm; exact ⟨by first | (clear hps; omega) | omega, by first | (clear hps; omega) | omega, by first | (clear hps; omega) | omega, by first | (clear hps; omega) | omega⟩), (by have qq0 := esd1540.symm; have qq1 := ((k1537.2.2.1 _ _ rfl).trans ((eh1529.1 _ _ (fun _ => by decide)).trans ((k1526.2.2.1 _ _ rfl).trans ((eh1517.1 _ _ (fun q => absurd q (by decide))).trans ((eh1510.1 _ _ (fun q => absurd q (by decide))).trans esd2.symm))))); have qq2 := esd1541.symm; have qq3 := ((k1537.2.2.1 _ _ rfl).trans ((eh1529.1 _ _ (fun _ => by decide)).trans xk1526.1)); exact ⟨by first | (clear hps; omega) | omega, by first | (clear hps; omega) | omega⟩), VH_c (x := sd3) (m := sd4) (p := x1509) (c := 6) hVH esd3.symm esd4.symm (by first | (clear hps; omega) | omega) ex1509.symm ((k1537.2.2.1 _ _ rfl).trans ((eh1529.1 _ _ (fun _ => by decide)).trans xk1526.1)) ((k1537.2.2.1 _ _ rfl).trans eh1529.2.1) (by have q1 := ex721; first | (clear hps; omega) | omega) (fun k hk => ((k1537.2.2.1 201 k rfl).trans ((eh1529.1 201 k (fun q => absurd q (by decide))).trans ((xk1526.2.1 k hk).trans ((eh1517.1 201 k (fun q => absurd q (by decide))).trans (eh1510.1 201 k (fun q => absurd q (by decide)))))))) ((k1537.2.2.1 _ _ rfl).trans ((eh1529.1 _ _ (fun q => absurd q (by decide))).trans xk1526.2.2)) (fun k hk hk2 => ((k1537.2.2.1 210 k rfl).trans ((eh1529.1 210 k (fun q => absurd q (by decide))).trans ((k1526.2.2.1 210 k rfl).trans ((eh1517.1 210 k (fun _ => hk2)).trans (eh1510.1 210 k (fun _ => hk))))))) (((k1537.2.2.1 210 (sd3).toNat rfl).trans ((eh1529.1 210 (sd3).toNat (fun q => absurd q (by decide))).trans (k1526.2.2.1 210 (sd3).toNat rfl))).trans ((eh1517.1 210 (sd3).toNat (fun _ => by first | (clear hps; omega) | omega)).trans eh1510.2.1)) ((k1537.2.2.1 _ _ rfl).trans ((eh1529.1 _ _ (fun q => absurd q (by decide))).trans ((k1526.2.2.1 _ _ rfl).trans eh1517.2.1))) (by intro a ha; simp only [List.mem_cons, List.not_mem_nil, or_false] at ha; rcases ha with rfl | rfl | rfl | rfl | rfl | rfl | rfl | rfl ; exact (funext (fun k => ((k1537.2.2.1 202 k rfl).trans ((eh1529.1 202 k (fun q => absurd q (by decide))).trans ((k1526.2.2.1 202 k rfl).trans ((eh1517.1 202 k (fun q => absurd q (by decide))).trans (eh1510.1 202 k (fun q => absurd q (by decide))))))))) ; exact (funext (fun k => ((k1537.2.2.1 203 k rfl).trans ((eh1529.1 203 k (fun q => absurd q (by decide))).trans ((k1526.2.2.1 203 k rfl).trans ((eh1517.1 203 k (fun q => absurd q (by decide))).trans (eh1510.1 203 k (fun q => absurd q (by decide))))))))) ; exact (funext (fun k => ((k1537.2.2.1 211 k rfl).trans ((eh1529.1 211 k (fun q => absurd q (by decide))).trans ((k1526.2.2.1 211 k rfl).trans ((eh1517.1 211 k (fun q => absurd q (by decide))).trans (eh1510.1 211 k (fun q => absurd q (by decide))))))))) ; exact (funext (fun k => ((k1537.2.2.1 212 k rfl).trans ((eh1529.1 212 k (fun q => absurd q (by decide))).trans ((k1526.2.2.1 212 k rfl).trans ((eh1517.1 212 k (fun q => absurd q (by decide))).trans (eh1510.1 212 k (fun q => absurd q (by decide))))))))) ; exact (funext (fun k => ((k1537.2.2.1 213 k rfl).trans ((eh1529.1 213 k (fun q => absurd q (by decide))).trans ((k1526.2.2.1 213 k rfl).trans ((eh1517.1 213 k (fun q => absurd q (by decide))).trans (eh1510.1 213 k (fun q => absurd q (by decide))))))))) ; exact (funext (fun k => ((k1537.2.2.1 214 k rfl).trans ((eh1529.1 214 k (fun q => absurd q (by decide))).trans ((k1526.2.2.1 214 k rfl).trans ((eh1517.1 214 k (fun q => absurd q (by decide))).trans (eh1510.1 214 k (fun q => absurd q (by decide))))))))) ; exact (funext (fun k => ((k1537.2.2.1 215 k rfl).trans ((eh1529.1 215 k (fun q => absurd q (by decide))).trans ((k1526.2.2.1 215 k rfl).trans ((eh1517.1 215 k (fun q => absurd q (by decide))).trans (eh1510.1 215 k (fun q => absurd q (by decide))))))))) ; exact (funext (fun k => ((k1537.2.2.1 216 k rfl).trans ((eh1529.1 216 k (fun q => absurd q (by decide))).trans ((k1526.2.2.1 216 k rfl).trans ((eh1517.1 216 k (fun q => absurd q (by decide))).trans (eh1510.1 216 k (fun q => absurd q (by decide))))))))))⟩), k1539⟩
    · refine A_iconst d_MD_voicePart_22 rfl ?_
      refine A_goto (tgt := 27) d_MD_voicePart_23 (by decide) ?_
      refine A_istore_n 1 (L' := [some (av_R (some 170)), some (av_I 1), none]) d_MD_voicePart_27 rfl (Nat.le_of_ble_eq_true rfl) rfl ?_
      refine A_iload_n 1 d_MD_voicePart_28 rfl rfl ?_
      refine A_if_eq (tgt := 120) d_MD_voicePart_29 (by decide) (fun c => absurd c (by decide)) (fun _ => ?_)
      refine A_aload_n 0 d_MD_voicePart_32 rfl rfl ?_
      refine A_bipush d_MD_voicePart_33 rfl ?_
      have zf1544 := esd1.symm
      have zf1545 := esd2.symm
      have zf1546 := esd3.symm
      have zf1547 := esd4.symm
      have zf1548 := esd5.symm
      refine A_callV1 m_MD_isSign T_ok d_MD_voicePart_35 l_MD_306 k_MD_isSign (mi_s k0.1 sf_170) rfl (by decide +kernel) (by decide) (Nat.le_of_ble_eq_true rfl) (s_MD_isSign k0.1 ) (fun r h1543 hq => ?_)
      obtain ⟨x1550, rfl, bx1550, xx1550, rfl⟩ := hq
      refine A_if_eq (tgt := 120) d_MD_voicePart_38 (by decide) (fun c1551 => ?_) (fun c1551 => ?_)
      · refine A_aload_n 0 d_MD_voicePart_120 rfl rfl ?_
        refine A_iload_n 1 d_MD_voicePart_121 rfl rfl ?_
        refine A_if_eq (tgt := 130) d_MD_voicePart_122 (by decide) (fun c => absurd c (by decide)) (fun _ => ?_)
        refine A_bipush d_MD_voicePart_125 rfl ?_
        refine A_goto (tgt := 132) d_MD_voicePart_127 (by decide) ?_
        have zf1554 := esd1.symm
        have zf1555 := esd2.symm
        have zf1556 := esd3.symm
        have zf1557 := esd4.symm
        have zf1558 := esd5.symm
        refine A_callV1 m_MD_isSign T_ok d_MD_voicePart_132 l_MD_306 k_MD_isSign (mi_s k0.1 sf_170) rfl (by decide +kernel) (by decide) (Nat.le_of_ble_eq_true rfl) (s_MD_isSign k0.1 ) (fun r h1553 hq => ?_)
        obtain ⟨x1560, rfl, bx1560, xx1560, rfl⟩ := hq
        refine A_if_eq (tgt := 207) d_MD_voicePart_135 (by decide) (fun c1561 => ?_) (fun c1561 => ?_)
        · refine A_aload_n 0 d_MD_voicePart_207 rfl rfl ?_
          refine A_getIv (z := sd5) T_ok d_MD_voicePart_208 f_MD_239 (mi_s k0.1 sf_170) esd5.symm ?_
          refine A_iconst d_MD_voicePart_211 rfl ?_
          refine A_icmp_eq (tgt := 259) d_MD_voicePart_212 (by decide) (fun c1563 => ?_) (fun c1563 => ?_)
          · refine A_iconst d_MD_voicePart_259 rfl ?_
            refine A_goto (tgt := 264) d_MD_voicePart_260 (by decide) ?_
            refine A_istore_n 1 (L' := [some (av_R (some 170)), some (av_I 1), none]) d_MD_voicePart_264 rfl (Nat.le_of_ble_eq_true rfl) rfl ?_
            refine A_iload_n 1 d_MD_voicePart_265 rfl rfl ?_
            refine A_if_ne (tgt := 274) d_MD_voicePart_266 (by decide) (fun _ => ?_) (fun c => absurd c (by decide))
            refine A_aload_n 0 d_MD_voicePart_274 rfl rfl ?_
            refine A_getIv (z := sd4) T_ok d_MD_voicePart_275 f_MD_357 (mi_s k0.1 sf_170) esd4.symm ?_
            refine A_bipush d_MD_voicePart_278 rfl ?_
            refine A_icmp_le (tgt := 293) d_MD_voicePart_280 (by decide) (fun c1566 => ?_) (fun c1566 => ?_)
            · refine A_aload_n 0 d_MD_voicePart_293 rfl rfl ?_
              refine A_bipush d_MD_voicePart_294 rfl ?_
              have zf1568 := esd1.symm
              have zf1569 := esd2.symm
              have zf1570 := esd3.symm
              have zf1571 := esd4.symm
              have zf1572 := esd5.symm
              refine A_callV1 m_MD_isSign T_ok d_MD_voicePart_296 l_MD_306 k_MD_isSign (mi_s k0.1 sf_170) rfl (by decide +kernel) (by decide) (Nat.le_of_ble_eq_true rfl) (s_MD_isSign k0.1 ) (fun r h1567 hq => ?_)
              obtain ⟨x1574, rfl, bx1574, xx1574, rfl⟩ := hq
              refine A_if_eq (tgt := 312) d_MD_voicePart_299 (by decide) (fun c1575 => ?_) (fun c1575 => ?_)
              · refine A_aload_n 0 d_MD_voicePart_312 rfl rfl ?_
                refine A_bipush d_MD_voicePart_313 rfl ?_
                have zf1577 := esd1.symm
                have zf1578 := esd2.symm
                have zf1579 := esd3.symm
                have zf1580 := esd4.symm
                have zf1581 := esd5.symm
                refine A_callV1 m_MD_isSign T_ok d_MD_voicePart_315 l_MD_306 k_MD_isSign (mi_s k0.1 sf_170) rfl (by decide +kernel) (by decide) (Nat.le_of_ble_eq_true rfl) (s_MD_isSign k0.1 ) (fun r h1576 hq => ?_)
                obtain ⟨x1583, rfl, bx1583, xx1583, rfl⟩ := hq
                refine A_if_eq (tgt := 374) d_MD_voicePart_318 (by decide) (fun c1584 => ?_) (fun c1584 => ?_)
                · refine A_aload_n 0 d_MD_voicePart_374 rfl rfl ?_
                  refine A_bipush d_MD_voicePart_375 rfl ?_
                  have zf1586 := esd1.symm
                  have zf1587 := esd2.symm
                  have zf1588 := esd3.symm
                  have zf1589 := esd4.symm
                  have zf1590 := esd5.symm
                  refine A_callV1 m_MD_isSign T_ok d_MD_voicePart_377 l_MD_306 k_MD_isSign (mi_s k0.1 sf_170) rfl (by decide +kernel) (by decide) (Nat.le_of_ble_eq_true rfl) (s_MD_isSign k0.1 ) (fun r h1585 hq => ?_)
                  obtain ⟨x1592, rfl, bx1592, xx1592, rfl⟩ := hq
                  refine A_if_eq (tgt := 388) d_MD_voicePart_380 (by decide) (fun c1593 => ?_) (fun c1593 => ?_)
                  · refine A_aload_n 0 d_MD_voicePart_388 rfl rfl ?_
                    have zf1595 := esd1.symm
                    have zf1596 := esd2.symm
                    have zf1597 := esd3.symm
                    have zf1598 := esd4.symm
                    have zf1599 := esd5.symm
                    refine A_callV0 m_MD_soundPart T_ok d_MD_voicePart_389 l_MD_375 k_MD_soundPart (mi_s k0.1 sf_170) rfl (by decide +kernel) (by decide) (Nat.le_of_ble_eq_true rfl) (s_MD_soundPart k0.1 (by have qq0 := esd1.symm; have qq1 := esd2.symm; first | (clear hps; omega) | omega) (by have qq0 := esd1.symm; have qq1 := esd2.symm; have qq2 := esd5.symm; have qq3 := esd3.symm; exact ⟨by first | (clear hps; omega) | omega, by first | (clear hps; omega) | omega⟩) (by have qq0 := esd5.symm; exact ⟨by first | (clear hps; omega) | omega, by first | (clear hps; omega) | omega⟩) hVH) (fun r h1594 hq => ?_)
                    obtain ⟨x1601, rfl, bx1601, xx1601, k1600⟩ := hq
                    have k1602 := kM_t k0 k1600 (pm_s (by decide) (by decide))
                    obtain ⟨sd1603, esd1603⟩ : ∃ x, x = h1594.2.1 170 3 := ⟨_, rfl⟩
                    have rsd1603 : 0 ≤ sd1603 ∧ sd1603 ≤ 2000 := (by rw [esd1603]; exact mi_g k1602.1 (by decide) mr_170_3)
                    obtain ⟨sd1604, esd1604⟩ : ∃ x, x = h1594.2.1 170 43 := ⟨_, rfl⟩
                    have rsd1604 : 0 ≤ sd1604 ∧ sd1604 ≤ 2001 := (by rw [esd1604]; exact mi_g k1602.1 (by decide) mr_170_43)
                    obtain ⟨sd1605, esd1605⟩ : ∃ x, x = h1594.2.1 170 4 := ⟨_, rfl⟩
                    have rsd1605 : 0 ≤ sd1605 ∧ sd1605 ≤ 6 := (by rw [esd1605]; exact mi_g k1602.1 (by decide) mr_170_4)
                    exact A_zret d_MD_voicePart_392 (by decide) rfl (by first | (clear hps; omega) | omega) ⟨_, rfl, by first | (clear hps; omega) | omega, (fun hz => ⟨by first | (clear hps; omega) | omega, (by have qq0 := esd1603.symm; have qq1 := ((k1600.2.2.1 _ _ rfl).trans esd2.symm); have qq2 := esd1605.symm; exact ⟨by first | (clear hps; omega) | omega, by first | (clear hps; omega) | omega, by first | (clear hps; omega) | omega, by first | (clear hps; omega) | omega⟩), (by have qq0 := esd1603.symm; have qq1 := ((k1600.2.2.1 _ _ rfl).trans esd2.symm); have qq2 := esd1605.symm; have qq3 := esd1604.symm; exact ⟨by first | (clear hps; omega) | omega, by first | (clear hps; omega) | omega⟩), (xx1601 hz).2.2⟩), k1602⟩
                  · refine A_aload_n 0 d_MD_voicePart_383 rfl rfl ?_
                    have zf1607 := esd1.symm
                    have zf1608 := esd2.symm
                    have zf1609 := esd3.symm
                    have zf1610 := esd4.symm
                    have zf1611 := esd5.symm
                    refine A_callV0 m_MD_timesPart T_ok d_MD_voicePart_384 l_MD_372 k_MD_timesPart (mi_s k0.1 sf_170) rfl (by decide +kernel) (by decide) (Nat.le_of_ble_eq_true rfl) (s_MD_timesPart k0.1 (by have qq0 := esd1.symm; have qq1 := esd2.symm; first | (clear hps; omega) | omega) (by have qq0 := esd1.symm; have qq1 := esd2.symm; have qq2 := esd5.symm; have qq3 := esd3.symm; exact ⟨by first | (clear hps; omega) | omega, by first | (clear hps; omega) | omega⟩) (by have qq0 := esd5.symm; exact ⟨by first | (clear hps; omega) | omega, by first | (clear hps; omega) | omega⟩) hVH (by have qq0 := esd4.symm; first | (clear hps; omega) | omega)) (fun r h1606 hq => ?_)
                    obtain ⟨x1613, rfl, bx1613, xx1613, k1612⟩ := hq
                    have k1614 := kM_t k0 k1612 (pm_s (by decide) (by decide))
                    obtain ⟨sd1615, esd1615⟩ : ∃ x, x = h1606.2.1 170 3 := ⟨_, rfl⟩
                    have rsd1615 : 0 ≤ sd1615 ∧ sd1615 ≤ 2000 := (by rw [esd1615]; exact mi_g k1614.1 (by decide) mr_170_3)
                    obtain ⟨sd1616, esd1616⟩ : ∃ x, x = h1606.2.1 170 43 := ⟨_, rfl⟩
                    have rsd1616 : 0 ≤ sd1616 ∧ sd1616 ≤ 2001 := (by rw [esd1616]; exact mi_g k1614.1 (by decide) mr_170_43)
                    obtain ⟨sd1617, esd1617⟩ : ∃ x, x = h1606.2.1 170 63 := ⟨_, rfl⟩
                    have rsd1617 : 0 ≤ sd1617 ∧ sd1617 ≤ 7 := (by rw [esd1617]; exact mi_g k1614.1 (by decide) mr_170_63)
                    obtain ⟨sd1618, esd1618⟩ : ∃ x, x = h1606.2.1 170 4 := ⟨_, rfl⟩
                    have rsd1618 : 0 ≤ sd1618 ∧ sd1618 ≤ 6 := (by rw [esd1618]; exact mi_g k1614.1 (by decide) mr_170_4)
                    exact A_zret d_MD_voicePart_387 (by decide) rfl (by first | (clear hps; omega) | omega) ⟨_, rfl, by first | (clear hps; omega) | omega, (fun hz => ⟨by first | (clear hps; omega) | omega, (by have qq0 := esd1615.symm; have qq1 := ((k1612.2.2.1 _ _ rfl).trans esd2.symm); have qq2 := esd1618.symm; exact ⟨by first | (clear hps; omega) | omega, by first | (clear hps; omega) | omega, by first | (clear hps; omega) | omega, by first | (clear hps; omega) | omega⟩), (by have qq0 := esd1615.symm; have qq1 := ((k1612.2.2.1 _ _ rfl).trans esd2.symm); have qq2 := esd1618.symm; have qq3 := esd1616.symm; exact ⟨by first | (clear hps; omega) | omega, by first | (clear hps; omega) | omega⟩), (xx1613 hz).2.2⟩), k1614⟩
                · refine A_aload_n 0 d_MD_voicePart_321 rfl rfl ?_
                  refine A_getAv (z := some 215) T_ok d_MD_voicePart_322 f_MD_148 (mi_s k0.1 sf_170) (mi_r k0.1 rfm_58) ?_
                  refine A_aload_n 0 d_MD_voicePart_325 rfl rfl ?_
                  refine A_getIv (z := sd4) T_ok d_MD_voicePart_326 f_MD_357 (mi_s k0.1 sf_170) esd4.symm ?_
                  refine A_aload_n 0 d_MD_voicePart_329 rfl rfl ?_
                  refine A_pc (pc' := 330) rfl ?_
                  refine A_getIv (z := sd3) T_ok d_MD_voicePart_330 f_MD_354 (mi_s k0.1 sf_170) esd3.symm ?_
                  refine A_iastorek (KR := kM (pm [3, 4, 5, 6, 7, 8, 9, 10, 11, 12, 43, 63, 64] [201, 202, 203, 204, 205, 206, 207, 208, 209, 210, 211, 212, 213, 214, 215, 216]) h) d_MD_voicePart_333 (mi_s k0.1 sf_215) (by first | (clear hps; omega) | omega) (by first | (clear hps; omega) | omega) (kM_i k0 (by decide) rfl (mr_215 _) (by first | (clear hps; omega) | omega) (by first | (clear hps; omega) | omega)) (fun h1622 k1623 eh1622 => ?_)
                  refine A_aload_n 0 d_MD_voicePart_334 rfl rfl ?_
                  refine A_getAv (z := some 214) T_ok d_MD_voicePart_335 f_MD_145 (mi_s k1623.1 sf_170) (mi_r k1623.1 rfm_57) ?_
                  refine A_aload_n 0 d_MD_voicePart_338 rfl rfl ?_
                  refine A_getIv (z := sd3) T_ok d_MD_voicePart_339 f_MD_354 (mi_s k1623.1 sf_170) ((eh1622.1 _ _ (fun q => absurd q (by decide))).trans esd3.symm) ?_
                  refine A_pc (pc' := 342) rfl ?_
                  refine A_iconst d_MD_voicePart_342 rfl ?_
                  refine A_iastorek (KR := kM (pm [3, 4, 5, 6, 7, 8, 9, 10, 11, 12, 43, 63, 64] [201, 202, 203, 204, 205, 206, 207, 208, 209, 210, 211, 212, 213, 214, 215, 216]) h) d_MD_voicePart_343 (mi_s k1623.1 sf_214) (by first | (clear hps; omega) | omega) (by first | (clear hps; omega) | omega) (kM_i k1623 (by decide) rfl (mr_214 _) (by first | (clear hps; omega) | omega) (by first | (clear hps; omega) | omega)) (fun h1626 k1627 eh1626 => ?_)
                  refine A_aload_n 0 d_MD_voicePart_344 rfl rfl ?_
                  refine A_iconst d_MD_voicePart_345 rfl ?_
                  have zf1629 := ((eh1626.1 _ _ (fun q => absurd q (by decide))).trans ((eh1622.1 _ _ (fun q => absurd q (by decide))).trans esd1.symm))
                  have zf1630 := ((eh1626.1 _ _ (fun q => absurd q (by decide))).trans ((eh1622.1 _ _ (fun q => absurd q (by decide))).trans esd2.symm))
                  have zf1631 := ((eh1626.1 _ _ (fun q => absurd q (by decide))).trans ((eh1622.1 _ _ (fun q => absurd q (by decide))).trans esd3.symm))
                  have zf1632 := ((eh1626.1 _ _ (fun q => absurd q (by decide))).trans ((eh1622.1 _ _ (fun q => absurd q (by decide))).trans esd4.symm))
                  have zf1633 := ((eh1626.1 _ _ (fun q => absurd q (by decide))).trans ((eh1622.1 _ _ (fun q => absurd q (by decide))).trans esd5.symm))
                  refine A_callV1 m_MD_put T_ok d_MD_voicePart_346 l_MD_369 k_MD_put (mi_s k1627.1 sf_170) rfl (by decide +kernel) (by decide) (Nat.le_of_ble_eq_true rfl) (s_MD_put k1627.1 (by first | (clear hps; omega) | omega) (by first | (clear hps; omega) | omega) ((eh1626.1 _ _ (fun q => absurd q (by decide))).trans ((eh1622.1 _ _ (fun q => absurd q (by decide))).trans esd3.symm)) (by first | (clear hps; omega) | omega)) (fun r h1628 hq => ?_)
                  obtain ⟨rfl, xk1634, k1634⟩ := hq
                  have k1635 := kM_t k1627 k1634 (pm_s (by decide) (by decide))
                  refine A_aload_n 0 d_MD_voicePart_349 rfl rfl ?_
                  refine A_getAv (z := some 216) T_ok d_MD_voicePart_350 f_MD_151 (mi_s k1635.1 sf_170) (mi_r k1635.1 rfm_62) ?_
                  refine A_aload_n 0 d_MD_voicePart_353 rfl rfl ?_
                  refine A_getIv (z := sd4) T_ok d_MD_voicePart_354 f_MD_357 (mi_s k1635.1 sf_170) ((k1634.2.2.1 _ _ rfl).trans ((eh1626.1 _ _ (fun q => absurd q (by decide))).trans ((eh1622.1 _ _ (fun q => absurd q (by decide))).trans esd4.symm))) ?_
                  refine A_iconst d_MD_voicePart_357 rfl ?_
                  refine A_pc (pc' := 358) rfl ?_
                  refine A_iastorek (KR := kM (pm [3, 4, 5, 6, 7, 8, 9, 10, 11, 12, 43, 63, 64] [201, 202, 203, 204, 205, 206, 207, 208, 209, 210, 211, 212, 213, 214, 215, 216]) h) d_MD_voicePart_358 (mi_s k1635.1 sf_216) (by first | (clear hps; omega) | omega) (by first | (clear hps; omega) | omega) (kM_i k1635 (by decide) rfl (mr_216 _) (by first | (clear hps; omega) | omega) (by first | (clear hps; omega) | omega)) (fun h1638 k1639 eh1638 => ?_)
                  refine A_aload_n 0 d_MD_voicePart_359 rfl rfl ?_
                  refine A_dupR d_MD_voicePart_360 ?_
                  refine A_getIv (z := sd4) T_ok d_MD_voicePart_361 f_MD_357 (mi_s k1639.1 sf_170) ((eh1638.1 _ _ (fun q => absurd q (by decide))).trans ((k1634.2.2.1 _ _ rfl).trans ((eh1626.1 _ _ (fun q => absurd q (by decide))).trans ((eh1622.1 _ _ (fun q => absurd q (by decide))).trans esd4.symm)))) ?_
                  refine A_iconst d_MD_voicePart_364 rfl ?_
                  refine A_iaddv (z := (sd4 + 1)) d_MD_voicePart_365 (w32_to (by first | (clear hps; omega) | omega) (by unfold i32; first | (clear hps; omega) | omega)) ?_
                  refine A_pc (pc' := 366) rfl ?_
                  refine A_putIk (KR := kM (pm [3, 4, 5, 6, 7, 8, 9, 10, 11, 12, 43, 63, 64] [201, 202, 203, 204, 205, 206, 207, 208, 209, 210, 211, 212, 213, 214, 215, 216]) h) T_ok d_MD_voicePart_366 f_MD_357 (mi_s k1639.1 sf_170) fin_f (kM_i k1639 (by decide) (by decide) mr_170_63 (by first | (clear hps; omega) | omega) (by first | (clear hps; omega) | omega)) (fun h1641 k1642 eh1641 => ?_)
                  refine A_aload_n 0 d_MD_voicePart_369 rfl rfl ?_
                  have zf1644 := ((eh1641.1 _ _ (fun _ => by decide)).trans ((eh1638.1 _ _ (fun q => absurd q (by decide))).trans ((k1634.2.2.1 _ _ rfl).trans ((eh1626.1 _ _ (fun q => absurd q (by decide))).trans ((eh1622.1 _ _ (fun q => absurd q (by decide))).trans esd1.symm)))))
                  have zf1645 := ((eh1641.1 _ _ (fun _ => by decide)).trans ((eh1638.1 _ _ (fun q => absurd q (by decide))).trans ((k1634.2.2.1 _ _ rfl).trans ((eh1626.1 _ _ (fun q => absurd q (by decide))).trans ((eh1622.1 _ _ (fun q => absurd q (by decide))).trans esd2.symm)))))
                  have zf1646 := ((eh1641.1 _ _ (fun _ => by decide)).trans ((eh1638.1 _ _ (fun q => absurd q (by decide))).trans xk1634.1))
                  have zf1647 := eh1641.2.1
                  have zf1648 := ((eh1641.1 _ _ (fun _ => by decide)).trans ((eh1638.1 _ _ (fun q => absurd q (by decide))).trans ((k1634.2.2.1 _ _ rfl).trans ((eh1626.1 _ _ (fun q => absurd q (by decide))).trans ((eh1622.1 _ _ (fun q => absurd q (by decide))).trans esd5.symm)))))
                  refine A_callV0 m_MD_next T_ok d_MD_voicePart_370 l_MD_309 k_MD_next (mi_s k1642.1 sf_170) rfl (by decide +kernel) (by decide) (Nat.le_of_ble_eq_true rfl) (s_MD_next k1642.1 (by have qq0 := ((eh1641.1 _ _ (fun _ => by decide)).trans ((eh1638.1 _ _ (fun q => absurd q (by decide))).trans ((k1634.2.2.1 _ _ rfl).trans ((eh1626.1 _ _ (fun q => absurd q (by decide))).trans ((eh1622.1 _ _ (fun q => absurd q (by decide))).trans esd1.symm))))); have qq1 := ((eh1641.1 _ _ (fun _ => by decide)).trans ((eh1638.1 _ _ (fun q => absurd q (by decide))).trans ((k1634.2.2.1 _ _ rfl).trans ((eh1626.1 _ _ (fun q => absurd q (by decide))).trans ((eh1622.1 _ _ (fun q => absurd q (by decide))).trans esd2.symm))))); first | (clear hps; omega) | omega)) (fun r h1643 hq => ?_)
                  obtain ⟨x1650, rfl, ⟨_, _⟩, xx1650, k1649⟩ := hq
                  have xa1650 := xx1650.1
                  have xb1650 := xx1650.2.1
                  have k1651 := kM_t k1642 k1649 (pm_s (by decide) (by decide))
                  obtain ⟨sd1652, esd1652⟩ : ∃ x, x = h1643.2.1 170 3 := ⟨_, rfl⟩
                  have rsd1652 : 0 ≤ sd1652 ∧ sd1652 ≤ 2000 := (by rw [esd1652]; exact mi_g k1651.1 (by decide) mr_170_3)
                  obtain ⟨sd1653, esd1653⟩ : ∃ x, x = h1643.2.1 170 4 := ⟨_, rfl⟩
                  have rsd1653 : 0 ≤ sd1653 ∧ sd1653 ≤ 6 := (by rw [esd1653]; exact mi_g k1651.1 (by decide) mr_170_4)
                  exact A_zret d_MD_voicePart_373 (by decide) rfl (by first | (clear hps; omega) | omega) ⟨_, rfl, by first | (clear hps; omega) | omega, (fun hz => ⟨by first | (clear hps; omega) | omega, (by have qq0 := esd1652.symm; have qq1 := ((k1649.2.2.1 _ _ rfl).trans ((eh1641.1 _ _ (fun _ => by decide)).trans ((eh1638.1 _ _ (fun q => absurd q (by decide))).trans ((k1634.2.2.1 _ _ rfl).trans ((eh1626.1 _ _ (fun q => absurd q (by decide))).trans ((eh1622.1 _ _ (fun q => absurd q (by decide))).trans esd2.symm)))))); have qq2 := esd1653.symm; exact ⟨by first | (clear hps; omega) | omega, by first | (clear hps; omega) | omega, by first | (clear hps; omega) | omega, by first | (clear hps; omega) | omega⟩), (by have qq0 := esd1652.symm; have qq1 := ((k1649.2.2.1 _ _ rfl).trans ((eh1641.1 _ _ (fun _ => by decide)).trans ((eh1638.1 _ _ (fun q => absurd q (by decide))).trans ((k1634.2.2.1 _ _ rfl).trans ((eh1626.1 _ _ (fun q => absurd q (by decide))).trans ((eh1622.1 _ _ (fun q => absurd q (by decide))).trans esd2.symm)))))); have qq2 := esd1653.symm; have qq3 := ((k1649.2.2.1 _ _ rfl).trans ((eh1641.1 _ _ (fun _ => by decide)).trans ((eh1638.1 _ _ (fun q => absurd q (by decide))).trans xk1634.1))); exact ⟨by first | (clear hps; omega) | omega, by first | (clear hps; omega) | omega⟩), VH_o (x := sd3) (m := sd4) (c := 2) hVH esd3.symm esd4.symm (by first | (clear hps; omega) | omega) ((k1649.2.2.1 _ _ rfl).trans ((eh1641.1 _ _ (fun _ => by decide)).trans ((eh1638.1 _ _ (fun q => absurd q (by decide))).trans xk1634.1))) ((k1649.2.2.1 _ _ rfl).trans eh1641.2.1) (by decide) (fun k hk => ((k1649.2.2.1 201 k rfl).trans ((eh1641.1 201 k (fun q => absurd q (by decide))).trans ((eh1638.1 201 k (fun q => absurd q (by decide))).trans ((xk1634.2.1 k hk).trans ((eh1626.1 201 k (fun q => absurd q (by decide))).trans (eh1622.1 201 k (fun q => absurd q (by decide))))))))) ((k1649.2.2.1 _ _ rfl).trans ((eh1641.1 _ _ (fun q => absurd q (by decide))).trans ((eh1638.1 _ _ (fun q => absurd q (by decide))).trans xk1634.2.2))) (fun k hk => ((k1649.2.2.1 202 k rfl).trans ((eh1641.1 202 k (fun q => absurd q (by decide))).trans ((eh1638.1 202 k (fun q => absurd q (by decide))).trans ((k1634.2.2.1 202 k rfl).trans ((eh1626.1 202 k (fun q => absurd q (by decide))).trans (eh1622.1 202 k (fun q => absurd q (by decide))))))))) (fun k hk => ((k1649.2.2.1 203 k rfl).trans ((eh1641.1 203 k (fun q => absurd q (by decide))).trans ((eh1638.1 203 k (fun q => absurd q (by decide))).trans ((k1634.2.2.1 203 k rfl).trans ((eh1626.1 203 k (fun q => absurd q (by decide))).trans (eh1622.1 203 k (fun q => absurd q (by decide))))))))) (fun q => absurd q (by decide)) (fun k hk => ((k1649.2.2.1 214 k rfl).trans ((eh1641.1 214 k (fun q => absurd q (by decide))).trans ((eh1638.1 214 k (fun q => absurd q (by decide))).trans ((k1634.2.2.1 214 k rfl).trans ((eh1626.1 214 k (fun _ => hk)).trans (eh1622.1 214 k (fun q => absurd q (by decide))))))))) (fun _ => ((k1649.2.2.1 _ _ rfl).trans ((eh1641.1 _ _ (fun q => absurd q (by decide))).trans ((eh1638.1 _ _ (fun q => absurd q (by decide))).trans ((k1634.2.2.1 _ _ rfl).trans eh1626.2.1))))) (fun k hk => ((k1649.2.2.1 215 k rfl).trans ((eh1641.1 215 k (fun q => absurd q (by decide))).trans ((eh1638.1 215 k (fun q => absurd q (by decide))).trans ((k1634.2.2.1 215 k rfl).trans ((eh1626.1 215 k (fun q => absurd q (by decide))).trans (eh1622.1 215 k (fun _ => hk)))))))) ((k1649.2.2.1 _ _ rfl).trans ((eh1641.1 _ _ (fun q => absurd q (by decide))).trans ((eh1638.1 _ _ (fun q => absurd q (by decide))).trans ((k1634.2.2.1 _ _ rfl).trans ((eh1626.1 _ _ (fun q => absurd q (by decide))).trans eh1622.2.1))))) (fun k hk => ((k1649.2.2.1 216 k rfl).trans ((eh1641.1 216 k (fun q => absurd q (by decide))).trans ((eh1638.1 216 k (fun _ => hk)).trans ((k1634.2.2.1 216 k rfl).trans ((eh1626.1 216 k (fun q => absurd q (by decide))).trans (eh1622.1 216 k (fun q => absurd q (by decide))))))))) ((k1649.2.2.1 _ _ rfl).trans ((eh1641.1 _ _ (fun q => absurd q (by decide))).trans eh1638.2.1)) (by intro a ha; simp only [List.mem_cons, List.not_mem_nil, or_false] at ha; rcases ha with rfl | rfl | rfl | rfl ; exact (funext (fun k => ((k1649.2.2.1 210 k rfl).trans ((eh1641.1 210 k (fun q => absurd q (by decide))).trans ((eh1638.1 210 k (fun q => absurd q (by decide))).trans ((k1634.2.2.1 210 k rfl).trans ((eh1626.1 210 k (fun q => absurd q (by decide))).trans (eh1622.1 210 k (fun q => absurd q (by decide)))))))))) ; exact (funext (fun k => ((k1649.2.2.1 211 k rfl).trans ((eh1641.1 211 k (fun q => absurd q (by decide))).trans ((eh1638.1 211 k (fun q => absurd q (by decide))).trans ((k1634.2.2.1 211 k rfl).trans ((eh1626.1 211 k (fun q => absurd q (by decide))).trans (eh1622.1 211 k (fun q => absurd q (by decide)))))))))) ; exact (funext (fun k => ((k1649.2.2.1 212 k rfl).trans ((eh1641.1 212 k (fun q => absurd q (by decide))).trans ((eh1638.1 212 k (fun q => absurd q (by decide))).trans ((k1634.2.2.1 212 k rfl).trans ((eh1626.1 212 k (fun q => absurd q (by decide))).trans (eh1622.1 212 k (fun q => absurd q (by decide)))))))))) ; exact (funext (fun k => ((k1649.2.2.1 213 k rfl).trans ((eh1641.1 213 k (fun q => absurd q (by decide))).trans ((eh1638.1 213 k (fun q => absurd q (by decide))).trans ((k1634.2.2.1 213 k rfl).trans ((eh1626.1 213 k (fun q => absurd q (by decide))).trans (eh1622.1 213 k (fun q => absurd q (by decide)))))))))))⟩), k1651⟩
              · refine A_aload_n 0 d_MD_voicePart_302 rfl rfl ?_
                refine A_iconst d_MD_voicePart_303 rfl ?_
                have zf1655 := esd1.symm
                have zf1656 := esd2.symm
                have zf1657 := esd3.symm
                have zf1658 := esd4.symm
                have zf1659 := esd5.symm
                refine A_callV1 m_MD_put T_ok d_MD_voicePart_304 l_MD_369 k_MD_put (mi_s k0.1 sf_170) rfl (by decide +kernel) (by decide) (Nat.le_of_ble_eq_true rfl) (s_MD_put k0.1 (by first | (clear hps; omega) | omega) (by first | (clear hps; omega) | omega) esd3.symm (by first | (clear hps; omega) | omega)) (fun r h1654 hq => ?_)
                obtain ⟨rfl, xk1660, k1660⟩ := hq
                have k1661 := kM_t k0 k1660 (pm_s (by decide) (by decide))
                refine A_aload_n 0 d_MD_voicePart_307 rfl rfl ?_
                have zf1663 := ((k1660.2.2.1 _ _ rfl).trans esd1.symm)
                have zf1664 := ((k1660.2.2.1 _ _ rfl).trans esd2.symm)
                have zf1665 := xk1660.1
                have zf1666 := ((k1660.2.2.1 _ _ rfl).trans esd4.symm)
                have zf1667 := ((k1660.2.2.1 _ _ rfl).trans esd5.symm)
                refine A_callV0 m_MD_next T_ok d_MD_voicePart_308 l_MD_309 k_MD_next (mi_s k1661.1 sf_170) rfl (by decide +kernel) (by decide) (Nat.le_of_ble_eq_true rfl) (s_MD_next k1661.1 (by have qq0 := ((k1660.2.2.1 _ _ rfl).trans esd1.symm); have qq1 := ((k1660.2.2.1 _ _ rfl).trans esd2.symm); first | (clear hps; omega) | omega)) (fun r h1662 hq => ?_)
                obtain ⟨x1669, rfl, ⟨_, _⟩, xx1669, k1668⟩ := hq
                have xa1669 := xx1669.1
                have xb1669 := xx1669.2.1
                have k1670 := kM_t k1661 k1668 (pm_s (by decide) (by decide))
                obtain ⟨sd1671, esd1671⟩ : ∃ x, x = h1662.2.1 170 3 := ⟨_, rfl⟩
                have rsd1671 : 0 ≤ sd1671 ∧ sd1671 ≤ 2000 := (by rw [esd1671]; exact mi_g k1670.1 (by decide) mr_170_3)
                obtain ⟨sd1672, esd1672⟩ : ∃ x, x = h1662.2.1 170 4 := ⟨_, rfl⟩
                have rsd1672 : 0 ≤ sd1672 ∧ sd1672 ≤ 6 := (by rw [esd1672]; exact mi_g k1670.1 (by decide) mr_170_4)
                exact A_zret d_MD_voicePart_311 (by decide) rfl (by first | (clear hps; omega) | omega) ⟨_, rfl, by first | (clear hps; omega) | omega, (fun hz => ⟨by first | (clear hps; omega) | omega, (by have qq0 := esd1671.symm; have qq1 := ((k1668.2.2.1 _ _ rfl).trans ((k1660.2.2.1 _ _ rfl).trans esd2.symm)); have qq2 := esd1672.symm; exact ⟨by first | (clear hps; omega) | omega, by first | (clear hps; omega) | omega, by first | (clear hps; omega) | omega, by first | (clear hps; omega) | omega⟩), (by have qq0 := esd1671.symm; have qq1 := ((k1668.2.2.1 _ _ rfl).trans ((k1660.2.2.1 _ _ rfl).trans esd2.symm)); have qq2 := esd1672.symm; have qq3 := ((k1668.2.2.1 _ _ rfl).trans xk1660.1); exact ⟨by first | (clear hps; omega) | omega, by first | (clear hps; omega) | omega⟩), VH_s (x := sd3) hVH esd3.symm ((k1668.2.2.1 _ _ rfl).trans xk1660.1) (((k1668.2.2.1 170 63 rfl).trans (k1660.2.2.1 170 63 rfl))) (fun k hk => ((k1668.2.2.1 201 k rfl).trans (xk1660.2.1 k hk))) (Or.inl ((k1668.2.2.1 _ _ rfl).trans xk1660.2.2)) (fun k hk => ((k1668.2.2.1 202 k rfl).trans (k1660.2.2.1 202 k rfl))) (by intro a ha; simp only [List.mem_cons, List.not_mem_nil, or_false] at ha; rcases ha with rfl | rfl | rfl | rfl | rfl | rfl | rfl | rfl ; exact (funext (fun k => ((k1668.2.2.1 203 k rfl).trans (k1660.2.2.1 203 k rfl)))) ; exact (funext (fun k => ((k1668.2.2.1 210 k rfl).trans (k1660.2.2.1 210 k rfl)))) ; exact (funext (fun k => ((k1668.2.2.1 211 k rfl).trans (k1660.2.2.1 211 k rfl)))) ; exact (funext (fun k => ((k1668.2.2.1 212 k rfl).trans (k1660.2.2.1 212 k rfl)))) ; exact (funext (fun k => ((k1668.2.2.1 213 k rfl).trans (k1660.2.2.1 213 k rfl)))) ; exact (funext (fun k => ((k1668.2.2.1 214 k rfl).trans (k1660.2.2.1 214 k rfl)))) ; exact (funext (fun k => ((k1668.2.2.1 215 k rfl).trans (k1660.2.2.1 215 k rfl)))) ; exact (funext (fun k => ((k1668.2.2.1 216 k rfl).trans (k1660.2.2.1 216 k rfl)))))⟩), k1670⟩
            · refine A_aload_n 0 d_MD_voicePart_283 rfl rfl ?_
              refine A_iconst d_MD_voicePart_284 rfl ?_
              refine A_aload_n 0 d_MD_voicePart_285 rfl rfl ?_
              refine A_getIn (lo := 0) (hi := 2000) T_ok d_MD_voicePart_286 f_MD_242 (mi_s k0.1 sf_170) (mi_g k0.1 (by decide) mr_170_5) (fun x1673 ex1673 _ _ => ?_)
              have zf1675 := esd1.symm
              have zf1676 := esd2.symm
              have zf1677 := esd3.symm
              have zf1678 := esd4.symm
              have zf1679 := esd5.symm
              refine A_callV2 m_MD_wrong T_ok d_MD_voicePart_289 l_MD_245 k_MD_wrong (mi_s k0.1 sf_170) rfl (by decide +kernel) (by decide) (Nat.le_of_ble_eq_true rfl) (s_MD_wrong k0.1 (by first | (clear hps; omega) | omega) (by first | (clear hps; omega) | omega) (by first | (clear hps; omega) | omega) (by first | (clear hps; omega) | omega)) (fun r h1674 hq => ?_)
              obtain ⟨x1681, rfl, ⟨_, _⟩, k1680⟩ := hq
              have k1682 := kM_t k0 k1680 (pm_s (by decide) (by decide))
              obtain rfl : x1681 = 0 := by first | (clear hps; omega) | omega
              exact A_zret d_MD_voicePart_292 (by decide) rfl (by first | (clear hps; omega) | omega) ⟨_, rfl, by first | (clear hps; omega) | omega, (fun q => absurd q (by decide)), k1682⟩
          · refine A_aload_n 0 d_MD_voicePart_215 rfl rfl ?_
            refine A_iconst d_MD_voicePart_216 rfl ?_
            have zf1684 := esd1.symm
            have zf1685 := esd2.symm
            have zf1686 := esd3.symm
            have zf1687 := esd4.symm
            have zf1688 := esd5.symm
            refine A_callV1 m_MD_isWord T_ok d_MD_voicePart_217 l_MD_326 k_MD_isWord (mi_s k0.1 sf_170) rfl (by decide +kernel) (by decide) (Nat.le_of_ble_eq_true rfl) (s_MD_isWord k0.1 ) (fun r h1683 hq => ?_)
            obtain ⟨x1690, rfl, bx1690, xx1690, rfl⟩ := hq
            refine A_if_ne (tgt := 259) d_MD_voicePart_220 (by decide) (fun c1691 => ?_) (fun c1691 => ?_)
            · refine A_iconst d_MD_voicePart_259 rfl ?_
              refine A_goto (tgt := 264) d_MD_voicePart_260 (by decide) ?_
              refine A_istore_n 1 (L' := [some (av_R (some 170)), some (av_I 1), none]) d_MD_voicePart_264 rfl (Nat.le_of_ble_eq_true rfl) rfl ?_
              refine A_iload_n 1 d_MD_voicePart_265 rfl rfl ?_
              refine A_if_ne (tgt := 274) d_MD_voicePart_266 (by decide) (fun _ => ?_) (fun c => absurd c (by decide))
              refine A_aload_n 0 d_MD_voicePart_274 rfl rfl ?_
              refine A_getIv (z := sd4) T_ok d_MD_voicePart_275 f_MD_357 (mi_s k0.1 sf_170) esd4.symm ?_
              refine A_bipush d_MD_voicePart_278 rfl ?_
              refine A_icmp_le (tgt := 293) d_MD_voicePart_280 (by decide) (fun c1694 => ?_) (fun c1694 => ?_)
              · refine A_aload_n 0 d_MD_voicePart_293 rfl rfl ?_
                refine A_bipush d_MD_voicePart_294 rfl ?_
                have zf1696 := esd1.symm
                have zf1697 := esd2.symm
                have zf1698 := esd3.symm
                have zf1699 := esd4.symm
                have zf1700 := esd5.symm
                refine A_callV1 m_MD_isSign T_ok d_MD_voicePart_296 l_MD_306 k_MD_isSign (mi_s k0.1 sf_170) rfl (by decide +kernel) (by decide) (Nat.le_of_ble_eq_true rfl) (s_MD_isSign k0.1 ) (fun r h1695 hq => ?_)
                obtain ⟨x1702, rfl, bx1702, xx1702, rfl⟩ := hq
                refine A_if_eq (tgt := 312) d_MD_voicePart_299 (by decide) (fun c1703 => ?_) (fun c1703 => ?_)
                · refine A_aload_n 0 d_MD_voicePart_312 rfl rfl ?_
                  refine A_bipush d_MD_voicePart_313 rfl ?_
                  have zf1705 := esd1.symm
                  have zf1706 := esd2.symm
                  have zf1707 := esd3.symm
                  have zf1708 := esd4.symm
                  have zf1709 := esd5.symm
                  refine A_callV1 m_MD_isSign T_ok d_MD_voicePart_315 l_MD_306 k_MD_isSign (mi_s k0.1 sf_170) rfl (by decide +kernel) (by decide) (Nat.le_of_ble_eq_true rfl) (s_MD_isSign k0.1 ) (fun r h1704 hq => ?_)
                  obtain ⟨x1711, rfl, bx1711, xx1711, rfl⟩ := hq
                  refine A_if_eq (tgt := 374) d_MD_voicePart_318 (by decide) (fun c1712 => ?_) (fun c1712 => ?_)
                  · refine A_aload_n 0 d_MD_voicePart_374 rfl rfl ?_
                    refine A_bipush d_MD_voicePart_375 rfl ?_
                    have zf1714 := esd1.symm
                    have zf1715 := esd2.symm
                    have zf1716 := esd3.symm
                    have zf1717 := esd4.symm
                    have zf1718 := esd5.symm
                    refine A_callV1 m_MD_isSign T_ok d_MD_voicePart_377 l_MD_306 k_MD_isSign (mi_s k0.1 sf_170) rfl (by decide +kernel) (by decide) (Nat.le_of_ble_eq_true rfl) (s_MD_isSign k0.1 ) (fun r h1713 hq => ?_)
                    obtain ⟨x1720, rfl, bx1720, xx1720, rfl⟩ := hq
                    refine A_if_eq (tgt := 388) d_MD_voicePart_380 (by decide) (fun c1721 => ?_) (fun c1721 => ?_)
                    · refine A_aload_n 0 d_MD_voicePart_388 rfl rfl ?_
                      have zf1723 := esd1.symm
                      have zf1724 := esd2.symm
                      have zf1725 := esd3.symm
                      have zf1726 := esd4.symm
                      have zf1727 := esd5.symm
                      refine A_callV0 m_MD_soundPart T_ok d_MD_voicePart_389 l_MD_375 k_MD_soundPart (mi_s k0.1 sf_170) rfl (by decide +kernel) (by decide) (Nat.le_of_ble_eq_true rfl) (s_MD_soundPart k0.1 (by have qq0 := esd1.symm; have qq1 := esd2.symm; first | (clear hps; omega) | omega) (by have qq0 := esd1.symm; have qq1 := esd2.symm; have qq2 := esd5.symm; have qq3 := esd3.symm; exact ⟨by first | (clear hps; omega) | omega, by first | (clear hps; omega) | omega⟩) (by have qq0 := esd5.symm; exact ⟨by first | (clear hps; omega) | omega, by first | (clear hps; omega) | omega⟩) hVH) (fun r h1722 hq => ?_)
                      obtain ⟨x1729, rfl, bx1729, xx1729, k1728⟩ := hq
                      have k1730 := kM_t k0 k1728 (pm_s (by decide) (by decide))
                      obtain ⟨sd1731, esd1731⟩ : ∃ x, x = h1722.2.1 170 3 := ⟨_, rfl⟩
                      have rsd1731 : 0 ≤ sd1731 ∧ sd1731 ≤ 2000 := (by rw [esd1731]; exact mi_g k1730.1 (by decide) mr_170_3)
                      obtain ⟨sd1732, esd1732⟩ : ∃ x, x = h1722.2.1 170 43 := ⟨_, rfl⟩
                      have rsd1732 : 0 ≤ sd1732 ∧ sd1732 ≤ 2001 := (by rw [esd1732]; exact mi_g k1730.1 (by decide) mr_170_43)
                      obtain ⟨sd1733, esd1733⟩ : ∃ x, x = h1722.2.1 170 4 := ⟨_, rfl⟩
                      have rsd1733 : 0 ≤ sd1733 ∧ sd1733 ≤ 6 := (by rw [esd1733]; exact mi_g k1730.1 (by decide) mr_170_4)
                      exact A_zret d_MD_voicePart_392 (by decide) rfl (by first | (clear hps; omega) | omega) ⟨_, rfl, by first | (clear hps; omega) | omega, (fun hz => ⟨by first | (clear hps; omega) | omega, (by have qq0 := esd1731.symm; have qq1 := ((k1728.2.2.1 _ _ rfl).trans esd2.symm); have qq2 := esd1733.symm; exact ⟨by first | (clear hps; omega) | omega, by first | (clear hps; omega) | omega, by first | (clear hps; omega) | omega, by first | (clear hps; omega) | omega⟩), (by have qq0 := esd1731.symm; have qq1 := ((k1728.2.2.1 _ _ rfl).trans esd2.symm); have qq2 := esd1733.symm; have qq3 := esd1732.symm; exact ⟨by first | (clear hps; omega) | omega, by first | (clear hps; omega) | omega⟩), (xx1729 hz).2.2⟩), k1730⟩
                    · refine A_aload_n 0 d_MD_voicePart_383 rfl rfl ?_
                      have zf1735 := esd1.symm
                      have zf1736 := esd2.symm
                      have zf1737 := esd3.symm
                      have zf1738 := esd4.symm
                      have zf1739 := esd5.symm
                      refine A_callV0 m_MD_timesPart T_ok d_MD_voicePart_384 l_MD_372 k_MD_timesPart (mi_s k0.1 sf_170) rfl (by decide +kernel) (by decide) (Nat.le_of_ble_eq_true rfl) (s_MD_timesPart k0.1 (by have qq0 := esd1.symm; have qq1 := esd2.symm; first | (clear hps; omega) | omega) (by have qq0 := esd1.symm; have qq1 := esd2.symm; have qq2 := esd5.symm; have qq3 := esd3.symm; exact ⟨by first | (clear hps; omega) | omega, by first | (clear hps; omega) | omega⟩) (by have qq0 := esd5.symm; exact ⟨by first | (clear hps; omega) | omega, by first | (clear hps; omega) | omega⟩) hVH (by have qq0 := esd4.symm; first | (clear hps; omega) | omega)) (fun r h1734 hq => ?_)
                      obtain ⟨x1741, rfl, bx1741, xx1741, k1740⟩ := hq
                      have k1742 := kM_t k0 k1740 (pm_s (by decide) (by decide))
                      obtain ⟨sd1743, esd1743⟩ : ∃ x, x = h1734.2.1 170 3 := ⟨_, rfl⟩
                      have rsd1743 : 0 ≤ sd1743 ∧ sd1743 ≤ 2000 := (by rw [esd1743]; exact mi_g k1742.1 (by decide) mr_170_3)
                      obtain ⟨sd1744, esd1744⟩ : ∃ x, x = h1734.2.1 170 43 := ⟨_, rfl⟩
                      have rsd1744 : 0 ≤ sd1744 ∧ sd1744 ≤ 2001 := (by rw [esd1744]; exact mi_g k1742.1 (by decide) mr_170_43)
                      obtain ⟨sd1745, esd1745⟩ : ∃ x, x = h1734.2.1 170 63 := ⟨_, rfl⟩
                      have rsd1745 : 0 ≤ sd1745 ∧ sd1745 ≤ 7 := (by rw [esd1745]; exact mi_g k1742.1 (by decide) mr_170_63)
                      obtain ⟨sd1746, esd1746⟩ : ∃ x, x = h1734.2.1 170 4 := ⟨_, rfl⟩
                      have rsd1746 : 0 ≤ sd1746 ∧ sd1746 ≤ 6 := (by rw [esd1746]; exact mi_g k1742.1 (by decide) mr_170_4)
                      exact A_zret d_MD_voicePart_387 (by decide) rfl (by first | (clear hps; omega) | omega) ⟨_, rfl, by first | (clear hps; omega) | omega, (fun hz => ⟨by first | (clear hps; omega) | omega, (by have qq0 := esd1743.symm; have qq1 := ((k1740.2.2.1 _ _ rfl).trans esd2.symm); have qq2 := esd1746.symm; exact ⟨by first | (clear hps; omega) | omega, by first | (clear hps; omega) | omega, by first | (clear hps; omega) | omega, by first | (clear hps; omega) | omega⟩), (by have qq0 := esd1743.symm; have qq1 := ((k1740.2.2.1 _ _ rfl).trans esd2.symm); have qq2 := esd1746.symm; have qq3 := esd1744.symm; exact ⟨by first | (clear hps; omega) | omega, by first | (clear hps; omega) | omega⟩), (xx1741 hz).2.2⟩), k1742⟩
                  · refine A_aload_n 0 d_MD_voicePart_321 rfl rfl ?_
                    refine A_getAv (z := some 215) T_ok d_MD_voicePart_322 f_MD_148 (mi_s k0.1 sf_170) (mi_r k0.1 rfm_58) ?_
                    refine A_aload_n 0 d_MD_voicePart_325 rfl rfl ?_
                    refine A_getIv (z := sd4) T_ok d_MD_voicePart_326 f_MD_357 (mi_s k0.1 sf_170) esd4.symm ?_
                    refine A_aload_n 0 d_MD_voicePart_329 rfl rfl ?_
                    refine A_pc (pc' := 330) rfl ?_
                    refine A_getIv (z := sd3) T_ok d_MD_voicePart_330 f_MD_354 (mi_s k0.1 sf_170) esd3.symm ?_
                    refine A_iastorek (KR := kM (pm [3, 4, 5, 6, 7, 8, 9, 10, 11, 12, 43, 63, 64] [201, 202, 203, 204, 205, 206, 207, 208, 209, 210, 211, 212, 213, 214, 215, 216]) h) d_MD_voicePart_333 (mi_s k0.1 sf_215) (by first | (clear hps; omega) | omega) (by first | (clear hps; omega) | omega) (kM_i k0 (by decide) rfl (mr_215 _) (by first | (clear hps; omega) | omega) (by first | (clear hps; omega) | omega)) (fun h1750 k1751 eh1750 => ?_)
                    refine A_aload_n 0 d_MD_voicePart_334 rfl rfl ?_
                    refine A_getAv (z := some 214) T_ok d_MD_voicePart_335 f_MD_145 (mi_s k1751.1 sf_170) (mi_r k1751.1 rfm_57) ?_
                    refine A_aload_n 0 d_MD_voicePart_338 rfl rfl ?_
                    refine A_getIv (z := sd3) T_ok d_MD_voicePart_339 f_MD_354 (mi_s k1751.1 sf_170) ((eh1750.1 _ _ (fun q => absurd q (by decide))).trans esd3.symm) ?_
                    refine A_pc (pc' := 342) rfl ?_
                    refine A_iconst d_MD_voicePart_342 rfl ?_
                    refine A_iastorek (KR := kM (pm [3, 4, 5, 6, 7, 8, 9, 10, 11, 12, 43, 63, 64] [201, 202, 203, 204, 205, 206, 207, 208, 209, 210, 211, 212, 213, 214, 215, 216]) h) d_MD_voicePart_343 (mi_s k1751.1 sf_214) (by first | (clear hps; omega) | omega) (by first | (clear hps; omega) | omega) (kM_i k1751 (by decide) rfl (mr_214 _) (by first | (clear hps; omega) | omega) (by first | (clear hps; omega) | omega)) (fun h1754 k1755 eh1754 => ?_)
                    refine A_aload_n 0 d_MD_voicePart_344 rfl rfl ?_
                    refine A_iconst d_MD_voicePart_345 rfl ?_
                    have zf1757 := ((eh1754.1 _ _ (fun q => absurd q (by decide))).trans ((eh1750.1 _ _ (fun q => absurd q (by decide))).trans esd1.symm))
                    have zf1758 := ((eh1754.1 _ _ (fun q => absurd q (by decide))).trans ((eh1750.1 _ _ (fun q => absurd q (by decide))).trans esd2.symm))
                    have zf1759 := ((eh1754.1 _ _ (fun q => absurd q (by decide))).trans ((eh1750.1 _ _ (fun q => absurd q (by decide))).trans esd3.symm))
                    have zf1760 := ((eh1754.1 _ _ (fun q => absurd q (by decide))).trans ((eh1750.1 _ _ (fun q => absurd q (by decide))).trans esd4.symm))
                    have zf1761 := ((eh1754.1 _ _ (fun q => absurd q (by decide))).trans ((eh1750.1 _ _ (fun q => absurd q (by decide))).trans esd5.symm))
                    refine A_callV1 m_MD_put T_ok d_MD_voicePart_346 l_MD_369 k_MD_put (mi_s k1755.1 sf_170) rfl (by decide +kernel) (by decide) (Nat.le_of_ble_eq_true rfl) (s_MD_put k1755.1 (by first | (clear hps; omega) | omega) (by first | (clear hps; omega) | omega) ((eh1754.1 _ _ (fun q => absurd q (by decide))).trans ((eh1750.1 _ _ (fun q => absurd q (by decide))).trans esd3.symm)) (by first | (clear hps; omega) | omega)) (fun r h1756 hq => ?_)
                    obtain ⟨rfl, xk1762, k1762⟩ := hq
                    have k1763 := kM_t k1755 k1762 (pm_s (by decide) (by decide))
                    refine A_aload_n 0 d_MD_voicePart_349 rfl rfl ?_
                    refine A_getAv (z := some 216) T_ok d_MD_voicePart_350 f_MD_151 (mi_s k1763.1 sf_170) (mi_r k1763.1 rfm_62) ?_
                    refine A_aload_n 0 d_MD_voicePart_353 rfl rfl ?_
                    refine A_getIv (z := sd4) T_ok d_MD_voicePart_354 f_MD_357 (mi_s k1763.1 sf_170) ((k1762.2.2.1 _ _ rfl).trans ((eh1754.1 _ _ (fun q => absurd q (by decide))).trans ((eh1750.1 _ _ (fun q => absurd q (by decide))).trans esd4.symm))) ?_
                    refine A_iconst d_MD_voicePart_357 rfl ?_
                    refine A_pc (pc' := 358) rfl ?_
                    refine A_iastorek (KR := kM (pm [3, 4, 5, 6, 7, 8, 9, 10, 11, 12, 43, 63, 64] [201, 202, 203, 204, 205, 206, 207, 208, 209, 210, 211, 212, 213, 214, 215, 216]) h) d_MD_voicePart_358 (mi_s k1763.1 sf_216) (by first | (clear hps; omega) | omega) (by first | (clear hps; omega) | omega) (kM_i k1763 (by decide) rfl (mr_216 _) (by first | (clear hps; omega) | omega) (by first | (clear hps; omega) | omega)) (fun h1766 k1767 eh1766 => ?_)
                    refine A_aload_n 0 d_MD_voicePart_359 rfl rfl ?_
                    refine A_dupR d_MD_voicePart_360 ?_
                    refine A_getIv (z := sd4) T_ok d_MD_voicePart_361 f_MD_357 (mi_s k1767.1 sf_170) ((eh1766.1 _ _ (fun q => absurd q (by decide))).trans ((k1762.2.2.1 _ _ rfl).trans ((eh1754.1 _ _ (fun q => absurd q (by decide))).trans ((eh1750.1 _ _ (fun q => absurd q (by decide))).trans esd4.symm)))) ?_
                    refine A_iconst d_MD_voicePart_364 rfl ?_
                    refine A_iaddv (z := (sd4 + 1)) d_MD_voicePart_365 (w32_to (by first | (clear hps; omega) | omega) (by unfold i32; first | (clear hps; omega) | omega)) ?_
                    refine A_pc (pc' := 366) rfl ?_
                    refine A_putIk (KR := kM (pm [3, 4, 5, 6, 7, 8, 9, 10, 11, 12, 43, 63, 64] [201, 202, 203, 204, 205, 206, 207, 208, 209, 210, 211, 212, 213, 214, 215, 216]) h) T_ok d_MD_voicePart_366 f_MD_357 (mi_s k1767.1 sf_170) fin_f (kM_i k1767 (by decide) (by decide) mr_170_63 (by first | (clear hps; omega) | omega) (by first | (clear hps; omega) | omega)) (fun h1769 k1770 eh1769 => ?_)
                    refine A_aload_n 0 d_MD_voicePart_369 rfl rfl ?_
                    have zf1772 := ((eh1769.1 _ _ (fun _ => by decide)).trans ((eh1766.1 _ _ (fun q => absurd q (by decide))).trans ((k1762.2.2.1 _ _ rfl).trans ((eh1754.1 _ _ (fun q => absurd q (by decide))).trans ((eh1750.1 _ _ (fun q => absurd q (by decide))).trans esd1.symm)))))
                    have zf1773 := ((eh1769.1 _ _ (fun _ => by decide)).trans ((eh1766.1 _ _ (fun q => absurd q (by decide))).trans ((k1762.2.2.1 _ _ rfl).trans ((eh1754.1 _ _ (fun q => absurd q (by decide))).trans ((eh1750.1 _ _ (fun q => absurd q (by decide))).trans esd2.symm)))))
                    have zf1774 := ((eh1769.1 _ _ (fun _ => by decide)).trans ((eh1766.1 _ _ (fun q => absurd q (by decide))).trans xk1762.1))
                    have zf1775 := eh1769.2.1
                    have zf1776 := ((eh1769.1 _ _ (fun _ => by decide)).trans ((eh1766.1 _ _ (fun q => absurd q (by decide))).trans ((k1762.2.2.1 _ _ rfl).trans ((eh1754.1 _ _ (fun q => absurd q (by decide))).trans ((eh1750.1 _ _ (fun q => absurd q (by decide))).trans esd5.symm)))))
                    refine A_callV0 m_MD_next T_ok d_MD_voicePart_370 l_MD_309 k_MD_next (mi_s k1770.1 sf_170) rfl (by decide +kernel) (by decide) (Nat.le_of_ble_eq_true rfl) (s_MD_next k1770.1 (by have qq0 := ((eh1769.1 _ _ (fun _ => by decide)).trans ((eh1766.1 _ _ (fun q => absurd q (by decide))).trans ((k1762.2.2.1 _ _ rfl).trans ((eh1754.1 _ _ (fun q => absurd q (by decide))).trans ((eh1750.1 _ _ (fun q => absurd q (by decide))).trans esd1.symm))))); have qq1 := ((eh1769.1 _ _ (fun _ => by decide)).trans ((eh1766.1 _ _ (fun q => absurd q (by decide))).trans ((k1762.2.2.1 _ _ rfl).trans ((eh1754.1 _ _ (fun q => absurd q (by decide))).trans ((eh1750.1 _ _ (fun q => absurd q (by decide))).trans esd2.symm))))); first | (clear hps; omega) | omega)) (fun r h1771 hq => ?_)
                    obtain ⟨x1778, rfl, ⟨_, _⟩, xx1778, k1777⟩ := hq
                    have xa1778 := xx1778.1
                    have xb1778 := xx1778.2.1
                    have k1779 := kM_t k1770 k1777 (pm_s (by decide) (by decide))
                    obtain ⟨sd1780, esd1780⟩ : ∃ x, x = h1771.2.1 170 3 := ⟨_, rfl⟩
                    have rsd1780 : 0 ≤ sd1780 ∧ sd1780 ≤ 2000 := (by rw [esd1780]; exact mi_g k1779.1 (by decide) mr_170_3)
                    obtain ⟨sd1781, esd1781⟩ : ∃ x, x = h1771.2.1 170 4 := ⟨_, rfl⟩
                    have rsd1781 : 0 ≤ sd1781 ∧ sd1781 ≤ 6 := (by rw [esd1781]; exact mi_g k1779.1 (by decide) mr_170_4)
                    exact A_zret d_MD_voicePart_373 (by decide) rfl (by first | (clear hps; omega) | omega) ⟨_, rfl, by first | (clear hps; omega) | omega, (fun hz => ⟨by first | (clear hps; omega) | omega, (by have qq0 := esd1780.symm; have qq1 := ((k1777.2.2.1 _ _ rfl).trans ((eh1769.1 _ _ (fun _ => by decide)).trans ((eh1766.1 _ _ (fun q => absurd q (by decide))).trans ((k1762.2.2.1 _ _ rfl).trans ((eh1754.1 _ _ (fun q => absurd q (by decide))).trans ((eh1750.1 _ _ (fun q => absurd q (by decide))).trans esd2.symm)))))); have qq2 := esd1781.symm; exact ⟨by first | (clear hps; omega) | omega, by first | (clear hps; omega) | omega, by first | (clear hps; omega) | omega, by first | (clear hps; omega) | omega⟩), (by have qq0 := esd1780.symm; have qq1 := ((k1777.2.2.1 _ _ rfl).trans ((eh1769.1 _ _ (fun _ => by decide)).trans ((eh1766.1 _ _ (fun q => absurd q (by decide))).trans ((k1762.2.2.1 _ _ rfl).trans ((eh1754.1 _ _ (fun q => absurd q (by decide))).trans ((eh1750.1 _ _ (fun q => absurd q (by decide))).trans esd2.symm)))))); have qq2 := esd1781.symm; have qq3 := ((k1777.2.2.1 _ _ rfl).trans ((eh1769.1 _ _ (fun _ => by decide)).trans ((eh1766.1 _ _ (fun q => absurd q (by decide))).trans xk1762.1))); exact ⟨by first | (clear hps; omega) | omega, by first | (clear hps; omega) | omega⟩), VH_o (x := sd3) (m := sd4) (c := 2) hVH esd3.symm esd4.symm (by first | (clear hps; omega) | omega) ((k1777.2.2.1 _ _ rfl).trans ((eh1769.1 _ _ (fun _ => by decide)).trans ((eh1766.1 _ _ (fun q => absurd q (by decide))).trans xk1762.1))) ((k1777.2.2.1 _ _ rfl).trans eh1769.2.1) (by decide) (fun k hk => ((k1777.2.2.1 201 k rfl).trans ((eh1769.1 201 k (fun q => absurd q (by decide))).trans ((eh1766.1 201 k (fun q => absurd q (by decide))).trans ((xk1762.2.1 k hk).trans ((eh1754.1 201 k (fun q => absurd q (by decide))).trans (eh1750.1 201 k (fun q => absurd q (by decide))))))))) ((k1777.2.2.1 _ _ rfl).trans ((eh1769.1 _ _ (fun q => absurd q (by decide))).trans ((eh1766.1 _ _ (fun q => absurd q (by decide))).trans xk1762.2.2))) (fun k hk => ((k1777.2.2.1 202 k rfl).trans ((eh1769.1 202 k (fun q => absurd q (by decide))).trans ((eh1766.1 202 k (fun q => absurd q (by decide))).trans ((k1762.2.2.1 202 k rfl).trans ((eh1754.1 202 k (fun q => absurd q (by decide))).trans (eh1750.1 202 k (fun q => absurd q (by decide))))))))) (fun k hk => ((k1777.2.2.1 203 k rfl).trans ((eh1769.1 203 k (fun q => absurd q (by decide))).trans ((eh1766.1 203 k (fun q => absurd q (by decide))).trans ((k1762.2.2.1 203 k rfl).trans ((eh1754.1 203 k (fun q => absurd q (by decide))).trans (eh1750.1 203 k (fun q => absurd q (by decide))))))))) (fun q => absurd q (by decide)) (fun k hk => ((k1777.2.2.1 214 k rfl).trans ((eh1769.1 214 k (fun q => absurd q (by decide))).trans ((eh1766.1 214 k (fun q => absurd q (by decide))).trans ((k1762.2.2.1 214 k rfl).trans ((eh1754.1 214 k (fun _ => hk)).trans (eh1750.1 214 k (fun q => absurd q (by decide))))))))) (fun _ => ((k1777.2.2.1 _ _ rfl).trans ((eh1769.1 _ _ (fun q => absurd q (by decide))).trans ((eh1766.1 _ _ (fun q => absurd q (by decide))).trans ((k1762.2.2.1 _ _ rfl).trans eh1754.2.1))))) (fun k hk => ((k1777.2.2.1 215 k rfl).trans ((eh1769.1 215 k (fun q => absurd q (by decide))).trans ((eh1766.1 215 k (fun q => absurd q (by decide))).trans ((k1762.2.2.1 215 k rfl).trans ((eh1754.1 215 k (fun q => absurd q (by decide))).trans (eh1750.1 215 k (fun _ => hk)))))))) ((k1777.2.2.1 _ _ rfl).trans ((eh1769.1 _ _ (fun q => absurd q (by decide))).trans ((eh1766.1 _ _ (fun q => absurd q (by decide))).trans ((k1762.2.2.1 _ _ rfl).trans ((eh1754.1 _ _ (fun q => absurd q (by decide))).trans eh1750.2.1))))) (fun k hk => ((k1777.2.2.1 216 k rfl).trans ((eh1769.1 216 k (fun q => absurd q (by decide))).trans ((eh1766.1 216 k (fun _ => hk)).trans ((k1762.2.2.1 216 k rfl).trans ((eh1754.1 216 k (fun q => absurd q (by decide))).trans (eh1750.1 216 k (fun q => absurd q (by decide))))))))) ((k1777.2.2.1 _ _ rfl).trans ((eh1769.1 _ _ (fun q => absurd q (by decide))).trans eh1766.2.1)) (by intro a ha; simp only [List.mem_cons, List.not_mem_nil, or_false] at ha; rcases ha with rfl | rfl | rfl | rfl ; exact (funext (fun k => ((k1777.2.2.1 210 k rfl).trans ((eh1769.1 210 k (fun q => absurd q (by decide))).trans ((eh1766.1 210 k (fun q => absurd q (by decide))).trans ((k1762.2.2.1 210 k rfl).trans ((eh1754.1 210 k (fun q => absurd q (by decide))).trans (eh1750.1 210 k (fun q => absurd q (by decide)))))))))) ; exact (funext (fun k => ((k1777.2.2.1 211 k rfl).trans ((eh1769.1 211 k (fun q => absurd q (by decide))).trans ((eh1766.1 211 k (fun q => absurd q (by decide))).trans ((k1762.2.2.1 211 k rfl).trans ((eh1754.1 211 k (fun q => absurd q (by decide))).trans (eh1750.1 211 k (fun q => absurd q (by decide)))))))))) ; exact (funext (fun k => ((k1777.2.2.1 212 k rfl).trans ((eh1769.1 212 k (fun q => absurd q (by decide))).trans ((eh1766.1 212 k (fun q => absurd q (by decide))).trans ((k1762.2.2.1 212 k rfl).trans ((eh1754.1 212 k (fun q => absurd q (by decide))).trans (eh1750.1 212 k (fun q => absurd q (by decide)))))))))) ; exact (funext (fun k => ((k1777.2.2.1 213 k rfl).trans ((eh1769.1 213 k (fun q => absurd q (by decide))).trans ((eh1766.1 213 k (fun q => absurd q (by decide))).trans ((k1762.2.2.1 213 k rfl).trans ((eh1754.1 213 k (fun q => absurd q (by decide))).trans (eh1750.1 213 k (fun q => absurd q (by decide)))))))))))⟩), k1779⟩
                · refine A_aload_n 0 d_MD_voicePart_302 rfl rfl ?_
                  refine A_iconst d_MD_voicePart_303 rfl ?_
                  have zf1783 := esd1.symm
                  have zf1784 := esd2.symm
                  have zf1785 := esd3.symm
                  have zf1786 := esd4.symm
                  have zf1787 := esd5.symm
                  refine A_callV1 m_MD_put T_ok d_MD_voicePart_304 l_MD_369 k_MD_put (mi_s k0.1 sf_170) rfl (by decide +kernel) (by decide) (Nat.le_of_ble_eq_true rfl) (s_MD_put k0.1 (by first | (clear hps; omega) | omega) (by first | (clear hps; omega) | omega) esd3.symm (by first | (clear hps; omega) | omega)) (fun r h1782 hq => ?_)
                  obtain ⟨rfl, xk1788, k1788⟩ := hq
                  have k1789 := kM_t k0 k1788 (pm_s (by decide) (by decide))
                  refine A_aload_n 0 d_MD_voicePart_307 rfl rfl ?_
                  have zf1791 := ((k1788.2.2.1 _ _ rfl).trans esd1.symm)
                  have zf1792 := ((k1788.2.2.1 _ _ rfl).trans esd2.symm)
                  have zf1793 := xk1788.1
                  have zf1794 := ((k1788.2.2.1 _ _ rfl).trans esd4.symm)
                  have zf1795 := ((k1788.2.2.1 _ _ rfl).trans esd5.symm)
                  refine A_callV0 m_MD_next T_ok d_MD_voicePart_308 l_MD_309 k_MD_next (mi_s k1789.1 sf_170) rfl (by decide +kernel) (by decide) (Nat.le_of_ble_eq_true rfl) (s_MD_next k1789.1 (by have qq0 := ((k1788.2.2.1 _ _ rfl).trans esd1.symm); have qq1 := ((k1788.2.2.1 _ _ rfl).trans esd2.symm); first | (clear hps; omega) | omega)) (fun r h1790 hq => ?_)
                  obtain ⟨x1797, rfl, ⟨_, _⟩, xx1797, k1796⟩ := hq
                  have xa1797 := xx1797.1
                  have xb1797 := xx1797.2.1
                  have k1798 := kM_t k1789 k1796 (pm_s (by decide) (by decide))
                  obtain ⟨sd1799, esd1799⟩ : ∃ x, x = h1790.2.1 170 3 := ⟨_, rfl⟩
                  have rsd1799 : 0 ≤ sd1799 ∧ sd1799 ≤ 2000 := (by rw [esd1799]; exact mi_g k1798.1 (by decide) mr_170_3)
                  obtain ⟨sd1800, esd1800⟩ : ∃ x, x = h1790.2.1 170 4 := ⟨_, rfl⟩
                  have rsd1800 : 0 ≤ sd1800 ∧ sd1800 ≤ 6 := (by rw [esd1800]; exact mi_g k1798.1 (by decide) mr_170_4)
                  exact A_zret d_MD_voicePart_311 (by decide) rfl (by first | (clear hps; omega) | omega) ⟨_, rfl, by first | (clear hps; omega) | omega, (fun hz => ⟨by first | (clear hps; omega) | omega, (by have qq0 := esd1799.symm; have qq1 := ((k1796.2.2.1 _ _ rfl).trans ((k1788.2.2.1 _ _ rfl).trans esd2.symm)); have qq2 := esd1800.symm; exact ⟨by first | (clear hps; omega) | omega, by first | (clear hps; omega) | omega, by first | (clear hps; omega) | omega, by first | (clear hps; omega) | omega⟩), (by have qq0 := esd1799.symm; have qq1 := ((k1796.2.2.1 _ _ rfl).trans ((k1788.2.2.1 _ _ rfl).trans esd2.symm)); have qq2 := esd1800.symm; have qq3 := ((k1796.2.2.1 _ _ rfl).trans xk1788.1); exact ⟨by first | (clear hps; omega) | omega, by first | (clear hps; omega) | omega⟩), VH_s (x := sd3) hVH esd3.symm ((k1796.2.2.1 _ _ rfl).trans xk1788.1) (((k1796.2.2.1 170 63 rfl).trans (k1788.2.2.1 170 63 rfl))) (fun k hk => ((k1796.2.2.1 201 k rfl).trans (xk1788.2.1 k hk))) (Or.inl ((k1796.2.2.1 _ _ rfl).trans xk1788.2.2)) (fun k hk => ((k1796.2.2.1 202 k rfl).trans (k1788.2.2.1 202 k rfl))) (by intro a ha; simp only [List.mem_cons, List.not_mem_nil, or_false] at ha; rcases ha with rfl | rfl | rfl | rfl | rfl | rfl | rfl | rfl ; exact (funext (fun k => ((k1796.2.2.1 203 k rfl).trans (k1788.2.2.1 203 k rfl)))) ; exact (funext (fun k => ((k1796.2.2.1 210 k rfl).trans (k1788.2.2.1 210 k rfl)))) ; exact (funext (fun k => ((k1796.2.2.1 211 k rfl).trans (k1788.2.2.1 211 k rfl)))) ; exact (funext (fun k => ((k1796.2.2.1 212 k rfl).trans (k1788.2.2.1 212 k rfl)))) ; exact (funext (fun k => ((k1796.2.2.1 213 k rfl).trans (k1788.2.2.1 213 k rfl)))) ; exact (funext (fun k => ((k1796.2.2.1 214 k rfl).trans (k1788.2.2.1 214 k rfl)))) ; exact (funext (fun k => ((k1796.2.2.1 215 k rfl).trans (k1788.2.2.1 215 k rfl)))) ; exact (funext (fun k => ((k1796.2.2.1 216 k rfl).trans (k1788.2.2.1 216 k rfl)))))⟩), k1798⟩
              · refine A_aload_n 0 d_MD_voicePart_283 rfl rfl ?_
                refine A_iconst d_MD_voicePart_284 rfl ?_
                refine A_aload_n 0 d_MD_voicePart_285 rfl rfl ?_
                refine A_getIn (lo := 0) (hi := 2000) T_ok d_MD_voicePart_286 f_MD_242 (mi_s k0.1 sf_170) (mi_g k0.1 (by decide) mr_170_5) (fun x1801 ex1801 _ _ => ?_)
                have zf1803 := esd1.symm
                have zf1804 := esd2.symm
                have zf1805 := esd3.symm
                have zf1806 := esd4.symm
                have zf1807 := esd5.symm
                refine A_callV2 m_MD_wrong T_ok d_MD_voicePart_289 l_MD_245 k_MD_wrong (mi_s k0.1 sf_170) rfl (by decide +kernel) (by decide) (Nat.le_of_ble_eq_true rfl) (s_MD_wrong k0.1 (by first | (clear hps; omega) | omega) (by first | (clear hps; omega) | omega) (by first | (clear hps; omega) | omega) (by first | (clear hps; omega) | omega)) (fun r h1802 hq => ?_)
                obtain ⟨x1809, rfl, ⟨_, _⟩, k1808⟩ := hq
                have k1810 := kM_t k0 k1808 (pm_s (by decide) (by decide))
                obtain rfl : x1809 = 0 := by first | (clear hps; omega) | omega
                exact A_zret d_MD_voicePart_292 (by decide) rfl (by first | (clear hps; omega) | omega) ⟨_, rfl, by first | (clear hps; omega) | omega, (fun q => absurd q (by decide)), k1810⟩
            · refine A_aload_n 0 d_MD_voicePart_223 rfl rfl ?_
              refine A_bipush d_MD_voicePart_224 rfl ?_
              have zf1812 := esd1.symm
              have zf1813 := esd2.symm
              have zf1814 := esd3.symm
              have zf1815 := esd4.symm
              have zf1816 := esd5.symm
              refine A_callV1 m_MD_isSign T_ok d_MD_voicePart_226 l_MD_306 k_MD_isSign (mi_s k0.1 sf_170) rfl (by decide +kernel) (by decide) (Nat.le_of_ble_eq_true rfl) (s_MD_isSign k0.1 ) (fun r h1811 hq => ?_)
              obtain ⟨x1818, rfl, bx1818, xx1818, rfl⟩ := hq
              refine A_if_ne (tgt := 259) d_MD_voicePart_229 (by decide) (fun c1819 => ?_) (fun c1819 => ?_)
              · refine A_iconst d_MD_voicePart_259 rfl ?_
                refine A_goto (tgt := 264) d_MD_voicePart_260 (by decide) ?_
                refine A_istore_n 1 (L' := [some (av_R (some 170)), some (av_I 1), none]) d_MD_voicePart_264 rfl (Nat.le_of_ble_eq_true rfl) rfl ?_
                refine A_iload_n 1 d_MD_voicePart_265 rfl rfl ?_
                refine A_if_ne (tgt := 274) d_MD_voicePart_266 (by decide) (fun _ => ?_) (fun c => absurd c (by decide))
                refine A_aload_n 0 d_MD_voicePart_274 rfl rfl ?_
                refine A_getIv (z := sd4) T_ok d_MD_voicePart_275 f_MD_357 (mi_s k0.1 sf_170) esd4.symm ?_
                refine A_bipush d_MD_voicePart_278 rfl ?_
                refine A_icmp_le (tgt := 293) d_MD_voicePart_280 (by decide) (fun c1822 => ?_) (fun c1822 => ?_)
                · refine A_aload_n 0 d_MD_voicePart_293 rfl rfl ?_
                  refine A_bipush d_MD_voicePart_294 rfl ?_
                  have zf1824 := esd1.symm
                  have zf1825 := esd2.symm
                  have zf1826 := esd3.symm
                  have zf1827 := esd4.symm
                  have zf1828 := esd5.symm
                  refine A_callV1 m_MD_isSign T_ok d_MD_voicePart_296 l_MD_306 k_MD_isSign (mi_s k0.1 sf_170) rfl (by decide +kernel) (by decide) (Nat.le_of_ble_eq_true rfl) (s_MD_isSign k0.1 ) (fun r h1823 hq => ?_)
                  obtain ⟨x1830, rfl, bx1830, xx1830, rfl⟩ := hq
                  refine A_if_eq (tgt := 312) d_MD_voicePart_299 (by decide) (fun c1831 => ?_) (fun c1831 => ?_)
                  · refine A_aload_n 0 d_MD_voicePart_312 rfl rfl ?_
                    refine A_bipush d_MD_voicePart_313 rfl ?_
                    have zf1833 := esd1.symm
                    have zf1834 := esd2.symm
                    have zf1835 := esd3.symm
                    have zf1836 := esd4.symm
                    have zf1837 := esd5.symm
                    refine A_callV1 m_MD_isSign T_ok d_MD_voicePart_315 l_MD_306 k_MD_isSign (mi_s k0.1 sf_170) rfl (by decide +kernel) (by decide) (Nat.le_of_ble_eq_true rfl) (s_MD_isSign k0.1 ) (fun r h1832 hq => ?_)
                    obtain ⟨x1839, rfl, bx1839, xx1839, rfl⟩ := hq
                    refine A_if_eq (tgt := 374) d_MD_voicePart_318 (by decide) (fun c1840 => ?_) (fun c1840 => ?_)
                    · refine A_aload_n 0 d_MD_voicePart_374 rfl rfl ?_
                      refine A_bipush d_MD_voicePart_375 rfl ?_
                      have zf1842 := esd1.symm
                      have zf1843 := esd2.symm
                      have zf1844 := esd3.symm
                      have zf1845 := esd4.symm
                      have zf1846 := esd5.symm
                      refine A_callV1 m_MD_isSign T_ok d_MD_voicePart_377 l_MD_306 k_MD_isSign (mi_s k0.1 sf_170) rfl (by decide +kernel) (by decide) (Nat.le_of_ble_eq_true rfl) (s_MD_isSign k0.1 ) (fun r h1841 hq => ?_)
                      obtain ⟨x1848, rfl, bx1848, xx1848, rfl⟩ := hq
                      refine A_if_eq (tgt := 388) d_MD_voicePart_380 (by decide) (fun c1849 => ?_) (fun c1849 => ?_)
                      · refine A_aload_n 0 d_MD_voicePart_388 rfl rfl ?_
                        have zf1851 := esd1.symm
                        have zf1852 := esd2.symm
                        have zf1853 := esd3.symm
                        have zf1854 := esd4.symm
                        have zf1855 := esd5.symm
                        refine A_callV0 m_MD_soundPart T_ok d_MD_voicePart_389 l_MD_375 k_MD_soundPart (mi_s k0.1 sf_170) rfl (by decide +kernel) (by decide) (Nat.le_of_ble_eq_true rfl) (s_MD_soundPart k0.1 (by have qq0 := esd1.symm; have qq1 := esd2.symm; first | (clear hps; omega) | omega) (by have qq0 := esd1.symm; have qq1 := esd2.symm; have qq2 := esd5.symm; have qq3 := esd3.symm; exact ⟨by first | (clear hps; omega) | omega, by first | (clear hps; omega) | omega⟩) (by have qq0 := esd5.symm; exact ⟨by first | (clear hps; omega) | omega, by first | (clear hps; omega) | omega⟩) hVH) (fun r h1850 hq => ?_)
                        obtain ⟨x1857, rfl, bx1857, xx1857, k1856⟩ := hq
                        have k1858 := kM_t k0 k1856 (pm_s (by decide) (by decide))
                        obtain ⟨sd1859, esd1859⟩ : ∃ x, x = h1850.2.1 170 3 := ⟨_, rfl⟩
                        have rsd1859 : 0 ≤ sd1859 ∧ sd1859 ≤ 2000 := (by rw [esd1859]; exact mi_g k1858.1 (by decide) mr_170_3)
                        obtain ⟨sd1860, esd1860⟩ : ∃ x, x = h1850.2.1 170 43 := ⟨_, rfl⟩
                        have rsd1860 : 0 ≤ sd1860 ∧ sd1860 ≤ 2001 := (by rw [esd1860]; exact mi_g k1858.1 (by decide) mr_170_43)
                        obtain ⟨sd1861, esd1861⟩ : ∃ x, x = h1850.2.1 170 4 := ⟨_, rfl⟩
                        have rsd1861 : 0 ≤ sd1861 ∧ sd1861 ≤ 6 := (by rw [esd1861]; exact mi_g k1858.1 (by decide) mr_170_4)
                        exact A_zret d_MD_voicePart_392 (by decide) rfl (by first | (clear hps; omega) | omega) ⟨_, rfl, by first | (clear hps; omega) | omega, (fun hz => ⟨by first | (clear hps; omega) | omega, (by have qq0 := esd1859.symm; have qq1 := ((k1856.2.2.1 _ _ rfl).trans esd2.symm); have qq2 := esd1861.symm; exact ⟨by first | (clear hps; omega) | omega, by first | (clear hps; omega) | omega, by first | (clear hps; omega) | omega, by first | (clear hps; omega) | omega⟩), (by have qq0 := esd1859.symm; have qq1 := ((k1856.2.2.1 _ _ rfl).trans esd2.symm); have qq2 := esd1861.symm; have qq3 := esd1860.symm; exact ⟨by first | (clear hps; omega) | omega, by first | (clear hps; omega) | omega⟩), (xx1857 hz).2.2⟩), k1858⟩
                      · refine A_aload_n 0 d_MD_voicePart_383 rfl rfl ?_
                        have zf1863 := esd1.symm
                        have zf1864 := esd2.symm
                        have zf1865 := esd3.symm
                        have zf1866 := esd4.symm
                        have zf1867 := esd5.symm
                        refine A_callV0 m_MD_timesPart T_ok d_MD_voicePart_384 l_MD_372 k_MD_timesPart (mi_s k0.1 sf_170) rfl (by decide +kernel) (by decide) (Nat.le_of_ble_eq_true rfl) (s_MD_timesPart k0.1 (by have qq0 := esd1.symm; have qq1 := esd2.symm; first | (clear hps; omega) | omega) (by have qq0 := esd1.symm; have qq1 := esd2.symm; have qq2 := esd5.symm; have qq3 := esd3.symm; exact ⟨by first | (clear hps; omega) | omega, by first | (clear hps; omega) | omega⟩) (by have qq0 := esd5.symm; exact ⟨by first | (clear hps; omega) | omega, by first | (clear hps; omega) | omega⟩) hVH (by have qq0 := esd4.symm; first | (clear hps; omega) | omega)) (fun r h1862 hq => ?_)
                        obtain ⟨x1869, rfl, bx1869, xx1869, k1868⟩ := hq
                        have k1870 := kM_t k0 k1868 (pm_s (by decide) (by decide))
                        obtain ⟨sd1871, esd1871⟩ : ∃ x, x = h1862.2.1 170 3 := ⟨_, rfl⟩
                        have rsd1871 : 0 ≤ sd1871 ∧ sd1871 ≤ 2000 := (by rw [esd1871]; exact mi_g k1870.1 (by decide) mr_170_3)
                        obtain ⟨sd1872, esd1872⟩ : ∃ x, x = h1862.2.1 170 43 := ⟨_, rfl⟩
                        have rsd1872 : 0 ≤ sd1872 ∧ sd1872 ≤ 2001 := (by rw [esd1872]; exact mi_g k1870.1 (by decide) mr_170_43)
                        obtain ⟨sd1873, esd1873⟩ : ∃ x, x = h1862.2.1 170 63 := ⟨_, rfl⟩
                        have rsd1873 : 0 ≤ sd1873 ∧ sd1873 ≤ 7 := (by rw [esd1873]; exact mi_g k1870.1 (by decide) mr_170_63)
                        obtain ⟨sd1874, esd1874⟩ : ∃ x, x = h1862.2.1 170 4 := ⟨_, rfl⟩
                        have rsd1874 : 0 ≤ sd1874 ∧ sd1874 ≤ 6 := (by rw [esd1874]; exact mi_g k1870.1 (by decide) mr_170_4)
                        exact A_zret d_MD_voicePart_387 (by decide) rfl (by first | (clear hps; omega) | omega) ⟨_, rfl, by first | (clear hps; omega) | omega, (fun hz => ⟨by first | (clear hps; omega) | omega, (by have qq0 := esd1871.symm; have qq1 := ((k1868.2.2.1 _ _ rfl).trans esd2.symm); have qq2 := esd1874.symm; exact ⟨by first | (clear hps; omega) | omega, by first | (clear hps; omega) | omega, by first | (clear hps; omega) | omega, by first | (clear hps; omega) | omega⟩), (by have qq0 := esd1871.symm; have qq1 := ((k1868.2.2.1 _ _ rfl).trans esd2.symm); have qq2 := esd1874.symm; have qq3 := esd1872.symm; exact ⟨by first | (clear hps; omega) | omega, by first | (clear hps; omega) | omega⟩), (xx1869 hz).2.2⟩), k1870⟩
                    · refine A_aload_n 0 d_MD_voicePart_321 rfl rfl ?_
                      refine A_getAv (z := some 215) T_ok d_MD_voicePart_322 f_MD_148 (mi_s k0.1 sf_170) (mi_r k0.1 rfm_58) ?_
                      refine A_aload_n 0 d_MD_voicePart_325 rfl rfl ?_
                      refine A_getIv (z := sd4) T_ok d_MD_voicePart_326 f_MD_357 (mi_s k0.1 sf_170) esd4.symm ?_
                      refine A_aload_n 0 d_MD_voicePart_329 rfl rfl ?_
                      refine A_pc (pc' := 330) rfl ?_
                      refine A_getIv (z := sd3) T_ok d_MD_voicePart_330 f_MD_354 (mi_s k0.1 sf_170) esd3.symm ?_
                      refine A_iastorek (KR := kM (pm [3, 4, 5, 6, 7, 8, 9, 10, 11, 12, 43, 63, 64] [201, 202, 203, 204, 205, 206, 207, 208, 209, 210, 211, 212, 213, 214, 215, 216]) h) d_MD_voicePart_333 (mi_s k0.1 sf_215) (by first | (clear hps; omega) | omega) (by first | (clear hps; omega) | omega) (kM_i k0 (by decide) rfl (mr_215 _) (by first | (clear hps; omega) | omega) (by first | (clear hps; omega) | omega)) (fun h1878 k1879 eh1878 => ?_)
                      refine A_aload_n 0 d_MD_voicePart_334 rfl rfl ?_
                      refine A_getAv (z := some 214) T_ok d_MD_voicePart_335 f_MD_145 (mi_s k1879.1 sf_170) (mi_r k1879.1 rfm_57) ?_
                      refine A_aload_n 0 d_MD_voicePart_338 rfl rfl ?_
                      refine A_getIv (z := sd3) T_ok d_MD_voicePart_339 f_MD_354 (mi_s k1879.1 sf_170) ((eh1878.1 _ _ (fun q => absurd q (by decide))).trans esd3.symm) ?_
                      refine A_pc (pc' := 342) rfl ?_
                      refine A_iconst d_MD_voicePart_342 rfl ?_
                      refine A_iastorek (KR := kM (pm [3, 4, 5, 6, 7, 8, 9, 10, 11, 12, 43, 63, 64] [201, 202, 203, 204, 205, 206, 207, 208, 209, 210, 211, 212, 213, 214, 215, 216]) h) d_MD_voicePart_343 (mi_s k1879.1 sf_214) (by first | (clear hps; omega) | omega) (by first | (clear hps; omega) | omega) (kM_i k1879 (by decide) rfl (mr_214 _) (by first | (clear hps; omega) | omega) (by first | (clear hps; omega) | omega)) (fun h1882 k1883 eh1882 => ?_)
                      refine A_aload_n 0 d_MD_voicePart_344 rfl rfl ?_
                      refine A_iconst d_MD_voicePart_345 rfl ?_
                      have zf1885 := ((eh1882.1 _ _ (fun q => absurd q (by decide))).trans ((eh1878.1 _ _ (fun q => absurd q (by decide))).trans esd1.symm))
                      have zf1886 := ((eh1882.1 _ _ (fun q => absurd q (by decide))).trans ((eh1878.1 _ _ (fun q => absurd q (by decide))).trans esd2.symm))
                      have zf1887 := ((eh1882.1 _ _ (fun q => absurd q (by decide))).trans ((eh1878.1 _ _ (fun q => absurd q (by decide))).trans esd3.symm))
                      have zf1888 := ((eh1882.1 _ _ (fun q => absurd q (by decide))).trans ((eh1878.1 _ _ (fun q => absurd q (by decide))).trans esd4.symm))
                      have zf1889 := ((eh1882.1 _ _ (fun q => absurd q (by decide))).trans ((eh1878.1 _ _ (fun q => absurd q (by decide))).trans esd5.symm))
                      refine A_callV1 m_MD_put T_ok d_MD_voicePart_346 l_MD_369 k_MD_put (mi_s k1883.1 sf_170) rfl (by decide +kernel) (by decide) (Nat.le_of_ble_eq_true rfl) (s_MD_put k1883.1 (by first | (clear hps; omega) | omega) (by first | (clear hps; omega) | omega) ((eh1882.1 _ _ (fun q => absurd q (by decide))).trans ((eh1878.1 _ _ (fun q => absurd q (by decide))).trans esd3.symm)) (by first | (clear hps; omega) | omega)) (fun r h1884 hq => ?_)
                      obtain ⟨rfl, xk1890, k1890⟩ := hq
                      have k1891 := kM_t k1883 k1890 (pm_s (by decide) (by decide))
                      refine A_aload_n 0 d_MD_voicePart_349 rfl rfl ?_
                      refine A_getAv (z := some 216) T_ok d_MD_voicePart_350 f_MD_151 (mi_s k1891.1 sf_170) (mi_r k1891.1 rfm_62) ?_
                      refine A_aload_n 0 d_MD_voicePart_353 rfl rfl ?_
                      refine A_getIv (z := sd4) T_ok d_MD_voicePart_354 f_MD_357 (mi_s k1891.1 sf_170) ((k1890.2.2.1 _ _ rfl).trans ((eh1882.1 _ _ (fun q => absurd q (by decide))).trans ((eh1878.1 _ _ (fun q => absurd q (by decide))).trans esd4.symm))) ?_
                      refine A_iconst d_MD_voicePart_357 rfl ?_
                      refine A_pc (pc' := 358) rfl ?_
                      refine A_iastorek (KR := kM (pm [3, 4, 5, 6, 7, 8, 9, 10, 11, 12, 43, 63, 64] [201, 202, 203, 204, 205, 206, 207, 208, 209, 210, 211, 212, 213, 214, 215, 216]) h) d_MD_voicePart_358 (mi_s k1891.1 sf_216) (by first | (clear hps; omega) | omega) (by first | (clear hps; omega) | omega) (kM_i k1891 (by decide) rfl (mr_216 _) (by first | (clear hps; omega) | omega) (by first | (clear hps; omega) | omega)) (fun h1894 k1895 eh1894 => ?_)
                      refine A_aload_n 0 d_MD_voicePart_359 rfl rfl ?_
                      refine A_dupR d_MD_voicePart_360 ?_
                      refine A_getIv (z := sd4) T_ok d_MD_voicePart_361 f_MD_357 (mi_s k1895.1 sf_170) ((eh1894.1 _ _ (fun q => absurd q (by decide))).trans ((k1890.2.2.1 _ _ rfl).trans ((eh1882.1 _ _ (fun q => absurd q (by decide))).trans ((eh1878.1 _ _ (fun q => absurd q (by decide))).trans esd4.symm)))) ?_
                      refine A_iconst d_MD_voicePart_364 rfl ?_
                      refine A_iaddv (z := (sd4 + 1)) d_MD_voicePart_365 (w32_to (by first | (clear hps; omega) | omega) (by unfold i32; first | (clear hps; omega) | omega)) ?_
                      refine A_pc (pc' := 366) rfl ?_
                      refine A_putIk (KR := kM (pm [3, 4, 5, 6, 7, 8, 9, 10, 11, 12, 43, 63, 64] [201, 202, 203, 204, 205, 206, 207, 208, 209, 210, 211, 212, 213, 214, 215, 216]) h) T_ok d_MD_voicePart_366 f_MD_357 (mi_s k1895.1 sf_170) fin_f (kM_i k1895 (by decide) (by decide) mr_170_63 (by first | (clear hps; omega) | omega) (by first | (clear hps; omega) | omega)) (fun h1897 k1898 eh1897 => ?_)
                      refine A_aload_n 0 d_MD_voicePart_369 rfl rfl ?_
                      have zf1900 := ((eh1897.1 _ _ (fun _ => by decide)).trans ((eh1894.1 _ _ (fun q => absurd q (by decide))).trans ((k1890.2.2.1 _ _ rfl).trans ((eh1882.1 _ _ (fun q => absurd q (by decide))).trans ((eh1878.1 _ _ (fun q => absurd q (by decide))).trans esd1.symm)))))
                      have zf1901 := ((eh1897.1 _ _ (fun _ => by decide)).trans ((eh1894.1 _ _ (fun q => absurd q (by decide))).trans ((k1890.2.2.1 _ _ rfl).trans ((eh1882.1 _ _ (fun q => absurd q (by decide))).trans ((eh1878.1 _ _ (fun q => absurd q (by decide))).trans esd2.symm)))))
                      have zf1902 := ((eh1897.1 _ _ (fun _ => by decide)).trans ((eh1894.1 _ _ (fun q => absurd q (by decide))).trans xk1890.1))
                      have zf1903 := eh1897.2.1
                      have zf1904 := ((eh1897.1 _ _ (fun _ => by decide)).trans ((eh1894.1 _ _ (fun q => absurd q (by decide))).trans ((k1890.2.2.1 _ _ rfl).trans ((eh1882.1 _ _ (fun q => absurd q (by decide))).trans ((eh1878.1 _ _ (fun q => absurd q (by decide))).trans esd5.symm)))))
                      refine A_callV0 m_MD_next T_ok d_MD_voicePart_370 l_MD_309 k_MD_next (mi_s k1898.1 sf_170) rfl (by decide +kernel) (by decide) (Nat.le_of_ble_eq_true rfl) (s_MD_next k1898.1 (by have qq0 := ((eh1897.1 _ _ (fun _ => by decide)).trans ((eh1894.1 _ _ (fun q => absurd q (by decide))).trans ((k1890.2.2.1 _ _ rfl).trans ((eh1882.1 _ _ (fun q => absurd q (by decide))).trans ((eh1878.1 _ _ (fun q => absurd q (by decide))).trans esd1.symm))))); have qq1 := ((eh1897.1 _ _ (fun _ => by decide)).trans ((eh1894.1 _ _ (fun q => absurd q (by decide))).trans ((k1890.2.2.1 _ _ rfl).trans ((eh1882.1 _ _ (fun q => absurd q (by decide))).trans ((eh1878.1 _ _ (fun q => absurd q (by decide))).trans esd2.symm))))); first | (clear hps; omega) | omega)) (fun r h1899 hq => ?_)
                      obtain ⟨x1906, rfl, ⟨_, _⟩, xx1906, k1905⟩ := hq
                      have xa1906 := xx1906.1
                      have xb1906 := xx1906.2.1
                      have k1907 := kM_t k1898 k1905 (pm_s (by decide) (by decide))
                      obtain ⟨sd1908, esd1908⟩ : ∃ x, x = h1899.2.1 170 3 := ⟨_, rfl⟩
                      have rsd1908 : 0 ≤ sd1908 ∧ sd1908 ≤ 2000 := (by rw [esd1908]; exact mi_g k1907.1 (by decide) mr_170_3)
                      obtain ⟨sd1909, esd1909⟩ : ∃ x, x = h1899.2.1 170 4 := ⟨_, rfl⟩
                      have rsd1909 : 0 ≤ sd1909 ∧ sd1909 ≤ 6 := (by rw [esd1909]; exact mi_g k1907.1 (by decide) mr_170_4)
                      exact A_zret d_MD_voicePart_373 (by decide) rfl (by first | (clear hps; omega) | omega) ⟨_, rfl, by first | (clear hps; omega) | omega, (fun hz => ⟨by first | (clear hps; omega) | omega, (by have qq0 := esd1908.symm; have qq1 := ((k1905.2.2.1 _ _ rfl).trans ((eh1897.1 _ _ (fun _ => by decide)).trans ((eh1894.1 _ _ (fun q => absurd q (by decide))).trans ((k1890.2.2.1 _ _ rfl).trans ((eh1882.1 _ _ (fun q => absurd q (by decide))).trans ((eh1878.1 _ _ (fun q => absurd q (by decide))).trans esd2.symm)))))); have qq2 := esd1909.symm; exact ⟨by first | (clear hps; omega) | omega, by first | (clear hps; omega) | omega, by first | (clear hps; omega) | omega, by first | (clear hps; omega) | omega⟩), (by have qq0 := esd1908.symm; have qq1 := ((k1905.2.2.1 _ _ rfl).trans ((eh1897.1 _ _ (fun _ => by decide)).trans ((eh1894.1 _ _ (fun q => absurd q (by decide))).trans ((k1890.2.2.1 _ _ rfl).trans ((eh1882.1 _ _ (fun q => absurd q (by decide))).trans ((eh1878.1 _ _ (fun q => absurd q (by decide))).trans esd2.symm)))))); have qq2 := esd1909.symm; have qq3 := ((k1905.2.2.1 _ _ rfl).trans ((eh1897.1 _ _ (fun _ => by decide)).trans ((eh1894.1 _ _ (fun q => absurd q (by decide))).trans xk1890.1))); exact ⟨by first | (clear hps; omega) | omega, by first | (clear hps; omega) | omega⟩), VH_o (x := sd3) (m := sd4) (c := 2) hVH esd3.symm esd4.symm (by first | (clear hps; omega) | omega) ((k1905.2.2.1 _ _ rfl).trans ((eh1897.1 _ _ (fun _ => by decide)).trans ((eh1894.1 _ _ (fun q => absurd q (by decide))).trans xk1890.1))) ((k1905.2.2.1 _ _ rfl).trans eh1897.2.1) (by decide) (fun k hk => ((k1905.2.2.1 201 k rfl).trans ((eh1897.1 201 k (fun q => absurd q (by decide))).trans ((eh1894.1 201 k (fun q => absurd q (by decide))).trans ((xk1890.2.1 k hk).trans ((eh1882.1 201 k (fun q => absurd q (by decide))).trans (eh1878.1 201 k (fun q => absurd q (by decide))))))))) ((k1905.2.2.1 _ _ rfl).trans ((eh1897.1 _ _ (fun q => absurd q (by decide))).trans ((eh1894.1 _ _ (fun q => absurd q (by decide))).trans xk1890.2.2))) (fun k hk => ((k1905.2.2.1 202 k rfl).trans ((eh1897.1 202 k (fun q => absurd q (by decide))).trans ((eh1894.1 202 k (fun q => absurd q (by decide))).trans ((k1890.2.2.1 202 k rfl).trans ((eh1882.1 202 k (fun q => absurd q (by decide))).trans (eh1878.1 202 k (fun q => absurd q (by decide))))))))) (fun k hk => ((k1905.2.2.1 203 k rfl).trans ((eh1897.1 203 k (fun q => absurd q (by decide))).trans ((eh1894.1 203 k (fun q => absurd q (by decide))).trans ((k1890.2.2.1 203 k rfl).trans ((eh1882.1 203 k (fun q => absurd q (by decide))).trans (eh1878.1 203 k (fun q => absurd q (by decide))))))))) (fun q => absurd q (by decide)) (fun k hk => ((k1905.2.2.1 214 k rfl).trans ((eh1897.1 214 k (fun q => absurd q (by decide))).trans ((eh1894.1 214 k (fun q => absurd q (by decide))).trans ((k1890.2.2.1 214 k rfl).trans ((eh1882.1 214 k (fun _ => hk)).trans (eh1878.1 214 k (fun q => absurd q (by decide))))))))) (fun _ => ((k1905.2.2.1 _ _ rfl).trans ((eh1897.1 _ _ (fun q => absurd q (by decide))).trans ((eh1894.1 _ _ (fun q => absurd q (by decide))).trans ((k1890.2.2.1 _ _ rfl).trans eh1882.2.1))))) (fun k hk => ((k1905.2.2.1 215 k rfl).trans ((eh1897.1 215 k (fun q => absurd q (by decide))).trans ((eh1894.1 215 k (fun q => absurd q (by decide))).trans ((k1890.2.2.1 215 k rfl).trans ((eh1882.1 215 k (fun q => absurd q (by decide))).trans (eh1878.1 215 k (fun _ => hk)))))))) ((k1905.2.2.1 _ _ rfl).trans ((eh1897.1 _ _ (fun q => absurd q (by decide))).trans ((eh1894.1 _ _ (fun q => absurd q (by decide))).trans ((k1890.2.2.1 _ _ rfl).trans ((eh1882.1 _ _ (fun q => absurd q (by decide))).trans eh1878.2.1))))) (fun k hk => ((k1905.2.2.1 216 k rfl).trans ((eh1897.1 216 k (fun q => absurd q (by decide))).trans ((eh1894.1 216 k (fun _ => hk)).trans ((k1890.2.2.1 216 k rfl).trans ((eh1882.1 216 k (fun q => absurd q (by decide))).trans (eh1878.1 216 k (fun q => absurd q (by decide))))))))) ((k1905.2.2.1 _ _ rfl).trans ((eh1897.1 _ _ (fun q => absurd q (by decide))).trans eh1894.2.1)) (by intro a ha; simp only [List.mem_cons, List.not_mem_nil, or_false] at ha; rcases ha with rfl | rfl | rfl | rfl ; exact (funext (fun k => ((k1905.2.2.1 210 k rfl).trans ((eh1897.1 210 k (fun q => absurd q (by decide))).trans ((eh1894.1 210 k (fun q => absurd q (by decide))).trans ((k1890.2.2.1 210 k rfl).trans ((eh1882.1 210 k (fun q => absurd q (by decide))).trans (eh1878.1 210 k (fun q => absurd q (by decide)))))))))) ; exact (funext (fun k => ((k1905.2.2.1 211 k rfl).trans ((eh1897.1 211 k (fun q => absurd q (by decide))).trans ((eh1894.1 211 k (fun q => absurd q (by decide))).trans ((k1890.2.2.1 211 k rfl).trans ((eh1882.1 211 k (fun q => absurd q (by decide))).trans (eh1878.1 211 k (fun q => absurd q (by decide)))))))))) ; exact (funext (fun k => ((k1905.2.2.1 212 k rfl).trans ((eh1897.1 212 k (fun q => absurd q (by decide))).trans ((eh1894.1 212 k (fun q => absurd q (by decide))).trans ((k1890.2.2.1 212 k rfl).trans ((eh1882.1 212 k (fun q => absurd q (by decide))).trans (eh1878.1 212 k (fun q => absurd q (by decide)))))))))) ; exact (funext (fun k => ((k1905.2.2.1 213 k rfl).trans ((eh1897.1 213 k (fun q => absurd q (by decide))).trans ((eh1894.1 213 k (fun q => absurd q (by decide))).trans ((k1890.2.2.1 213 k rfl).trans ((eh1882.1 213 k (fun q => absurd q (by decide))).trans (eh1878.1 213 k (fun q => absurd q (by decide)))))))))))⟩), k1907⟩
                  · refine A_aload_n 0 d_MD_voicePart_302 rfl rfl ?_
                    refine A_iconst d_MD_voicePart_303 rfl ?_
                    have zf1911 := esd1.symm
                    have zf1912 := esd2.symm
                    have zf1913 := esd3.symm
                    have zf1914 := esd4.symm
                    have zf1915 := esd5.symm
                    refine A_callV1 m_MD_put T_ok d_MD_voicePart_304 l_MD_369 k_MD_put (mi_s k0.1 sf_170) rfl (by decide +kernel) (by decide) (Nat.le_of_ble_eq_true rfl) (s_MD_put k0.1 (by first | (clear hps; omega) | omega) (by first | (clear hps; omega) | omega) esd3.symm (by first | (clear hps; omega) | omega)) (fun r h1910 hq => ?_)
                    obtain ⟨rfl, xk1916, k1916⟩ := hq
                    have k1917 := kM_t k0 k1916 (pm_s (by decide) (by decide))
                    refine A_aload_n 0 d_MD_voicePart_307 rfl rfl ?_
                    have zf1919 := ((k1916.2.2.1 _ _ rfl).trans esd1.symm)
                    have zf1920 := ((k1916.2.2.1 _ _ rfl).trans esd2.symm)
                    have zf1921 := xk1916.1
                    have zf1922 := ((k1916.2.2.1 _ _ rfl).trans esd4.symm)
                    have zf1923 := ((k1916.2.2.1 _ _ rfl).trans esd5.symm)
                    refine A_callV0 m_MD_next T_ok d_MD_voicePart_308 l_MD_309 k_MD_next (mi_s k1917.1 sf_170) rfl (by decide +kernel) (by decide) (Nat.le_of_ble_eq_true rfl) (s_MD_next k1917.1 (by have qq0 := ((k1916.2.2.1 _ _ rfl).trans esd1.symm); have qq1 := ((k1916.2.2.1 _ _ rfl).trans esd2.symm); first | (clear hps; omega) | omega)) (fun r h1918 hq => ?_)
                    obtain ⟨x1925, rfl, ⟨_, _⟩, xx1925, k1924⟩ := hq
                    have xa1925 := xx1925.1
                    have xb1925 := xx1925.2.1
                    have k1926 := kM_t k1917 k1924 (pm_s (by decide) (by decide))
                    obtain ⟨sd1927, esd1927⟩ : ∃ x, x = h1918.2.1 170 3 := ⟨_, rfl⟩
                    have rsd1927 : 0 ≤ sd1927 ∧ sd1927 ≤ 2000 := (by rw [esd1927]; exact mi_g k1926.1 (by decide) mr_170_3)
                    obtain ⟨sd1928, esd1928⟩ : ∃ x, x = h1918.2.1 170 4 := ⟨_, rfl⟩
                    have rsd1928 : 0 ≤ sd1928 ∧ sd1928 ≤ 6 := (by rw [esd1928]; exact mi_g k1926.1 (by decide) mr_170_4)
                    exact A_zret d_MD_voicePart_311 (by decide) rfl (by first | (clear hps; omega) | omega) ⟨_, rfl, by first | (clear hps; omega) | omega, (fun hz => ⟨by first | (clear hps; omega) | omega, (by have qq0 := esd1927.symm; have qq1 := ((k1924.2.2.1 _ _ rfl).trans ((k1916.2.2.1 _ _ rfl).trans esd2.symm)); have qq2 := esd1928.symm; exact ⟨by first | (clear hps; omega) | omega, by first | (clear hps; omega) | omega, by first | (clear hps; omega) | omega, by first | (clear hps; omega) | omega⟩), (by have qq0 := esd1927.symm; have qq1 := ((k1924.2.2.1 _ _ rfl).trans ((k1916.2.2.1 _ _ rfl).trans esd2.symm)); have qq2 := esd1928.symm; have qq3 := ((k1924.2.2.1 _ _ rfl).trans xk1916.1); exact ⟨by first | (clear hps; omega) | omega, by first | (clear hps; omega) | omega⟩), VH_s (x := sd3) hVH esd3.symm ((k1924.2.2.1 _ _ rfl).trans xk1916.1) (((k1924.2.2.1 170 63 rfl).trans (k1916.2.2.1 170 63 rfl))) (fun k hk => ((k1924.2.2.1 201 k rfl).trans (xk1916.2.1 k hk))) (Or.inl ((k1924.2.2.1 _ _ rfl).trans xk1916.2.2)) (fun k hk => ((k1924.2.2.1 202 k rfl).trans (k1916.2.2.1 202 k rfl))) (by intro a ha; simp only [List.mem_cons, List.not_mem_nil, or_false] at ha; rcases ha with rfl | rfl | rfl | rfl | rfl | rfl | rfl | rfl ; exact (funext (fun k => ((k1924.2.2.1 203 k rfl).trans (k1916.2.2.1 203 k rfl)))) ; exact (funext (fun k => ((k1924.2.2.1 210 k rfl).trans (k1916.2.2.1 210 k rfl)))) ; exact (funext (fun k => ((k1924.2.2.1 211 k rfl).trans (k1916.2.2.1 211 k rfl)))) ; exact (funext (fun k => ((k1924.2.2.1 212 k rfl).trans (k1916.2.2.1 212 k rfl)))) ; exact (funext (fun k => ((k1924.2.2.1 213 k rfl).trans (k1916.2.2.1 213 k rfl)))) ; exact (funext (fun k => ((k1924.2.2.1 214 k rfl).trans (k1916.2.2.1 214 k rfl)))) ; exact (funext (fun k => ((k1924.2.2.1 215 k rfl).trans (k1916.2.2.1 215 k rfl)))) ; exact (funext (fun k => ((k1924.2.2.1 216 k rfl).trans (k1916.2.2.1 216 k rfl)))))⟩), k1926⟩
                · refine A_aload_n 0 d_MD_voicePart_283 rfl rfl ?_
                  refine A_iconst d_MD_voicePart_284 rfl ?_
                  refine A_aload_n 0 d_MD_voicePart_285 rfl rfl ?_
                  refine A_getIn (lo := 0) (hi := 2000) T_ok d_MD_voicePart_286 f_MD_242 (mi_s k0.1 sf_170) (mi_g k0.1 (by decide) mr_170_5) (fun x1929 ex1929 _ _ => ?_)
                  have zf1931 := esd1.symm
                  have zf1932 := esd2.symm
                  have zf1933 := esd3.symm
                  have zf1934 := esd4.symm
                  have zf1935 := esd5.symm
                  refine A_callV2 m_MD_wrong T_ok d_MD_voicePart_289 l_MD_245 k_MD_wrong (mi_s k0.1 sf_170) rfl (by decide +kernel) (by decide) (Nat.le_of_ble_eq_true rfl) (s_MD_wrong k0.1 (by first | (clear hps; omega) | omega) (by first | (clear hps; omega) | omega) (by first | (clear hps; omega) | omega) (by first | (clear hps; omega) | omega)) (fun r h1930 hq => ?_)
                  obtain ⟨x1937, rfl, ⟨_, _⟩, k1936⟩ := hq
                  have k1938 := kM_t k0 k1936 (pm_s (by decide) (by decide))
                  obtain rfl : x1937 = 0 := by first | (clear hps; omega) | omega
                  exact A_zret d_MD_voicePart_292 (by decide) rfl (by first | (clear hps; omega) | omega) ⟨_, rfl, by first | (clear hps; omega) | omega, (fun q => absurd q (by decide)), k1938⟩
              · refine A_aload_n 0 d_MD_voicePart_232 rfl rfl ?_
                refine A_bipush d_MD_voicePart_233 rfl ?_
                have zf1940 := esd1.symm
                have zf1941 := esd2.symm
                have zf1942 := esd3.symm
                have zf1943 := esd4.symm
                have zf1944 := esd5.symm
                refine A_callV1 m_MD_isSign T_ok d_MD_voicePart_235 l_MD_306 k_MD_isSign (mi_s k0.1 sf_170) rfl (by decide +kernel) (by decide) (Nat.le_of_ble_eq_true rfl) (s_MD_isSign k0.1 ) (fun r h1939 hq => ?_)
                obtain ⟨x1946, rfl, bx1946, xx1946, rfl⟩ := hq
                refine A_if_ne (tgt := 259) d_MD_voicePart_238 (by decide) (fun c1947 => ?_) (fun c1947 => ?_)
                · refine A_iconst d_MD_voicePart_259 rfl ?_
                  refine A_goto (tgt := 264) d_MD_voicePart_260 (by decide) ?_
                  refine A_istore_n 1 (L' := [some (av_R (some 170)), some (av_I 1), none]) d_MD_voicePart_264 rfl (Nat.le_of_ble_eq_true rfl) rfl ?_
                  refine A_iload_n 1 d_MD_voicePart_265 rfl rfl ?_
                  refine A_if_ne (tgt := 274) d_MD_voicePart_266 (by decide) (fun _ => ?_) (fun c => absurd c (by decide))
                  refine A_aload_n 0 d_MD_voicePart_274 rfl rfl ?_
                  refine A_getIv (z := sd4) T_ok d_MD_voicePart_275 f_MD_357 (mi_s k0.1 sf_170) esd4.symm ?_
                  refine A_bipush d_MD_voicePart_278 rfl ?_
                  refine A_icmp_le (tgt := 293) d_MD_voicePart_280 (by decide) (fun c1950 => ?_) (fun c1950 => ?_)
                  · refine A_aload_n 0 d_MD_voicePart_293 rfl rfl ?_
                    refine A_bipush d_MD_voicePart_294 rfl ?_
                    have zf1952 := esd1.symm
                    have zf1953 := esd2.symm
                    have zf1954 := esd3.symm
                    have zf1955 := esd4.symm
                    have zf1956 := esd5.symm
                    refine A_callV1 m_MD_isSign T_ok d_MD_voicePart_296 l_MD_306 k_MD_isSign (mi_s k0.1 sf_170) rfl (by decide +kernel) (by decide) (Nat.le_of_ble_eq_true rfl) (s_MD_isSign k0.1 ) (fun r h1951 hq => ?_)
                    obtain ⟨x1958, rfl, bx1958, xx1958, rfl⟩ := hq
                    refine A_if_eq (tgt := 312) d_MD_voicePart_299 (by decide) (fun c1959 => ?_) (fun c1959 => ?_)
                    · refine A_aload_n 0 d_MD_voicePart_312 rfl rfl ?_
                      refine A_bipush d_MD_voicePart_313 rfl ?_
                      have zf1961 := esd1.symm
                      have zf1962 := esd2.symm
                      have zf1963 := esd3.symm
                      have zf1964 := esd4.symm
                      have zf1965 := esd5.symm
                      refine A_callV1 m_MD_isSign T_ok d_MD_voicePart_315 l_MD_306 k_MD_isSign (mi_s k0.1 sf_170) rfl (by decide +kernel) (by decide) (Nat.le_of_ble_eq_true rfl) (s_MD_isSign k0.1 ) (fun r h1960 hq => ?_)
                      obtain ⟨x1967, rfl, bx1967, xx1967, rfl⟩ := hq
                      refine A_if_eq (tgt := 374) d_MD_voicePart_318 (by decide) (fun c1968 => ?_) (fun c1968 => ?_)
                      · refine A_aload_n 0 d_MD_voicePart_374 rfl rfl ?_
                        refine A_bipush d_MD_voicePart_375 rfl ?_
                        have zf1970 := esd1.symm
                        have zf1971 := esd2.symm
                        have zf1972 := esd3.symm
                        have zf1973 := esd4.symm
                        have zf1974 := esd5.symm
                        refine A_callV1 m_MD_isSign T_ok d_MD_voicePart_377 l_MD_306 k_MD_isSign (mi_s k0.1 sf_170) rfl (by decide +kernel) (by decide) (Nat.le_of_ble_eq_true rfl) (s_MD_isSign k0.1 ) (fun r h1969 hq => ?_)
                        obtain ⟨x1976, rfl, bx1976, xx1976, rfl⟩ := hq
                        refine A_if_eq (tgt := 388) d_MD_voicePart_380 (by decide) (fun c1977 => ?_) (fun c1977 => ?_)
                        · refine A_aload_n 0 d_MD_voicePart_388 rfl rfl ?_
                          have zf1979 := esd1.symm
                          have zf1980 := esd2.symm
                          have zf1981 := esd3.symm
                          have zf1982 := esd4.symm
                          have zf1983 := esd5.symm
                          refine A_callV0 m_MD_soundPart T_ok d_MD_voicePart_389 l_MD_375 k_MD_soundPart (mi_s k0.1 sf_170) rfl (by decide +kernel) (by decide) (Nat.le_of_ble_eq_true rfl) (s_MD_soundPart k0.1 (by have qq0 := esd1.symm; have qq1 := esd2.symm; first | (clear hps; omega) | omega) (by have qq0 := esd1.symm; have qq1 := esd2.symm; have qq2 := esd5.symm; have qq3 := esd3.symm; exact ⟨by first | (clear hps; omega) | omega, by first | (clear hps; omega) | omega⟩) (by have qq0 := esd5.symm; exact ⟨by first | (clear hps; omega) | omega, by first | (clear hps; omega) | omega⟩) hVH) (fun r h1978 hq => ?_)
                          obtain ⟨x1985, rfl, bx1985, xx1985, k1984⟩ := hq
                          have k1986 := kM_t k0 k1984 (pm_s (by decide) (by decide))
                          obtain ⟨sd1987, esd1987⟩ : ∃ x, x = h1978.2.1 170 3 := ⟨_, rfl⟩
                          have rsd1987 : 0 ≤ sd1987 ∧ sd1987 ≤ 2000 := (by rw [esd1987]; exact mi_g k1986.1 (by decide) mr_170_3)
                          obtain ⟨sd1988, esd1988⟩ : ∃ x, x = h1978.2.1 170 43 := ⟨_, rfl⟩
                          have rsd1988 : 0 ≤ sd1988 ∧ sd1988 ≤ 2001 := (by rw [esd1988]; exact mi_g k1986.1 (by decide) mr_170_43)
                          obtain ⟨sd1989, esd1989⟩ : ∃ x, x = h1978.2.1 170 4 := ⟨_, rfl⟩
                          have rsd1989 : 0 ≤ sd1989 ∧ sd1989 ≤ 6 := (by rw [esd1989]; exact mi_g k1986.1 (by decide) mr_170_4)
                          exact A_zret d_MD_voicePart_392 (by decide) rfl (by first | (clear hps; omega) | omega) ⟨_, rfl, by first | (clear hps; omega) | omega, (fun hz => ⟨by first | (clear hps; omega) | omega, (by have qq0 := esd1987.symm; have qq1 := ((k1984.2.2.1 _ _ rfl).trans esd2.symm); have qq2 := esd1989.symm; exact ⟨by first | (clear hps; omega) | omega, by first | (clear hps; omega) | omega, by first | (clear hps; omega) | omega, by first | (clear hps; omega) | omega⟩), (by have qq0 := esd1987.symm; have qq1 := ((k1984.2.2.1 _ _ rfl).trans esd2.symm); have qq2 := esd1989.symm; have qq3 := esd1988.symm; exact ⟨by first | (clear hps; omega) | omega, by first | (clear hps; omega) | omega⟩), (xx1985 hz).2.2⟩), k1986⟩
                        · refine A_aload_n 0 d_MD_voicePart_383 rfl rfl ?_
                          have zf1991 := esd1.symm
                          have zf1992 := esd2.symm
                          have zf1993 := esd3.symm
                          have zf1994 := esd4.symm
                          have zf1995 := esd5.symm
                          refine A_callV0 m_MD_timesPart T_ok d_MD_voicePart_384 l_MD_372 k_MD_timesPart (mi_s k0.1 sf_170) rfl (by decide +kernel) (by decide) (Nat.le_of_ble_eq_true rfl) (s_MD_timesPart k0.1 (by have qq0 := esd1.symm; have qq1 := esd2.symm; first | (clear hps; omega) | omega) (by have qq0 := esd1.symm; have qq1 := esd2.symm; have qq2 := esd5.symm; have qq3 := esd3.symm; exact ⟨by first | (clear hps; omega) | omega, by first | (clear hps; omega) | omega⟩) (by have qq0 := esd5.symm; exact ⟨by first | (clear hps; omega) | omega, by first | (clear hps; omega) | omega⟩) hVH (by have qq0 := esd4.symm; first | (clear hps; omega) | omega)) (fun r h1990 hq => ?_)
                          obtain ⟨x1997, rfl, bx1997, xx1997, k1996⟩ := hq
                          have k1998 := kM_t k0 k1996 (pm_s (by decide) (by decide))
                          obtain ⟨sd1999, esd1999⟩ : ∃ x, x = h1990.2.1 170 3 := ⟨_, rfl⟩
                          have rsd1999 : 0 ≤ sd1999 ∧ sd1999 ≤ 2000 := (by rw [esd1999]; exact mi_g k1998.1 (by decide) mr_170_3)
                          obtain ⟨sd2000, esd2000⟩ : ∃ x, x = h1990.2.1 170 43 := ⟨_, rfl⟩
                          have rsd2000 : 0 ≤ sd2000 ∧ sd2000 ≤ 2001 := (by rw [esd2000]; exact mi_g k1998.1 (by decide) mr_170_43)
                          obtain ⟨sd2001, esd2001⟩ : ∃ x, x = h1990.2.1 170 63 := ⟨_, rfl⟩
                          have rsd2001 : 0 ≤ sd2001 ∧ sd2001 ≤ 7 := (by rw [esd2001]; exact mi_g k1998.1 (by decide) mr_170_63)
                          obtain ⟨sd2002, esd2002⟩ : ∃ x, x = h1990.2.1 170 4 := ⟨_, rfl⟩
                          have rsd2002 : 0 ≤ sd2002 ∧ sd2002 ≤ 6 := (by rw [esd2002]; exact mi_g k1998.1 (by decide) mr_170_4)
                          exact A_zret d_MD_voicePart_387 (by decide) rfl (by first | (clear hps; omega) | omega) ⟨_, rfl, by first | (clear hps; omega) | omega, (fun hz => ⟨by first | (clear hps; omega) | omega, (by have qq0 := esd1999.symm; have qq1 := ((k1996.2.2.1 _ _ rfl).trans esd2.symm); have qq2 := esd2002.symm; exact ⟨by first | (clear hps; omega) | omega, by first | (clear hps; omega) | omega, by first | (clear hps; omega) | omega, by first | (clear hps; omega) | omega⟩), (by have qq0 := esd1999.symm; have qq1 := ((k1996.2.2.1 _ _ rfl).trans esd2.symm); have qq2 := esd2002.symm; have qq3 := esd2000.symm; exact ⟨by first | (clear hps; omega) | omega, by first | (clear hps; omega) | omega⟩), (xx1997 hz).2.2⟩), k1998⟩
                      · refine A_aload_n 0 d_MD_voicePart_321 rfl rfl ?_
                        refine A_getAv (z := some 215) T_ok d_MD_voicePart_322 f_MD_148 (mi_s k0.1 sf_170) (mi_r k0.1 rfm_58) ?_
                        refine A_aload_n 0 d_MD_voicePart_325 rfl rfl ?_
                        refine A_getIv (z := sd4) T_ok d_MD_voicePart_326 f_MD_357 (mi_s k0.1 sf_170) esd4.symm ?_
                        refine A_aload_n 0 d_MD_voicePart_329 rfl rfl ?_
                        refine A_pc (pc' := 330) rfl ?_
                        refine A_getIv (z := sd3) T_ok d_MD_voicePart_330 f_MD_354 (mi_s k0.1 sf_170) esd3.symm ?_
                        refine A_iastorek (KR := kM (pm [3, 4, 5, 6, 7, 8, 9, 10, 11, 12, 43, 63, 64] [201, 202, 203, 204, 205, 206, 207, 208, 209, 210, 211, 212, 213, 214, 215, 216]) h) d_MD_voicePart_333 (mi_s k0.1 sf_215) (by first | (clear hps; omega) | omega) (by first | (clear hps; omega) | omega) (kM_i k0 (by decide) rfl (mr_215 _) (by first | (clear hps; omega) | omega) (by first | (clear hps; omega) | omega)) (fun h2006 k2007 eh2006 => ?_)
                        refine A_aload_n 0 d_MD_voicePart_334 rfl rfl ?_
                        refine A_getAv (z := some 214) T_ok d_MD_voicePart_335 f_MD_145 (mi_s k2007.1 sf_170) (mi_r k2007.1 rfm_57) ?_
                        refine A_aload_n 0 d_MD_voicePart_338 rfl rfl ?_
                        refine A_getIv (z := sd3) T_ok d_MD_voicePart_339 f_MD_354 (mi_s k2007.1 sf_170) ((eh2006.1 _ _ (fun q => absurd q (by decide))).trans esd3.symm) ?_
                        refine A_pc (pc' := 342) rfl ?_
                        refine A_iconst d_MD_voicePart_342 rfl ?_
                        refine A_iastorek (KR := kM (pm [3, 4, 5, 6, 7, 8, 9, 10, 11, 12, 43, 63, 64] [201, 202, 203, 204, 205, 206, 207, 208, 209, 210, 211, 212, 213, 214, 215, 216]) h) d_MD_voicePart_343 (mi_s k2007.1 sf_214) (by first | (clear hps; omega) | omega) (by first | (clear hps; omega) | omega) (kM_i k2007 (by decide) rfl (mr_214 _) (by first | (clear hps; omega) | omega) (by first | (clear hps; omega) | omega)) (fun h2010 k2011 eh2010 => ?_)
                        refine A_aload_n 0 d_MD_voicePart_344 rfl rfl ?_
                        refine A_iconst d_MD_voicePart_345 rfl ?_
                        have zf2013 := ((eh2010.1 _ _ (fun q => absurd q (by decide))).trans ((eh2006.1 _ _ (fun q => absurd q (by decide))).trans esd1.symm))
                        have zf2014 := ((eh2010.1 _ _ (fun q => absurd q (by decide))).trans ((eh2006.1 _ _ (fun q => absurd q (by decide))).trans esd2.symm))
                        have zf2015 := ((eh2010.1 _ _ (fun q => absurd q (by decide))).trans ((eh2006.1 _ _ (fun q => absurd q (by decide))).trans esd3.symm))
                        have zf2016 := ((eh2010.1 _ _ (fun q => absurd q (by decide))).trans ((eh2006.1 _ _ (fun q => absurd q (by decide))).trans esd4.symm))
                        have zf2017 := ((eh2010.1 _ _ (fun q => absurd q (by decide))).trans ((eh2006.1 _ _ (fun q => absurd q (by decide))).trans esd5.symm))
                        refine A_callV1 m_MD_put T_ok d_MD_voicePart_346 l_MD_369 k_MD_put (mi_s k2011.1 sf_170) rfl (by decide +kernel) (by decide) (Nat.le_of_ble_eq_true rfl) (s_MD_put k2011.1 (by first | (clear hps; omega) | omega) (by first | (clear hps; omega) | omega) ((eh2010.1 _ _ (fun q => absurd q (by decide))).trans ((eh2006.1 _ _ (fun q => absurd q (by decide))).trans esd3.symm)) (by first | (clear hps; omega) | omega)) (fun r h2012 hq => ?_)
                        obtain ⟨rfl, xk2018, k2018⟩ := hq
                        have k2019 := kM_t k2011 k2018 (pm_s (by decide) (by decide))
                        refine A_aload_n 0 d_MD_voicePart_349 rfl rfl ?_
                        refine A_getAv (z := some 216) T_ok d_MD_voicePart_350 f_MD_151 (mi_s k2019.1 sf_170) (mi_r k2019.1 rfm_62) ?_
                        refine A_aload_n 0 d_MD_voicePart_353 rfl rfl ?_
                        refine A_getIv (z := sd4) T_ok d_MD_voicePart_354 f_MD_357 (mi_s k2019.1 sf_170) ((k2018.2.2.1 _ _ rfl).trans ((eh2010.1 _ _ (fun q => absurd q (by decide))).trans ((eh2006.1 _ _ (fun q => absurd q (by decide))).trans esd4.symm))) ?_
                        refine A_iconst d_MD_voicePart_357 rfl ?_
                        refine A_pc (pc' := 358) rfl ?_
                        refine A_iastorek (KR := kM (pm [3, 4, 5, 6, 7, 8, 9, 10, 11, 12, 43, 63, 64] [201, 202, 203, 204, 205, 206, 207, 208, 209, 210, 211, 212, 213, 214, 215, 216]) h) d_MD_voicePart_358 (mi_s k2019.1 sf_216) (by first | (clear hps; omega) | omega) (by first | (clear hps; omega) | omega) (kM_i k2019 (by decide) rfl (mr_216 _) (by first | (clear hps; omega) | omega) (by first | (clear hps; omega) | omega)) (fun h2022 k2023 eh2022 => ?_)
                        refine A_aload_n 0 d_MD_voicePart_359 rfl rfl ?_
                        refine A_dupR d_MD_voicePart_360 ?_
                        refine A_getIv (z := sd4) T_ok d_MD_voicePart_361 f_MD_357 (mi_s k2023.1 sf_170) ((eh2022.1 _ _ (fun q => absurd q (by decide))).trans ((k2018.2.2.1 _ _ rfl).trans ((eh2010.1 _ _ (fun q => absurd q (by decide))).trans ((eh2006.1 _ _ (fun q => absurd q (by decide))).trans esd4.symm)))) ?_
                        refine A_iconst d_MD_voicePart_364 rfl ?_
                        refine A_iaddv (z := (sd4 + 1)) d_MD_voicePart_365 (w32_to (by first | (clear hps; omega) | omega) (by unfold i32; first | (clear hps; omega) | omega)) ?_
                        refine A_pc (pc' := 366) rfl ?_
                        refine A_putIk (KR := kM (pm [3, 4, 5, 6, 7, 8, 9, 10, 11, 12, 43, 63, 64] [201, 202, 203, 204, 205, 206, 207, 208, 209, 210, 211, 212, 213, 214, 215, 216]) h) T_ok d_MD_voicePart_366 f_MD_357 (mi_s k2023.1 sf_170) fin_f (kM_i k2023 (by decide) (by decide) mr_170_63 (by first | (clear hps; omega) | omega) (by first | (clear hps; omega) | omega)) (fun h2025 k2026 eh2025 => ?_)
                        refine A_aload_n 0 d_MD_voicePart_369 rfl rfl ?_
                        have zf2028 := ((eh2025.1 _ _ (fun _ => by decide)).trans ((eh2022.1 _ _ (fun q => absurd q (by decide))).trans ((k2018.2.2.1 _ _ rfl).trans ((eh2010.1 _ _ (fun q => absurd q (by decide))).trans ((eh2006.1 _ _ (fun q => absurd q (by decide))).trans esd1.symm)))))
                        have zf2029 := ((eh2025.1 _ _ (fun _ => by decide)).trans ((eh2022.1 _ _ (fun q => absurd q (by decide))).trans ((k2018.2.2.1 _ _ rfl).trans ((eh2010.1 _ _ (fun q => absurd q (by decide))).trans ((eh2006.1 _ _ (fun q => absurd q (by decide))).trans esd2.symm)))))
                        have zf2030 := ((eh2025.1 _ _ (fun _ => by decide)).trans ((eh2022.1 _ _ (fun q => absurd q (by decide))).trans xk2018.1))
                        have zf2031 := eh2025.2.1
                        have zf2032 := ((eh2025.1 _ _ (fun _ => by decide)).trans ((eh2022.1 _ _ (fun q => absurd q (by decide))).trans ((k2018.2.2.1 _ _ rfl).trans ((eh2010.1 _ _ (fun q => absurd q (by decide))).trans ((eh2006.1 _ _ (fun q => absurd q (by decide))).trans esd5.symm)))))
                        refine A_callV0 m_MD_next T_ok d_MD_voicePart_370 l_MD_309 k_MD_next (mi_s k2026.1 sf_170) rfl (by decide +kernel) (by decide) (Nat.le_of_ble_eq_true rfl) (s_MD_next k2026.1 (by have qq0 := ((eh2025.1 _ _ (fun _ => by decide)).trans ((eh2022.1 _ _ (fun q => absurd q (by decide))).trans ((k2018.2.2.1 _ _ rfl).trans ((eh2010.1 _ _ (fun q => absurd q (by decide))).trans ((eh2006.1 _ _ (fun q => absurd q (by decide))).trans esd1.symm))))); have qq1 := ((eh2025.1 _ _ (fun _ => by decide)).trans ((eh2022.1 _ _ (fun q => absurd q (by decide))).trans ((k2018.2.2.1 _ _ rfl).trans ((eh2010.1 _ _ (fun q => absurd q (by decide))).trans ((eh2006.1 _ _ (fun q => absurd q (by decide))).trans esd2.symm))))); first | (clear hps; omega) | omega)) (fun r h2027 hq => ?_)
                        obtain ⟨x2034, rfl, ⟨_, _⟩, xx2034, k2033⟩ := hq
                        have xa2034 := xx2034.1
                        have xb2034 := xx2034.2.1
                        have k2035 := kM_t k2026 k2033 (pm_s (by decide) (by decide))
                        obtain ⟨sd2036, esd2036⟩ : ∃ x, x = h2027.2.1 170 3 := ⟨_, rfl⟩
                        have rsd2036 : 0 ≤ sd2036 ∧ sd2036 ≤ 2000 := (by rw [esd2036]; exact mi_g k2035.1 (by decide) mr_170_3)
                        obtain ⟨sd2037, esd2037⟩ : ∃ x, x = h2027.2.1 170 4 := ⟨_, rfl⟩
                        have rsd2037 : 0 ≤ sd2037 ∧ sd2037 ≤ 6 := (by rw [esd2037]; exact mi_g k2035.1 (by decide) mr_170_4)
                        exact A_zret d_MD_voicePart_373 (by decide) rfl (by first | (clear hps; omega) | omega) ⟨_, rfl, by first | (clear hps; omega) | omega, (fun hz => ⟨by first | (clear hps; omega) | omega, (by have qq0 := esd2036.symm; have qq1 := ((k2033.2.2.1 _ _ rfl).trans ((eh2025.1 _ _ (fun _ => by decide)).trans ((eh2022.1 _ _ (fun q => absurd q (by decide))).trans ((k2018.2.2.1 _ _ rfl).trans ((eh2010.1 _ _ (fun q => absurd q (by decide))).trans ((eh2006.1 _ _ (fun q => absurd q (by decide))).trans esd2.symm)))))); have qq2 := esd2037.symm; exact ⟨by first | (clear hps; omega) | omega, by first | (clear hps; omega) | omega, by first | (clear hps; omega) | omega, by first | (clear hps; omega) | omega⟩), (by have qq0 := esd2036.symm; have qq1 := ((k2033.2.2.1 _ _ rfl).trans ((eh2025.1 _ _ (fun _ => by decide)).trans ((eh2022.1 _ _ (fun q => absurd q (by decide))).trans ((k2018.2.2.1 _ _ rfl).trans ((eh2010.1 _ _ (fun q => absurd q (by decide))).trans ((eh2006.1 _ _ (fun q => absurd q (by decide))).trans esd2.symm)))))); have qq2 := esd2037.symm; have qq3 := ((k2033.2.2.1 _ _ rfl).trans ((eh2025.1 _ _ (fun _ => by decide)).trans ((eh2022.1 _ _ (fun q => absurd q (by decide))).trans xk2018.1))); exact ⟨by first | (clear hps; omega) | omega, by first | (clear hps; omega) | omega⟩), VH_o (x := sd3) (m := sd4) (c := 2) hVH esd3.symm esd4.symm (by first | (clear hps; omega) | omega) ((k2033.2.2.1 _ _ rfl).trans ((eh2025.1 _ _ (fun _ => by decide)).trans ((eh2022.1 _ _ (fun q => absurd q (by decide))).trans xk2018.1))) ((k2033.2.2.1 _ _ rfl).trans eh2025.2.1) (by decide) (fun k hk => ((k2033.2.2.1 201 k rfl).trans ((eh2025.1 201 k (fun q => absurd q (by decide))).trans ((eh2022.1 201 k (fun q => absurd q (by decide))).trans ((xk2018.2.1 k hk).trans ((eh2010.1 201 k (fun q => absurd q (by decide))).trans (eh2006.1 201 k (fun q => absurd q (by decide))))))))) ((k2033.2.2.1 _ _ rfl).trans ((eh2025.1 _ _ (fun q => absurd q (by decide))).trans ((eh2022.1 _ _ (fun q => absurd q (by decide))).trans xk2018.2.2))) (fun k hk => ((k2033.2.2.1 202 k rfl).trans ((eh2025.1 202 k (fun q => absurd q (by decide))).trans ((eh2022.1 202 k (fun q => absurd q (by decide))).trans ((k2018.2.2.1 202 k rfl).trans ((eh2010.1 202 k (fun q => absurd q (by decide))).trans (eh2006.1 202 k (fun q => absurd q (by decide))))))))) (fun k hk => ((k2033.2.2.1 203 k rfl).trans ((eh2025.1 203 k (fun q => absurd q (by decide))).trans ((eh2022.1 203 k (fun q => absurd q (by decide))).trans ((k2018.2.2.1 203 k rfl).trans ((eh2010.1 203 k (fun q => absurd q (by decide))).trans (eh2006.1 203 k (fun q => absurd q (by decide))))))))) (fun q => absurd q (by decide)) (fun k hk => ((k2033.2.2.1 214 k rfl).trans ((eh2025.1 214 k (fun q => absurd q (by decide))).trans ((eh2022.1 214 k (fun q => absurd q (by decide))).trans ((k2018.2.2.1 214 k rfl).trans ((eh2010.1 214 k (fun _ => hk)).trans (eh2006.1 214 k (fun q => absurd q (by decide))))))))) (fun _ => ((k2033.2.2.1 _ _ rfl).trans ((eh2025.1 _ _ (fun q => absurd q (by decide))).trans ((eh2022.1 _ _ (fun q => absurd q (by decide))).trans ((k2018.2.2.1 _ _ rfl).trans eh2010.2.1))))) (fun k hk => ((k2033.2.2.1 215 k rfl).trans ((eh2025.1 215 k (fun q => absurd q (by decide))).trans ((eh2022.1 215 k (fun q => absurd q (by decide))).trans ((k2018.2.2.1 215 k rfl).trans ((eh2010.1 215 k (fun q => absurd q (by decide))).trans (eh2006.1 215 k (fun _ => hk)))))))) ((k2033.2.2.1 _ _ rfl).trans ((eh2025.1 _ _ (fun q => absurd q (by decide))).trans ((eh2022.1 _ _ (fun q => absurd q (by decide))).trans ((k2018.2.2.1 _ _ rfl).trans ((eh2010.1 _ _ (fun q => absurd q (by decide))).trans eh2006.2.1))))) (fun k hk => ((k2033.2.2.1 216 k rfl).trans ((eh2025.1 216 k (fun q => absurd q (by decide))).trans ((eh2022.1 216 k (fun _ => hk)).trans ((k2018.2.2.1 216 k rfl).trans ((eh2010.1 216 k (fun q => absurd q (by decide))).trans (eh2006.1 216 k (fun q => absurd q (by decide))))))))) ((k2033.2.2.1 _ _ rfl).trans ((eh2025.1 _ _ (fun q => absurd q (by decide))).trans eh2022.2.1)) (by intro a ha; simp only [List.mem_cons, List.not_mem_nil, or_false] at ha; rcases ha with rfl | rfl | rfl | rfl ; exact (funext (fun k => ((k2033.2.2.1 210 k rfl).trans ((eh2025.1 210 k (fun q => absurd q (by decide))).trans ((eh2022.1 210 k (fun q => absurd q (by decide))).trans ((k2018.2.2.1 210 k rfl).trans ((eh2010.1 210 k (fun q => absurd q (by decide))).trans (eh2006.1 210 k (fun q => absurd q (by decide)))))))))) ; exact (funext (fun k => ((k2033.2.2.1 211 k rfl).trans ((eh2025.1 211 k (fun q => absurd q (by decide))).trans ((eh2022.1 211 k (fun q => absurd q (by decide))).trans ((k2018.2.2.1 211 k rfl).trans ((eh2010.1 211 k (fun q => absurd q (by decide))).trans (eh2006.1 211 k (fun q => absurd q (by decide)))))))))) ; exact (funext (fun k => ((k2033.2.2.1 212 k rfl).trans ((eh2025.1 212 k (fun q => absurd q (by decide))).trans ((eh2022.1 212 k (fun q => absurd q (by decide))).trans ((k2018.2.2.1 212 k rfl).trans ((eh2010.1 212 k (fun q => absurd q (by decide))).trans (eh2006.1 212 k (fun q => absurd q (by decide)))))))))) ; exact (funext (fun k => ((k2033.2.2.1 213 k rfl).trans ((eh2025.1 213 k (fun q => absurd q (by decide))).trans ((eh2022.1 213 k (fun q => absurd q (by decide))).trans ((k2018.2.2.1 213 k rfl).trans ((eh2010.1 213 k (fun q => absurd q (by decide))).trans (eh2006.1 213 k (fun q => absurd q (by decide)))))))))))⟩), k2035⟩
                    · refine A_aload_n 0 d_MD_voicePart_302 rfl rfl ?_
                      refine A_iconst d_MD_voicePart_303 rfl ?_
                      have zf2039 := esd1.symm
                      have zf2040 := esd2.symm
                      have zf2041 := esd3.symm
                      have zf2042 := esd4.symm
                      have zf2043 := esd5.symm
                      refine A_callV1 m_MD_put T_ok d_MD_voicePart_304 l_MD_369 k_MD_put (mi_s k0.1 sf_170) rfl (by decide +kernel) (by decide) (Nat.le_of_ble_eq_true rfl) (s_MD_put k0.1 (by first | (clear hps; omega) | omega) (by first | (clear hps; omega) | omega) esd3.symm (by first | (clear hps; omega) | omega)) (fun r h2038 hq => ?_)
                      obtain ⟨rfl, xk2044, k2044⟩ := hq
                      have k2045 := kM_t k0 k2044 (pm_s (by decide) (by decide))
                      refine A_aload_n 0 d_MD_voicePart_307 rfl rfl ?_
                      have zf2047 := ((k2044.2.2.1 _ _ rfl).trans esd1.symm)
                      have zf2048 := ((k2044.2.2.1 _ _ rfl).trans esd2.symm)
                      have zf2049 := xk2044.1
                      have zf2050 := ((k2044.2.2.1 _ _ rfl).trans esd4.symm)
                      have zf2051 := ((k2044.2.2.1 _ _ rfl).trans esd5.symm)
                      refine A_callV0 m_MD_next T_ok d_MD_voicePart_308 l_MD_309 k_MD_next (mi_s k2045.1 sf_170) rfl (by decide +kernel) (by decide) (Nat.le_of_ble_eq_true rfl) (s_MD_next k2045.1 (by have qq0 := ((k2044.2.2.1 _ _ rfl).trans esd1.symm); have qq1 := ((k2044.2.2.1 _ _ rfl).trans esd2.symm); first | (clear hps; omega) | omega)) (fun r h2046 hq => ?_)
                      obtain ⟨x2053, rfl, ⟨_, _⟩, xx2053, k2052⟩ := hq
                      have xa2053 := xx2053.1
                      have xb2053 := xx2053.2.1
                      have k2054 := kM_t k2045 k2052 (pm_s (by decide) (by decide))
                      obtain ⟨sd2055, esd2055⟩ : ∃ x, x = h2046.2.1 170 3 := ⟨_, rfl⟩
                      have rsd2055 : 0 ≤ sd2055 ∧ sd2055 ≤ 2000 := (by rw [esd2055]; exact mi_g k2054.1 (by decide) mr_170_3)
                      obtain ⟨sd2056, esd2056⟩ : ∃ x, x = h2046.2.1 170 4 := ⟨_, rfl⟩
                      have rsd2056 : 0 ≤ sd2056 ∧ sd2056 ≤ 6 := (by rw [esd2056]; exact mi_g k2054.1 (by decide) mr_170_4)
                      exact A_zret d_MD_voicePart_311 (by decide) rfl (by first | (clear hps; omega) | omega) ⟨_, rfl, by first | (clear hps; omega) | omega, (fun hz => ⟨by first | (clear hps; omega) | omega, (by have qq0 := esd2055.symm; have qq1 := ((k2052.2.2.1 _ _ rfl).trans ((k2044.2.2.1 _ _ rfl).trans esd2.symm)); have qq2 := esd2056.symm; exact ⟨by first | (clear hps; omega) | omega, by first | (clear hps; omega) | omega, by first | (clear hps; omega) | omega, by first | (clear hps; omega) | omega⟩), (by have qq0 := esd2055.symm; have qq1 := ((k2052.2.2.1 _ _ rfl).trans ((k2044.2.2.1 _ _ rfl).trans esd2.symm)); have qq2 := esd2056.symm; have qq3 := ((k2052.2.2.1 _ _ rfl).trans xk2044.1); exact ⟨by first | (clear hps; omega) | omega, by first | (clear hps; omega) | omega⟩), VH_s (x := sd3) hVH esd3.symm ((k2052.2.2.1 _ _ rfl).trans xk2044.1) (((k2052.2.2.1 170 63 rfl).trans (k2044.2.2.1 170 63 rfl))) (fun k hk => ((k2052.2.2.1 201 k rfl).trans (xk2044.2.1 k hk))) (Or.inl ((k2052.2.2.1 _ _ rfl).trans xk2044.2.2)) (fun k hk => ((k2052.2.2.1 202 k rfl).trans (k2044.2.2.1 202 k rfl))) (by intro a ha; simp only [List.mem_cons, List.not_mem_nil, or_false] at ha; rcases ha with rfl | rfl | rfl | rfl | rfl | rfl | rfl | rfl ; exact (funext (fun k => ((k2052.2.2.1 203 k rfl).trans (k2044.2.2.1 203 k rfl)))) ; exact (funext (fun k => ((k2052.2.2.1 210 k rfl).trans (k2044.2.2.1 210 k rfl)))) ; exact (funext (fun k => ((k2052.2.2.1 211 k rfl).trans (k2044.2.2.1 211 k rfl)))) ; exact (funext (fun k => ((k2052.2.2.1 212 k rfl).trans (k2044.2.2.1 212 k rfl)))) ; exact (funext (fun k => ((k2052.2.2.1 213 k rfl).trans (k2044.2.2.1 213 k rfl)))) ; exact (funext (fun k => ((k2052.2.2.1 214 k rfl).trans (k2044.2.2.1 214 k rfl)))) ; exact (funext (fun k => ((k2052.2.2.1 215 k rfl).trans (k2044.2.2.1 215 k rfl)))) ; exact (funext (fun k => ((k2052.2.2.1 216 k rfl).trans (k2044.2.2.1 216 k rfl)))))⟩), k2054⟩
                  · refine A_aload_n 0 d_MD_voicePart_283 rfl rfl ?_
                    refine A_iconst d_MD_voicePart_284 rfl ?_
                    refine A_aload_n 0 d_MD_voicePart_285 rfl rfl ?_
                    refine A_getIn (lo := 0) (hi := 2000) T_ok d_MD_voicePart_286 f_MD_242 (mi_s k0.1 sf_170) (mi_g k0.1 (by decide) mr_170_5) (fun x2057 ex2057 _ _ => ?_)
                    have zf2059 := esd1.symm
                    have zf2060 := esd2.symm
                    have zf2061 := esd3.symm
                    have zf2062 := esd4.symm
                    have zf2063 := esd5.symm
                    refine A_callV2 m_MD_wrong T_ok d_MD_voicePart_289 l_MD_245 k_MD_wrong (mi_s k0.1 sf_170) rfl (by decide +kernel) (by decide) (Nat.le_of_ble_eq_true rfl) (s_MD_wrong k0.1 (by first | (clear hps; omega) | omega) (by first | (clear hps; omega) | omega) (by first | (clear hps; omega) | omega) (by first | (clear hps; omega) | omega)) (fun r h2058 hq => ?_)
                    obtain ⟨x2065, rfl, ⟨_, _⟩, k2064⟩ := hq
                    have k2066 := kM_t k0 k2064 (pm_s (by decide) (by decide))
                    obtain rfl : x2065 = 0 := by first | (clear hps; omega) | omega
                    exact A_zret d_MD_voicePart_292 (by decide) rfl (by first | (clear hps; omega) | omega) ⟨_, rfl, by first | (clear hps; omega) | omega, (fun q => absurd q (by decide)), k2066⟩
                · refine A_aload_n 0 d_MD_voicePart_241 rfl rfl ?_
                  refine A_bipush d_MD_voicePart_242 rfl ?_
                  have zf2068 := esd1.symm
                  have zf2069 := esd2.symm
                  have zf2070 := esd3.symm
                  have zf2071 := esd4.symm
                  have zf2072 := esd5.symm
                  refine A_callV1 m_MD_isSign T_ok d_MD_voicePart_244 l_MD_306 k_MD_isSign (mi_s k0.1 sf_170) rfl (by decide +kernel) (by decide) (Nat.le_of_ble_eq_true rfl) (s_MD_isSign k0.1 ) (fun r h2067 hq => ?_)
                  obtain ⟨x2074, rfl, bx2074, xx2074, rfl⟩ := hq
                  refine A_if_ne (tgt := 259) d_MD_voicePart_247 (by decide) (fun c2075 => ?_) (fun c2075 => ?_)
                  · refine A_iconst d_MD_voicePart_259 rfl ?_
                    refine A_goto (tgt := 264) d_MD_voicePart_260 (by decide) ?_
                    refine A_istore_n 1 (L' := [some (av_R (some 170)), some (av_I 1), none]) d_MD_voicePart_264 rfl (Nat.le_of_ble_eq_true rfl) rfl ?_
                    refine A_iload_n 1 d_MD_voicePart_265 rfl rfl ?_
                    refine A_if_ne (tgt := 274) d_MD_voicePart_266 (by decide) (fun _ => ?_) (fun c => absurd c (by decide))
                    refine A_aload_n 0 d_MD_voicePart_274 rfl rfl ?_
                    refine A_getIv (z := sd4) T_ok d_MD_voicePart_275 f_MD_357 (mi_s k0.1 sf_170) esd4.symm ?_
                    refine A_bipush d_MD_voicePart_278 rfl ?_
                    refine A_icmp_le (tgt := 293) d_MD_voicePart_280 (by decide) (fun c2078 => ?_) (fun c2078 => ?_)
                    · refine A_aload_n 0 d_MD_voicePart_293 rfl rfl ?_
                      refine A_bipush d_MD_voicePart_294 rfl ?_
                      have zf2080 := esd1.symm
                      have zf2081 := esd2.symm
                      have zf2082 := esd3.symm
                      have zf2083 := esd4.symm
                      have zf2084 := esd5.symm
                      refine A_callV1 m_MD_isSign T_ok d_MD_voicePart_296 l_MD_306 k_MD_isSign (mi_s k0.1 sf_170) rfl (by decide +kernel) (by decide) (Nat.le_of_ble_eq_true rfl) (s_MD_isSign k0.1 ) (fun r h2079 hq => ?_)
                      obtain ⟨x2086, rfl, bx2086, xx2086, rfl⟩ := hq
                      refine A_if_eq (tgt := 312) d_MD_voicePart_299 (by decide) (fun c2087 => ?_) (fun c2087 => ?_)
                      · refine A_aload_n 0 d_MD_voicePart_312 rfl rfl ?_
                        refine A_bipush d_MD_voicePart_313 rfl ?_
                        have zf2089 := esd1.symm
                        have zf2090 := esd2.symm
                        have zf2091 := esd3.symm
                        have zf2092 := esd4.symm
                        have zf2093 := esd5.symm
                        refine A_callV1 m_MD_isSign T_ok d_MD_voicePart_315 l_MD_306 k_MD_isSign (mi_s k0.1 sf_170) rfl (by decide +kernel) (by decide) (Nat.le_of_ble_eq_true rfl) (s_MD_isSign k0.1 ) (fun r h2088 hq => ?_)
                        obtain ⟨x2095, rfl, bx2095, xx2095, rfl⟩ := hq
                        refine A_if_eq (tgt := 374) d_MD_voicePart_318 (by decide) (fun c2096 => ?_) (fun c2096 => ?_)
                        · refine A_aload_n 0 d_MD_voicePart_374 rfl rfl ?_
                          refine A_bipush d_MD_voicePart_375 rfl ?_
                          have zf2098 := esd1.symm
                          have zf2099 := esd2.symm
                          have zf2100 := esd3.symm
                          have zf2101 := esd4.symm
                          have zf2102 := esd5.symm
                          refine A_callV1 m_MD_isSign T_ok d_MD_voicePart_377 l_MD_306 k_MD_isSign (mi_s k0.1 sf_170) rfl (by decide +kernel) (by decide) (Nat.le_of_ble_eq_true rfl) (s_MD_isSign k0.1 ) (fun r h2097 hq => ?_)
                          obtain ⟨x2104, rfl, bx2104, xx2104, rfl⟩ := hq
                          refine A_if_eq (tgt := 388) d_MD_voicePart_380 (by decide) (fun c2105 => ?_) (fun c2105 => ?_)
                          · refine A_aload_n 0 d_MD_voicePart_388 rfl rfl ?_
                            have zf2107 := esd1.symm
                            have zf2108 := esd2.symm
                            have zf2109 := esd3.symm
                            have zf2110 := esd4.symm
                            have zf2111 := esd5.symm
                            refine A_callV0 m_MD_soundPart T_ok d_MD_voicePart_389 l_MD_375 k_MD_soundPart (mi_s k0.1 sf_170) rfl (by decide +kernel) (by decide) (Nat.le_of_ble_eq_true rfl) (s_MD_soundPart k0.1 (by have qq0 := esd1.symm; have qq1 := esd2.symm; first | (clear hps; omega) | omega) (by have qq0 := esd1.symm; have qq1 := esd2.symm; have qq2 := esd5.symm; have qq3 := esd3.symm; exact ⟨by first | (clear hps; omega) | omega, by first | (clear hps; omega) | omega⟩) (by have qq0 := esd5.symm; exact ⟨by first | (clear hps; omega) | omega, by first | (clear hps; omega) | omega⟩) hVH) (fun r h2106 hq => ?_)
                            obtain ⟨x2113, rfl, bx2113, xx2113, k2112⟩ := hq
                            have k2114 := kM_t k0 k2112 (pm_s (by decide) (by decide))
                            obtain ⟨sd2115, esd2115⟩ : ∃ x, x = h2106.2.1 170 3 := ⟨_, rfl⟩
                            have rsd2115 : 0 ≤ sd2115 ∧ sd2115 ≤ 2000 := (by rw [esd2115]; exact mi_g k2114.1 (by decide) mr_170_3)
                            obtain ⟨sd2116, esd2116⟩ : ∃ x, x = h2106.2.1 170 43 := ⟨_, rfl⟩
                            have rsd2116 : 0 ≤ sd2116 ∧ sd2116 ≤ 2001 := (by rw [esd2116]; exact mi_g k2114.1 (by decide) mr_170_43)
                            obtain ⟨sd2117, esd2117⟩ : ∃ x, x = h2106.2.1 170 4 := ⟨_, rfl⟩
                            have rsd2117 : 0 ≤ sd2117 ∧ sd2117 ≤ 6 := (by rw [esd2117]; exact mi_g k2114.1 (by decide) mr_170_4)
                            exact A_zret d_MD_voicePart_392 (by decide) rfl (by first | (clear hps; omega) | omega) ⟨_, rfl, by first | (clear hps; omega) | omega, (fun hz => ⟨by first | (clear hps; omega) | omega, (by have qq0 := esd2115.symm; have qq1 := ((k2112.2.2.1 _ _ rfl).trans esd2.symm); have qq2 := esd2117.symm; exact ⟨by first | (clear hps; omega) | omega, by first | (clear hps; omega) | omega, by first | (clear hps; omega) | omega, by first | (clear hps; omega) | omega⟩), (by have qq0 := esd2115.symm; have qq1 := ((k2112.2.2.1 _ _ rfl).trans esd2.symm); have qq2 := esd2117.symm; have qq3 := esd2116.symm; exact ⟨by first | (clear hps; omega) | omega, by first | (clear hps; omega) | omega⟩), (xx2113 hz).2.2⟩), k2114⟩
                          · refine A_aload_n 0 d_MD_voicePart_383 rfl rfl ?_
                            have zf2119 := esd1.symm
                            have zf2120 := esd2.symm
                            have zf2121 := esd3.symm
                            have zf2122 := esd4.symm
                            have zf2123 := esd5.symm
                            refine A_callV0 m_MD_timesPart T_ok d_MD_voicePart_384 l_MD_372 k_MD_timesPart (mi_s k0.1 sf_170) rfl (by decide +kernel) (by decide) (Nat.le_of_ble_eq_true rfl) (s_MD_timesPart k0.1 (by have qq0 := esd1.symm; have qq1 := esd2.symm; first | (clear hps; omega) | omega) (by have qq0 := esd1.symm; have qq1 := esd2.symm; have qq2 := esd5.symm; have qq3 := esd3.symm; exact ⟨by first | (clear hps; omega) | omega, by first | (clear hps; omega) | omega⟩) (by have qq0 := esd5.symm; exact ⟨by first | (clear hps; omega) | omega, by first | (clear hps; omega) | omega⟩) hVH (by have qq0 := esd4.symm; first | (clear hps; omega) | omega)) (fun r h2118 hq => ?_)
                            obtain ⟨x2125, rfl, bx2125, xx2125, k2124⟩ := hq
                            have k2126 := kM_t k0 k2124 (pm_s (by decide) (by decide))
                            obtain ⟨sd2127, esd2127⟩ : ∃ x, x = h2118.2.1 170 3 := ⟨_, rfl⟩
                            have rsd2127 : 0 ≤ sd2127 ∧ sd2127 ≤ 2000 := (by rw [esd2127]; exact mi_g k2126.1 (by decide) mr_170_3)
                            obtain ⟨sd2128, esd2128⟩ : ∃ x, x = h2118.2.1 170 43 := ⟨_, rfl⟩
                            have rsd2128 : 0 ≤ sd2128 ∧ sd2128 ≤ 2001 := (by rw [esd2128]; exact mi_g k2126.1 (by decide) mr_170_43)
                            obtain ⟨sd2129, esd2129⟩ : ∃ x, x = h2118.2.1 170 63 := ⟨_, rfl⟩
                            have rsd2129 : 0 ≤ sd2129 ∧ sd2129 ≤ 7 := (by rw [esd2129]; exact mi_g k2126.1 (by decide) mr_170_63)
                            obtain ⟨sd2130, esd2130⟩ : ∃ x, x = h2118.2.1 170 4 := ⟨_, rfl⟩
                            have rsd2130 : 0 ≤ sd2130 ∧ sd2130 ≤ 6 := (by rw [esd2130]; exact mi_g k2126.1 (by decide) mr_170_4)
                            exact A_zret d_MD_voicePart_387 (by decide) rfl (by first | (clear hps; omega) | omega) ⟨_, rfl, by first | (clear hps; omega) | omega, (fun hz => ⟨by first | (clear hps; omega) | omega, (by have qq0 := esd2127.symm; have qq1 := ((k2124.2.2.1 _ _ rfl).trans esd2.symm); have qq2 := esd2130.symm; exact ⟨by first | (clear hps; omega) | omega, by first | (clear hps; omega) | omega, by first | (clear hps; omega) | omega, by first | (clear hps; omega) | omega⟩), (by have qq0 := esd2127.symm; have qq1 := ((k2124.2.2.1 _ _ rfl).trans esd2.symm); have qq2 := esd2130.symm; have qq3 := esd2128.symm; exact ⟨by first | (clear hps; omega) | omega, by first | (clear hps; omega) | omega⟩), (xx2125 hz).2.2⟩), k2126⟩
                        · refine A_aload_n 0 d_MD_voicePart_321 rfl rfl ?_
                          refine A_getAv (z := some 215) T_ok d_MD_voicePart_322 f_MD_148 (mi_s k0.1 sf_170) (mi_r k0.1 rfm_58) ?_
                          refine A_aload_n 0 d_MD_voicePart_325 rfl rfl ?_
                          refine A_getIv (z := sd4) T_ok d_MD_voicePart_326 f_MD_357 (mi_s k0.1 sf_170) esd4.symm ?_
                          refine A_aload_n 0 d_MD_voicePart_329 rfl rfl ?_
                          refine A_pc (pc' := 330) rfl ?_
                          refine A_getIv (z := sd3) T_ok d_MD_voicePart_330 f_MD_354 (mi_s k0.1 sf_170) esd3.symm ?_
                          refine A_iastorek (KR := kM (pm [3, 4, 5, 6, 7, 8, 9, 10, 11, 12, 43, 63, 64] [201, 202, 203, 204, 205, 206, 207, 208, 209, 210, 211, 212, 213, 214, 215, 216]) h) d_MD_voicePart_333 (mi_s k0.1 sf_215) (by first | (clear hps; omega) | omega) (by first | (clear hps; omega) | omega) (kM_i k0 (by decide) rfl (mr_215 _) (by first | (clear hps; omega) | omega) (by first | (clear hps; omega) | omega)) (fun h2134 k2135 eh2134 => ?_)
                          refine A_aload_n 0 d_MD_voicePart_334 rfl rfl ?_
                          refine A_getAv (z := some 214) T_ok d_MD_voicePart_335 f_MD_145 (mi_s k2135.1 sf_170) (mi_r k2135.1 rfm_57) ?_
                          refine A_aload_n 0 d_MD_voicePart_338 rfl rfl ?_
                          refine A_getIv (z := sd3) T_ok d_MD_voicePart_339 f_MD_354 (mi_s k2135.1 sf_170) ((eh2134.1 _ _ (fun q => absurd q (by decide))).trans esd3.symm) ?_
                          refine A_pc (pc' := 342) rfl ?_
                          refine A_iconst d_MD_voicePart_342 rfl ?_
                          refine A_iastorek (KR := kM (pm [3, 4, 5, 6, 7, 8, 9, 10, 11, 12, 43, 63, 64] [201, 202, 203, 204, 205, 206, 207, 208, 209, 210, 211, 212, 213, 214, 215, 216]) h) d_MD_voicePart_343 (mi_s k2135.1 sf_214) (by first | (clear hps; omega) | omega) (by first | (clear hps; omega) | omega) (kM_i k2135 (by decide) rfl (mr_214 _) (by first | (clear hps; omega) | omega) (by first | (clear hps; omega) | omega)) (fun h2138 k2139 eh2138 => ?_)
                          refine A_aload_n 0 d_MD_voicePart_344 rfl rfl ?_
                          refine A_iconst d_MD_voicePart_345 rfl ?_
                          have zf2141 := ((eh2138.1 _ _ (fun q => absurd q (by decide))).trans ((eh2134.1 _ _ (fun q => absurd q (by decide))).trans esd1.symm))
                          have zf2142 := ((eh2138.1 _ _ (fun q => absurd q (by decide))).trans ((eh2134.1 _ _ (fun q => absurd q (by decide))).trans esd2.symm))
                          have zf2143 := ((eh2138.1 _ _ (fun q => absurd q (by decide))).trans ((eh2134.1 _ _ (fun q => absurd q (by decide))).trans esd3.symm))
                          have zf2144 := ((eh2138.1 _ _ (fun q => absurd q (by decide))).trans ((eh2134.1 _ _ (fun q => absurd q (by decide))).trans esd4.symm))
                          have zf2145 := ((eh2138.1 _ _ (fun q => absurd q (by decide))).trans ((eh2134.1 _ _ (fun q => absurd q (by decide))).trans esd5.symm))
                          refine A_callV1 m_MD_put T_ok d_MD_voicePart_346 l_MD_369 k_MD_put (mi_s k2139.1 sf_170) rfl (by decide +kernel) (by decide) (Nat.le_of_ble_eq_true rfl) (s_MD_put k2139.1 (by first | (clear hps; omega) | omega) (by first | (clear hps; omega) | omega) ((eh2138.1 _ _ (fun q => absurd q (by decide))).trans ((eh2134.1 _ _ (fun q => absurd q (by decide))).trans esd3.symm)) (by first | (clear hps; omega) | omega)) (fun r h2140 hq => ?_)
                          obtain ⟨rfl, xk2146, k2146⟩ := hq
                          have k2147 := kM_t k2139 k2146 (pm_s (by decide) (by decide))
                          refine A_aload_n 0 d_MD_voicePart_349 rfl rfl ?_
                          refine A_getAv (z := some 216) T_ok d_MD_voicePart_350 f_MD_151 (mi_s k2147.1 sf_170) (mi_r k2147.1 rfm_62) ?_
                          refine A_aload_n 0 d_MD_voicePart_353 rfl rfl ?_
                          refine A_getIv (z := sd4) T_ok d_MD_voicePart_354 f_MD_357 (mi_s k2147.1 sf_170) ((k2146.2.2.1 _ _ rfl).trans ((eh2138.1 _ _ (fun q => absurd q (by decide))).trans ((eh2134.1 _ _ (fun q => absurd q (by decide))).trans esd4.symm))) ?_
                          refine A_iconst d_MD_voicePart_357 rfl ?_
                          refine A_pc (pc' := 358) rfl ?_
                          refine A_iastorek (KR := kM (pm [3, 4, 5, 6, 7, 8, 9, 10, 11, 12, 43, 63, 64] [201, 202, 203, 204, 205, 206, 207, 208, 209, 210, 211, 212, 213, 214, 215, 216]) h) d_MD_voicePart_358 (mi_s k2147.1 sf_216) (by first | (clear hps; omega) | omega) (by first | (clear hps; omega) | omega) (kM_i k2147 (by decide) rfl (mr_216 _) (by first | (clear hps; omega) | omega) (by first | (clear hps; omega) | omega)) (fun h2150 k2151 eh2150 => ?_)
                          refine A_aload_n 0 d_MD_voicePart_359 rfl rfl ?_
                          refine A_dupR d_MD_voicePart_360 ?_
                          refine A_getIv (z := sd4) T_ok d_MD_voicePart_361 f_MD_357 (mi_s k2151.1 sf_170) ((eh2150.1 _ _ (fun q => absurd q (by decide))).trans ((k2146.2.2.1 _ _ rfl).trans ((eh2138.1 _ _ (fun q => absurd q (by decide))).trans ((eh2134.1 _ _ (fun q => absurd q (by decide))).trans esd4.symm)))) ?_
                          refine A_iconst d_MD_voicePart_364 rfl ?_
                          refine A_iaddv (z := (sd4 + 1)) d_MD_voicePart_365 (w32_to (by first | (clear hps; omega) | omega) (by unfold i32; first | (clear hps; omega) | omega)) ?_
                          refine A_pc (pc' := 366) rfl ?_
                          refine A_putIk (KR := kM (pm [3, 4, 5, 6, 7, 8, 9, 10, 11, 12, 43, 63, 64] [201, 202, 203, 204, 205, 206, 207, 208, 209, 210, 211, 212, 213, 214, 215, 216]) h) T_ok d_MD_voicePart_366 f_MD_357 (mi_s k2151.1 sf_170) fin_f (kM_i k2151 (by decide) (by decide) mr_170_63 (by first | (clear hps; omega) | omega) (by first | (clear hps; omega) | omega)) (fun h2153 k2154 eh2153 => ?_)
                          refine A_aload_n 0 d_MD_voicePart_369 rfl rfl ?_
                          have zf2156 := ((eh2153.1 _ _ (fun _ => by decide)).trans ((eh2150.1 _ _ (fun q => absurd q (by decide))).trans ((k2146.2.2.1 _ _ rfl).trans ((eh2138.1 _ _ (fun q => absurd q (by decide))).trans ((eh2134.1 _ _ (fun q => absurd q (by decide))).trans esd1.symm)))))
                          have zf2157 := ((eh2153.1 _ _ (fun _ => by decide)).trans ((eh2150.1 _ _ (fun q => absurd q (by decide))).trans ((k2146.2.2.1 _ _ rfl).trans ((eh2138.1 _ _ (fun q => absurd q (by decide))).trans ((eh2134.1 _ _ (fun q => absurd q (by decide))).trans esd2.symm)))))
                          have zf2158 := ((eh2153.1 _ _ (fun _ => by decide)).trans ((eh2150.1 _ _ (fun q => absurd q (by decide))).trans xk2146.1))
                          have zf2159 := eh2153.2.1
                          have zf2160 := ((eh2153.1 _ _ (fun _ => by decide)).trans ((eh2150.1 _ _ (fun q => absurd q (by decide))).trans ((k2146.2.2.1 _ _ rfl).trans ((eh2138.1 _ _ (fun q => absurd q (by decide))).trans ((eh2134.1 _ _ (fun q => absurd q (by decide))).trans esd5.symm)))))
                          refine A_callV0 m_MD_next T_ok d_MD_voicePart_370 l_MD_309 k_MD_next (mi_s k2154.1 sf_170) rfl (by decide +kernel) (by decide) (Nat.le_of_ble_eq_true rfl) (s_MD_next k2154.1 (by have qq0 := ((eh2153.1 _ _ (fun _ => by decide)).trans ((eh2150.1 _ _ (fun q => absurd q (by decide))).trans ((k2146.2.2.1 _ _ rfl).trans ((eh2138.1 _ _ (fun q => absurd q (by decide))).trans ((eh2134.1 _ _ (fun q => absurd q (by decide))).trans esd1.symm))))); have qq1 := ((eh2153.1 _ _ (fun _ => by decide)).trans ((eh2150.1 _ _ (fun q => absurd q (by decide))).trans ((k2146.2.2.1 _ _ rfl).trans ((eh2138.1 _ _ (fun q => absurd q (by decide))).trans ((eh2134.1 _ _ (fun q => absurd q (by decide))).trans esd2.symm))))); first | (clear hps; omega) | omega)) (fun r h2155 hq => ?_)
                          obtain ⟨x2162, rfl, ⟨_, _⟩, xx2162, k2161⟩ := hq
                          have xa2162 := xx2162.1
                          have xb2162 := xx2162.2.1
                          have k2163 := kM_t k2154 k2161 (pm_s (by decide) (by decide))
                          obtain ⟨sd2164, esd2164⟩ : ∃ x, x = h2155.2.1 170 3 := ⟨_, rfl⟩
                          have rsd2164 : 0 ≤ sd2164 ∧ sd2164 ≤ 2000 := (by rw [esd2164]; exact mi_g k2163.1 (by decide) mr_170_3)
                          obtain ⟨sd2165, esd2165⟩ : ∃ x, x = h2155.2.1 170 4 := ⟨_, rfl⟩
                          have rsd2165 : 0 ≤ sd2165 ∧ sd2165 ≤ 6 := (by rw [esd2165]; exact mi_g k2163.1 (by decide) mr_170_4)
                          exact A_zret d_MD_voicePart_373 (by decide) rfl (by first | (clear hps; omega) | omega) ⟨_, rfl, by first | (clear hps; omega) | omega, (fun hz => ⟨by first | (clear hps; omega) | omega, (by have qq0 := esd2164.symm; have qq1 := ((k2161.2.2.1 _ _ rfl).trans ((eh2153.1 _ _ (fun _ => by decide)).trans ((eh2150.1 _ _ (fun q => absurd q (by decide))).trans ((k2146.2.2.1 _ _ rfl).trans ((eh2138.1 _ _ (fun q => absurd q (by decide))).trans ((eh2134.1 _ _ (fun q => absurd q (by decide))).trans esd2.symm)))))); have qq2 := esd2165.symm; exact ⟨by first | (clear hps; omega) | omega, by first | (clear hps; omega) | omega, by first | (clear hps; omega) | omega, by first | (clear hps; omega) | omega⟩), (by have qq0 := esd2164.symm; have qq1 := ((k2161.2.2.1 _ _ rfl).trans ((eh2153.1 _ _ (fun _ => by decide)).trans ((eh2150.1 _ _ (fun q => absurd q (by decide))).trans ((k2146.2.2.1 _ _ rfl).trans ((eh2138.1 _ _ (fun q => absurd q (by decide))).trans ((eh2134.1 _ _ (fun q => absurd q (by decide))).trans esd2.symm)))))); have qq2 := esd2165.symm; have qq3 := ((k2161.2.2.1 _ _ rfl).trans ((eh2153.1 _ _ (fun _ => by decide)).trans ((eh2150.1 _ _ (fun q => absurd q (by decide))).trans xk2146.1))); exact ⟨by first | (clear hps; omega) | omega, by first | (clear hps; omega) | omega⟩), VH_o (x := sd3) (m := sd4) (c := 2) hVH esd3.symm esd4.symm (by first | (clear hps; omega) | omega) ((k2161.2.2.1 _ _ rfl).trans ((eh2153.1 _ _ (fun _ => by decide)).trans ((eh2150.1 _ _ (fun q => absurd q (by decide))).trans xk2146.1))) ((k2161.2.2.1 _ _ rfl).trans eh2153.2.1) (by decide) (fun k hk => ((k2161.2.2.1 201 k rfl).trans ((eh2153.1 201 k (fun q => absurd q (by decide))).trans ((eh2150.1 201 k (fun q => absurd q (by decide))).trans ((xk2146.2.1 k hk).trans ((eh2138.1 201 k (fun q => absurd q (by decide))).trans (eh2134.1 201 k (fun q => absurd q (by decide))))))))) ((k2161.2.2.1 _ _ rfl).trans ((eh2153.1 _ _ (fun q => absurd q (by decide))).trans ((eh2150.1 _ _ (fun q => absurd q (by decide))).trans xk2146.2.2))) (fun k hk => ((k2161.2.2.1 202 k rfl).trans ((eh2153.1 202 k (fun q => absurd q (by decide))).trans ((eh2150.1 202 k (fun q => absurd q (by decide))).trans ((k2146.2.2.1 202 k rfl).trans ((eh2138.1 202 k (fun q => absurd q (by decide))).trans (eh2134.1 202 k (fun q => absurd q (by decide))))))))) (fun k hk => ((k2161.2.2.1 203 k rfl).trans ((eh2153.1 203 k (fun q => absurd q (by decide))).trans ((eh2150.1 203 k (fun q => absurd q (by decide))).trans ((k2146.2.2.1 203 k rfl).trans ((eh2138.1 203 k (fun q => absurd q (by decide))).trans (eh2134.1 203 k (fun q => absurd q (by decide))))))))) (fun q => absurd q (by decide)) (fun k hk => ((k2161.2.2.1 214 k rfl).trans ((eh2153.1 214 k (fun q => absurd q (by decide))).trans ((eh2150.1 214 k (fun q => absurd q (by decide))).trans ((k2146.2.2.1 214 k rfl).trans ((eh2138.1 214 k (fun _ => hk)).trans (eh2134.1 214 k (fun q => absurd q (by decide))))))))) (fun _ => ((k2161.2.2.1 _ _ rfl).trans ((eh2153.1 _ _ (fun q => absurd q (by decide))).trans ((eh2150.1 _ _ (fun q => absurd q (by decide))).trans ((k2146.2.2.1 _ _ rfl).trans eh2138.2.1))))) (fun k hk => ((k2161.2.2.1 215 k rfl).trans ((eh2153.1 215 k (fun q => absurd q (by decide))).trans ((eh2150.1 215 k (fun q => absurd q (by decide))).trans ((k2146.2.2.1 215 k rfl).trans ((eh2138.1 215 k (fun q => absurd q (by decide))).trans (eh2134.1 215 k (fun _ => hk)))))))) ((k2161.2.2.1 _ _ rfl).trans ((eh2153.1 _ _ (fun q => absurd q (by decide))).trans ((eh2150.1 _ _ (fun q => absurd q (by decide))).trans ((k2146.2.2.1 _ _ rfl).trans ((eh2138.1 _ _ (fun q => absurd q (by decide))).trans eh2134.2.1))))) (fun k hk => ((k2161.2.2.1 216 k rfl).trans ((eh2153.1 216 k (fun q => absurd q (by decide))).trans ((eh2150.1 216 k (fun _ => hk)).trans ((k2146.2.2.1 216 k rfl).trans ((eh2138.1 216 k (fun q => absurd q (by decide))).trans (eh2134.1 216 k (fun q => absurd q (by decide))))))))) ((k2161.2.2.1 _ _ rfl).trans ((eh2153.1 _ _ (fun q => absurd q (by decide))).trans eh2150.2.1)) (by intro a ha; simp only [List.mem_cons, List.not_mem_nil, or_false] at ha; rcases ha with rfl | rfl | rfl | rfl ; exact (funext (fun k => ((k2161.2.2.1 210 k rfl).trans ((eh2153.1 210 k (fun q => absurd q (by decide))).trans ((eh2150.1 210 k (fun q => absurd q (by decide))).trans ((k2146.2.2.1 210 k rfl).trans ((eh2138.1 210 k (fun q => absurd q (by decide))).trans (eh2134.1 210 k (fun q => absurd q (by decide)))))))))) ; exact (funext (fun k => ((k2161.2.2.1 211 k rfl).trans ((eh2153.1 211 k (fun q => absurd q (by decide))).trans ((eh2150.1 211 k (fun q => absurd q (by decide))).trans ((k2146.2.2.1 211 k rfl).trans ((eh2138.1 211 k (fun q => absurd q (by decide))).trans (eh2134.1 211 k (fun q => absurd q (by decide)))))))))) ; exact (funext (fun k => ((k2161.2.2.1 212 k rfl).trans ((eh2153.1 212 k (fun q => absurd q (by decide))).trans ((eh2150.1 212 k (fun q => absurd q (by decide))).trans ((k2146.2.2.1 212 k rfl).trans ((eh2138.1 212 k (fun q => absurd q (by decide))).trans (eh2134.1 212 k (fun q => absurd q (by decide)))))))))) ; exact (funext (fun k => ((k2161.2.2.1 213 k rfl).trans ((eh2153.1 213 k (fun q => absurd q (by decide))).trans ((eh2150.1 213 k (fun q => absurd q (by decide))).trans ((k2146.2.2.1 213 k rfl).trans ((eh2138.1 213 k (fun q => absurd q (by decide))).trans (eh2134.1 213 k (fun q => absurd q (by decide)))))))))))⟩), k2163⟩
                      · refine A_aload_n 0 d_MD_voicePart_302 rfl rfl ?_
                        refine A_iconst d_MD_voicePart_303 rfl ?_
                        have zf2167 := esd1.symm
                        have zf2168 := esd2.symm
                        have zf2169 := esd3.symm
                        have zf2170 := esd4.symm
                        have zf2171 := esd5.symm
                        refine A_callV1 m_MD_put T_ok d_MD_voicePart_304 l_MD_369 k_MD_put (mi_s k0.1 sf_170) rfl (by decide +kernel) (by decide) (Nat.le_of_ble_eq_true rfl) (s_MD_put k0.1 (by first | (clear hps; omega) | omega) (by first | (clear hps; omega) | omega) esd3.symm (by first | (clear hps; omega) | omega)) (fun r h2166 hq => ?_)
                        obtain ⟨rfl, xk2172, k2172⟩ := hq
                        have k2173 := kM_t k0 k2172 (pm_s (by decide) (by decide))
                        refine A_aload_n 0 d_MD_voicePart_307 rfl rfl ?_
                        have zf2175 := ((k2172.2.2.1 _ _ rfl).trans esd1.symm)
                        have zf2176 := ((k2172.2.2.1 _ _ rfl).trans esd2.symm)
                        have zf2177 := xk2172.1
                        have zf2178 := ((k2172.2.2.1 _ _ rfl).trans esd4.symm)
                        have zf2179 := ((k2172.2.2.1 _ _ rfl).trans esd5.symm)
                        refine A_callV0 m_MD_next T_ok d_MD_voicePart_308 l_MD_309 k_MD_next (mi_s k2173.1 sf_170) rfl (by decide +kernel) (by decide) (Nat.le_of_ble_eq_true rfl) (s_MD_next k2173.1 (by have qq0 := ((k2172.2.2.1 _ _ rfl).trans esd1.symm); have qq1 := ((k2172.2.2.1 _ _ rfl).trans esd2.symm); first | (clear hps; omega) | omega)) (fun r h2174 hq => ?_)
                        obtain ⟨x2181, rfl, ⟨_, _⟩, xx2181, k2180⟩ := hq
                        have xa2181 := xx2181.1
                        have xb2181 := xx2181.2.1
                        have k2182 := kM_t k2173 k2180 (pm_s (by decide) (by decide))
                        obtain ⟨sd2183, esd2183⟩ : ∃ x, x = h2174.2.1 170 3 := ⟨_, rfl⟩
                        have rsd2183 : 0 ≤ sd2183 ∧ sd2183 ≤ 2000 := (by rw [esd2183]; exact mi_g k2182.1 (by decide) mr_170_3)
                        obtain ⟨sd2184, esd2184⟩ : ∃ x, x = h2174.2.1 170 4 := ⟨_, rfl⟩
                        have rsd2184 : 0 ≤ sd2184 ∧ sd2184 ≤ 6 := (by rw [esd2184]; exact mi_g k2182.1 (by decide) mr_170_4)
                        exact A_zret d_MD_voicePart_311 (by decide) rfl (by first | (clear hps; omega) | omega) ⟨_, rfl, by first | (clear hps; omega) | omega, (fun hz => ⟨by first | (clear hps; omega) | omega, (by have qq0 := esd2183.symm; have qq1 := ((k2180.2.2.1 _ _ rfl).trans ((k2172.2.2.1 _ _ rfl).trans esd2.symm)); have qq2 := esd2184.symm; exact ⟨by first | (clear hps; omega) | omega, by first | (clear hps; omega) | omega, by first | (clear hps; omega) | omega, by first | (clear hps; omega) | omega⟩), (by have qq0 := esd2183.symm; have qq1 := ((k2180.2.2.1 _ _ rfl).trans ((k2172.2.2.1 _ _ rfl).trans esd2.symm)); have qq2 := esd2184.symm; have qq3 := ((k2180.2.2.1 _ _ rfl).trans xk2172.1); exact ⟨by first | (clear hps; omega) | omega, by first | (clear hps; omega) | omega⟩), VH_s (x := sd3) hVH esd3.symm ((k2180.2.2.1 _ _ rfl).trans xk2172.1) (((k2180.2.2.1 170 63 rfl).trans (k2172.2.2.1 170 63 rfl))) (fun k hk => ((k2180.2.2.1 201 k rfl).trans (xk2172.2.1 k hk))) (Or.inl ((k2180.2.2.1 _ _ rfl).trans xk2172.2.2)) (fun k hk => ((k2180.2.2.1 202 k rfl).trans (k2172.2.2.1 202 k rfl))) (by intro a ha; simp only [List.mem_cons, List.not_mem_nil, or_false] at ha; rcases ha with rfl | rfl | rfl | rfl | rfl | rfl | rfl | rfl ; exact (funext (fun k => ((k2180.2.2.1 203 k rfl).trans (k2172.2.2.1 203 k rfl)))) ; exact (funext (fun k => ((k2180.2.2.1 210 k rfl).trans (k2172.2.2.1 210 k rfl)))) ; exact (funext (fun k => ((k2180.2.2.1 211 k rfl).trans (k2172.2.2.1 211 k rfl)))) ; exact (funext (fun k => ((k2180.2.2.1 212 k rfl).trans (k2172.2.2.1 212 k rfl)))) ; exact (funext (fun k => ((k2180.2.2.1 213 k rfl).trans (k2172.2.2.1 213 k rfl)))) ; exact (funext (fun k => ((k2180.2.2.1 214 k rfl).trans (k2172.2.2.1 214 k rfl)))) ; exact (funext (fun k => ((k2180.2.2.1 215 k rfl).trans (k2172.2.2.1 215 k rfl)))) ; exact (funext (fun k => ((k2180.2.2.1 216 k rfl).trans (k2172.2.2.1 216 k rfl)))))⟩), k2182⟩
                    · refine A_aload_n 0 d_MD_voicePart_283 rfl rfl ?_
                      refine A_iconst d_MD_voicePart_284 rfl ?_
                      refine A_aload_n 0 d_MD_voicePart_285 rfl rfl ?_
                      refine A_getIn (lo := 0) (hi := 2000) T_ok d_MD_voicePart_286 f_MD_242 (mi_s k0.1 sf_170) (mi_g k0.1 (by decide) mr_170_5) (fun x2185 ex2185 _ _ => ?_)
                      have zf2187 := esd1.symm
                      have zf2188 := esd2.symm
                      have zf2189 := esd3.symm
                      have zf2190 := esd4.symm
                      have zf2191 := esd5.symm
                      refine A_callV2 m_MD_wrong T_ok d_MD_voicePart_289 l_MD_245 k_MD_wrong (mi_s k0.1 sf_170) rfl (by decide +kernel) (by decide) (Nat.le_of_ble_eq_true rfl) (s_MD_wrong k0.1 (by first | (clear hps; omega) | omega) (by first | (clear hps; omega) | omega) (by first | (clear hps; omega) | omega) (by first | (clear hps; omega) | omega)) (fun r h2186 hq => ?_)
                      obtain ⟨x2193, rfl, ⟨_, _⟩, k2192⟩ := hq
                      have k2194 := kM_t k0 k2192 (pm_s (by decide) (by decide))
                      obtain rfl : x2193 = 0 := by first | (clear hps; omega) | omega
                      exact A_zret d_MD_voicePart_292 (by decide) rfl (by first | (clear hps; omega) | omega) ⟨_, rfl, by first | (clear hps; omega) | omega, (fun q => absurd q (by decide)), k2194⟩
                  · refine A_aload_n 0 d_MD_voicePart_250 rfl rfl ?_
                    refine A_bipush d_MD_voicePart_251 rfl ?_
                    have zf2196 := esd1.symm
                    have zf2197 := esd2.symm
                    have zf2198 := esd3.symm
                    have zf2199 := esd4.symm
                    have zf2200 := esd5.symm
                    refine A_callV1 m_MD_isSign T_ok d_MD_voicePart_253 l_MD_306 k_MD_isSign (mi_s k0.1 sf_170) rfl (by decide +kernel) (by decide) (Nat.le_of_ble_eq_true rfl) (s_MD_isSign k0.1 ) (fun r h2195 hq => ?_)
                    obtain ⟨x2202, rfl, bx2202, xx2202, rfl⟩ := hq
                    refine A_if_eq (tgt := 263) d_MD_voicePart_256 (by decide) (fun c2203 => ?_) (fun c2203 => ?_)
                    · refine A_iconst d_MD_voicePart_263 rfl ?_
                      refine A_istore_n 1 (L' := [some (av_R (some 170)), some (av_I 0), none]) d_MD_voicePart_264 rfl (Nat.le_of_ble_eq_true rfl) rfl ?_
                      refine A_iload_n 1 d_MD_voicePart_265 rfl rfl ?_
                      refine A_if_ne (tgt := 274) d_MD_voicePart_266 (by decide) (fun c => absurd c (by decide)) (fun _ => ?_)
                      refine A_aload_n 0 d_MD_voicePart_269 rfl rfl ?_
                      have zf2206 := esd1.symm
                      have zf2207 := esd2.symm
                      have zf2208 := esd3.symm
                      have zf2209 := esd4.symm
                      have zf2210 := esd5.symm
                      refine A_callV0 m_MD_cant T_ok d_MD_voicePart_270 l_MD_313 k_MD_cant (mi_s k0.1 sf_170) rfl (by decide +kernel) (by decide) (Nat.le_of_ble_eq_true rfl) (s_MD_cant k0.1 ) (fun r h2205 hq => ?_)
                      obtain ⟨x2212, rfl, ⟨_, _⟩, k2211⟩ := hq
                      have k2213 := kM_t k0 k2211 (pm_s (by decide) (by decide))
                      obtain rfl : x2212 = 0 := by first | (clear hps; omega) | omega
                      exact A_zret d_MD_voicePart_273 (by decide) rfl (by first | (clear hps; omega) | omega) ⟨_, rfl, by first | (clear hps; omega) | omega, (fun q => absurd q (by decide)), k2213⟩
                    · refine A_iconst d_MD_voicePart_259 rfl ?_
                      refine A_goto (tgt := 264) d_MD_voicePart_260 (by decide) ?_
                      refine A_istore_n 1 (L' := [some (av_R (some 170)), some (av_I 1), none]) d_MD_voicePart_264 rfl (Nat.le_of_ble_eq_true rfl) rfl ?_
                      refine A_iload_n 1 d_MD_voicePart_265 rfl rfl ?_
                      refine A_if_ne (tgt := 274) d_MD_voicePart_266 (by decide) (fun _ => ?_) (fun c => absurd c (by decide))
                      refine A_aload_n 0 d_MD_voicePart_274 rfl rfl ?_
                      refine A_getIv (z := sd4) T_ok d_MD_voicePart_275 f_MD_357 (mi_s k0.1 sf_170) esd4.symm ?_
                      refine A_bipush d_MD_voicePart_278 rfl ?_
                      refine A_icmp_le (tgt := 293) d_MD_voicePart_280 (by decide) (fun c2216 => ?_) (fun c2216 => ?_)
                      · refine A_aload_n 0 d_MD_voicePart_293 rfl rfl ?_
                        refine A_bipush d_MD_voicePart_294 rfl ?_
                        have zf2218 := esd1.symm
                        have zf2219 := esd2.symm
                        have zf2220 := esd3.symm
                        have zf2221 := esd4.symm
                        have zf2222 := esd5.symm
                        refine A_callV1 m_MD_isSign T_ok d_MD_voicePart_296 l_MD_306 k_MD_isSign (mi_s k0.1 sf_170) rfl (by decide +kernel) (by decide) (Nat.le_of_ble_eq_true rfl) (s_MD_isSign k0.1 ) (fun r h2217 hq => ?_)
                        obtain ⟨x2224, rfl, bx2224, xx2224, rfl⟩ := hq
                        refine A_if_eq (tgt := 312) d_MD_voicePart_299 (by decide) (fun c2225 => ?_) (fun c2225 => ?_)
                        · refine A_aload_n 0 d_MD_voicePart_312 rfl rfl ?_
                          refine A_bipush d_MD_voicePart_313 rfl ?_
                          have zf2227 := esd1.symm
                          have zf2228 := esd2.symm
                          have zf2229 := esd3.symm
                          have zf2230 := esd4.symm
                          have zf2231 := esd5.symm
                          refine A_callV1 m_MD_isSign T_ok d_MD_voicePart_315 l_MD_306 k_MD_isSign (mi_s k0.1 sf_170) rfl (by decide +kernel) (by decide) (Nat.le_of_ble_eq_true rfl) (s_MD_isSign k0.1 ) (fun r h2226 hq => ?_)
                          obtain ⟨x2233, rfl, bx2233, xx2233, rfl⟩ := hq
                          refine A_if_eq (tgt := 374) d_MD_voicePart_318 (by decide) (fun c2234 => ?_) (fun c2234 => ?_)
                          · refine A_aload_n 0 d_MD_voicePart_374 rfl rfl ?_
                            refine A_bipush d_MD_voicePart_375 rfl ?_
                            have zf2236 := esd1.symm
                            have zf2237 := esd2.symm
                            have zf2238 := esd3.symm
                            have zf2239 := esd4.symm
                            have zf2240 := esd5.symm
                            refine A_callV1 m_MD_isSign T_ok d_MD_voicePart_377 l_MD_306 k_MD_isSign (mi_s k0.1 sf_170) rfl (by decide +kernel) (by decide) (Nat.le_of_ble_eq_true rfl) (s_MD_isSign k0.1 ) (fun r h2235 hq => ?_)
                            obtain ⟨x2242, rfl, bx2242, xx2242, rfl⟩ := hq
                            refine A_if_eq (tgt := 388) d_MD_voicePart_380 (by decide) (fun c2243 => ?_) (fun c2243 => ?_)
                            · refine A_aload_n 0 d_MD_voicePart_388 rfl rfl ?_
                              have zf2245 := esd1.symm
                              have zf2246 := esd2.symm
                              have zf2247 := esd3.symm
                              have zf2248 := esd4.symm
                              have zf2249 := esd5.symm
                              refine A_callV0 m_MD_soundPart T_ok d_MD_voicePart_389 l_MD_375 k_MD_soundPart (mi_s k0.1 sf_170) rfl (by decide +kernel) (by decide) (Nat.le_of_ble_eq_true rfl) (s_MD_soundPart k0.1 (by have qq0 := esd1.symm; have qq1 := esd2.symm; first | (clear hps; omega) | omega) (by have qq0 := esd1.symm; have qq1 := esd2.symm; have qq2 := esd5.symm; have qq3 := esd3.symm; exact ⟨by first | (clear hps; omega) | omega, by first | (clear hps; omega) | omega⟩) (by have qq0 := esd5.symm; exact ⟨by first | (clear hps; omega) | omega, by first | (clear hps; omega) | omega⟩) hVH) (fun r h2244 hq => ?_)
                              obtain ⟨x2251, rfl, bx2251, xx2251, k2250⟩ := hq
                              have k2252 := kM_t k0 k2250 (pm_s (by decide) (by decide))
                              obtain ⟨sd2253, esd2253⟩ : ∃ x, x = h2244.2.1 170 3 := ⟨_, rfl⟩
                              have rsd2253 : 0 ≤ sd2253 ∧ sd2253 ≤ 2000 := (by rw [esd2253]; exact mi_g k2252.1 (by decide) mr_170_3)
                              obtain ⟨sd2254, esd2254⟩ : ∃ x, x = h2244.2.1 170 43 := ⟨_, rfl⟩
                              have rsd2254 : 0 ≤ sd2254 ∧ sd2254 ≤ 2001 := (by rw [esd2254]; exact mi_g k2252.1 (by decide) mr_170_43)
                              obtain ⟨sd2255, esd2255⟩ : ∃ x, x = h2244.2.1 170 4 := ⟨_, rfl⟩
                              have rsd2255 : 0 ≤ sd2255 ∧ sd2255 ≤ 6 := (by rw [esd2255]; exact mi_g k2252.1 (by decide) mr_170_4)
                              exact A_zret d_MD_voicePart_392 (by decide) rfl (by first | (clear hps; omega) | omega) ⟨_, rfl, by first | (clear hps; omega) | omega, (fun hz => ⟨by first | (clear hps; omega) | omega, (by have qq0 := esd2253.symm; have qq1 := ((k2250.2.2.1 _ _ rfl).trans esd2.symm); have qq2 := esd2255.symm; exact ⟨by first | (clear hps; omega) | omega, by first | (clear hps; omega) | omega, by first | (clear hps; omega) | omega, by first | (clear hps; omega) | omega⟩), (by have qq0 := esd2253.symm; have qq1 := ((k2250.2.2.1 _ _ rfl).trans esd2.symm); have qq2 := esd2255.symm; have qq3 := esd2254.symm; exact ⟨by first | (clear hps; omega) | omega, by first | (clear hps; omega) | omega⟩), (xx2251 hz).2.2⟩), k2252⟩
                            · refine A_aload_n 0 d_MD_voicePart_383 rfl rfl ?_
                              have zf2257 := esd1.symm
                              have zf2258 := esd2.symm
                              have zf2259 := esd3.symm
                              have zf2260 := esd4.symm
                              have zf2261 := esd5.symm
                              refine A_callV0 m_MD_timesPart T_ok d_MD_voicePart_384 l_MD_372 k_MD_timesPart (mi_s k0.1 sf_170) rfl (by decide +kernel) (by decide) (Nat.le_of_ble_eq_true rfl) (s_MD_timesPart k0.1 (by have qq0 := esd1.symm; have qq1 := esd2.symm; first | (clear hps; omega) | omega) (by have qq0 := esd1.symm; have qq1 := esd2.symm; have qq2 := esd5.symm; have qq3 := esd3.symm; exact ⟨by first | (clear hps; omega) | omega, by first | (clear hps; omega) | omega⟩) (by have qq0 := esd5.symm; exact ⟨by first | (clear hps; omega) | omega, by first | (clear hps; omega) | omega⟩) hVH (by have qq0 := esd4.symm; first | (clear hps; omega) | omega)) (fun r h2256 hq => ?_)
                              obtain ⟨x2263, rfl, bx2263, xx2263, k2262⟩ := hq
                              have k2264 := kM_t k0 k2262 (pm_s (by decide) (by decide))
                              obtain ⟨sd2265, esd2265⟩ : ∃ x, x = h2256.2.1 170 3 := ⟨_, rfl⟩
                              have rsd2265 : 0 ≤ sd2265 ∧ sd2265 ≤ 2000 := (by rw [esd2265]; exact mi_g k2264.1 (by decide) mr_170_3)
                              obtain ⟨sd2266, esd2266⟩ : ∃ x, x = h2256.2.1 170 43 := ⟨_, rfl⟩
                              have rsd2266 : 0 ≤ sd2266 ∧ sd2266 ≤ 2001 := (by rw [esd2266]; exact mi_g k2264.1 (by decide) mr_170_43)
                              obtain ⟨sd2267, esd2267⟩ : ∃ x, x = h2256.2.1 170 63 := ⟨_, rfl⟩
                              have rsd2267 : 0 ≤ sd2267 ∧ sd2267 ≤ 7 := (by rw [esd2267]; exact mi_g k2264.1 (by decide) mr_170_63)
                              obtain ⟨sd2268, esd2268⟩ : ∃ x, x = h2256.2.1 170 4 := ⟨_, rfl⟩
                              have rsd2268 : 0 ≤ sd2268 ∧ sd2268 ≤ 6 := (by rw [esd2268]; exact mi_g k2264.1 (by decide) mr_170_4)
                              exact A_zret d_MD_voicePart_387 (by decide) rfl (by first | (clear hps; omega) | omega) ⟨_, rfl, by first | (clear hps; omega) | omega, (fun hz => ⟨by first | (clear hps; omega) | omega, (by have qq0 := esd2265.symm; have qq1 := ((k2262.2.2.1 _ _ rfl).trans esd2.symm); have qq2 := esd2268.symm; exact ⟨by first | (clear hps; omega) | omega, by first | (clear hps; omega) | omega, by first | (clear hps; omega) | omega, by first | (clear hps; omega) | omega⟩), (by have qq0 := esd2265.symm; have qq1 := ((k2262.2.2.1 _ _ rfl).trans esd2.symm); have qq2 := esd2268.symm; have qq3 := esd2266.symm; exact ⟨by first | (clear hps; omega) | omega, by first | (clear hps; omega) | omega⟩), (xx2263 hz).2.2⟩), k2264⟩
                          · refine A_aload_n 0 d_MD_voicePart_321 rfl rfl ?_
                            refine A_getAv (z := some 215) T_ok d_MD_voicePart_322 f_MD_148 (mi_s k0.1 sf_170) (mi_r k0.1 rfm_58) ?_
                            refine A_aload_n 0 d_MD_voicePart_325 rfl rfl ?_
                            refine A_getIv (z := sd4) T_ok d_MD_voicePart_326 f_MD_357 (mi_s k0.1 sf_170) esd4.symm ?_
                            refine A_aload_n 0 d_MD_voicePart_329 rfl rfl ?_
                            refine A_pc (pc' := 330) rfl ?_
                            refine A_getIv (z := sd3) T_ok d_MD_voicePart_330 f_MD_354 (mi_s k0.1 sf_170) esd3.symm ?_
                            refine A_iastorek (KR := kM (pm [3, 4, 5, 6, 7, 8, 9, 10, 11, 12, 43, 63, 64] [201, 202, 203, 204, 205, 206, 207, 208, 209, 210, 211, 212, 213, 214, 215, 216]) h) d_MD_voicePart_333 (mi_s k0.1 sf_215) (by first | (clear hps; omega) | omega) (by first | (clear hps; omega) | omega) (kM_i k0 (by decide) rfl (mr_215 _) (by first | (clear hps; omega) | omega) (by first | (clear hps; omega) | omega)) (fun h2272 k2273 eh2272 => ?_)
                            refine A_aload_n 0 d_MD_voicePart_334 rfl rfl ?_
                            refine A_getAv (z := some 214) T_ok d_MD_voicePart_335 f_MD_145 (mi_s k2273.1 sf_170) (mi_r k2273.1 rfm_57) ?_
                            refine A_aload_n 0 d_MD_voicePart_338 rfl rfl ?_
                            refine A_getIv (z := sd3) T_ok d_MD_voicePart_339 f_MD_354 (mi_s k2273.1 sf_170) ((eh2272.1 _ _ (fun q => absurd q (by decide))).trans esd3.symm) ?_
                            refine A_pc (pc' := 342) rfl ?_
                            refine A_iconst d_MD_voicePart_342 rfl ?_
                            refine A_iastorek (KR := kM (pm [3, 4, 5, 6, 7, 8, 9, 10, 11, 12, 43, 63, 64] [201, 202, 203, 204, 205, 206, 207, 208, 209, 210, 211, 212, 213, 214, 215, 216]) h) d_MD_voicePart_343 (mi_s k2273.1 sf_214) (by first | (clear hps; omega) | omega) (by first | (clear hps; omega) | omega) (kM_i k2273 (by decide) rfl (mr_214 _) (by first | (clear hps; omega) | omega) (by first | (clear hps; omega) | omega)) (fun h2276 k2277 eh2276 => ?_)
                            refine A_aload_n 0 d_MD_voicePart_344 rfl rfl ?_
                            refine A_iconst d_MD_voicePart_345 rfl ?_
                            have zf2279 := ((eh2276.1 _ _ (fun q => absurd q (by decide))).trans ((eh2272.1 _ _ (fun q => absurd q (by decide))).trans esd1.symm))
                            have zf2280 := ((eh2276.1 _ _ (fun q => absurd q (by decide))).trans ((eh2272.1 _ _ (fun q => absurd q (by decide))).trans esd2.symm))
                            have zf2281 := ((eh2276.1 _ _ (fun q => absurd q (by decide))).trans ((eh2272.1 _ _ (fun q => absurd q (by decide))).trans esd3.symm))
                            have zf2282 := ((eh2276.1 _ _ (fun q => absurd q (by decide))).trans ((eh2272.1 _ _ (fun q => absurd q (by decide))).trans esd4.symm))
                            have zf2283 := ((eh2276.1 _ _ (fun q => absurd q (by decide))).trans ((eh2272.1 _ _ (fun q => absurd q (by decide))).trans esd5.symm))
                            refine A_callV1 m_MD_put T_ok d_MD_voicePart_346 l_MD_369 k_MD_put (mi_s k2277.1 sf_170) rfl (by decide +kernel) (by decide) (Nat.le_of_ble_eq_true rfl) (s_MD_put k2277.1 (by first | (clear hps; omega) | omega) (by first | (clear hps; omega) | omega) ((eh2276.1 _ _ (fun q => absurd q (by decide))).trans ((eh2272.1 _ _ (fun q => absurd q (by decide))).trans esd3.symm)) (by first | (clear hps; omega) | omega)) (fun r h2278 hq => ?_)
                            obtain ⟨rfl, xk2284, k2284⟩ := hq
                            have k2285 := kM_t k2277 k2284 (pm_s (by decide) (by decide))
                            refine A_aload_n 0 d_MD_voicePart_349 rfl rfl ?_
                            refine A_getAv (z := some 216) T_ok d_MD_voicePart_350 f_MD_151 (mi_s k2285.1 sf_170) (mi_r k2285.1 rfm_62) ?_
                            refine A_aload_n 0 d_MD_voicePart_353 rfl rfl ?_
                            refine A_getIv (z := sd4) T_ok d_MD_voicePart_354 f_MD_357 (mi_s k2285.1 sf_170) ((k2284.2.2.1 _ _ rfl).trans ((eh2276.1 _ _ (fun q => absurd q (by decide))).trans ((eh2272.1 _ _ (fun q => absurd q (by decide))).trans esd4.symm))) ?_
                            refine A_iconst d_MD_voicePart_357 rfl ?_
                            refine A_pc (pc' := 358) rfl ?_
                            refine A_iastorek (KR := kM (pm [3, 4, 5, 6, 7, 8, 9, 10, 11, 12, 43, 63, 64] [201, 202, 203, 204, 205, 206, 207, 208, 209, 210, 211, 212, 213, 214, 215, 216]) h) d_MD_voicePart_358 (mi_s k2285.1 sf_216) (by first | (clear hps; omega) | omega) (by first | (clear hps; omega) | omega) (kM_i k2285 (by decide) rfl (mr_216 _) (by first | (clear hps; omega) | omega) (by first | (clear hps; omega) | omega)) (fun h2288 k2289 eh2288 => ?_)
                            refine A_aload_n 0 d_MD_voicePart_359 rfl rfl ?_
                            refine A_dupR d_MD_voicePart_360 ?_
                            refine A_getIv (z := sd4) T_ok d_MD_voicePart_361 f_MD_357 (mi_s k2289.1 sf_170) ((eh2288.1 _ _ (fun q => absurd q (by decide))).trans ((k2284.2.2.1 _ _ rfl).trans ((eh2276.1 _ _ (fun q => absurd q (by decide))).trans ((eh2272.1 _ _ (fun q => absurd q (by decide))).trans esd4.symm)))) ?_
                            refine A_iconst d_MD_voicePart_364 rfl ?_
                            refine A_iaddv (z := (sd4 + 1)) d_MD_voicePart_365 (w32_to (by first | (clear hps; omega) | omega) (by unfold i32; first | (clear hps; omega) | omega)) ?_
                            refine A_pc (pc' := 366) rfl ?_
                            refine A_putIk (KR := kM (pm [3, 4, 5, 6, 7, 8, 9, 10, 11, 12, 43, 63, 64] [201, 202, 203, 204, 205, 206, 207, 208, 209, 210, 211, 212, 213, 214, 215, 216]) h) T_ok d_MD_voicePart_366 f_MD_357 (mi_s k2289.1 sf_170) fin_f (kM_i k2289 (by decide) (by decide) mr_170_63 (by first | (clear hps; omega) | omega) (by first | (clear hps; omega) | omega)) (fun h2291 k2292 eh2291 => ?_)
                            refine A_aload_n 0 d_MD_voicePart_369 rfl rfl ?_
                            have zf2294 := ((eh2291.1 _ _ (fun _ => by decide)).trans ((eh2288.1 _ _ (fun q => absurd q (by decide))).trans ((k2284.2.2.1 _ _ rfl).trans ((eh2276.1 _ _ (fun q => absurd q (by decide))).trans ((eh2272.1 _ _ (fun q => absurd q (by decide))).trans esd1.symm)))))
                            have zf2295 := ((eh2291.1 _ _ (fun _ => by decide)).trans ((eh2288.1 _ _ (fun q => absurd q (by decide))).trans ((k2284.2.2.1 _ _ rfl).trans ((eh2276.1 _ _ (fun q => absurd q (by decide))).trans ((eh2272.1 _ _ (fun q => absurd q (by decide))).trans esd2.symm)))))
                            have zf2296 := ((eh2291.1 _ _ (fun _ => by decide)).trans ((eh2288.1 _ _ (fun q => absurd q (by decide))).trans xk2284.1))
                            have zf2297 := eh2291.2.1
                            have zf2298 := ((eh2291.1 _ _ (fun _ => by decide)).trans ((eh2288.1 _ _ (fun q => absurd q (by decide))).trans ((k2284.2.2.1 _ _ rfl).trans ((eh2276.1 _ _ (fun q => absurd q (by decide))).trans ((eh2272.1 _ _ (fun q => absurd q (by decide))).trans esd5.symm)))))
                            refine A_callV0 m_MD_next T_ok d_MD_voicePart_370 l_MD_309 k_MD_next (mi_s k2292.1 sf_170) rfl (by decide +kernel) (by decide) (Nat.le_of_ble_eq_true rfl) (s_MD_next k2292.1 (by have qq0 := ((eh2291.1 _ _ (fun _ => by decide)).trans ((eh2288.1 _ _ (fun q => absurd q (by decide))).trans ((k2284.2.2.1 _ _ rfl).trans ((eh2276.1 _ _ (fun q => absurd q (by decide))).trans ((eh2272.1 _ _ (fun q => absurd q (by decide))).trans esd1.symm))))); have qq1 := ((eh2291.1 _ _ (fun _ => by decide)).trans ((eh2288.1 _ _ (fun q => absurd q (by decide))).trans ((k2284.2.2.1 _ _ rfl).trans ((eh2276.1 _ _ (fun q => absurd q (by decide))).trans ((eh2272.1 _ _ (fun q => absurd q (by decide))).trans esd2.symm))))); first | (clear hps; omega) | omega)) (fun r h2293 hq => ?_)
                            obtain ⟨x2300, rfl, ⟨_, _⟩, xx2300, k2299⟩ := hq
                            have xa2300 := xx2300.1
                            have xb2300 := xx2300.2.1
                            have k2301 := kM_t k2292 k2299 (pm_s (by decide) (by decide))
                            obtain ⟨sd2302, esd2302⟩ : ∃ x, x = h2293.2.1 170 3 := ⟨_, rfl⟩
                            have rsd2302 : 0 ≤ sd2302 ∧ sd2302 ≤ 2000 := (by rw [esd2302]; exact mi_g k2301.1 (by decide) mr_170_3)
                            obtain ⟨sd2303, esd2303⟩ : ∃ x, x = h2293.2.1 170 4 := ⟨_, rfl⟩
                            have rsd2303 : 0 ≤ sd2303 ∧ sd2303 ≤ 6 := (by rw [esd2303]; exact mi_g k2301.1 (by decide) mr_170_4)
                            exact A_zret d_MD_voicePart_373 (by decide) rfl (by first | (clear hps; omega) | omega) ⟨_, rfl, by first | (clear hps; omega) | omega, (fun hz => ⟨by first | (clear hps; omega) | omega, (by have qq0 := esd2302.symm; have qq1 := ((k2299.2.2.1 _ _ rfl).trans ((eh2291.1 _ _ (fun _ => by decide)).trans ((eh2288.1 _ _ (fun q => absurd q (by decide))).trans ((k2284.2.2.1 _ _ rfl).trans ((eh2276.1 _ _ (fun q => absurd q (by decide))).trans ((eh2272.1 _ _ (fun q => absurd q (by decide))).trans esd2.symm)))))); have qq2 := esd2303.symm; exact ⟨by first | (clear hps; omega) | omega, by first | (clear hps; omega) | omega, by first | (clear hps; omega) | omega, by first | (clear hps; omega) | omega⟩), (by have qq0 := esd2302.symm; have qq1 := ((k2299.2.2.1 _ _ rfl).trans ((eh2291.1 _ _ (fun _ => by decide)).trans ((eh2288.1 _ _ (fun q => absurd q (by decide))).trans ((k2284.2.2.1 _ _ rfl).trans ((eh2276.1 _ _ (fun q => absurd q (by decide))).trans ((eh2272.1 _ _ (fun q => absurd q (by decide))).trans esd2.symm)))))); have qq2 := esd2303.symm; have qq3 := ((k2299.2.2.1 _ _ rfl).trans ((eh2291.1 _ _ (fun _ => by decide)).trans ((eh2288.1 _ _ (fun q => absurd q (by decide))).trans xk2284.1))); exact ⟨by first | (clear hps; omega) | omega, by first | (clear hps; omega) | omega⟩), VH_o (x := sd3) (m := sd4) (c := 2) hVH esd3.symm esd4.symm (by first | (clear hps; omega) | omega) ((k2299.2.2.1 _ _ rfl).trans ((eh2291.1 _ _ (fun _ => by decide)).trans ((eh2288.1 _ _ (fun q => absurd q (by decide))).trans xk2284.1))) ((k2299.2.2.1 _ _ rfl).trans eh2291.2.1) (by decide) (fun k hk => ((k2299.2.2.1 201 k rfl).trans ((eh2291.1 201 k (fun q => absurd q (by decide))).trans ((eh2288.1 201 k (fun q => absurd q (by decide))).trans ((xk2284.2.1 k hk).trans ((eh2276.1 201 k (fun q => absurd q (by decide))).trans (eh2272.1 201 k (fun q => absurd q (by decide))))))))) ((k2299.2.2.1 _ _ rfl).trans ((eh2291.1 _ _ (fun q => absurd q (by decide))).trans ((eh2288.1 _ _ (fun q => absurd q (by decide))).trans xk2284.2.2))) (fun k hk => ((k2299.2.2.1 202 k rfl).trans ((eh2291.1 202 k (fun q => absurd q (by decide))).trans ((eh2288.1 202 k (fun q => absurd q (by decide))).trans ((k2284.2.2.1 202 k rfl).trans ((eh2276.1 202 k (fun q => absurd q (by decide))).trans (eh2272.1 202 k (fun q => absurd q (by decide))))))))) (fun k hk => ((k2299.2.2.1 203 k rfl).trans ((eh2291.1 203 k (fun q => absurd q (by decide))).trans ((eh2288.1 203 k (fun q => absurd q (by decide))).trans ((k2284.2.2.1 203 k rfl).trans ((eh2276.1 203 k (fun q => absurd q (by decide))).trans (eh2272.1 203 k (fun q => absurd q (by decide))))))))) (fun q => absurd q (by decide)) (fun k hk => ((k2299.2.2.1 214 k rfl).trans ((eh2291.1 214 k (fun q => absurd q (by decide))).trans ((eh2288.1 214 k (fun q => absurd q (by decide))).trans ((k2284.2.2.1 214 k rfl).trans ((eh2276.1 214 k (fun _ => hk)).trans (eh2272.1 214 k (fun q => absurd q (by decide))))))))) (fun _ => ((k2299.2.2.1 _ _ rfl).trans ((eh2291.1 _ _ (fun q => absurd q (by decide))).trans ((eh2288.1 _ _ (fun q => absurd q (by decide))).trans ((k2284.2.2.1 _ _ rfl).trans eh2276.2.1))))) (fun k hk => ((k2299.2.2.1 215 k rfl).trans ((eh2291.1 215 k (fun q => absurd q (by decide))).trans ((eh2288.1 215 k (fun q => absurd q (by decide))).trans ((k2284.2.2.1 215 k rfl).trans ((eh2276.1 215 k (fun q => absurd q (by decide))).trans (eh2272.1 215 k (fun _ => hk)))))))) ((k2299.2.2.1 _ _ rfl).trans ((eh2291.1 _ _ (fun q => absurd q (by decide))).trans ((eh2288.1 _ _ (fun q => absurd q (by decide))).trans ((k2284.2.2.1 _ _ rfl).trans ((eh2276.1 _ _ (fun q => absurd q (by decide))).trans eh2272.2.1))))) (fun k hk => ((k2299.2.2.1 216 k rfl).trans ((eh2291.1 216 k (fun q => absurd q (by decide))).trans ((eh2288.1 216 k (fun _ => hk)).trans ((k2284.2.2.1 216 k rfl).trans ((eh2276.1 216 k (fun q => absurd q (by decide))).trans (eh2272.1 216 k (fun q => absurd q (by decide))))))))) ((k2299.2.2.1 _ _ rfl).trans ((eh2291.1 _ _ (fun q => absurd q (by decide))).trans eh2288.2.1)) (by intro a ha; simp only [List.mem_cons, List.not_mem_nil, or_false] at ha; rcases ha with rfl | rfl | rfl | rfl ; exact (funext (fun k => ((k2299.2.2.1 210 k rfl).trans ((eh2291.1 210 k (fun q => absurd q (by decide))).trans ((eh2288.1 210 k (fun q => absurd q (by decide))).trans ((k2284.2.2.1 210 k rfl).trans ((eh2276.1 210 k (fun q => absurd q (by decide))).trans (eh2272.1 210 k (fun q => absurd q (by decide)))))))))) ; exact (funext (fun k => ((k2299.2.2.1 211 k rfl).trans ((eh2291.1 211 k (fun q => absurd q (by decide))).trans ((eh2288.1 211 k (fun q => absurd q (by decide))).trans ((k2284.2.2.1 211 k rfl).trans ((eh2276.1 211 k (fun q => absurd q (by decide))).trans (eh2272.1 211 k (fun q => absurd q (by decide)))))))))) ; exact (funext (fun k => ((k2299.2.2.1 212 k rfl).trans ((eh2291.1 212 k (fun q => absurd q (by decide))).trans ((eh2288.1 212 k (fun q => absurd q (by decide))).trans ((k2284.2.2.1 212 k rfl).trans ((eh2276.1 212 k (fun q => absurd q (by decide))).trans (eh2272.1 212 k (fun q => absurd q (by decide)))))))))) ; exact (funext (fun k => ((k2299.2.2.1 213 k rfl).trans ((eh2291.1 213 k (fun q => absurd q (by decide))).trans ((eh2288.1 213 k (fun q => absurd q (by decide))).trans ((k2284.2.2.1 213 k rfl).trans ((eh2276.1 213 k (fun q => absurd q (by decide))).trans (eh2272.1 213 k (fun q => absurd q (by decide)))))))))))⟩), k2301⟩
                        · refine A_aload_n 0 d_MD_voicePart_302 rfl rfl ?_
                          refine A_iconst d_MD_voicePart_303 rfl ?_
                          have zf2305 := esd1.symm
                          have zf2306 := esd2.symm
                          have zf2307 := esd3.symm
                          have zf2308 := esd4.symm
                          have zf2309 := esd5.symm
                          refine A_callV1 m_MD_put T_ok d_MD_voicePart_304 l_MD_369 k_MD_put (mi_s k0.1 sf_170) rfl (by decide +kernel) (by decide) (Nat.le_of_ble_eq_true rfl) (s_MD_put k0.1 (by first | (clear hps; omega) | omega) (by first | (clear hps; omega) | omega) esd3.symm (by first | (clear hps; omega) | omega)) (fun r h2304 hq => ?_)
                          obtain ⟨rfl, xk2310, k2310⟩ := hq
                          have k2311 := kM_t k0 k2310 (pm_s (by decide) (by decide))
                          refine A_aload_n 0 d_MD_voicePart_307 rfl rfl ?_
                          have zf2313 := ((k2310.2.2.1 _ _ rfl).trans esd1.symm)
                          have zf2314 := ((k2310.2.2.1 _ _ rfl).trans esd2.symm)
                          have zf2315 := xk2310.1
                          have zf2316 := ((k2310.2.2.1 _ _ rfl).trans esd4.symm)
                          have zf2317 := ((k2310.2.2.1 _ _ rfl).trans esd5.symm)
                          refine A_callV0 m_MD_next T_ok d_MD_voicePart_308 l_MD_309 k_MD_next (mi_s k2311.1 sf_170) rfl (by decide +kernel) (by decide) (Nat.le_of_ble_eq_true rfl) (s_MD_next k2311.1 (by have qq0 := ((k2310.2.2.1 _ _ rfl).trans esd1.symm); have qq1 := ((k2310.2.2.1 _ _ rfl).trans esd2.symm); first | (clear hps; omega) | omega)) (fun r h2312 hq => ?_)
                          obtain ⟨x2319, rfl, ⟨_, _⟩, xx2319, k2318⟩ := hq
                          have xa2319 := xx2319.1
                          have xb2319 := xx2319.2.1
                          have k2320 := kM_t k2311 k2318 (pm_s (by decide) (by decide))
                          obtain ⟨sd2321, esd2321⟩ : ∃ x, x = h2312.2.1 170 3 := ⟨_, rfl⟩
                          have rsd2321 : 0 ≤ sd2321 ∧ sd2321 ≤ 2000 := (by rw [esd2321]; exact mi_g k2320.1 (by decide) mr_170_3)
                          obtain ⟨sd2322, esd2322⟩ : ∃ x, x = h2312.2.1 170 4 := ⟨_, rfl⟩
                          have rsd2322 : 0 ≤ sd2322 ∧ sd2322 ≤ 6 := (by rw [esd2322]; exact mi_g k2320.1 (by decide) mr_170_4)
                          exact A_zret d_MD_voicePart_311 (by decide) rfl (by first | (clear hps; omega) | omega) ⟨_, rfl, by first | (clear hps; omega) | omega, (fun hz => ⟨by first | (clear hps; omega) | omega, (by have qq0 := esd2321.symm; have qq1 := ((k2318.2.2.1 _ _ rfl).trans ((k2310.2.2.1 _ _ rfl).trans esd2.symm)); have qq2 := esd2322.symm; exact ⟨by first | (clear hps; omega) | omega, by first | (clear hps; omega) | omega, by first | (clear hps; omega) | omega, by first | (clear hps; omega) | omega⟩), (by have qq0 := esd2321.symm; have qq1 := ((k2318.2.2.1 _ _ rfl).trans ((k2310.2.2.1 _ _ rfl).trans esd2.symm)); have qq2 := esd2322.symm; have qq3 := ((k2318.2.2.1 _ _ rfl).trans xk2310.1); exact ⟨by first | (clear hps; omega) | omega, by first | (clear hps; omega) | omega⟩), VH_s (x := sd3) hVH esd3.symm ((k2318.2.2.1 _ _ rfl).trans xk2310.1) (((k2318.2.2.1 170 63 rfl).trans (k2310.2.2.1 170 63 rfl))) (fun k hk => ((k2318.2.2.1 201 k rfl).trans (xk2310.2.1 k hk))) (Or.inl ((k2318.2.2.1 _ _ rfl).trans xk2310.2.2)) (fun k hk => ((k2318.2.2.1 202 k rfl).trans (k2310.2.2.1 202 k rfl))) (by intro a ha; simp only [List.mem_cons, List.not_mem_nil, or_false] at ha; rcases ha with rfl | rfl | rfl | rfl | rfl | rfl | rfl | rfl ; exact (funext (fun k => ((k2318.2.2.1 203 k rfl).trans (k2310.2.2.1 203 k rfl)))) ; exact (funext (fun k => ((k2318.2.2.1 210 k rfl).trans (k2310.2.2.1 210 k rfl)))) ; exact (funext (fun k => ((k2318.2.2.1 211 k rfl).trans (k2310.2.2.1 211 k rfl)))) ; exact (funext (fun k => ((k2318.2.2.1 212 k rfl).trans (k2310.2.2.1 212 k rfl)))) ; exact (funext (fun k => ((k2318.2.2.1 213 k rfl).trans (k2310.2.2.1 213 k rfl)))) ; exact (funext (fun k => ((k2318.2.2.1 214 k rfl).trans (k2310.2.2.1 214 k rfl)))) ; exact (funext (fun k => ((k2318.2.2.1 215 k rfl).trans (k2310.2.2.1 215 k rfl)))) ; exact (funext (fun k => ((k2318.2.2.1 216 k rfl).trans (k2310.2.2.1 216 k rfl)))))⟩), k2320⟩
                      · refine A_aload_n 0 d_MD_voicePart_283 rfl rfl ?_
                        refine A_iconst d_MD_voicePart_284 rfl ?_
                        refine A_aload_n 0 d_MD_voicePart_285 rfl rfl ?_
                        refine A_getIn (lo := 0) (hi := 2000) T_ok d_MD_voicePart_286 f_MD_242 (mi_s k0.1 sf_170) (mi_g k0.1 (by decide) mr_170_5) (fun x2323 ex2323 _ _ => ?_)
                        have zf2325 := esd1.symm
                        have zf2326 := esd2.symm
                        have zf2327 := esd3.symm
                        have zf2328 := esd4.symm
                        have zf2329 := esd5.symm
                        refine A_callV2 m_MD_wrong T_ok d_MD_voicePart_289 l_MD_245 k_MD_wrong (mi_s k0.1 sf_170) rfl (by decide +kernel) (by decide) (Nat.le_of_ble_eq_true rfl) (s_MD_wrong k0.1 (by first | (clear hps; omega) | omega) (by first | (clear hps; omega) | omega) (by first | (clear hps; omega) | omega) (by first | (clear hps; omega) | omega)) (fun r h2324 hq => ?_)
                        obtain ⟨x2331, rfl, ⟨_, _⟩, k2330⟩ := hq
                        have k2332 := kM_t k0 k2330 (pm_s (by decide) (by decide))
                        obtain rfl : x2331 = 0 := by first | (clear hps; omega) | omega
                        exact A_zret d_MD_voicePart_292 (by decide) rfl (by first | (clear hps; omega) | omega) ⟨_, rfl, by first | (clear hps; omega) | omega, (fun q => absurd q (by decide)), k2332⟩
        · obtain ⟨pp, hp1, hp2, hp3⟩ := VH_top hVH esd4.symm (by first | (clear hps; omega) | omega)
          refine A_aload_n 0 d_MD_voicePart_138 rfl rfl ?_
          refine A_getAv (z := some 210) T_ok d_MD_voicePart_139 f_MD_133 (mi_s k0.1 sf_170) (mi_r k0.1 rfm_53) ?_
          refine A_aload_n 0 d_MD_voicePart_142 rfl rfl ?_
          refine A_getIv (z := sd3) T_ok d_MD_voicePart_143 f_MD_354 (mi_s k0.1 sf_170) esd3.symm ?_
          refine A_aload_n 0 d_MD_voicePart_146 rfl rfl ?_
          refine A_pc (pc' := 147) rfl ?_
          refine A_getAv (z := some 215) T_ok d_MD_voicePart_147 f_MD_148 (mi_s k0.1 sf_170) (mi_r k0.1 rfm_58) ?_
          refine A_aload_n 0 d_MD_voicePart_150 rfl rfl ?_
          refine A_getIv (z := sd4) T_ok d_MD_voicePart_151 f_MD_357 (mi_s k0.1 sf_170) esd4.symm ?_
          refine A_iconst d_MD_voicePart_154 rfl ?_
          refine A_isubv (z := (sd4 - 1)) d_MD_voicePart_155 (w32_to (by first | (clear hps; omega) | omega) (by unfold i32; first | (clear hps; omega) | omega)) ?_
          refine A_ialoadn (lo := 0) (hi := 2000) d_MD_voicePart_156 (mi_s k0.1 sf_215) (by first | (clear hps; omega) | omega) (by first | (clear hps; omega) | omega) (mi_g k0.1 (by decide) (mr_215 _)) (fun x2337 ex2337 _ _ => ?_)
          have hpx : x2337 < sd3 := (by have q1 := ex2337; first | (clear hps; omega) | omega)
          refine A_pc (pc' := 157) rfl ?_
          refine A_iastorek (KR := kM (pm [3, 4, 5, 6, 7, 8, 9, 10, 11, 12, 43, 63, 64] [201, 202, 203, 204, 205, 206, 207, 208, 209, 210, 211, 212, 213, 214, 215, 216]) h) d_MD_voicePart_157 (mi_s k0.1 sf_210) (by first | (clear hps; omega) | omega) (by first | (clear hps; omega) | omega) (kM_i k0 (by decide) rfl (mr_210 _) (by first | (clear hps; omega) | omega) (by first | (clear hps; omega) | omega)) (fun h2338 k2339 eh2338 => ?_)
          refine A_aload_n 0 d_MD_voicePart_158 rfl rfl ?_
          refine A_getAv (z := some 210) T_ok d_MD_voicePart_159 f_MD_133 (mi_s k2339.1 sf_170) (mi_r k2339.1 rfm_53) ?_
          refine A_aload_n 0 d_MD_voicePart_162 rfl rfl ?_
          refine A_getAv (z := some 215) T_ok d_MD_voicePart_163 f_MD_148 (mi_s k2339.1 sf_170) (mi_r k2339.1 rfm_58) ?_
          refine A_aload_n 0 d_MD_voicePart_166 rfl rfl ?_
          refine A_pc (pc' := 167) rfl ?_
          refine A_getIv (z := sd4) T_ok d_MD_voicePart_167 f_MD_357 (mi_s k2339.1 sf_170) ((eh2338.1 _ _ (fun q => absurd q (by decide))).trans esd4.symm) ?_
          refine A_iconst d_MD_voicePart_170 rfl ?_
          refine A_isubv (z := (sd4 - 1)) d_MD_voicePart_171 (w32_to (by first | (clear hps; omega) | omega) (by unfold i32; first | (clear hps; omega) | omega)) ?_
          refine A_ialoadv (z := x2337) d_MD_voicePart_172 (mi_s k2339.1 sf_215) (by first | (clear hps; omega) | omega) (by first | (clear hps; omega) | omega) ((eh2338.1 _ _ (fun q => absurd q (by decide))).trans ex2337.symm) ?_
          refine A_aload_n 0 d_MD_voicePart_173 rfl rfl ?_
          refine A_getIv (z := sd3) T_ok d_MD_voicePart_174 f_MD_354 (mi_s k2339.1 sf_170) ((eh2338.1 _ _ (fun q => absurd q (by decide))).trans esd3.symm) ?_
          refine A_pc (pc' := 177) rfl ?_
          refine A_iastorek (KR := kM (pm [3, 4, 5, 6, 7, 8, 9, 10, 11, 12, 43, 63, 64] [201, 202, 203, 204, 205, 206, 207, 208, 209, 210, 211, 212, 213, 214, 215, 216]) h) d_MD_voicePart_177 (mi_s k2339.1 sf_210) (by first | (clear hps; omega) | omega) (by first | (clear hps; omega) | omega) (kM_i k2339 (by decide) rfl (mr_210 _) (by first | (clear hps; omega) | omega) (by first | (clear hps; omega) | omega)) (fun h2345 k2346 eh2345 => ?_)
          refine A_aload_n 0 d_MD_voicePart_178 rfl rfl ?_
          refine A_iload_n 1 d_MD_voicePart_179 rfl rfl ?_
          refine A_if_eq (tgt := 187) d_MD_voicePart_180 (by decide) (fun c => absurd c (by decide)) (fun _ => ?_)
          refine A_iconst d_MD_voicePart_183 rfl ?_
          refine A_goto (tgt := 189) d_MD_voicePart_184 (by decide) ?_
          have zf2349 := ((eh2345.1 _ _ (fun q => absurd q (by decide))).trans ((eh2338.1 _ _ (fun q => absurd q (by decide))).trans esd1.symm))
          have zf2350 := ((eh2345.1 _ _ (fun q => absurd q (by decide))).trans ((eh2338.1 _ _ (fun q => absurd q (by decide))).trans esd2.symm))
          have zf2351 := ((eh2345.1 _ _ (fun q => absurd q (by decide))).trans ((eh2338.1 _ _ (fun q => absurd q (by decide))).trans esd3.symm))
          have zf2352 := ((eh2345.1 _ _ (fun q => absurd q (by decide))).trans ((eh2338.1 _ _ (fun q => absurd q (by decide))).trans esd4.symm))
          have zf2353 := ((eh2345.1 _ _ (fun q => absurd q (by decide))).trans ((eh2338.1 _ _ (fun q => absurd q (by decide))).trans esd5.symm))
          refine A_callV1 m_MD_put T_ok d_MD_voicePart_189 l_MD_369 k_MD_put (mi_s k2346.1 sf_170) rfl (by decide +kernel) (by decide) (Nat.le_of_ble_eq_true rfl) (s_MD_put k2346.1 (by first | (clear hps; omega) | omega) (by first | (clear hps; omega) | omega) ((eh2345.1 _ _ (fun q => absurd q (by decide))).trans ((eh2338.1 _ _ (fun q => absurd q (by decide))).trans esd3.symm)) (by first | (clear hps; omega) | omega)) (fun r h2348 hq => ?_)
          obtain ⟨rfl, xk2354, k2354⟩ := hq
          have k2355 := kM_t k2346 k2354 (pm_s (by decide) (by decide))
          refine A_aload_n 0 d_MD_voicePart_192 rfl rfl ?_
          refine A_dupR d_MD_voicePart_193 ?_
          refine A_getIv (z := sd4) T_ok d_MD_voicePart_194 f_MD_357 (mi_s k2355.1 sf_170) ((k2354.2.2.1 _ _ rfl).trans ((eh2345.1 _ _ (fun q => absurd q (by decide))).trans ((eh2338.1 _ _ (fun q => absurd q (by decide))).trans esd4.symm))) ?_
          refine A_iconst d_MD_voicePart_197 rfl ?_
          refine A_isubv (z := (sd4 - 1)) d_MD_voicePart_198 (w32_to (by first | (clear hps; omega) | omega) (by unfold i32; first | (clear hps; omega) | omega)) ?_
          refine A_pc (pc' := 199) rfl ?_
          refine A_putIk (KR := kM (pm [3, 4, 5, 6, 7, 8, 9, 10, 11, 12, 43, 63, 64] [201, 202, 203, 204, 205, 206, 207, 208, 209, 210, 211, 212, 213, 214, 215, 216]) h) T_ok d_MD_voicePart_199 f_MD_357 (mi_s k2355.1 sf_170) fin_f (kM_i k2355 (by decide) (by decide) mr_170_63 (by first | (clear hps; omega) | omega) (by first | (clear hps; omega) | omega)) (fun h2357 k2358 eh2357 => ?_)
          refine A_aload_n 0 d_MD_voicePart_202 rfl rfl ?_
          have zf2360 := ((eh2357.1 _ _ (fun _ => by decide)).trans ((k2354.2.2.1 _ _ rfl).trans ((eh2345.1 _ _ (fun q => absurd q (by decide))).trans ((eh2338.1 _ _ (fun q => absurd q (by decide))).trans esd1.symm))))
          have zf2361 := ((eh2357.1 _ _ (fun _ => by decide)).trans ((k2354.2.2.1 _ _ rfl).trans ((eh2345.1 _ _ (fun q => absurd q (by decide))).trans ((eh2338.1 _ _ (fun q => absurd q (by decide))).trans esd2.symm))))
          have zf2362 := ((eh2357.1 _ _ (fun _ => by decide)).trans xk2354.1)
          have zf2363 := eh2357.2.1
          have zf2364 := ((eh2357.1 _ _ (fun _ => by decide)).trans ((k2354.2.2.1 _ _ rfl).trans ((eh2345.1 _ _ (fun q => absurd q (by decide))).trans ((eh2338.1 _ _ (fun q => absurd q (by decide))).trans esd5.symm))))
          refine A_callV0 m_MD_next T_ok d_MD_voicePart_203 l_MD_309 k_MD_next (mi_s k2358.1 sf_170) rfl (by decide +kernel) (by decide) (Nat.le_of_ble_eq_true rfl) (s_MD_next k2358.1 (by have qq0 := ((eh2357.1 _ _ (fun _ => by decide)).trans ((k2354.2.2.1 _ _ rfl).trans ((eh2345.1 _ _ (fun q => absurd q (by decide))).trans ((eh2338.1 _ _ (fun q => absurd q (by decide))).trans esd1.symm)))); have qq1 := ((eh2357.1 _ _ (fun _ => by decide)).trans ((k2354.2.2.1 _ _ rfl).trans ((eh2345.1 _ _ (fun q => absurd q (by decide))).trans ((eh2338.1 _ _ (fun q => absurd q (by decide))).trans esd2.symm)))); first | (clear hps; omega) | omega)) (fun r h2359 hq => ?_)
          obtain ⟨x2366, rfl, ⟨_, _⟩, xx2366, k2365⟩ := hq
          have xa2366 := xx2366.1
          have xb2366 := xx2366.2.1
          have k2367 := kM_t k2358 k2365 (pm_s (by decide) (by decide))
          obtain ⟨sd2368, esd2368⟩ : ∃ x, x = h2359.2.1 170 3 := ⟨_, rfl⟩
          have rsd2368 : 0 ≤ sd2368 ∧ sd2368 ≤ 2000 := (by rw [esd2368]; exact mi_g k2367.1 (by decide) mr_170_3)
          obtain ⟨sd2369, esd2369⟩ : ∃ x, x = h2359.2.1 170 4 := ⟨_, rfl⟩
          have rsd2369 : 0 ≤ sd2369 ∧ sd2369 ≤ 6 := (by rw [esd2369]; exact mi_g k2367.1 (by decide) mr_170_4)
          exact A_zret d_MD_voicePart_206 (by decide) rfl (by first | (clear hps; omega) | omega) ⟨_, rfl, by first | (clear hps; omega) | omega, (fun hz => ⟨by first | (clear hps; omega) | omega, (by have qq0 := esd2368.symm; have qq1 := ((k2365.2.2.1 _ _ rfl).trans ((eh2357.1 _ _ (fun _ => by decide)).trans ((k2354.2.2.1 _ _ rfl).trans ((eh2345.1 _ _ (fun q => absurd q (by decide))).trans ((eh2338.1 _ _ (fun q => absurd q (by decide))).trans esd2.symm))))); have qq2 := esd2369.symm; exact ⟨by first | (clear hps; omega) | omega, by first | (clear hps; omega) | omega, by first | (clear hps; omega) | omega, by first | (clear hps; omega) | omega⟩), (by have qq0 := esd2368.symm; have qq1 := ((k2365.2.2.1 _ _ rfl).trans ((eh2357.1 _ _ (fun _ => by decide)).trans ((k2354.2.2.1 _ _ rfl).trans ((eh2345.1 _ _ (fun q => absurd q (by decide))).trans ((eh2338.1 _ _ (fun q => absurd q (by decide))).trans esd2.symm))))); have qq2 := esd2369.symm; have qq3 := ((k2365.2.2.1 _ _ rfl).trans ((eh2357.1 _ _ (fun _ => by decide)).trans xk2354.1)); exact ⟨by first | (clear hps; omega) | omega, by first | (clear hps; omega) | omega⟩), VH_c (x := sd3) (m := sd4) (p := x2337) (c := 4) hVH esd3.symm esd4.symm (by first | (clear hps; omega) | omega) ex2337.symm ((k2365.2.2.1 _ _ rfl).trans ((eh2357.1 _ _ (fun _ => by decide)).trans xk2354.1)) ((k2365.2.2.1 _ _ rfl).trans eh2357.2.1) (by have q1 := ex721; first | (clear hps; omega) | omega) (fun k hk => ((k2365.2.2.1 201 k rfl).trans ((eh2357.1 201 k (fun q => absurd q (by decide))).trans ((xk2354.2.1 k hk).trans ((eh2345.1 201 k (fun q => absurd q (by decide))).trans (eh2338.1 201 k (fun q => absurd q (by decide)))))))) ((k2365.2.2.1 _ _ rfl).trans ((eh2357.1 _ _ (fun q => absurd q (by decide))).trans xk2354.2.2)) (fun k hk hk2 => ((k2365.2.2.1 210 k rfl).trans ((eh2357.1 210 k (fun q => absurd q (by decide))).trans ((k2354.2.2.1 210 k rfl).trans ((eh2345.1 210 k (fun _ => hk2)).trans (eh2338.1 210 k (fun _ => hk))))))) (((k2365.2.2.1 210 (sd3).toNat rfl).trans ((eh2357.1 210 (sd3).toNat (fun q => absurd q (by decide))).trans (k2354.2.2.1 210 (sd3).toNat rfl))).trans ((eh2345.1 210 (sd3).toNat (fun _ => by first | (clear hps; omega) | omega)).trans eh2338.2.1)) ((k2365.2.2.1 _ _ rfl).trans ((eh2357.1 _ _ (fun q => absurd q (by decide))).trans ((k2354.2.2.1 _ _ rfl).trans eh2345.2.1))) (by intro a ha; simp only [List.mem_cons, List.not_mem_nil, or_false] at ha; rcases ha with rfl | rfl | rfl | rfl | rfl | rfl | rfl | rfl ; exact (funext (fun k => ((k2365.2.2.1 202 k rfl).trans ((eh2357.1 202 k (fun q => absurd q (by decide))).trans ((k2354.2.2.1 202 k rfl).trans ((eh2345.1 202 k (fun q => absurd q (by decide))).trans (eh2338.1 202 k (fun q => absurd q (by decide))))))))) ; exact (funext (fun k => ((k2365.2.2.1 203 k rfl).trans ((eh2357.1 203 k (fun q => absurd q (by decide))).trans ((k2354.2.2.1 203 k rfl).trans ((eh2345.1 203 k (fun q => absurd q (by decide))).trans (eh2338.1 203 k (fun q => absurd q (by decide))))))))) ; exact (funext (fun k => ((k2365.2.2.1 211 k rfl).trans ((eh2357.1 211 k (fun q => absurd q (by decide))).trans ((k2354.2.2.1 211 k rfl).trans ((eh2345.1 211 k (fun q => absurd q (by decide))).trans (eh2338.1 211 k (fun q => absurd q (by decide))))))))) ; exact (funext (fun k => ((k2365.2.2.1 212 k rfl).trans ((eh2357.1 212 k (fun q => absurd q (by decide))).trans ((k2354.2.2.1 212 k rfl).trans ((eh2345.1 212 k (fun q => absurd q (by decide))).trans (eh2338.1 212 k (fun q => absurd q (by decide))))))))) ; exact (funext (fun k => ((k2365.2.2.1 213 k rfl).trans ((eh2357.1 213 k (fun q => absurd q (by decide))).trans ((k2354.2.2.1 213 k rfl).trans ((eh2345.1 213 k (fun q => absurd q (by decide))).trans (eh2338.1 213 k (fun q => absurd q (by decide))))))))) ; exact (funext (fun k => ((k2365.2.2.1 214 k rfl).trans ((eh2357.1 214 k (fun q => absurd q (by decide))).trans ((k2354.2.2.1 214 k rfl).trans ((eh2345.1 214 k (fun q => absurd q (by decide))).trans (eh2338.1 214 k (fun q => absurd q (by decide))))))))) ; exact (funext (fun k => ((k2365.2.2.1 215 k rfl).trans ((eh2357.1 215 k (fun q => absurd q (by decide))).trans ((k2354.2.2.1 215 k rfl).trans ((eh2345.1 215 k (fun q => absurd q (by decide))).trans (eh2338.1 215 k (fun q => absurd q (by decide))))))))) ; exact (funext (fun k => ((k2365.2.2.1 216 k rfl).trans ((eh2357.1 216 k (fun q => absurd q (by decide))).trans ((k2354.2.2.1 216 k rfl).trans ((eh2345.1 216 k (fun q => absurd q (by decide))).trans (eh2338.1 216 k (fun q => absurd q (by decide))))))))))⟩), k2367⟩
      · refine A_aload_n 0 d_MD_voicePart_41 rfl rfl ?_
        refine A_getAv (z := some 215) T_ok d_MD_voicePart_42 f_MD_148 (mi_s k0.1 sf_170) (mi_r k0.1 rfm_58) ?_
        refine A_aload_n 0 d_MD_voicePart_45 rfl rfl ?_
        refine A_getIv (z := sd4) T_ok d_MD_voicePart_46 f_MD_357 (mi_s k0.1 sf_170) esd4.symm ?_
        refine A_iconst d_MD_voicePart_49 rfl ?_
        refine A_pc (pc' := 50) rfl ?_
        refine A_isubv (z := (sd4 - 1)) d_MD_voicePart_50 (w32_to (by first | (clear hps; omega) | omega) (by unfold i32; first | (clear hps; omega) | omega)) ?_
        refine A_ialoadn (lo := 0) (hi := 2000) d_MD_voicePart_51 (mi_s k0.1 sf_215) (by first | (clear hps; omega) | omega) (by first | (clear hps; omega) | omega) (mi_g k0.1 (by decide) (mr_215 _)) (fun x2372 ex2372 _ _ => ?_)
        refine A_istore_n 2 (L' := [some (av_R (some 170)), some (av_I 1), some (av_I x2372)]) d_MD_voicePart_52 rfl (Nat.le_of_ble_eq_true rfl) rfl ?_
        refine A_aload_n 0 d_MD_voicePart_53 rfl rfl ?_
        refine A_getAv (z := some 214) T_ok d_MD_voicePart_54 f_MD_145 (mi_s k0.1 sf_170) (mi_r k0.1 rfm_57) ?_
        refine A_iload_n 2 d_MD_voicePart_57 rfl rfl ?_
        refine A_pc (pc' := 58) rfl ?_
        refine A_ialoadn (lo := 0) (hi := 2000) d_MD_voicePart_58 (mi_s k0.1 sf_214) (by first | (clear hps; omega) | omega) (by first | (clear hps; omega) | omega) (mi_g k0.1 (by decide) (mr_214 _)) (fun x2374 ex2374 _ _ => ?_)
        have ycx2374 := VH_cc hVH esd4.symm (by first | (clear hps; omega) | omega) ex2372.symm (by have q1 := ex721.symm; first | (clear hps; omega) | omega)
        refine A_if_ne (tgt := 75) d_MD_voicePart_59 (by decide) (fun c2375 => ?_) (fun c2375 => ?_)
        · refine A_aload_n 0 d_MD_voicePart_75 rfl rfl ?_
          refine A_getAv (z := some 212) T_ok d_MD_voicePart_76 f_MD_139 (mi_s k0.1 sf_170) (mi_r k0.1 rfm_55) ?_
          refine A_aload_n 0 d_MD_voicePart_79 rfl rfl ?_
          refine A_getAv (z := some 213) T_ok d_MD_voicePart_80 f_MD_142 (mi_s k0.1 sf_170) (mi_r k0.1 rfm_56) ?_
          refine A_iload_n 2 d_MD_voicePart_83 rfl rfl ?_
          refine A_pc (pc' := 84) rfl ?_
          refine A_ialoadn (lo := 0) (hi := 2000) d_MD_voicePart_84 (mi_s k0.1 sf_213) (by first | (clear hps; omega) | omega) (by first | (clear hps; omega) | omega) (mi_g k0.1 (by decide) (mr_213 _)) (fun x2378 ex2378 _ _ => ?_)
          refine A_aload_n 0 d_MD_voicePart_85 rfl rfl ?_
          refine A_getIv (z := sd3) T_ok d_MD_voicePart_86 f_MD_354 (mi_s k0.1 sf_170) esd3.symm ?_
          refine A_iastorek (KR := kM (pm [3, 4, 5, 6, 7, 8, 9, 10, 11, 12, 43, 63, 64] [201, 202, 203, 204, 205, 206, 207, 208, 209, 210, 211, 212, 213, 214, 215, 216]) h) d_MD_voicePart_89 (mi_s k0.1 sf_212) (by first | (clear hps; omega) | omega) (by first | (clear hps; omega) | omega) (kM_i k0 (by decide) rfl (mr_212 _) (by first | (clear hps; omega) | omega) (by first | (clear hps; omega) | omega)) (fun h2380 k2381 eh2380 => ?_)
          refine A_aload_n 0 d_MD_voicePart_90 rfl rfl ?_
          refine A_getAv (z := some 213) T_ok d_MD_voicePart_91 f_MD_142 (mi_s k2381.1 sf_170) (mi_r k2381.1 rfm_56) ?_
          refine A_pc (pc' := 94) rfl ?_
          refine A_iload_n 2 d_MD_voicePart_94 rfl rfl ?_
          refine A_aload_n 0 d_MD_voicePart_95 rfl rfl ?_
          refine A_getIv (z := sd3) T_ok d_MD_voicePart_96 f_MD_354 (mi_s k2381.1 sf_170) ((eh2380.1 _ _ (fun q => absurd q (by decide))).trans esd3.symm) ?_
          refine A_iastorek (KR := kM (pm [3, 4, 5, 6, 7, 8, 9, 10, 11, 12, 43, 63, 64] [201, 202, 203, 204, 205, 206, 207, 208, 209, 210, 211, 212, 213, 214, 215, 216]) h) d_MD_voicePart_99 (mi_s k2381.1 sf_213) (by first | (clear hps; omega) | omega) (by first | (clear hps; omega) | omega) (kM_i k2381 (by decide) rfl (mr_213 _) (by first | (clear hps; omega) | omega) (by first | (clear hps; omega) | omega)) (fun h2384 k2385 eh2384 => ?_)
          refine A_aload_n 0 d_MD_voicePart_100 rfl rfl ?_
          refine A_getAv (z := some 214) T_ok d_MD_voicePart_101 f_MD_145 (mi_s k2385.1 sf_170) (mi_r k2385.1 rfm_57) ?_
          refine A_pc (pc' := 104) rfl ?_
          refine A_iload_n 2 d_MD_voicePart_104 rfl rfl ?_
          refine A_dup2RI d_MD_voicePart_105 ?_
          refine A_ialoadv (z := x2374) d_MD_voicePart_106 (mi_s k2385.1 sf_214) (by first | (clear hps; omega) | omega) (by first | (clear hps; omega) | omega) ((eh2384.1 _ _ (fun q => absurd q (by decide))).trans ((eh2380.1 _ _ (fun q => absurd q (by decide))).trans ex2374.symm)) ?_
          refine A_iconst d_MD_voicePart_107 rfl ?_
          refine A_iaddv (z := (x2374 + 1)) d_MD_voicePart_108 (w32_to (by first | (clear hps; omega) | omega) (by unfold i32; first | (clear hps; omega) | omega)) ?_
          refine A_iastorek (KR := kM (pm [3, 4, 5, 6, 7, 8, 9, 10, 11, 12, 43, 63, 64] [201, 202, 203, 204, 205, 206, 207, 208, 209, 210, 211, 212, 213, 214, 215, 216]) h) d_MD_voicePart_109 (mi_s k2385.1 sf_214) (by first | (clear hps; omega) | omega) (by first | (clear hps; omega) | omega) (kM_i k2385 (by decide) rfl (mr_214 _) (by first | (clear hps; omega) | omega) (by first | (clear hps; omega) | omega)) (fun h2388 k2389 eh2388 => ?_)
          refine A_pc (pc' := 110) rfl ?_
          refine A_aload_n 0 d_MD_voicePart_110 rfl rfl ?_
          refine A_iconst d_MD_voicePart_111 rfl ?_
          have zf2391 := ((eh2388.1 _ _ (fun q => absurd q (by decide))).trans ((eh2384.1 _ _ (fun q => absurd q (by decide))).trans ((eh2380.1 _ _ (fun q => absurd q (by decide))).trans esd1.symm)))
          have zf2392 := ((eh2388.1 _ _ (fun q => absurd q (by decide))).trans ((eh2384.1 _ _ (fun q => absurd q (by decide))).trans ((eh2380.1 _ _ (fun q => absurd q (by decide))).trans esd2.symm)))
          have zf2393 := ((eh2388.1 _ _ (fun q => absurd q (by decide))).trans ((eh2384.1 _ _ (fun q => absurd q (by decide))).trans ((eh2380.1 _ _ (fun q => absurd q (by decide))).trans esd3.symm)))
          have zf2394 := ((eh2388.1 _ _ (fun q => absurd q (by decide))).trans ((eh2384.1 _ _ (fun q => absurd q (by decide))).trans ((eh2380.1 _ _ (fun q => absurd q (by decide))).trans esd4.symm)))
          have zf2395 := ((eh2388.1 _ _ (fun q => absurd q (by decide))).trans ((eh2384.1 _ _ (fun q => absurd q (by decide))).trans ((eh2380.1 _ _ (fun q => absurd q (by decide))).trans esd5.symm)))
          refine A_callV1 m_MD_put T_ok d_MD_voicePart_112 l_MD_369 k_MD_put (mi_s k2389.1 sf_170) rfl (by decide +kernel) (by decide) (Nat.le_of_ble_eq_true rfl) (s_MD_put k2389.1 (by first | (clear hps; omega) | omega) (by first | (clear hps; omega) | omega) ((eh2388.1 _ _ (fun q => absurd q (by decide))).trans ((eh2384.1 _ _ (fun q => absurd q (by decide))).trans ((eh2380.1 _ _ (fun q => absurd q (by decide))).trans esd3.symm))) (by first | (clear hps; omega) | omega)) (fun r h2390 hq => ?_)
          obtain ⟨rfl, xk2396, k2396⟩ := hq
          have k2397 := kM_t k2389 k2396 (pm_s (by decide) (by decide))
          refine A_aload_n 0 d_MD_voicePart_115 rfl rfl ?_
          have zf2399 := ((k2396.2.2.1 _ _ rfl).trans ((eh2388.1 _ _ (fun q => absurd q (by decide))).trans ((eh2384.1 _ _ (fun q => absurd q (by decide))).trans ((eh2380.1 _ _ (fun q => absurd q (by decide))).trans esd1.symm))))
          have zf2400 := ((k2396.2.2.1 _ _ rfl).trans ((eh2388.1 _ _ (fun q => absurd q (by decide))).trans ((eh2384.1 _ _ (fun q => absurd q (by decide))).trans ((eh2380.1 _ _ (fun q => absurd q (by decide))).trans esd2.symm))))
          have zf2401 := xk2396.1
          have zf2402 := ((k2396.2.2.1 _ _ rfl).trans ((eh2388.1 _ _ (fun q => absurd q (by decide))).trans ((eh2384.1 _ _ (fun q => absurd q (by decide))).trans ((eh2380.1 _ _ (fun q => absurd q (by decide))).trans esd4.symm))))
          have zf2403 := ((k2396.2.2.1 _ _ rfl).trans ((eh2388.1 _ _ (fun q => absurd q (by decide))).trans ((eh2384.1 _ _ (fun q => absurd q (by decide))).trans ((eh2380.1 _ _ (fun q => absurd q (by decide))).trans esd5.symm))))
          refine A_callV0 m_MD_next T_ok d_MD_voicePart_116 l_MD_309 k_MD_next (mi_s k2397.1 sf_170) rfl (by decide +kernel) (by decide) (Nat.le_of_ble_eq_true rfl) (s_MD_next k2397.1 (by have qq0 := ((k2396.2.2.1 _ _ rfl).trans ((eh2388.1 _ _ (fun q => absurd q (by decide))).trans ((eh2384.1 _ _ (fun q => absurd q (by decide))).trans ((eh2380.1 _ _ (fun q => absurd q (by decide))).trans esd1.symm)))); have qq1 := ((k2396.2.2.1 _ _ rfl).trans ((eh2388.1 _ _ (fun q => absurd q (by decide))).trans ((eh2384.1 _ _ (fun q => absurd q (by decide))).trans ((eh2380.1 _ _ (fun q => absurd q (by decide))).trans esd2.symm)))); first | (clear hps; omega) | omega)) (fun r h2398 hq => ?_)
          obtain ⟨x2405, rfl, ⟨_, _⟩, xx2405, k2404⟩ := hq
          have xa2405 := xx2405.1
          have xb2405 := xx2405.2.1
          have k2406 := kM_t k2397 k2404 (pm_s (by decide) (by decide))
          obtain ⟨sd2407, esd2407⟩ : ∃ x, x = h2398.2.1 170 3 := ⟨_, rfl⟩
          have rsd2407 : 0 ≤ sd2407 ∧ sd2407 ≤ 2000 := (by rw [esd2407]; exact mi_g k2406.1 (by decide) mr_170_3)
          obtain ⟨sd2408, esd2408⟩ : ∃ x, x = h2398.2.1 170 4 := ⟨_, rfl⟩
          have rsd2408 : 0 ≤ sd2408 ∧ sd2408 ≤ 6 := (by rw [esd2408]; exact mi_g k2406.1 (by decide) mr_170_4)
          exact A_zret d_MD_voicePart_119 (by decide) rfl (by first | (clear hps; omega) | omega) ⟨_, rfl, by first | (clear hps; omega) | omega, (fun hz => ⟨by first | (clear hps; omega) | omega, (by have qq0 := esd2407.symm; have qq1 := ((k2404.2.2.1 _ _ rfl).trans ((k2396.2.2.1 _ _ rfl).trans ((eh2388.1 _ _ (fun q => absurd q (by decide))).trans ((eh2384.1 _ _ (fun q => absurd q (by decide))).trans ((eh2380.1 _ _ (fun q => absurd q (by decide))).trans esd2.symm))))); have qq2 := esd2408.symm; exact ⟨by first | (clear hps; omega) | omega, by first | (clear hps; omega) | omega, by first | (clear hps; omega) | omega, by first | (clear hps; omega) | omega⟩), (by have qq0 := esd2407.symm; have qq1 := ((k2404.2.2.1 _ _ rfl).trans ((k2396.2.2.1 _ _ rfl).trans ((eh2388.1 _ _ (fun q => absurd q (by decide))).trans ((eh2384.1 _ _ (fun q => absurd q (by decide))).trans ((eh2380.1 _ _ (fun q => absurd q (by decide))).trans esd2.symm))))); have qq2 := esd2408.symm; have qq3 := ((k2404.2.2.1 _ _ rfl).trans xk2396.1); exact ⟨by first | (clear hps; omega) | omega, by first | (clear hps; omega) | omega⟩), VH_k (x := sd3) (m := sd4) (p := x2372) hVH esd3.symm esd4.symm (by first | (clear hps; omega) | omega) ex2372.symm (by have q1 := ex721.symm; first | (clear hps; omega) | omega) ((k2404.2.2.1 _ _ rfl).trans xk2396.1) (((k2404.2.2.1 _ _ rfl).trans ((k2396.2.2.1 _ _ rfl).trans ((eh2388.1 _ _ (fun q => absurd q (by decide))).trans ((eh2384.1 _ _ (fun q => absurd q (by decide))).trans ((eh2380.1 _ _ (fun q => absurd q (by decide))).trans esd4.symm)))))) (fun k hk => ((k2404.2.2.1 201 k rfl).trans ((xk2396.2.1 k hk).trans ((eh2388.1 201 k (fun q => absurd q (by decide))).trans ((eh2384.1 201 k (fun q => absurd q (by decide))).trans (eh2380.1 201 k (fun q => absurd q (by decide)))))))) ((k2404.2.2.1 _ _ rfl).trans xk2396.2.2) (Or.inr ⟨by have q1 := ex2374.symm; omega, fun k => ((k2404.2.2.1 211 k rfl).trans ((k2396.2.2.1 211 k rfl).trans ((eh2388.1 211 k (fun q => absurd q (by decide))).trans ((eh2384.1 211 k (fun q => absurd q (by decide))).trans (eh2380.1 211 k (fun q => absurd q (by decide))))))), (fun k hk => ((k2404.2.2.1 212 k rfl).trans ((k2396.2.2.1 212 k rfl).trans ((eh2388.1 212 k (fun q => absurd q (by decide))).trans ((eh2384.1 212 k (fun q => absurd q (by decide))).trans (eh2380.1 212 k (fun _ => (fun q => hk (by rw [q, ex2378]))))))))), (by rw [← ex2378]; exact ((k2404.2.2.1 _ _ rfl).trans ((k2396.2.2.1 _ _ rfl).trans ((eh2388.1 _ _ (fun q => absurd q (by decide))).trans ((eh2384.1 _ _ (fun q => absurd q (by decide))).trans eh2380.2.1)))))⟩) (fun k hk => ((k2404.2.2.1 213 k rfl).trans ((k2396.2.2.1 213 k rfl).trans ((eh2388.1 213 k (fun q => absurd q (by decide))).trans ((eh2384.1 213 k (fun _ => hk)).trans (eh2380.1 213 k (fun q => absurd q (by decide)))))))) ((k2404.2.2.1 _ _ rfl).trans ((k2396.2.2.1 _ _ rfl).trans ((eh2388.1 _ _ (fun q => absurd q (by decide))).trans eh2384.2.1))) (fun k hk => ((k2404.2.2.1 214 k rfl).trans ((k2396.2.2.1 214 k rfl).trans ((eh2388.1 214 k (fun _ => hk)).trans ((eh2384.1 214 k (fun q => absurd q (by decide))).trans (eh2380.1 214 k (fun q => absurd q (by decide)))))))) (by have q1 := ((k2404.2.2.1 _ _ rfl).trans ((k2396.2.2.1 _ _ rfl).trans eh2388.2.1)); have q2 := ex2374.symm; first | (clear hps; omega) | omega) (by intro a ha; simp only [List.mem_cons, List.not_mem_nil, or_false] at ha; rcases ha with rfl | rfl | rfl | rfl | rfl ; exact (funext (fun k => ((k2404.2.2.1 202 k rfl).trans ((k2396.2.2.1 202 k rfl).trans ((eh2388.1 202 k (fun q => absurd q (by decide))).trans ((eh2384.1 202 k (fun q => absurd q (by decide))).trans (eh2380.1 202 k (fun q => absurd q (by decide))))))))) ; exact (funext (fun k => ((k2404.2.2.1 203 k rfl).trans ((k2396.2.2.1 203 k rfl).trans ((eh2388.1 203 k (fun q => absurd q (by decide))).trans ((eh2384.1 203 k (fun q => absurd q (by decide))).trans (eh2380.1 203 k (fun q => absurd q (by decide))))))))) ; exact (funext (fun k => ((k2404.2.2.1 210 k rfl).trans ((k2396.2.2.1 210 k rfl).trans ((eh2388.1 210 k (fun q => absurd q (by decide))).trans ((eh2384.1 210 k (fun q => absurd q (by decide))).trans (eh2380.1 210 k (fun q => absurd q (by decide))))))))) ; exact (funext (fun k => ((k2404.2.2.1 215 k rfl).trans ((k2396.2.2.1 215 k rfl).trans ((eh2388.1 215 k (fun q => absurd q (by decide))).trans ((eh2384.1 215 k (fun q => absurd q (by decide))).trans (eh2380.1 215 k (fun q => absurd q (by decide))))))))) ; exact (funext (fun k => ((k2404.2.2.1 216 k rfl).trans ((k2396.2.2.1 216 k rfl).trans ((eh2388.1 216 k (fun q => absurd q (by decide))).trans ((eh2384.1 216 k (fun q => absurd q (by decide))).trans (eh2380.1 216 k (fun q => absurd q (by decide))))))))))⟩), k2406⟩
        · refine A_aload_n 0 d_MD_voicePart_62 rfl rfl ?_
          refine A_getAv (z := some 211) T_ok d_MD_voicePart_63 f_MD_136 (mi_s k0.1 sf_170) (mi_r k0.1 rfm_54) ?_
          refine A_iload_n 2 d_MD_voicePart_66 rfl rfl ?_
          refine A_aload_n 0 d_MD_voicePart_67 rfl rfl ?_
          refine A_getIv (z := sd3) T_ok d_MD_voicePart_68 f_MD_354 (mi_s k0.1 sf_170) esd3.symm ?_
          refine A_pc (pc' := 71) rfl ?_
          refine A_iastorek (KR := kM (pm [3, 4, 5, 6, 7, 8, 9, 10, 11, 12, 43, 63, 64] [201, 202, 203, 204, 205, 206, 207, 208, 209, 210, 211, 212, 213, 214, 215, 216]) h) d_MD_voicePart_71 (mi_s k0.1 sf_211) (by first | (clear hps; omega) | omega) (by first | (clear hps; omega) | omega) (kM_i k0 (by decide) rfl (mr_211 _) (by first | (clear hps; omega) | omega) (by first | (clear hps; omega) | omega)) (fun h2411 k2412 eh2411 => ?_)
          refine A_goto (tgt := 90) d_MD_voicePart_72 (by decide) ?_
          refine A_aload_n 0 d_MD_voicePart_90 rfl rfl ?_
          refine A_getAv (z := some 213) T_ok d_MD_voicePart_91 f_MD_142 (mi_s k2412.1 sf_170) (mi_r k2412.1 rfm_56) ?_
          refine A_iload_n 2 d_MD_voicePart_94 rfl rfl ?_
          refine A_aload_n 0 d_MD_voicePart_95 rfl rfl ?_
          refine A_getIv (z := sd3) T_ok d_MD_voicePart_96 f_MD_354 (mi_s k2412.1 sf_170) ((eh2411.1 _ _ (fun q => absurd q (by decide))).trans esd3.symm) ?_
          refine A_pc (pc' := 99) rfl ?_
          refine A_iastorek (KR := kM (pm [3, 4, 5, 6, 7, 8, 9, 10, 11, 12, 43, 63, 64] [201, 202, 203, 204, 205, 206, 207, 208, 209, 210, 211, 212, 213, 214, 215, 216]) h) d_MD_voicePart_99 (mi_s k2412.1 sf_213) (by first | (clear hps; omega) | omega) (by first | (clear hps; omega) | omega) (kM_i k2412 (by decide) rfl (mr_213 _) (by first | (clear hps; omega) | omega) (by first | (clear hps; omega) | omega)) (fun h2415 k2416 eh2415 => ?_)
          refine A_aload_n 0 d_MD_voicePart_100 rfl rfl ?_
          refine A_getAv (z := some 214) T_ok d_MD_voicePart_101 f_MD_145 (mi_s k2416.1 sf_170) (mi_r k2416.1 rfm_57) ?_
          refine A_iload_n 2 d_MD_voicePart_104 rfl rfl ?_
          refine A_dup2RI d_MD_voicePart_105 ?_
          refine A_ialoadv (z := x2374) d_MD_voicePart_106 (mi_s k2416.1 sf_214) (by first | (clear hps; omega) | omega) (by first | (clear hps; omega) | omega) ((eh2415.1 _ _ (fun q => absurd q (by decide))).trans ((eh2411.1 _ _ (fun q => absurd q (by decide))).trans ex2374.symm)) ?_
          refine A_pc (pc' := 107) rfl ?_
          refine A_iconst d_MD_voicePart_107 rfl ?_
          refine A_iaddv (z := (x2374 + 1)) d_MD_voicePart_108 (w32_to (by first | (clear hps; omega) | omega) (by unfold i32; first | (clear hps; omega) | omega)) ?_
          refine A_iastorek (KR := kM (pm [3, 4, 5, 6, 7, 8, 9, 10, 11, 12, 43, 63, 64] [201, 202, 203, 204, 205, 206, 207, 208, 209, 210, 211, 212, 213, 214, 215, 216]) h) d_MD_voicePart_109 (mi_s k2416.1 sf_214) (by first | (clear hps; omega) | omega) (by first | (clear hps; omega) | omega) (kM_i k2416 (by decide) rfl (mr_214 _) (by first | (clear hps; omega) | omega) (by first | (clear hps; omega) | omega)) (fun h2419 k2420 eh2419 => ?_)
          refine A_aload_n 0 d_MD_voicePart_110 rfl rfl ?_
          refine A_iconst d_MD_voicePart_111 rfl ?_
          have zf2422 := ((eh2419.1 _ _ (fun q => absurd q (by decide))).trans ((eh2415.1 _ _ (fun q => absurd q (by decide))).trans ((eh2411.1 _ _ (fun q => absurd q (by decide))).trans esd1.symm)))
          have zf2423 := ((eh2419.1 _ _ (fun q => absurd q (by decide))).trans ((eh2415.1 _ _ (fun q => absurd q (by decide))).trans ((eh2411.1 _ _ (fun q => absurd q (by decide))).trans esd2.symm)))
          have zf2424 := ((eh2419.1 _ _ (fun q => absurd q (by decide))).trans ((eh2415.1 _ _ (fun q => absurd q (by decide))).trans ((eh2411.1 _ _ (fun q => absurd q (by decide))).trans esd3.symm)))
          have zf2425 := ((eh2419.1 _ _ (fun q => absurd q (by decide))).trans ((eh2415.1 _ _ (fun q => absurd q (by decide))).trans ((eh2411.1 _ _ (fun q => absurd q (by decide))).trans esd4.symm)))
          have zf2426 := ((eh2419.1 _ _ (fun q => absurd q (by decide))).trans ((eh2415.1 _ _ (fun q => absurd q (by decide))).trans ((eh2411.1 _ _ (fun q => absurd q (by decide))).trans esd5.symm)))
          refine A_callV1 m_MD_put T_ok d_MD_voicePart_112 l_MD_369 k_MD_put (mi_s k2420.1 sf_170) rfl (by decide +kernel) (by decide) (Nat.le_of_ble_eq_true rfl) (s_MD_put k2420.1 (by first | (clear hps; omega) | omega) (by first | (clear hps; omega) | omega) ((eh2419.1 _ _ (fun q => absurd q (by decide))).trans ((eh2415.1 _ _ (fun q => absurd q (by decide))).trans ((eh2411.1 _ _ (fun q => absurd q (by decide))).trans esd3.symm))) (by first | (clear hps; omega) | omega)) (fun r h2421 hq => ?_)
          obtain ⟨rfl, xk2427, k2427⟩ := hq
          have k2428 := kM_t k2420 k2427 (pm_s (by decide) (by decide))
          refine A_aload_n 0 d_MD_voicePart_115 rfl rfl ?_
          have zf2430 := ((k2427.2.2.1 _ _ rfl).trans ((eh2419.1 _ _ (fun q => absurd q (by decide))).trans ((eh2415.1 _ _ (fun q => absurd q (by decide))).trans ((eh2411.1 _ _ (fun q => absurd q (by decide))).trans esd1.symm))))
          have zf2431 := ((k2427.2.2.1 _ _ rfl).trans ((eh2419.1 _ _ (fun q => absurd q (by decide))).trans ((eh2415.1 _ _ (fun q => absurd q (by decide))).trans ((eh2411.1 _ _ (fun q => absurd q (by decide))).trans esd2.symm))))
          have zf2432 := xk2427.1
          have zf2433 := ((k2427.2.2.1 _ _ rfl).trans ((eh2419.1 _ _ (fun q => absurd q (by decide))).trans ((eh2415.1 _ _ (fun q => absurd q (by decide))).trans ((eh2411.1 _ _ (fun q => absurd q (by decide))).trans esd4.symm))))
          have zf2434 := ((k2427.2.2.1 _ _ rfl).trans ((eh2419.1 _ _ (fun q => absurd q (by decide))).trans ((eh2415.1 _ _ (fun q => absurd q (by decide))).trans ((eh2411.1 _ _ (fun q => absurd q (by decide))).trans esd5.symm))))
          refine A_callV0 m_MD_next T_ok d_MD_voicePart_116 l_MD_309 k_MD_next (mi_s k2428.1 sf_170) rfl (by decide +kernel) (by decide) (Nat.le_of_ble_eq_true rfl) (s_MD_next k2428.1 (by have qq0 := ((k2427.2.2.1 _ _ rfl).trans ((eh2419.1 _ _ (fun q => absurd q (by decide))).trans ((eh2415.1 _ _ (fun q => absurd q (by decide))).trans ((eh2411.1 _ _ (fun q => absurd q (by decide))).trans esd1.symm)))); have qq1 := ((k2427.2.2.1 _ _ rfl).trans ((eh2419.1 _ _ (fun q => absurd q (by decide))).trans ((eh2415.1 _ _ (fun q => absurd q (by decide))).trans ((eh2411.1 _ _ (fun q => absurd q (by decide))).trans esd2.symm)))); first | (clear hps; omega) | omega)) (fun r h2429 hq => ?_)
          obtain ⟨x2436, rfl, ⟨_, _⟩, xx2436, k2435⟩ := hq
          have xa2436 := xx2436.1
          have xb2436 := xx2436.2.1
          have k2437 := kM_t k2428 k2435 (pm_s (by decide) (by decide))
          obtain ⟨sd2438, esd2438⟩ : ∃ x, x = h2429.2.1 170 3 := ⟨_, rfl⟩
          have rsd2438 : 0 ≤ sd2438 ∧ sd2438 ≤ 2000 := (by rw [esd2438]; exact mi_g k2437.1 (by decide) mr_170_3)
          obtain ⟨sd2439, esd2439⟩ : ∃ x, x = h2429.2.1 170 4 := ⟨_, rfl⟩
          have rsd2439 : 0 ≤ sd2439 ∧ sd2439 ≤ 6 := (by rw [esd2439]; exact mi_g k2437.1 (by decide) mr_170_4)
          exact A_zret d_MD_voicePart_119 (by decide) rfl (by first | (clear hps; omega) | omega) ⟨_, rfl, by first | (clear hps; omega) | omega, (fun hz => ⟨by first | (clear hps; omega) | omega, (by have qq0 := esd2438.symm; have qq1 := ((k2435.2.2.1 _ _ rfl).trans ((k2427.2.2.1 _ _ rfl).trans ((eh2419.1 _ _ (fun q => absurd q (by decide))).trans ((eh2415.1 _ _ (fun q => absurd q (by decide))).trans ((eh2411.1 _ _ (fun q => absurd q (by decide))).trans esd2.symm))))); have qq2 := esd2439.symm; exact ⟨by first | (clear hps; omega) | omega, by first | (clear hps; omega) | omega, by first | (clear hps; omega) | omega, by first | (clear hps; omega) | omega⟩), (by have qq0 := esd2438.symm; have qq1 := ((k2435.2.2.1 _ _ rfl).trans ((k2427.2.2.1 _ _ rfl).trans ((eh2419.1 _ _ (fun q => absurd q (by decide))).trans ((eh2415.1 _ _ (fun q => absurd q (by decide))).trans ((eh2411.1 _ _ (fun q => absurd q (by decide))).trans esd2.symm))))); have qq2 := esd2439.symm; have qq3 := ((k2435.2.2.1 _ _ rfl).trans xk2427.1); exact ⟨by first | (clear hps; omega) | omega, by first | (clear hps; omega) | omega⟩), VH_k (x := sd3) (m := sd4) (p := x2372) hVH esd3.symm esd4.symm (by first | (clear hps; omega) | omega) ex2372.symm (by have q1 := ex721.symm; first | (clear hps; omega) | omega) ((k2435.2.2.1 _ _ rfl).trans xk2427.1) (((k2435.2.2.1 _ _ rfl).trans ((k2427.2.2.1 _ _ rfl).trans ((eh2419.1 _ _ (fun q => absurd q (by decide))).trans ((eh2415.1 _ _ (fun q => absurd q (by decide))).trans ((eh2411.1 _ _ (fun q => absurd q (by decide))).trans esd4.symm)))))) (fun k hk => ((k2435.2.2.1 201 k rfl).trans ((xk2427.2.1 k hk).trans ((eh2419.1 201 k (fun q => absurd q (by decide))).trans ((eh2415.1 201 k (fun q => absurd q (by decide))).trans (eh2411.1 201 k (fun q => absurd q (by decide)))))))) ((k2435.2.2.1 _ _ rfl).trans xk2427.2.2) (Or.inl ⟨by have q1 := ex2374.symm; omega, (fun k hk => ((k2435.2.2.1 211 k rfl).trans ((k2427.2.2.1 211 k rfl).trans ((eh2419.1 211 k (fun q => absurd q (by decide))).trans ((eh2415.1 211 k (fun q => absurd q (by decide))).trans (eh2411.1 211 k (fun _ => hk))))))), ((k2435.2.2.1 _ _ rfl).trans ((k2427.2.2.1 _ _ rfl).trans ((eh2419.1 _ _ (fun q => absurd q (by decide))).trans ((eh2415.1 _ _ (fun q => absurd q (by decide))).trans eh2411.2.1)))), fun k => ((k2435.2.2.1 212 k rfl).trans ((k2427.2.2.1 212 k rfl).trans ((eh2419.1 212 k (fun q => absurd q (by decide))).trans ((eh2415.1 212 k (fun q => absurd q (by decide))).trans (eh2411.1 212 k (fun q => absurd q (by decide)))))))⟩) (fun k hk => ((k2435.2.2.1 213 k rfl).trans ((k2427.2.2.1 213 k rfl).trans ((eh2419.1 213 k (fun q => absurd q (by decide))).trans ((eh2415.1 213 k (fun _ => hk)).trans (eh2411.1 213 k (fun q => absurd q (by decide)))))))) ((k2435.2.2.1 _ _ rfl).trans ((k2427.2.2.1 _ _ rfl).trans ((eh2419.1 _ _ (fun q => absurd q (by decide))).trans eh2415.2.1))) (fun k hk => ((k2435.2.2.1 214 k rfl).trans ((k2427.2.2.1 214 k rfl).trans ((eh2419.1 214 k (fun _ => hk)).trans ((eh2415.1 214 k (fun q => absurd q (by decide))).trans (eh2411.1 214 k (fun q => absurd q (by decide)))))))) (by have q1 := ((k2435.2.2.1 _ _ rfl).trans ((k2427.2.2.1 _ _ rfl).trans eh2419.2.1)); have q2 := ex2374.symm; first | (clear hps; omega) | omega) (by intro a ha; simp only [List.mem_cons, List.not_mem_nil, or_false] at ha; rcases ha with rfl | rfl | rfl | rfl | rfl ; exact (funext (fun k => ((k2435.2.2.1 202 k rfl).trans ((k2427.2.2.1 202 k rfl).trans ((eh2419.1 202 k (fun q => absurd q (by decide))).trans ((eh2415.1 202 k (fun q => absurd q (by decide))).trans (eh2411.1 202 k (fun q => absurd q (by decide))))))))) ; exact (funext (fun k => ((k2435.2.2.1 203 k rfl).trans ((k2427.2.2.1 203 k rfl).trans ((eh2419.1 203 k (fun q => absurd q (by decide))).trans ((eh2415.1 203 k (fun q => absurd q (by decide))).trans (eh2411.1 203 k (fun q => absurd q (by decide))))))))) ; exact (funext (fun k => ((k2435.2.2.1 210 k rfl).trans ((k2427.2.2.1 210 k rfl).trans ((eh2419.1 210 k (fun q => absurd q (by decide))).trans ((eh2415.1 210 k (fun q => absurd q (by decide))).trans (eh2411.1 210 k (fun q => absurd q (by decide))))))))) ; exact (funext (fun k => ((k2435.2.2.1 215 k rfl).trans ((k2427.2.2.1 215 k rfl).trans ((eh2419.1 215 k (fun q => absurd q (by decide))).trans ((eh2415.1 215 k (fun q => absurd q (by decide))).trans (eh2411.1 215 k (fun q => absurd q (by decide))))))))) ; exact (funext (fun k => ((k2435.2.2.1 216 k rfl).trans ((k2427.2.2.1 216 k rfl).trans ((eh2419.1 216 k (fun q => absurd q (by decide))).trans ((eh2415.1 216 k (fun q => absurd q (by decide))).trans (eh2411.1 216 k (fun q => absurd q (by decide))))))))))⟩), k2437⟩
