/-! ===== the reference's methods, 353 ===== -/
def m_MD_goes : mr_T := (⟨"PlainMusicModel", "goes", "(I)Z"⟩, prog_14_method_78_code, 9, some .boolean)
theorem d_MD_goes_0 : decode prog_14_method_78_code 0 = .ok (.aload_n 0, 1) := by decide +kernel
theorem d_MD_goes_1 : decode prog_14_method_78_code 1 = .ok (.getfield 193, 3) := by decide +kernel
theorem rfm_97 : (97, 230) ∈ mf_L := by decide +kernel
theorem d_MD_goes_4 : decode prog_14_method_78_code 4 = .ok (.iload_n 1, 1) := by decide +kernel
theorem d_MD_goes_5 : decode prog_14_method_78_code 5 = .ok (.iaload, 1) := by decide +kernel
theorem sf_230 : sh_L[230]? = some (0, 8) := by decide +kernel
theorem mr_230 (k : Nat) : mr 230 k = ((-2147483648), 2147483647) := rfl
theorem d_MD_goes_6 : decode prog_14_method_78_code 6 = .ok (.aload_n 0, 1) := by decide +kernel
theorem d_MD_goes_7 : decode prog_14_method_78_code 7 = .ok (.getfield 190, 3) := by decide +kernel
theorem rfm_92 : (92, 229) ∈ mf_L := by decide +kernel
theorem d_MD_goes_10 : decode prog_14_method_78_code 10 = .ok (.iload_n 1, 1) := by decide +kernel
theorem d_MD_goes_11 : decode prog_14_method_78_code 11 = .ok (.iaload, 1) := by decide +kernel
theorem sf_229 : sh_L[229]? = some (0, 8) := by decide +kernel
theorem mr_229 (k : Nat) : mr 229 k = ((-2147483648), 2147483647) := rfl
theorem d_MD_goes_12 : decode prog_14_method_78_code 12 = .ok (.isub, 1) := by decide +kernel
theorem d_MD_goes_13 : decode prog_14_method_78_code 13 = .ok (.istore_n 2, 1) := by decide +kernel
theorem d_MD_goes_14 : decode prog_14_method_78_code 14 = .ok (.aload_n 0, 1) := by decide +kernel
theorem d_MD_goes_15 : decode prog_14_method_78_code 15 = .ok (.iload_n 2, 1) := by decide +kernel
theorem d_MD_goes_16 : decode prog_14_method_78_code 16 = .ok (.invokevirtual 535, 3) := by decide +kernel
theorem d_MD_goes_19 : decode prog_14_method_78_code 19 = .ok (.istore_n 3, 1) := by decide +kernel
theorem d_MD_goes_20 : decode prog_14_method_78_code 20 = .ok (.iload_n 3, 1) := by decide +kernel
theorem d_MD_goes_21 : decode prog_14_method_78_code 21 = .ok (.ifCond .eq 9, 3) := by decide +kernel
theorem d_MD_goes_24 : decode prog_14_method_78_code 24 = .ok (.iload_n 3, 1) := by decide +kernel
theorem d_MD_goes_25 : decode prog_14_method_78_code 25 = .ok (.bipush 7, 2) := by decide +kernel
theorem d_MD_goes_27 : decode prog_14_method_78_code 27 = .ok (.if_icmp .ne 7, 3) := by decide +kernel
theorem d_MD_goes_34 : decode prog_14_method_78_code 34 = .ok (.iconst 0, 1) := by decide +kernel
theorem d_MD_goes_35 : decode prog_14_method_78_code 35 = .ok (.istore 4, 2) := by decide +kernel
theorem d_MD_goes_37 : decode prog_14_method_78_code 37 = .ok (.aload_n 0, 1) := by decide +kernel
theorem d_MD_goes_38 : decode prog_14_method_78_code 38 = .ok (.iconst 1, 1) := by decide +kernel
theorem d_MD_goes_39 : decode prog_14_method_78_code 39 = .ok (.invokevirtual 558, 3) := by decide +kernel
theorem k_MD_isRule : mt_OK m_MD_isRule 1 1 := ⟨gwi_2139, gwi_146, ⟨by decide +kernel, by decide +kernel, by decide +kernel⟩, fun h => absurd h (by decide), fun _ => ⟨gwi_2138, gwi_121⟩, fun h => absurd h (by decide)⟩
theorem l_MD_558 : ml_OK "PlainMusicModel" 558 ⟨"PlainMusicModel", "isRule", "(I)Z"⟩ := Or.inl gwi_2136
theorem d_MD_goes_42 : decode prog_14_method_78_code 42 = .ok (.ifCond .eq 37, 3) := by decide +kernel
theorem d_MD_goes_79 : decode prog_14_method_78_code 79 = .ok (.aload_n 0, 1) := by decide +kernel
theorem d_MD_goes_80 : decode prog_14_method_78_code 80 = .ok (.iconst 2, 1) := by decide +kernel
theorem d_MD_goes_81 : decode prog_14_method_78_code 81 = .ok (.invokevirtual 558, 3) := by decide +kernel
theorem d_MD_goes_84 : decode prog_14_method_78_code 84 = .ok (.ifCond .eq 28, 3) := by decide +kernel
theorem d_MD_goes_112 : decode prog_14_method_78_code 112 = .ok (.aload_n 0, 1) := by decide +kernel
theorem d_MD_goes_113 : decode prog_14_method_78_code 113 = .ok (.sipush 128, 3) := by decide +kernel
theorem d_MD_goes_116 : decode prog_14_method_78_code 116 = .ok (.invokevirtual 558, 3) := by decide +kernel
theorem d_MD_goes_119 : decode prog_14_method_78_code 119 = .ok (.ifCond .eq 22, 3) := by decide +kernel
theorem d_MD_goes_141 : decode prog_14_method_78_code 141 = .ok (.aload_n 0, 1) := by decide +kernel
theorem d_MD_goes_142 : decode prog_14_method_78_code 142 = .ok (.sipush 256, 3) := by decide +kernel
theorem d_MD_goes_145 : decode prog_14_method_78_code 145 = .ok (.invokevirtual 558, 3) := by decide +kernel
theorem d_MD_goes_148 : decode prog_14_method_78_code 148 = .ok (.ifCond .eq 9, 3) := by decide +kernel
theorem d_MD_goes_157 : decode prog_14_method_78_code 157 = .ok (.iload_n 1, 1) := by decide +kernel
theorem d_MD_goes_158 : decode prog_14_method_78_code 158 = .ok (.ifCond .ne 5, 3) := by decide +kernel
theorem d_MD_goes_163 : decode prog_14_method_78_code 163 = .ok (.aload_n 0, 1) := by decide +kernel
theorem d_MD_goes_164 : decode prog_14_method_78_code 164 = .ok (.getfield 193, 3) := by decide +kernel
theorem d_MD_goes_167 : decode prog_14_method_78_code 167 = .ok (.iload_n 1, 1) := by decide +kernel
theorem d_MD_goes_168 : decode prog_14_method_78_code 168 = .ok (.iaload, 1) := by decide +kernel
theorem d_MD_goes_169 : decode prog_14_method_78_code 169 = .ok (.aload_n 0, 1) := by decide +kernel
theorem d_MD_goes_170 : decode prog_14_method_78_code 170 = .ok (.getfield 193, 3) := by decide +kernel
theorem d_MD_goes_173 : decode prog_14_method_78_code 173 = .ok (.iload_n 1, 1) := by decide +kernel
theorem d_MD_goes_174 : decode prog_14_method_78_code 174 = .ok (.iconst 1, 1) := by decide +kernel
theorem d_MD_goes_175 : decode prog_14_method_78_code 175 = .ok (.isub, 1) := by decide +kernel
theorem d_MD_goes_176 : decode prog_14_method_78_code 176 = .ok (.iaload, 1) := by decide +kernel
theorem d_MD_goes_177 : decode prog_14_method_78_code 177 = .ok (.isub, 1) := by decide +kernel
theorem d_MD_goes_178 : decode prog_14_method_78_code 178 = .ok (.istore 5, 2) := by decide +kernel
theorem d_MD_goes_180 : decode prog_14_method_78_code 180 = .ok (.aload_n 0, 1) := by decide +kernel
theorem d_MD_goes_181 : decode prog_14_method_78_code 181 = .ok (.getfield 190, 3) := by decide +kernel
theorem d_MD_goes_184 : decode prog_14_method_78_code 184 = .ok (.iload_n 1, 1) := by decide +kernel
theorem d_MD_goes_185 : decode prog_14_method_78_code 185 = .ok (.iaload, 1) := by decide +kernel
theorem d_MD_goes_186 : decode prog_14_method_78_code 186 = .ok (.aload_n 0, 1) := by decide +kernel
theorem d_MD_goes_187 : decode prog_14_method_78_code 187 = .ok (.getfield 190, 3) := by decide +kernel
theorem d_MD_goes_190 : decode prog_14_method_78_code 190 = .ok (.iload_n 1, 1) := by decide +kernel
theorem d_MD_goes_191 : decode prog_14_method_78_code 191 = .ok (.iconst 1, 1) := by decide +kernel
theorem d_MD_goes_192 : decode prog_14_method_78_code 192 = .ok (.isub, 1) := by decide +kernel
theorem d_MD_goes_193 : decode prog_14_method_78_code 193 = .ok (.iaload, 1) := by decide +kernel
theorem d_MD_goes_194 : decode prog_14_method_78_code 194 = .ok (.isub, 1) := by decide +kernel
theorem d_MD_goes_195 : decode prog_14_method_78_code 195 = .ok (.istore 6, 2) := by decide +kernel
theorem d_MD_goes_197 : decode prog_14_method_78_code 197 = .ok (.aload_n 0, 1) := by decide +kernel
theorem d_MD_goes_198 : decode prog_14_method_78_code 198 = .ok (.iconst 4, 1) := by decide +kernel
theorem d_MD_goes_199 : decode prog_14_method_78_code 199 = .ok (.invokevirtual 558, 3) := by decide +kernel
theorem d_MD_goes_202 : decode prog_14_method_78_code 202 = .ok (.ifCond .eq 40, 3) := by decide +kernel
theorem d_MD_goes_242 : decode prog_14_method_78_code 242 = .ok (.aload_n 0, 1) := by decide +kernel
theorem d_MD_goes_243 : decode prog_14_method_78_code 243 = .ok (.bipush 8, 2) := by decide +kernel
theorem d_MD_goes_245 : decode prog_14_method_78_code 245 = .ok (.invokevirtual 558, 3) := by decide +kernel
theorem d_MD_goes_248 : decode prog_14_method_78_code 248 = .ok (.ifCond .eq 30, 3) := by decide +kernel
theorem d_MD_goes_278 : decode prog_14_method_78_code 278 = .ok (.iload 5, 2) := by decide +kernel
theorem d_MD_goes_280 : decode prog_14_method_78_code 280 = .ok (.ifCond .ge 9, 3) := by decide +kernel
theorem d_MD_goes_289 : decode prog_14_method_78_code 289 = .ok (.iload 5, 2) := by decide +kernel
theorem d_MD_goes_291 : decode prog_14_method_78_code 291 = .ok (.istore 7, 2) := by decide +kernel
theorem d_MD_goes_293 : decode prog_14_method_78_code 293 = .ok (.aload_n 0, 1) := by decide +kernel
theorem d_MD_goes_294 : decode prog_14_method_78_code 294 = .ok (.bipush 16, 2) := by decide +kernel
theorem d_MD_goes_296 : decode prog_14_method_78_code 296 = .ok (.invokevirtual 558, 3) := by decide +kernel
theorem d_MD_goes_299 : decode prog_14_method_78_code 299 = .ok (.ifCond .eq 19, 3) := by decide +kernel
theorem d_MD_goes_318 : decode prog_14_method_78_code 318 = .ok (.aload_n 0, 1) := by decide +kernel
theorem d_MD_goes_319 : decode prog_14_method_78_code 319 = .ok (.bipush 32, 2) := by decide +kernel
theorem d_MD_goes_321 : decode prog_14_method_78_code 321 = .ok (.invokevirtual 558, 3) := by decide +kernel
theorem d_MD_goes_324 : decode prog_14_method_78_code 324 = .ok (.ifCond .eq 10, 3) := by decide +kernel
theorem d_MD_goes_334 : decode prog_14_method_78_code 334 = .ok (.iload_n 1, 1) := by decide +kernel
theorem d_MD_goes_335 : decode prog_14_method_78_code 335 = .ok (.iconst 1, 1) := by decide +kernel
theorem d_MD_goes_336 : decode prog_14_method_78_code 336 = .ok (.if_icmp .eq 12, 3) := by decide +kernel
theorem d_MD_goes_348 : decode prog_14_method_78_code 348 = .ok (.iconst 1, 1) := by decide +kernel
theorem d_MD_goes_349 : decode prog_14_method_78_code 349 = .ok (.ireturn, 1) := by decide +kernel
theorem d_MD_goes_339 : decode prog_14_method_78_code 339 = .ok (.aload_n 0, 1) := by decide +kernel
theorem d_MD_goes_340 : decode prog_14_method_78_code 340 = .ok (.bipush 64, 2) := by decide +kernel
theorem d_MD_goes_342 : decode prog_14_method_78_code 342 = .ok (.invokevirtual 558, 3) := by decide +kernel
theorem d_MD_goes_345 : decode prog_14_method_78_code 345 = .ok (.ifCond .ne 5, 3) := by decide +kernel
theorem d_MD_goes_350 : decode prog_14_method_78_code 350 = .ok (.aload_n 0, 1) := by decide +kernel
theorem d_MD_goes_351 : decode prog_14_method_78_code 351 = .ok (.getfield 193, 3) := by decide +kernel
theorem d_MD_goes_354 : decode prog_14_method_78_code 354 = .ok (.iload_n 1, 1) := by decide +kernel
theorem d_MD_goes_355 : decode prog_14_method_78_code 355 = .ok (.iconst 1, 1) := by decide +kernel
theorem d_MD_goes_356 : decode prog_14_method_78_code 356 = .ok (.isub, 1) := by decide +kernel
theorem d_MD_goes_357 : decode prog_14_method_78_code 357 = .ok (.iaload, 1) := by decide +kernel
theorem d_MD_goes_358 : decode prog_14_method_78_code 358 = .ok (.aload_n 0, 1) := by decide +kernel
theorem d_MD_goes_359 : decode prog_14_method_78_code 359 = .ok (.getfield 193, 3) := by decide +kernel
theorem d_MD_goes_362 : decode prog_14_method_78_code 362 = .ok (.iload_n 1, 1) := by decide +kernel
theorem d_MD_goes_363 : decode prog_14_method_78_code 363 = .ok (.iconst 2, 1) := by decide +kernel
theorem d_MD_goes_364 : decode prog_14_method_78_code 364 = .ok (.isub, 1) := by decide +kernel
theorem d_MD_goes_365 : decode prog_14_method_78_code 365 = .ok (.iaload, 1) := by decide +kernel
theorem d_MD_goes_366 : decode prog_14_method_78_code 366 = .ok (.isub, 1) := by decide +kernel
theorem d_MD_goes_367 : decode prog_14_method_78_code 367 = .ok (.istore 8, 2) := by decide +kernel
theorem d_MD_goes_369 : decode prog_14_method_78_code 369 = .ok (.iload 8, 2) := by decide +kernel
theorem d_MD_goes_371 : decode prog_14_method_78_code 371 = .ok (.iconst 4, 1) := by decide +kernel
theorem d_MD_goes_372 : decode prog_14_method_78_code 372 = .ok (.if_icmp .le 22, 3) := by decide +kernel
theorem d_MD_goes_394 : decode prog_14_method_78_code 394 = .ok (.iload 8, 2) := by decide +kernel
theorem d_MD_goes_396 : decode prog_14_method_78_code 396 = .ok (.bipush (-4), 2) := by decide +kernel
theorem d_MD_goes_398 : decode prog_14_method_78_code 398 = .ok (.if_icmp .ge 15, 3) := by decide +kernel
theorem d_MD_goes_413 : decode prog_14_method_78_code 413 = .ok (.iconst 1, 1) := by decide +kernel
theorem d_MD_goes_414 : decode prog_14_method_78_code 414 = .ok (.goto 4, 3) := by decide +kernel
theorem d_MD_goes_418 : decode prog_14_method_78_code 418 = .ok (.ireturn, 1) := by decide +kernel
theorem d_MD_goes_401 : decode prog_14_method_78_code 401 = .ok (.iload 5, 2) := by decide +kernel
theorem d_MD_goes_403 : decode prog_14_method_78_code 403 = .ok (.iconst 1, 1) := by decide +kernel
theorem d_MD_goes_404 : decode prog_14_method_78_code 404 = .ok (.if_icmp .eq 9, 3) := by decide +kernel
theorem d_MD_goes_407 : decode prog_14_method_78_code 407 = .ok (.iload 5, 2) := by decide +kernel
theorem d_MD_goes_409 : decode prog_14_method_78_code 409 = .ok (.iconst 2, 1) := by decide +kernel
theorem d_MD_goes_410 : decode prog_14_method_78_code 410 = .ok (.if_icmp .ne 7, 3) := by decide +kernel
theorem d_MD_goes_417 : decode prog_14_method_78_code 417 = .ok (.iconst 0, 1) := by decide +kernel
theorem d_MD_goes_375 : decode prog_14_method_78_code 375 = .ok (.iload 5, 2) := by decide +kernel
theorem d_MD_goes_377 : decode prog_14_method_78_code 377 = .ok (.iconst (-1), 1) := by decide +kernel
theorem d_MD_goes_378 : decode prog_14_method_78_code 378 = .ok (.if_icmp .eq 10, 3) := by decide +kernel
theorem d_MD_goes_381 : decode prog_14_method_78_code 381 = .ok (.iload 5, 2) := by decide +kernel
theorem d_MD_goes_383 : decode prog_14_method_78_code 383 = .ok (.bipush (-2), 2) := by decide +kernel
theorem d_MD_goes_385 : decode prog_14_method_78_code 385 = .ok (.if_icmp .ne 7, 3) := by decide +kernel
theorem d_MD_goes_392 : decode prog_14_method_78_code 392 = .ok (.iconst 0, 1) := by decide +kernel
theorem d_MD_goes_393 : decode prog_14_method_78_code 393 = .ok (.ireturn, 1) := by decide +kernel
theorem d_MD_goes_327 : decode prog_14_method_78_code 327 = .ok (.iload 5, 2) := by decide +kernel
theorem d_MD_goes_329 : decode prog_14_method_78_code 329 = .ok (.ifCond .ne 5, 3) := by decide +kernel
theorem d_MD_goes_332 : decode prog_14_method_78_code 332 = .ok (.iconst 0, 1) := by decide +kernel
theorem d_MD_goes_333 : decode prog_14_method_78_code 333 = .ok (.ireturn, 1) := by decide +kernel
theorem d_MD_goes_302 : decode prog_14_method_78_code 302 = .ok (.iload 7, 2) := by decide +kernel
theorem d_MD_goes_304 : decode prog_14_method_78_code 304 = .ok (.bipush 7, 2) := by decide +kernel
theorem d_MD_goes_306 : decode prog_14_method_78_code 306 = .ok (.if_icmp .le 12, 3) := by decide +kernel
theorem d_MD_goes_309 : decode prog_14_method_78_code 309 = .ok (.iload 7, 2) := by decide +kernel
theorem d_MD_goes_311 : decode prog_14_method_78_code 311 = .ok (.bipush 12, 2) := by decide +kernel
theorem d_MD_goes_313 : decode prog_14_method_78_code 313 = .ok (.if_icmp .eq 5, 3) := by decide +kernel
theorem d_MD_goes_316 : decode prog_14_method_78_code 316 = .ok (.iconst 0, 1) := by decide +kernel
theorem d_MD_goes_317 : decode prog_14_method_78_code 317 = .ok (.ireturn, 1) := by decide +kernel
theorem d_MD_goes_283 : decode prog_14_method_78_code 283 = .ok (.iload 5, 2) := by decide +kernel
theorem d_MD_goes_285 : decode prog_14_method_78_code 285 = .ok (.ineg, 1) := by decide +kernel
theorem d_MD_goes_286 : decode prog_14_method_78_code 286 = .ok (.goto 5, 3) := by decide +kernel
theorem d_MD_goes_388 : decode prog_14_method_78_code 388 = .ok (.iconst 1, 1) := by decide +kernel
theorem d_MD_goes_389 : decode prog_14_method_78_code 389 = .ok (.goto 4, 3) := by decide +kernel
theorem d_MD_goes_251 : decode prog_14_method_78_code 251 = .ok (.iload 4, 2) := by decide +kernel
theorem d_MD_goes_253 : decode prog_14_method_78_code 253 = .ok (.ifCond .eq 25, 3) := by decide +kernel
theorem d_MD_goes_205 : decode prog_14_method_78_code 205 = .ok (.iload 4, 2) := by decide +kernel
theorem d_MD_goes_207 : decode prog_14_method_78_code 207 = .ok (.ifCond .eq 35, 3) := by decide +kernel
theorem d_MD_goes_161 : decode prog_14_method_78_code 161 = .ok (.iconst 1, 1) := by decide +kernel
theorem d_MD_goes_162 : decode prog_14_method_78_code 162 = .ok (.ireturn, 1) := by decide +kernel
theorem d_MD_goes_151 : decode prog_14_method_78_code 151 = .ok (.iload_n 2, 1) := by decide +kernel
theorem d_MD_goes_152 : decode prog_14_method_78_code 152 = .ok (.ifCond .ge 5, 3) := by decide +kernel
theorem d_MD_goes_155 : decode prog_14_method_78_code 155 = .ok (.iconst 0, 1) := by decide +kernel
theorem d_MD_goes_156 : decode prog_14_method_78_code 156 = .ok (.ireturn, 1) := by decide +kernel
theorem d_MD_goes_122 : decode prog_14_method_78_code 122 = .ok (.aload_n 0, 1) := by decide +kernel
theorem d_MD_goes_123 : decode prog_14_method_78_code 123 = .ok (.aload_n 0, 1) := by decide +kernel
theorem d_MD_goes_124 : decode prog_14_method_78_code 124 = .ok (.aload_n 0, 1) := by decide +kernel
theorem d_MD_goes_125 : decode prog_14_method_78_code 125 = .ok (.getfield 193, 3) := by decide +kernel
theorem d_MD_goes_128 : decode prog_14_method_78_code 128 = .ok (.iload_n 1, 1) := by decide +kernel
theorem d_MD_goes_129 : decode prog_14_method_78_code 129 = .ok (.iaload, 1) := by decide +kernel
theorem d_MD_goes_130 : decode prog_14_method_78_code 130 = .ok (.invokevirtual 535, 3) := by decide +kernel
theorem d_MD_goes_133 : decode prog_14_method_78_code 133 = .ok (.invokevirtual 564, 3) := by decide +kernel
theorem k_MD_isWhite : mt_OK m_MD_isWhite 1 1 := ⟨gwi_2143, gwi_146, ⟨by decide +kernel, by decide +kernel, by decide +kernel⟩, fun h => absurd h (by decide), fun _ => ⟨gwi_2142, gwi_122⟩, fun h => absurd h (by decide)⟩
theorem l_MD_564 : ml_OK "PlainMusicModel" 564 ⟨"PlainMusicModel", "isWhite", "(I)Z"⟩ := Or.inl gwi_2140
theorem d_MD_goes_136 : decode prog_14_method_78_code 136 = .ok (.ifCond .ne 5, 3) := by decide +kernel
theorem d_MD_goes_139 : decode prog_14_method_78_code 139 = .ok (.iconst 0, 1) := by decide +kernel
theorem d_MD_goes_140 : decode prog_14_method_78_code 140 = .ok (.ireturn, 1) := by decide +kernel
theorem d_MD_goes_87 : decode prog_14_method_78_code 87 = .ok (.iload_n 1, 1) := by decide +kernel
theorem d_MD_goes_88 : decode prog_14_method_78_code 88 = .ok (.ifCond .ne 8, 3) := by decide +kernel
theorem d_MD_goes_96 : decode prog_14_method_78_code 96 = .ok (.iload_n 1, 1) := by decide +kernel
theorem d_MD_goes_97 : decode prog_14_method_78_code 97 = .ok (.aload_n 0, 1) := by decide +kernel
theorem d_MD_goes_98 : decode prog_14_method_78_code 98 = .ok (.getfield 561, 3) := by decide +kernel
theorem f_MD_561 : fl_OK "PlainMusicModel" 561 12 93 .int false := ⟨_, rfl, by decide, gwi_1575, rfl, rfl⟩
theorem mr_170_93 : mr 170 93 = (0, 8) := by decide +kernel
theorem d_MD_goes_101 : decode prog_14_method_78_code 101 = .ok (.iconst 1, 1) := by decide +kernel
theorem d_MD_goes_102 : decode prog_14_method_78_code 102 = .ok (.isub, 1) := by decide +kernel
theorem d_MD_goes_103 : decode prog_14_method_78_code 103 = .ok (.if_icmp .ne 9, 3) := by decide +kernel
theorem d_MD_goes_106 : decode prog_14_method_78_code 106 = .ok (.iload_n 3, 1) := by decide +kernel
theorem d_MD_goes_107 : decode prog_14_method_78_code 107 = .ok (.ifCond .eq 5, 3) := by decide +kernel
theorem d_MD_goes_110 : decode prog_14_method_78_code 110 = .ok (.iconst 0, 1) := by decide +kernel
theorem d_MD_goes_111 : decode prog_14_method_78_code 111 = .ok (.ireturn, 1) := by decide +kernel
theorem d_MD_goes_91 : decode prog_14_method_78_code 91 = .ok (.iload 4, 2) := by decide +kernel
theorem d_MD_goes_93 : decode prog_14_method_78_code 93 = .ok (.ifCond .eq 17, 3) := by decide +kernel
theorem d_MD_goes_45 : decode prog_14_method_78_code 45 = .ok (.iload_n 3, 1) := by decide +kernel
theorem d_MD_goes_46 : decode prog_14_method_78_code 46 = .ok (.ifCond .eq 33, 3) := by decide +kernel
theorem d_MD_goes_49 : decode prog_14_method_78_code 49 = .ok (.iload_n 3, 1) := by decide +kernel
theorem d_MD_goes_50 : decode prog_14_method_78_code 50 = .ok (.iconst 3, 1) := by decide +kernel
theorem d_MD_goes_51 : decode prog_14_method_78_code 51 = .ok (.if_icmp .eq 28, 3) := by decide +kernel
theorem d_MD_goes_54 : decode prog_14_method_78_code 54 = .ok (.iload_n 3, 1) := by decide +kernel
theorem d_MD_goes_55 : decode prog_14_method_78_code 55 = .ok (.iconst 4, 1) := by decide +kernel
theorem d_MD_goes_56 : decode prog_14_method_78_code 56 = .ok (.if_icmp .eq 23, 3) := by decide +kernel
theorem d_MD_goes_59 : decode prog_14_method_78_code 59 = .ok (.iload_n 3, 1) := by decide +kernel
theorem d_MD_goes_60 : decode prog_14_method_78_code 60 = .ok (.bipush 7, 2) := by decide +kernel
theorem d_MD_goes_62 : decode prog_14_method_78_code 62 = .ok (.if_icmp .eq 17, 3) := by decide +kernel
theorem d_MD_goes_65 : decode prog_14_method_78_code 65 = .ok (.iload_n 3, 1) := by decide +kernel
theorem d_MD_goes_66 : decode prog_14_method_78_code 66 = .ok (.bipush 8, 2) := by decide +kernel
theorem d_MD_goes_68 : decode prog_14_method_78_code 68 = .ok (.if_icmp .eq 11, 3) := by decide +kernel
theorem d_MD_goes_71 : decode prog_14_method_78_code 71 = .ok (.iload_n 3, 1) := by decide +kernel
theorem d_MD_goes_72 : decode prog_14_method_78_code 72 = .ok (.bipush 9, 2) := by decide +kernel
theorem d_MD_goes_74 : decode prog_14_method_78_code 74 = .ok (.if_icmp .eq 5, 3) := by decide +kernel
theorem d_MD_goes_77 : decode prog_14_method_78_code 77 = .ok (.iconst 0, 1) := by decide +kernel
theorem d_MD_goes_78 : decode prog_14_method_78_code 78 = .ok (.ireturn, 1) := by decide +kernel
theorem d_MD_goes_30 : decode prog_14_method_78_code 30 = .ok (.iconst 1, 1) := by decide +kernel
theorem d_MD_goes_31 : decode prog_14_method_78_code 31 = .ok (.goto 4, 3) := by decide +kernel
theorem d_MD_goes_210 : decode prog_14_method_78_code 210 = .ok (.iload 5, 2) := by decide +kernel
theorem d_MD_goes_212 : decode prog_14_method_78_code 212 = .ok (.ifCond .eq 30, 3) := by decide +kernel
theorem d_MD_goes_215 : decode prog_14_method_78_code 215 = .ok (.aload_n 0, 1) := by decide +kernel
theorem d_MD_goes_216 : decode prog_14_method_78_code 216 = .ok (.aload_n 0, 1) := by decide +kernel
theorem d_MD_goes_217 : decode prog_14_method_78_code 217 = .ok (.getfield 193, 3) := by decide +kernel
theorem d_MD_goes_220 : decode prog_14_method_78_code 220 = .ok (.iload_n 1, 1) := by decide +kernel
theorem d_MD_goes_221 : decode prog_14_method_78_code 221 = .ok (.iconst 1, 1) := by decide +kernel
theorem d_MD_goes_222 : decode prog_14_method_78_code 222 = .ok (.isub, 1) := by decide +kernel
theorem d_MD_goes_223 : decode prog_14_method_78_code 223 = .ok (.iaload, 1) := by decide +kernel
theorem d_MD_goes_224 : decode prog_14_method_78_code 224 = .ok (.aload_n 0, 1) := by decide +kernel
theorem d_MD_goes_225 : decode prog_14_method_78_code 225 = .ok (.getfield 190, 3) := by decide +kernel
theorem d_MD_goes_228 : decode prog_14_method_78_code 228 = .ok (.iload_n 1, 1) := by decide +kernel
theorem d_MD_goes_229 : decode prog_14_method_78_code 229 = .ok (.iconst 1, 1) := by decide +kernel
theorem d_MD_goes_230 : decode prog_14_method_78_code 230 = .ok (.isub, 1) := by decide +kernel
theorem d_MD_goes_231 : decode prog_14_method_78_code 231 = .ok (.iaload, 1) := by decide +kernel
theorem d_MD_goes_232 : decode prog_14_method_78_code 232 = .ok (.isub, 1) := by decide +kernel
theorem d_MD_goes_233 : decode prog_14_method_78_code 233 = .ok (.invokevirtual 535, 3) := by decide +kernel
theorem d_MD_goes_236 : decode prog_14_method_78_code 236 = .ok (.iload_n 3, 1) := by decide +kernel
theorem d_MD_goes_237 : decode prog_14_method_78_code 237 = .ok (.if_icmp .ne 5, 3) := by decide +kernel
theorem d_MD_goes_240 : decode prog_14_method_78_code 240 = .ok (.iconst 0, 1) := by decide +kernel
theorem d_MD_goes_241 : decode prog_14_method_78_code 241 = .ok (.ireturn, 1) := by decide +kernel
theorem d_MD_goes_256 : decode prog_14_method_78_code 256 = .ok (.iload 5, 2) := by decide +kernel
theorem d_MD_goes_258 : decode prog_14_method_78_code 258 = .ok (.ifCond .le 8, 3) := by decide +kernel
theorem d_MD_goes_266 : decode prog_14_method_78_code 266 = .ok (.iload 5, 2) := by decide +kernel
theorem d_MD_goes_268 : decode prog_14_method_78_code 268 = .ok (.ifCond .ge 10, 3) := by decide +kernel
theorem d_MD_goes_271 : decode prog_14_method_78_code 271 = .ok (.iload 6, 2) := by decide +kernel
theorem d_MD_goes_273 : decode prog_14_method_78_code 273 = .ok (.ifCond .ge 5, 3) := by decide +kernel
theorem d_MD_goes_276 : decode prog_14_method_78_code 276 = .ok (.iconst 0, 1) := by decide +kernel
theorem d_MD_goes_277 : decode prog_14_method_78_code 277 = .ok (.ireturn, 1) := by decide +kernel
theorem d_MD_goes_261 : decode prog_14_method_78_code 261 = .ok (.iload 6, 2) := by decide +kernel
theorem d_MD_goes_263 : decode prog_14_method_78_code 263 = .ok (.ifCond .gt 13, 3) := by decide +kernel
set_option maxHeartbeats 8000000 in
theorem s_MD_goes {G : cx_T} {h : ah_T} (hx : mi h) {a1 : Int} (la1 : 0 ≤ a1) (ua1 : a1 ≤ 7) : con G 1 0 0 m_MD_goes [av_R (some 170), av_I a1] h (fun r h' => ∃ z, r = some (av_I z) ∧ (z = 0 ∨ z = 1) ∧ h = h') := by
  refine con_of (L := [some (av_R (some 170)), some (av_I a1), none, none, none, none, none, none, none]) (by decide +kernel) (Nat.le_of_ble_eq_true rfl) rfl ?_
  refine A_aload_n 0 d_MD_goes_0 rfl rfl ?_
  refine A_getAv (z := some 230) T_ok d_MD_goes_1 f_MD_193 (mi_s hx sf_170) (mi_r hx rfm_97) ?_
  refine A_iload_n 1 d_MD_goes_4 rfl rfl ?_
  refine A_ialoadf d_MD_goes_5 (mi_s hx sf_230) (by omega) (by omega) (fun x2 ex2 _ _ => ?_)
  refine A_aload_n 0 d_MD_goes_6 rfl rfl ?_
  refine A_pc (pc' := 7) rfl ?_
  refine A_getAv (z := some 229) T_ok d_MD_goes_7 f_MD_190 (mi_s hx sf_170) (mi_r hx rfm_92) ?_
  refine A_iload_n 1 d_MD_goes_10 rfl rfl ?_
  refine A_ialoadf d_MD_goes_11 (mi_s hx sf_229) (by omega) (by omega) (fun x4 ex4 _ _ => ?_)
  refine A_isubw d_MD_goes_12 (fun x5 _ _ _ => ?_)
  refine A_istore_n 2 (L' := [some (av_R (some 170)), some (av_I a1), some (av_I x5), none, none, none, none, none, none]) d_MD_goes_13 rfl (Nat.le_of_ble_eq_true rfl) rfl ?_
  refine A_aload_n 0 d_MD_goes_14 rfl rfl ?_
  refine A_pc (pc' := 15) rfl ?_
  refine A_iload_n 2 d_MD_goes_15 rfl rfl ?_
  refine A_callV1 m_MD_modulo T_ok d_MD_goes_16 l_MD_535 k_MD_modulo (mi_s hx sf_170) rfl (by decide +kernel) (by decide) (Nat.le_of_ble_eq_true rfl) (s_MD_modulo hx ) (fun r h6 hq => ?_)
  obtain ⟨x8, rfl, ⟨_, _⟩, rfl⟩ := hq
  refine A_istore_n 3 (L' := [some (av_R (some 170)), some (av_I a1), some (av_I x5), some (av_I x8), none, none, none, none, none]) d_MD_goes_19 rfl (Nat.le_of_ble_eq_true rfl) rfl ?_
  refine A_iload_n 3 d_MD_goes_20 rfl rfl ?_
  have jp30 : aw G (rm_R 1 0 0) m_MD_goes 0 0 30 [some (av_R (some 170)), some (av_I a1), some (av_I x5), some (av_I x8), none, none, none, none, none] [] h (fun r h' => ∃ z, r = some (av_I z) ∧ (z = 0 ∨ z = 1) ∧ h = h') := by
    refine A_iconst d_MD_goes_30 rfl ?_
    refine A_goto (tgt := 35) d_MD_goes_31 (by decide) ?_
    refine A_istore (L' := [some (av_R (some 170)), some (av_I a1), some (av_I x5), some (av_I x8), some (av_I 1), none, none, none, none]) d_MD_goes_35 (Nat.le_of_ble_eq_true rfl) rfl ?_
    refine A_aload_n 0 d_MD_goes_37 rfl rfl ?_
    refine A_iconst d_MD_goes_38 rfl ?_
    refine A_callV1 m_MD_isRule T_ok d_MD_goes_39 l_MD_558 k_MD_isRule (mi_s hx sf_170) rfl (by decide +kernel) (by decide) (Nat.le_of_ble_eq_true rfl) (s_MD_isRule hx ) (fun r h9 hq => ?_)
    obtain ⟨x11, rfl, bx11, rfl⟩ := hq
    have jp79 : aw G (rm_R 1 0 0) m_MD_goes 0 0 79 [some (av_R (some 170)), some (av_I a1), some (av_I x5), some (av_I x8), some (av_I 1), none, none, none, none] [] h (fun r h' => ∃ z, r = some (av_I z) ∧ (z = 0 ∨ z = 1) ∧ h = h') := by
      refine A_aload_n 0 d_MD_goes_79 rfl rfl ?_
      refine A_iconst d_MD_goes_80 rfl ?_
      refine A_callV1 m_MD_isRule T_ok d_MD_goes_81 l_MD_558 k_MD_isRule (mi_s hx sf_170) rfl (by decide +kernel) (by decide) (Nat.le_of_ble_eq_true rfl) (s_MD_isRule hx ) (fun r h12 hq => ?_)
      obtain ⟨x14, rfl, bx14, rfl⟩ := hq
      have jp112 : aw G (rm_R 1 0 0) m_MD_goes 0 0 112 [some (av_R (some 170)), some (av_I a1), some (av_I x5), some (av_I x8), some (av_I 1), none, none, none, none] [] h (fun r h' => ∃ z, r = some (av_I z) ∧ (z = 0 ∨ z = 1) ∧ h = h') := by
        refine A_aload_n 0 d_MD_goes_112 rfl rfl ?_
        refine A_sipush d_MD_goes_113 rfl ?_
        refine A_callV1 m_MD_isRule T_ok d_MD_goes_116 l_MD_558 k_MD_isRule (mi_s hx sf_170) rfl (by decide +kernel) (by decide) (Nat.le_of_ble_eq_true rfl) (s_MD_isRule hx ) (fun r h15 hq => ?_)
        obtain ⟨x17, rfl, bx17, rfl⟩ := hq
        have jp141 : aw G (rm_R 1 0 0) m_MD_goes 0 0 141 [some (av_R (some 170)), some (av_I a1), some (av_I x5), some (av_I x8), some (av_I 1), none, none, none, none] [] h (fun r h' => ∃ z, r = some (av_I z) ∧ (z = 0 ∨ z = 1) ∧ h = h') := by
          refine A_aload_n 0 d_MD_goes_141 rfl rfl ?_
          refine A_sipush d_MD_goes_142 rfl ?_
          refine A_callV1 m_MD_isRule T_ok d_MD_goes_145 l_MD_558 k_MD_isRule (mi_s hx sf_170) rfl (by decide +kernel) (by decide) (Nat.le_of_ble_eq_true rfl) (s_MD_isRule hx ) (fun r h18 hq => ?_)
          obtain ⟨x20, rfl, bx20, rfl⟩ := hq
          have jp157 : aw G (rm_R 1 0 0) m_MD_goes 0 0 157 [some (av_R (some 170)), some (av_I a1), some (av_I x5), some (av_I x8), some (av_I 1), none, none, none, none] [] h (fun r h' => ∃ z, r = some (av_I z) ∧ (z = 0 ∨ z = 1) ∧ h = h') := by
            refine A_iload_n 1 d_MD_goes_157 rfl rfl ?_
            refine A_if_ne (tgt := 163) d_MD_goes_158 (by decide) (fun c21 => ?_) (fun c21 => ?_)
            · refine A_aload_n 0 d_MD_goes_163 rfl rfl ?_
              refine A_getAv (z := some 230) T_ok d_MD_goes_164 f_MD_193 (mi_s hx sf_170) (mi_r hx rfm_97) ?_
              refine A_iload_n 1 d_MD_goes_167 rfl rfl ?_
              refine A_ialoadv (z := x2) d_MD_goes_168 (mi_s hx sf_230) (by omega) (by omega) ex2.symm ?_
              refine A_aload_n 0 d_MD_goes_169 rfl rfl ?_
              refine A_pc (pc' := 170) rfl ?_
              refine A_getAv (z := some 230) T_ok d_MD_goes_170 f_MD_193 (mi_s hx sf_170) (mi_r hx rfm_97) ?_
              refine A_iload_n 1 d_MD_goes_173 rfl rfl ?_
              refine A_iconst d_MD_goes_174 rfl ?_
              refine A_isubv (z := (a1 - 1)) d_MD_goes_175 (w32_to (by omega) (by unfold i32; omega)) ?_
              refine A_ialoadf d_MD_goes_176 (mi_s hx sf_230) (by omega) (by omega) (fun x25 ex25 _ _ => ?_)
              refine A_isubw d_MD_goes_177 (fun x26 _ _ _ => ?_)
              refine A_pc (pc' := 178) rfl ?_
              refine A_istore (L' := [some (av_R (some 170)), some (av_I a1), some (av_I x5), some (av_I x8), some (av_I 1), some (av_I x26), none, none, none]) d_MD_goes_178 (Nat.le_of_ble_eq_true rfl) rfl ?_
              refine A_aload_n 0 d_MD_goes_180 rfl rfl ?_
              refine A_getAv (z := some 229) T_ok d_MD_goes_181 f_MD_190 (mi_s hx sf_170) (mi_r hx rfm_92) ?_
              refine A_iload_n 1 d_MD_goes_184 rfl rfl ?_
              refine A_ialoadv (z := x4) d_MD_goes_185 (mi_s hx sf_229) (by omega) (by omega) ex4.symm ?_
              refine A_aload_n 0 d_MD_goes_186 rfl rfl ?_
              refine A_pc (pc' := 187) rfl ?_
              refine A_getAv (z := some 229) T_ok d_MD_goes_187 f_MD_190 (mi_s hx sf_170) (mi_r hx rfm_92) ?_
              refine A_iload_n 1 d_MD_goes_190 rfl rfl ?_
              refine A_iconst d_MD_goes_191 rfl ?_
              refine A_isubv (z := (a1 - 1)) d_MD_goes_192 (w32_to (by omega) (by unfold i32; omega)) ?_
              refine A_ialoadf d_MD_goes_193 (mi_s hx sf_229) (by omega) (by omega) (fun x30 ex30 _ _ => ?_)
              refine A_isubw d_MD_goes_194 (fun x31 _ _ _ => ?_)
              refine A_pc (pc' := 195) rfl ?_
              refine A_istore (L' := [some (av_R (some 170)), some (av_I a1), some (av_I x5), some (av_I x8), some (av_I 1), some (av_I x26), some (av_I x31), none, none]) d_MD_goes_195 (Nat.le_of_ble_eq_true rfl) rfl ?_
              refine A_aload_n 0 d_MD_goes_197 rfl rfl ?_
              refine A_iconst d_MD_goes_198 rfl ?_
              refine A_callV1 m_MD_isRule T_ok d_MD_goes_199 l_MD_558 k_MD_isRule (mi_s hx sf_170) rfl (by decide +kernel) (by decide) (Nat.le_of_ble_eq_true rfl) (s_MD_isRule hx ) (fun r h32 hq => ?_)
              obtain ⟨x34, rfl, bx34, rfl⟩ := hq
              have jp242 : aw G (rm_R 1 0 0) m_MD_goes 0 0 242 [some (av_R (some 170)), some (av_I a1), some (av_I x5), some (av_I x8), some (av_I 1), some (av_I x26), some (av_I x31), none, none] [] h (fun r h' => ∃ z, r = some (av_I z) ∧ (z = 0 ∨ z = 1) ∧ h = h') := by
                refine A_aload_n 0 d_MD_goes_242 rfl rfl ?_
                refine A_bipush d_MD_goes_243 rfl ?_
                refine A_callV1 m_MD_isRule T_ok d_MD_goes_245 l_MD_558 k_MD_isRule (mi_s hx sf_170) rfl (by decide +kernel) (by decide) (Nat.le_of_ble_eq_true rfl) (s_MD_isRule hx ) (fun r h35 hq => ?_)
                obtain ⟨x37, rfl, bx37, rfl⟩ := hq
                have jp278 : aw G (rm_R 1 0 0) m_MD_goes 0 0 278 [some (av_R (some 170)), some (av_I a1), some (av_I x5), some (av_I x8), some (av_I 1), some (av_I x26), some (av_I x31), none, none] [] h (fun r h' => ∃ z, r = some (av_I z) ∧ (z = 0 ∨ z = 1) ∧ h = h') := by
                  refine A_iload d_MD_goes_278 rfl ?_
                  have jp291 : ∀ (j38 : Int) , (-2147483648) ≤ j38 → j38 ≤ 2147483647 → aw G (rm_R 1 0 0) m_MD_goes 0 0 291 [some (av_R (some 170)), some (av_I a1), some (av_I x5), some (av_I x8), some (av_I 1), some (av_I x26), some (av_I x31), none, none] [av_I j38] h (fun r h' => ∃ z, r = some (av_I z) ∧ (z = 0 ∨ z = 1) ∧ h = h') := by
                    intro j38  _ _ 
                    refine A_istore (L' := [some (av_R (some 170)), some (av_I a1), some (av_I x5), some (av_I x8), some (av_I 1), some (av_I x26), some (av_I x31), some (av_I j38), none]) d_MD_goes_291 (Nat.le_of_ble_eq_true rfl) rfl ?_
                    refine A_aload_n 0 d_MD_goes_293 rfl rfl ?_
                    refine A_bipush d_MD_goes_294 rfl ?_
                    refine A_callV1 m_MD_isRule T_ok d_MD_goes_296 l_MD_558 k_MD_isRule (mi_s hx sf_170) rfl (by decide +kernel) (by decide) (Nat.le_of_ble_eq_true rfl) (s_MD_isRule hx ) (fun r h39 hq => ?_)
                    obtain ⟨x41, rfl, bx41, rfl⟩ := hq
                    have jp318 : aw G (rm_R 1 0 0) m_MD_goes 0 0 318 [some (av_R (some 170)), some (av_I a1), some (av_I x5), some (av_I x8), some (av_I 1), some (av_I x26), some (av_I x31), some (av_I j38), none] [] h (fun r h' => ∃ z, r = some (av_I z) ∧ (z = 0 ∨ z = 1) ∧ h = h') := by
                      refine A_aload_n 0 d_MD_goes_318 rfl rfl ?_
                      refine A_bipush d_MD_goes_319 rfl ?_
                      refine A_callV1 m_MD_isRule T_ok d_MD_goes_321 l_MD_558 k_MD_isRule (mi_s hx sf_170) rfl (by decide +kernel) (by decide) (Nat.le_of_ble_eq_true rfl) (s_MD_isRule hx ) (fun r h42 hq => ?_)
                      obtain ⟨x44, rfl, bx44, rfl⟩ := hq
                      have jp334 : aw G (rm_R 1 0 0) m_MD_goes 0 0 334 [some (av_R (some 170)), some (av_I a1), some (av_I x5), some (av_I x8), some (av_I 1), some (av_I x26), some (av_I x31), some (av_I j38), none] [] h (fun r h' => ∃ z, r = some (av_I z) ∧ (z = 0 ∨ z = 1) ∧ h = h') := by
                        refine A_iload_n 1 d_MD_goes_334 rfl rfl ?_
                        refine A_iconst d_MD_goes_335 rfl ?_
                        have jp348 : aw G (rm_R 1 0 0) m_MD_goes 0 0 348 [some (av_R (some 170)), some (av_I a1), some (av_I x5), some (av_I x8), some (av_I 1), some (av_I x26), some (av_I x31), some (av_I j38), none] [] h (fun r h' => ∃ z, r = some (av_I z) ∧ (z = 0 ∨ z = 1) ∧ h = h') := by
                          refine A_iconst d_MD_goes_348 rfl ?_
                          exact A_zret d_MD_goes_349 (by decide) rfl (by omega) ⟨_, rfl, by omega, rfl⟩
                        refine A_icmp_eq (tgt := 348) d_MD_goes_336 (by decide) (fun c45 => ?_) (fun c45 => ?_)
                        · refine A_pc (pc' := 348) rfl ?_
                          exact jp348 
                        · refine A_aload_n 0 d_MD_goes_339 rfl rfl ?_
                          refine A_bipush d_MD_goes_340 rfl ?_
                          refine A_callV1 m_MD_isRule T_ok d_MD_goes_342 l_MD_558 k_MD_isRule (mi_s hx sf_170) rfl (by decide +kernel) (by decide) (Nat.le_of_ble_eq_true rfl) (s_MD_isRule hx ) (fun r h46 hq => ?_)
                          obtain ⟨x48, rfl, bx48, rfl⟩ := hq
                          refine A_if_ne (tgt := 350) d_MD_goes_345 (by decide) (fun c49 => ?_) (fun c49 => ?_)
                          · refine A_aload_n 0 d_MD_goes_350 rfl rfl ?_
                            refine A_getAv (z := some 230) T_ok d_MD_goes_351 f_MD_193 (mi_s hx sf_170) (mi_r hx rfm_97) ?_
                            refine A_iload_n 1 d_MD_goes_354 rfl rfl ?_
                            refine A_iconst d_MD_goes_355 rfl ?_
                            refine A_isubv (z := (a1 - 1)) d_MD_goes_356 (w32_to (by omega) (by unfold i32; omega)) ?_
                            refine A_pc (pc' := 357) rfl ?_
                            refine A_ialoadv (z := x25) d_MD_goes_357 (mi_s hx sf_230) (by omega) (by omega) ex25.symm ?_
                            refine A_aload_n 0 d_MD_goes_358 rfl rfl ?_
                            refine A_getAv (z := some 230) T_ok d_MD_goes_359 f_MD_193 (mi_s hx sf_170) (mi_r hx rfm_97) ?_
                            refine A_iload_n 1 d_MD_goes_362 rfl rfl ?_
                            refine A_iconst d_MD_goes_363 rfl ?_
                            refine A_isubv (z := (a1 - 2)) d_MD_goes_364 (w32_to (by omega) (by unfold i32; omega)) ?_
                            refine A_pc (pc' := 365) rfl ?_
                            refine A_ialoadf d_MD_goes_365 (mi_s hx sf_230) (by omega) (by omega) (fun x53 ex53 _ _ => ?_)
                            refine A_isubw d_MD_goes_366 (fun x54 _ _ _ => ?_)
                            refine A_istore (L' := [some (av_R (some 170)), some (av_I a1), some (av_I x5), some (av_I x8), some (av_I 1), some (av_I x26), some (av_I x31), some (av_I j38), some (av_I x54)]) d_MD_goes_367 (Nat.le_of_ble_eq_true rfl) rfl ?_
                            refine A_iload d_MD_goes_369 rfl ?_
                            refine A_iconst d_MD_goes_371 rfl ?_
                            refine A_icmp_le (tgt := 394) d_MD_goes_372 (by decide) (fun c55 => ?_) (fun c55 => ?_)
                            · refine A_iload d_MD_goes_394 rfl ?_
                              refine A_bipush d_MD_goes_396 rfl ?_
                              have jp413 : aw G (rm_R 1 0 0) m_MD_goes 0 0 413 [some (av_R (some 170)), some (av_I a1), some (av_I x5), some (av_I x8), some (av_I 1), some (av_I x26), some (av_I x31), some (av_I j38), some (av_I x54)] [] h (fun r h' => ∃ z, r = some (av_I z) ∧ (z = 0 ∨ z = 1) ∧ h = h') := by
                                refine A_iconst d_MD_goes_413 rfl ?_
                                refine A_goto (tgt := 418) d_MD_goes_414 (by decide) ?_
                                exact A_zret d_MD_goes_418 (by decide) rfl (by omega) ⟨_, rfl, by omega, rfl⟩
                              have jp418 : ∀ (j56 : Int) , 0 ≤ j56 → j56 ≤ 1 → aw G (rm_R 1 0 0) m_MD_goes 0 0 418 [some (av_R (some 170)), some (av_I a1), some (av_I x5), some (av_I x8), some (av_I 1), some (av_I x26), some (av_I x31), some (av_I j38), some (av_I x54)] [av_I j56] h (fun r h' => ∃ z, r = some (av_I z) ∧ (z = 0 ∨ z = 1) ∧ h = h') := by
                                intro j56  _ _ 
                                exact A_zret d_MD_goes_418 (by decide) rfl (by omega) ⟨_, rfl, by omega, rfl⟩
                              refine A_icmp_ge (tgt := 413) d_MD_goes_398 (by decide) (fun c57 => ?_) (fun c57 => ?_)
                              · refine A_pc (pc' := 413) rfl ?_
                                exact jp413 
                              · refine A_iload d_MD_goes_401 rfl ?_
                                refine A_iconst d_MD_goes_403 rfl ?_
                                refine A_icmp_eq (tgt := 413) d_MD_goes_404 (by decide) (fun c58 => ?_) (fun c58 => ?_)
                                · refine A_pc (pc' := 413) rfl ?_
                                  exact jp413 
                                · refine A_iload d_MD_goes_407 rfl ?_
                                  refine A_iconst d_MD_goes_409 rfl ?_
                                  refine A_icmp_ne (tgt := 417) d_MD_goes_410 (by decide) (fun c59 => ?_) (fun c59 => ?_)
                                  · refine A_iconst d_MD_goes_417 rfl ?_
                                    refine A_pc (pc' := 418) rfl ?_
                                    exact jp418 0 (by omega) (by omega)
                                  · refine A_pc (pc' := 413) rfl ?_
                                    exact jp413 
                            · refine A_iload d_MD_goes_375 rfl ?_
                              refine A_iconst d_MD_goes_377 rfl ?_
                              have jp388 : aw G (rm_R 1 0 0) m_MD_goes 0 0 388 [some (av_R (some 170)), some (av_I a1), some (av_I x5), some (av_I x8), some (av_I 1), some (av_I x26), some (av_I x31), some (av_I j38), some (av_I x54)] [] h (fun r h' => ∃ z, r = some (av_I z) ∧ (z = 0 ∨ z = 1) ∧ h = h') := by
                                refine A_iconst d_MD_goes_388 rfl ?_
                                refine A_goto (tgt := 393) d_MD_goes_389 (by decide) ?_
                                exact A_zret d_MD_goes_393 (by decide) rfl (by omega) ⟨_, rfl, by omega, rfl⟩
                              have jp393 : ∀ (j60 : Int) , 0 ≤ j60 → j60 ≤ 1 → aw G (rm_R 1 0 0) m_MD_goes 0 0 393 [some (av_R (some 170)), some (av_I a1), some (av_I x5), some (av_I x8), some (av_I 1), some (av_I x26), some (av_I x31), some (av_I j38), some (av_I x54)] [av_I j60] h (fun r h' => ∃ z, r = some (av_I z) ∧ (z = 0 ∨ z = 1) ∧ h = h') := by
                                intro j60  _ _ 
                                exact A_zret d_MD_goes_393 (by decide) rfl (by omega) ⟨_, rfl, by omega, rfl⟩
                              refine A_icmp_eq (tgt := 388) d_MD_goes_378 (by decide) (fun c61 => ?_) (fun c61 => ?_)
                              · refine A_pc (pc' := 388) rfl ?_
                                exact jp388 
                              · refine A_iload d_MD_goes_381 rfl ?_
                                refine A_bipush d_MD_goes_383 rfl ?_
                                refine A_icmp_ne (tgt := 392) d_MD_goes_385 (by decide) (fun c62 => ?_) (fun c62 => ?_)
                                · refine A_iconst d_MD_goes_392 rfl ?_
                                  refine A_pc (pc' := 393) rfl ?_
                                  exact jp393 0 (by omega) (by omega)
                                · refine A_pc (pc' := 388) rfl ?_
                                  exact jp388 
                          · refine A_pc (pc' := 348) rfl ?_
                            exact jp348 
                      refine A_if_eq (tgt := 334) d_MD_goes_324 (by decide) (fun c63 => ?_) (fun c63 => ?_)
                      · refine A_pc (pc' := 334) rfl ?_
                        exact jp334 
                      · refine A_iload d_MD_goes_327 rfl ?_
                        refine A_if_ne (tgt := 334) d_MD_goes_329 (by decide) (fun c64 => ?_) (fun c64 => ?_)
                        · refine A_pc (pc' := 334) rfl ?_
                          exact jp334 
                        · refine A_iconst d_MD_goes_332 rfl ?_
                          exact A_zret d_MD_goes_333 (by decide) rfl (by omega) ⟨_, rfl, by omega, rfl⟩
                    refine A_if_eq (tgt := 318) d_MD_goes_299 (by decide) (fun c65 => ?_) (fun c65 => ?_)
                    · refine A_pc (pc' := 318) rfl ?_
                      exact jp318 
                    · refine A_iload d_MD_goes_302 rfl ?_
                      refine A_bipush d_MD_goes_304 rfl ?_
                      refine A_icmp_le (tgt := 318) d_MD_goes_306 (by decide) (fun c66 => ?_) (fun c66 => ?_)
                      · refine A_pc (pc' := 318) rfl ?_
                        exact jp318 
                      · refine A_iload d_MD_goes_309 rfl ?_
                        refine A_bipush d_MD_goes_311 rfl ?_
                        refine A_icmp_eq (tgt := 318) d_MD_goes_313 (by decide) (fun c67 => ?_) (fun c67 => ?_)
                        · refine A_pc (pc' := 318) rfl ?_
                          exact jp318 
                        · refine A_iconst d_MD_goes_316 rfl ?_
                          exact A_zret d_MD_goes_317 (by decide) rfl (by omega) ⟨_, rfl, by omega, rfl⟩
                  refine A_if_ge (tgt := 289) d_MD_goes_280 (by decide) (fun c68 => ?_) (fun c68 => ?_)
                  · refine A_iload d_MD_goes_289 rfl ?_
                    refine A_pc (pc' := 291) rfl ?_
                    exact jp291 x26 (by omega) (by omega)
                  · refine A_iload d_MD_goes_283 rfl ?_
                    refine A_inegw d_MD_goes_285 (fun x69 _ _ _ => ?_)
                    refine A_goto (tgt := 291) d_MD_goes_286 (by decide) ?_
                    refine A_pc (pc' := 291) rfl ?_
                    exact jp291 x69 (by omega) (by omega)
                refine A_if_eq (tgt := 278) d_MD_goes_248 (by decide) (fun c70 => ?_) (fun c70 => ?_)
                · refine A_pc (pc' := 278) rfl ?_
                  exact jp278 
                · refine A_iload d_MD_goes_251 rfl ?_
                  refine A_if_eq (tgt := 278) d_MD_goes_253 (by decide) (fun c => absurd c (by decide)) (fun _ => ?_)
                  refine A_iload d_MD_goes_256 rfl ?_
                  have jp266 : aw G (rm_R 1 0 0) m_MD_goes 0 0 266 [some (av_R (some 170)), some (av_I a1), some (av_I x5), some (av_I x8), some (av_I 1), some (av_I x26), some (av_I x31), none, none] [] h (fun r h' => ∃ z, r = some (av_I z) ∧ (z = 0 ∨ z = 1) ∧ h = h') := by
                    refine A_iload d_MD_goes_266 rfl ?_
                    refine A_if_ge (tgt := 278) d_MD_goes_268 (by decide) (fun c72 => ?_) (fun c72 => ?_)
                    · refine A_pc (pc' := 278) rfl ?_
                      exact jp278 
                    · refine A_iload d_MD_goes_271 rfl ?_
                      refine A_if_ge (tgt := 278) d_MD_goes_273 (by decide) (fun c73 => ?_) (fun c73 => ?_)
                      · refine A_pc (pc' := 278) rfl ?_
                        exact jp278 
                      · refine A_iconst d_MD_goes_276 rfl ?_
                        exact A_zret d_MD_goes_277 (by decide) rfl (by omega) ⟨_, rfl, by omega, rfl⟩
                  have jp276 : aw G (rm_R 1 0 0) m_MD_goes 0 0 276 [some (av_R (some 170)), some (av_I a1), some (av_I x5), some (av_I x8), some (av_I 1), some (av_I x26), some (av_I x31), none, none] [] h (fun r h' => ∃ z, r = some (av_I z) ∧ (z = 0 ∨ z = 1) ∧ h = h') := by
                    refine A_iconst d_MD_goes_276 rfl ?_
                    exact A_zret d_MD_goes_277 (by decide) rfl (by omega) ⟨_, rfl, by omega, rfl⟩
                  refine A_if_le (tgt := 266) d_MD_goes_258 (by decide) (fun c74 => ?_) (fun c74 => ?_)
                  · refine A_pc (pc' := 266) rfl ?_
                    exact jp266 
                  · refine A_iload d_MD_goes_261 rfl ?_
                    refine A_if_gt (tgt := 276) d_MD_goes_263 (by decide) (fun c75 => ?_) (fun c75 => ?_)
                    · refine A_pc (pc' := 276) rfl ?_
                      exact jp276 
                    · refine A_pc (pc' := 266) rfl ?_
                      exact jp266 
              refine A_if_eq (tgt := 242) d_MD_goes_202 (by decide) (fun c76 => ?_) (fun c76 => ?_)
              · refine A_pc (pc' := 242) rfl ?_
                exact jp242 
              · refine A_iload d_MD_goes_205 rfl ?_
                refine A_if_eq (tgt := 242) d_MD_goes_207 (by decide) (fun c => absurd c (by decide)) (fun _ => ?_)
                refine A_iload d_MD_goes_210 rfl ?_
                refine A_if_eq (tgt := 242) d_MD_goes_212 (by decide) (fun c78 => ?_) (fun c78 => ?_)
                · refine A_pc (pc' := 242) rfl ?_
                  exact jp242 
                · refine A_aload_n 0 d_MD_goes_215 rfl rfl ?_
                  refine A_aload_n 0 d_MD_goes_216 rfl rfl ?_
                  refine A_getAv (z := some 230) T_ok d_MD_goes_217 f_MD_193 (mi_s hx sf_170) (mi_r hx rfm_97) ?_
                  refine A_iload_n 1 d_MD_goes_220 rfl rfl ?_
                  refine A_iconst d_MD_goes_221 rfl ?_
                  refine A_pc (pc' := 222) rfl ?_
                  refine A_isubv (z := (a1 - 1)) d_MD_goes_222 (w32_to (by omega) (by unfold i32; omega)) ?_
                  refine A_ialoadv (z := x25) d_MD_goes_223 (mi_s hx sf_230) (by omega) (by omega) ex25.symm ?_
                  refine A_aload_n 0 d_MD_goes_224 rfl rfl ?_
                  refine A_getAv (z := some 229) T_ok d_MD_goes_225 f_MD_190 (mi_s hx sf_170) (mi_r hx rfm_92) ?_
                  refine A_iload_n 1 d_MD_goes_228 rfl rfl ?_
                  refine A_iconst d_MD_goes_229 rfl ?_
                  refine A_pc (pc' := 230) rfl ?_
                  refine A_isubv (z := (a1 - 1)) d_MD_goes_230 (w32_to (by omega) (by unfold i32; omega)) ?_
                  refine A_ialoadv (z := x30) d_MD_goes_231 (mi_s hx sf_229) (by omega) (by omega) ex30.symm ?_
                  refine A_isubw d_MD_goes_232 (fun x83 _ _ _ => ?_)
                  refine A_callV1 m_MD_modulo T_ok d_MD_goes_233 l_MD_535 k_MD_modulo (mi_s hx sf_170) rfl (by decide +kernel) (by decide) (Nat.le_of_ble_eq_true rfl) (s_MD_modulo hx ) (fun r h84 hq => ?_)
                  obtain ⟨x86, rfl, ⟨_, _⟩, rfl⟩ := hq
                  refine A_iload_n 3 d_MD_goes_236 rfl rfl ?_
                  refine A_icmp_ne (tgt := 242) d_MD_goes_237 (by decide) (fun c87 => ?_) (fun c87 => ?_)
                  · refine A_pc (pc' := 242) rfl ?_
                    exact jp242 
                  · refine A_iconst d_MD_goes_240 rfl ?_
                    exact A_zret d_MD_goes_241 (by decide) rfl (by omega) ⟨_, rfl, by omega, rfl⟩
            · refine A_iconst d_MD_goes_161 rfl ?_
              exact A_zret d_MD_goes_162 (by decide) rfl (by omega) ⟨_, rfl, by omega, rfl⟩
          refine A_if_eq (tgt := 157) d_MD_goes_148 (by decide) (fun c88 => ?_) (fun c88 => ?_)
          · refine A_pc (pc' := 157) rfl ?_
            exact jp157 
          · refine A_iload_n 2 d_MD_goes_151 rfl rfl ?_
            refine A_if_ge (tgt := 157) d_MD_goes_152 (by decide) (fun c89 => ?_) (fun c89 => ?_)
            · refine A_pc (pc' := 157) rfl ?_
              exact jp157 
            · refine A_iconst d_MD_goes_155 rfl ?_
              exact A_zret d_MD_goes_156 (by decide) rfl (by omega) ⟨_, rfl, by omega, rfl⟩
        refine A_if_eq (tgt := 141) d_MD_goes_119 (by decide) (fun c90 => ?_) (fun c90 => ?_)
        · refine A_pc (pc' := 141) rfl ?_
          exact jp141 
        · refine A_aload_n 0 d_MD_goes_122 rfl rfl ?_
          refine A_aload_n 0 d_MD_goes_123 rfl rfl ?_
          refine A_aload_n 0 d_MD_goes_124 rfl rfl ?_
          refine A_getAv (z := some 230) T_ok d_MD_goes_125 f_MD_193 (mi_s hx sf_170) (mi_r hx rfm_97) ?_
          refine A_iload_n 1 d_MD_goes_128 rfl rfl ?_
          refine A_pc (pc' := 129) rfl ?_
          refine A_ialoadv (z := x2) d_MD_goes_129 (mi_s hx sf_230) (by omega) (by omega) ex2.symm ?_
          refine A_callV1 m_MD_modulo T_ok d_MD_goes_130 l_MD_535 k_MD_modulo (mi_s hx sf_170) rfl (by decide +kernel) (by decide) (Nat.le_of_ble_eq_true rfl) (s_MD_modulo hx ) (fun r h93 hq => ?_)
          obtain ⟨x95, rfl, ⟨_, _⟩, rfl⟩ := hq
          refine A_callV1 m_MD_isWhite T_ok d_MD_goes_133 l_MD_564 k_MD_isWhite (mi_s hx sf_170) rfl (by decide +kernel) (by decide) (Nat.le_of_ble_eq_true rfl) (s_MD_isWhite  ) (fun r h96 hq => ?_)
          obtain ⟨x98, rfl, bx98, rfl⟩ := hq
          refine A_if_ne (tgt := 141) d_MD_goes_136 (by decide) (fun c99 => ?_) (fun c99 => ?_)
          · refine A_pc (pc' := 141) rfl ?_
            exact jp141 
          · refine A_iconst d_MD_goes_139 rfl ?_
            exact A_zret d_MD_goes_140 (by decide) rfl (by omega) ⟨_, rfl, by omega, rfl⟩
      refine A_if_eq (tgt := 112) d_MD_goes_84 (by decide) (fun c100 => ?_) (fun c100 => ?_)
      · refine A_pc (pc' := 112) rfl ?_
        exact jp112 
      · refine A_iload_n 1 d_MD_goes_87 rfl rfl ?_
        have jp96 : aw G (rm_R 1 0 0) m_MD_goes 0 0 96 [some (av_R (some 170)), some (av_I a1), some (av_I x5), some (av_I x8), some (av_I 1), none, none, none, none] [] h (fun r h' => ∃ z, r = some (av_I z) ∧ (z = 0 ∨ z = 1) ∧ h = h') := by
          refine A_iload_n 1 d_MD_goes_96 rfl rfl ?_
          refine A_aload_n 0 d_MD_goes_97 rfl rfl ?_
          refine A_getIn (lo := 0) (hi := 8) T_ok d_MD_goes_98 f_MD_561 (mi_s hx sf_170) (mi_g hx (by decide) mr_170_93) (fun x101 ex101 _ _ => ?_)
          refine A_iconst d_MD_goes_101 rfl ?_
          refine A_isubv (z := (x101 - 1)) d_MD_goes_102 (w32_to (by omega) (by unfold i32; omega)) ?_
          refine A_pc (pc' := 103) rfl ?_
          refine A_icmp_ne (tgt := 112) d_MD_goes_103 (by decide) (fun c102 => ?_) (fun c102 => ?_)
          · refine A_pc (pc' := 112) rfl ?_
            exact jp112 
          · refine A_iload_n 3 d_MD_goes_106 rfl rfl ?_
            refine A_if_eq (tgt := 112) d_MD_goes_107 (by decide) (fun c103 => ?_) (fun c103 => ?_)
            · refine A_pc (pc' := 112) rfl ?_
              exact jp112 
            · refine A_iconst d_MD_goes_110 rfl ?_
              exact A_zret d_MD_goes_111 (by decide) rfl (by omega) ⟨_, rfl, by omega, rfl⟩
        have jp110 : aw G (rm_R 1 0 0) m_MD_goes 0 0 110 [some (av_R (some 170)), some (av_I a1), some (av_I x5), some (av_I x8), some (av_I 1), none, none, none, none] [] h (fun r h' => ∃ z, r = some (av_I z) ∧ (z = 0 ∨ z = 1) ∧ h = h') := by
          refine A_iconst d_MD_goes_110 rfl ?_
          exact A_zret d_MD_goes_111 (by decide) rfl (by omega) ⟨_, rfl, by omega, rfl⟩
        refine A_if_ne (tgt := 96) d_MD_goes_88 (by decide) (fun c104 => ?_) (fun c104 => ?_)
        · refine A_pc (pc' := 96) rfl ?_
          exact jp96 
        · refine A_iload d_MD_goes_91 rfl ?_
          refine A_if_eq (tgt := 110) d_MD_goes_93 (by decide) (fun c => absurd c (by decide)) (fun _ => ?_)
          refine A_pc (pc' := 96) rfl ?_
          exact jp96 
    refine A_if_eq (tgt := 79) d_MD_goes_42 (by decide) (fun c106 => ?_) (fun c106 => ?_)
    · refine A_pc (pc' := 79) rfl ?_
      exact jp79 
    · refine A_iload_n 3 d_MD_goes_45 rfl rfl ?_
      refine A_if_eq (tgt := 79) d_MD_goes_46 (by decide) (fun c107 => ?_) (fun c107 => ?_)
      · refine A_pc (pc' := 79) rfl ?_
        exact jp79 
      · refine A_iload_n 3 d_MD_goes_49 rfl rfl ?_
        refine A_iconst d_MD_goes_50 rfl ?_
        refine A_icmp_eq (tgt := 79) d_MD_goes_51 (by decide) (fun c108 => ?_) (fun c108 => ?_)
        · refine A_pc (pc' := 79) rfl ?_
          exact jp79 
        · refine A_iload_n 3 d_MD_goes_54 rfl rfl ?_
          refine A_iconst d_MD_goes_55 rfl ?_
          refine A_icmp_eq (tgt := 79) d_MD_goes_56 (by decide) (fun c109 => ?_) (fun c109 => ?_)
          · refine A_pc (pc' := 79) rfl ?_
            exact jp79 
          · refine A_iload_n 3 d_MD_goes_59 rfl rfl ?_
            refine A_bipush d_MD_goes_60 rfl ?_
            refine A_icmp_eq (tgt := 79) d_MD_goes_62 (by decide) (fun c110 => ?_) (fun c110 => ?_)
            · refine A_pc (pc' := 79) rfl ?_
              exact jp79 
            · refine A_iload_n 3 d_MD_goes_65 rfl rfl ?_
              refine A_bipush d_MD_goes_66 rfl ?_
              refine A_icmp_eq (tgt := 79) d_MD_goes_68 (by decide) (fun c111 => ?_) (fun c111 => ?_)
              · refine A_pc (pc' := 79) rfl ?_
                exact jp79 
              · refine A_iload_n 3 d_MD_goes_71 rfl rfl ?_
                refine A_bipush d_MD_goes_72 rfl ?_
                refine A_icmp_eq (tgt := 79) d_MD_goes_74 (by decide) (fun c112 => ?_) (fun c112 => ?_)
                · refine A_pc (pc' := 79) rfl ?_
                  exact jp79 
                · refine A_iconst d_MD_goes_77 rfl ?_
                  exact A_zret d_MD_goes_78 (by decide) rfl (by omega) ⟨_, rfl, by omega, rfl⟩
  have jp35 : ∀ (j113 : Int) , 0 ≤ j113 → j113 ≤ 1 → aw G (rm_R 1 0 0) m_MD_goes 0 0 35 [some (av_R (some 170)), some (av_I a1), some (av_I x5), some (av_I x8), none, none, none, none, none] [av_I j113] h (fun r h' => ∃ z, r = some (av_I z) ∧ (z = 0 ∨ z = 1) ∧ h = h') := by
    intro j113  _ _ 
    refine A_istore (L' := [some (av_R (some 170)), some (av_I a1), some (av_I x5), some (av_I x8), some (av_I j113), none, none, none, none]) d_MD_goes_35 (Nat.le_of_ble_eq_true rfl) rfl ?_
    refine A_aload_n 0 d_MD_goes_37 rfl rfl ?_
    refine A_iconst d_MD_goes_38 rfl ?_
    refine A_callV1 m_MD_isRule T_ok d_MD_goes_39 l_MD_558 k_MD_isRule (mi_s hx sf_170) rfl (by decide +kernel) (by decide) (Nat.le_of_ble_eq_true rfl) (s_MD_isRule hx ) (fun r h114 hq => ?_)
    obtain ⟨x116, rfl, bx116, rfl⟩ := hq
    have jp79 : aw G (rm_R 1 0 0) m_MD_goes 0 0 79 [some (av_R (some 170)), some (av_I a1), some (av_I x5), some (av_I x8), some (av_I j113), none, none, none, none] [] h (fun r h' => ∃ z, r = some (av_I z) ∧ (z = 0 ∨ z = 1) ∧ h = h') := by
      refine A_aload_n 0 d_MD_goes_79 rfl rfl ?_
      refine A_iconst d_MD_goes_80 rfl ?_
      refine A_callV1 m_MD_isRule T_ok d_MD_goes_81 l_MD_558 k_MD_isRule (mi_s hx sf_170) rfl (by decide +kernel) (by decide) (Nat.le_of_ble_eq_true rfl) (s_MD_isRule hx ) (fun r h117 hq => ?_)
      obtain ⟨x119, rfl, bx119, rfl⟩ := hq
      have jp112 : aw G (rm_R 1 0 0) m_MD_goes 0 0 112 [some (av_R (some 170)), some (av_I a1), some (av_I x5), some (av_I x8), some (av_I j113), none, none, none, none] [] h (fun r h' => ∃ z, r = some (av_I z) ∧ (z = 0 ∨ z = 1) ∧ h = h') := by
        refine A_aload_n 0 d_MD_goes_112 rfl rfl ?_
        refine A_sipush d_MD_goes_113 rfl ?_
        refine A_callV1 m_MD_isRule T_ok d_MD_goes_116 l_MD_558 k_MD_isRule (mi_s hx sf_170) rfl (by decide +kernel) (by decide) (Nat.le_of_ble_eq_true rfl) (s_MD_isRule hx ) (fun r h120 hq => ?_)
        obtain ⟨x122, rfl, bx122, rfl⟩ := hq
        have jp141 : aw G (rm_R 1 0 0) m_MD_goes 0 0 141 [some (av_R (some 170)), some (av_I a1), some (av_I x5), some (av_I x8), some (av_I j113), none, none, none, none] [] h (fun r h' => ∃ z, r = some (av_I z) ∧ (z = 0 ∨ z = 1) ∧ h = h') := by
          refine A_aload_n 0 d_MD_goes_141 rfl rfl ?_
          refine A_sipush d_MD_goes_142 rfl ?_
          refine A_callV1 m_MD_isRule T_ok d_MD_goes_145 l_MD_558 k_MD_isRule (mi_s hx sf_170) rfl (by decide +kernel) (by decide) (Nat.le_of_ble_eq_true rfl) (s_MD_isRule hx ) (fun r h123 hq => ?_)
          obtain ⟨x125, rfl, bx125, rfl⟩ := hq
          have jp157 : aw G (rm_R 1 0 0) m_MD_goes 0 0 157 [some (av_R (some 170)), some (av_I a1), some (av_I x5), some (av_I x8), some (av_I j113), none, none, none, none] [] h (fun r h' => ∃ z, r = some (av_I z) ∧ (z = 0 ∨ z = 1) ∧ h = h') := by
            refine A_iload_n 1 d_MD_goes_157 rfl rfl ?_
            refine A_if_ne (tgt := 163) d_MD_goes_158 (by decide) (fun c126 => ?_) (fun c126 => ?_)
            · refine A_aload_n 0 d_MD_goes_163 rfl rfl ?_
              refine A_getAv (z := some 230) T_ok d_MD_goes_164 f_MD_193 (mi_s hx sf_170) (mi_r hx rfm_97) ?_
              refine A_iload_n 1 d_MD_goes_167 rfl rfl ?_
              refine A_ialoadv (z := x2) d_MD_goes_168 (mi_s hx sf_230) (by omega) (by omega) ex2.symm ?_
              refine A_aload_n 0 d_MD_goes_169 rfl rfl ?_
              refine A_pc (pc' := 170) rfl ?_
              refine A_getAv (z := some 230) T_ok d_MD_goes_170 f_MD_193 (mi_s hx sf_170) (mi_r hx rfm_97) ?_
              refine A_iload_n 1 d_MD_goes_173 rfl rfl ?_
              refine A_iconst d_MD_goes_174 rfl ?_
              refine A_isubv (z := (a1 - 1)) d_MD_goes_175 (w32_to (by omega) (by unfold i32; omega)) ?_
              refine A_ialoadf d_MD_goes_176 (mi_s hx sf_230) (by omega) (by omega) (fun x130 ex130 _ _ => ?_)
              refine A_isubw d_MD_goes_177 (fun x131 _ _ _ => ?_)
              refine A_pc (pc' := 178) rfl ?_
              refine A_istore (L' := [some (av_R (some 170)), some (av_I a1), some (av_I x5), some (av_I x8), some (av_I j113), some (av_I x131), none, none, none]) d_MD_goes_178 (Nat.le_of_ble_eq_true rfl) rfl ?_
              refine A_aload_n 0 d_MD_goes_180 rfl rfl ?_
              refine A_getAv (z := some 229) T_ok d_MD_goes_181 f_MD_190 (mi_s hx sf_170) (mi_r hx rfm_92) ?_
              refine A_iload_n 1 d_MD_goes_184 rfl rfl ?_
              refine A_ialoadv (z := x4) d_MD_goes_185 (mi_s hx sf_229) (by omega) (by omega) ex4.symm ?_
              refine A_aload_n 0 d_MD_goes_186 rfl rfl ?_
              refine A_pc (pc' := 187) rfl ?_
              refine A_getAv (z := some 229) T_ok d_MD_goes_187 f_MD_190 (mi_s hx sf_170) (mi_r hx rfm_92) ?_
              refine A_iload_n 1 d_MD_goes_190 rfl rfl ?_
              refine A_iconst d_MD_goes_191 rfl ?_
              refine A_isubv (z := (a1 - 1)) d_MD_goes_192 (w32_to (by omega) (by unfold i32; omega)) ?_
              refine A_ialoadf d_MD_goes_193 (mi_s hx sf_229) (by omega) (by omega) (fun x135 ex135 _ _ => ?_)
              refine A_isubw d_MD_goes_194 (fun x136 _ _ _ => ?_)
              refine A_pc (pc' := 195) rfl ?_
              refine A_istore (L' := [some (av_R (some 170)), some (av_I a1), some (av_I x5), some (av_I x8), some (av_I j113), some (av_I x131), some (av_I x136), none, none]) d_MD_goes_195 (Nat.le_of_ble_eq_true rfl) rfl ?_
              refine A_aload_n 0 d_MD_goes_197 rfl rfl ?_
              refine A_iconst d_MD_goes_198 rfl ?_
              refine A_callV1 m_MD_isRule T_ok d_MD_goes_199 l_MD_558 k_MD_isRule (mi_s hx sf_170) rfl (by decide +kernel) (by decide) (Nat.le_of_ble_eq_true rfl) (s_MD_isRule hx ) (fun r h137 hq => ?_)
              obtain ⟨x139, rfl, bx139, rfl⟩ := hq
              have jp242 : aw G (rm_R 1 0 0) m_MD_goes 0 0 242 [some (av_R (some 170)), some (av_I a1), some (av_I x5), some (av_I x8), some (av_I j113), some (av_I x131), some (av_I x136), none, none] [] h (fun r h' => ∃ z, r = some (av_I z) ∧ (z = 0 ∨ z = 1) ∧ h = h') := by
                refine A_aload_n 0 d_MD_goes_242 rfl rfl ?_
                refine A_bipush d_MD_goes_243 rfl ?_
                refine A_callV1 m_MD_isRule T_ok d_MD_goes_245 l_MD_558 k_MD_isRule (mi_s hx sf_170) rfl (by decide +kernel) (by decide) (Nat.le_of_ble_eq_true rfl) (s_MD_isRule hx ) (fun r h140 hq => ?_)
                obtain ⟨x142, rfl, bx142, rfl⟩ := hq
                have jp278 : aw G (rm_R 1 0 0) m_MD_goes 0 0 278 [some (av_R (some 170)), some (av_I a1), some (av_I x5), some (av_I x8), some (av_I j113), some (av_I x131), some (av_I x136), none, none] [] h (fun r h' => ∃ z, r = some (av_I z) ∧ (z = 0 ∨ z = 1) ∧ h = h') := by
                  refine A_iload d_MD_goes_278 rfl ?_
                  have jp291 : ∀ (j143 : Int) , (-2147483648) ≤ j143 → j143 ≤ 2147483647 → aw G (rm_R 1 0 0) m_MD_goes 0 0 291 [some (av_R (some 170)), some (av_I a1), some (av_I x5), some (av_I x8), some (av_I j113), some (av_I x131), some (av_I x136), none, none] [av_I j143] h (fun r h' => ∃ z, r = some (av_I z) ∧ (z = 0 ∨ z = 1) ∧ h = h') := by
                    intro j143  _ _ 
                    refine A_istore (L' := [some (av_R (some 170)), some (av_I a1), some (av_I x5), some (av_I x8), some (av_I j113), some (av_I x131), some (av_I x136), some (av_I j143), none]) d_MD_goes_291 (Nat.le_of_ble_eq_true rfl) rfl ?_
                    refine A_aload_n 0 d_MD_goes_293 rfl rfl ?_
                    refine A_bipush d_MD_goes_294 rfl ?_
                    refine A_callV1 m_MD_isRule T_ok d_MD_goes_296 l_MD_558 k_MD_isRule (mi_s hx sf_170) rfl (by decide +kernel) (by decide) (Nat.le_of_ble_eq_true rfl) (s_MD_isRule hx ) (fun r h144 hq => ?_)
                    obtain ⟨x146, rfl, bx146, rfl⟩ := hq
                    have jp318 : aw G (rm_R 1 0 0) m_MD_goes 0 0 318 [some (av_R (some 170)), some (av_I a1), some (av_I x5), some (av_I x8), some (av_I j113), some (av_I x131), some (av_I x136), some (av_I j143), none] [] h (fun r h' => ∃ z, r = some (av_I z) ∧ (z = 0 ∨ z = 1) ∧ h = h') := by
                      refine A_aload_n 0 d_MD_goes_318 rfl rfl ?_
                      refine A_bipush d_MD_goes_319 rfl ?_
                      refine A_callV1 m_MD_isRule T_ok d_MD_goes_321 l_MD_558 k_MD_isRule (mi_s hx sf_170) rfl (by decide +kernel) (by decide) (Nat.le_of_ble_eq_true rfl) (s_MD_isRule hx ) (fun r h147 hq => ?_)
                      obtain ⟨x149, rfl, bx149, rfl⟩ := hq
                      have jp334 : aw G (rm_R 1 0 0) m_MD_goes 0 0 334 [some (av_R (some 170)), some (av_I a1), some (av_I x5), some (av_I x8), some (av_I j113), some (av_I x131), some (av_I x136), some (av_I j143), none] [] h (fun r h' => ∃ z, r = some (av_I z) ∧ (z = 0 ∨ z = 1) ∧ h = h') := by
                        refine A_iload_n 1 d_MD_goes_334 rfl rfl ?_
                        refine A_iconst d_MD_goes_335 rfl ?_
                        have jp348 : aw G (rm_R 1 0 0) m_MD_goes 0 0 348 [some (av_R (some 170)), some (av_I a1), some (av_I x5), some (av_I x8), some (av_I j113), some (av_I x131), some (av_I x136), some (av_I j143), none] [] h (fun r h' => ∃ z, r = some (av_I z) ∧ (z = 0 ∨ z = 1) ∧ h = h') := by
                          refine A_iconst d_MD_goes_348 rfl ?_
                          exact A_zret d_MD_goes_349 (by decide) rfl (by omega) ⟨_, rfl, by omega, rfl⟩
                        refine A_icmp_eq (tgt := 348) d_MD_goes_336 (by decide) (fun c150 => ?_) (fun c150 => ?_)
                        · refine A_pc (pc' := 348) rfl ?_
                          exact jp348 
                        · refine A_aload_n 0 d_MD_goes_339 rfl rfl ?_
                          refine A_bipush d_MD_goes_340 rfl ?_
                          refine A_callV1 m_MD_isRule T_ok d_MD_goes_342 l_MD_558 k_MD_isRule (mi_s hx sf_170) rfl (by decide +kernel) (by decide) (Nat.le_of_ble_eq_true rfl) (s_MD_isRule hx ) (fun r h151 hq => ?_)
                          obtain ⟨x153, rfl, bx153, rfl⟩ := hq
                          refine A_if_ne (tgt := 350) d_MD_goes_345 (by decide) (fun c154 => ?_) (fun c154 => ?_)
                          · refine A_aload_n 0 d_MD_goes_350 rfl rfl ?_
                            refine A_getAv (z := some 230) T_ok d_MD_goes_351 f_MD_193 (mi_s hx sf_170) (mi_r hx rfm_97) ?_
                            refine A_iload_n 1 d_MD_goes_354 rfl rfl ?_
                            refine A_iconst d_MD_goes_355 rfl ?_
                            refine A_isubv (z := (a1 - 1)) d_MD_goes_356 (w32_to (by omega) (by unfold i32; omega)) ?_
                            refine A_pc (pc' := 357) rfl ?_
                            refine A_ialoadv (z := x130) d_MD_goes_357 (mi_s hx sf_230) (by omega) (by omega) ex130.symm ?_
                            refine A_aload_n 0 d_MD_goes_358 rfl rfl ?_
                            refine A_getAv (z := some 230) T_ok d_MD_goes_359 f_MD_193 (mi_s hx sf_170) (mi_r hx rfm_97) ?_
                            refine A_iload_n 1 d_MD_goes_362 rfl rfl ?_
                            refine A_iconst d_MD_goes_363 rfl ?_
                            refine A_isubv (z := (a1 - 2)) d_MD_goes_364 (w32_to (by omega) (by unfold i32; omega)) ?_
                            refine A_pc (pc' := 365) rfl ?_
                            refine A_ialoadf d_MD_goes_365 (mi_s hx sf_230) (by omega) (by omega) (fun x158 ex158 _ _ => ?_)
                            refine A_isubw d_MD_goes_366 (fun x159 _ _ _ => ?_)
                            refine A_istore (L' := [some (av_R (some 170)), some (av_I a1), some (av_I x5), some (av_I x8), some (av_I j113), some (av_I x131), some (av_I x136), some (av_I j143), some (av_I x159)]) d_MD_goes_367 (Nat.le_of_ble_eq_true rfl) rfl ?_
                            refine A_iload d_MD_goes_369 rfl ?_
                            refine A_iconst d_MD_goes_371 rfl ?_
                            refine A_icmp_le (tgt := 394) d_MD_goes_372 (by decide) (fun c160 => ?_) (fun c160 => ?_)
                            · refine A_iload d_MD_goes_394 rfl ?_
                              refine A_bipush d_MD_goes_396 rfl ?_
                              have jp413 : aw G (rm_R 1 0 0) m_MD_goes 0 0 413 [some (av_R (some 170)), some (av_I a1), some (av_I x5), some (av_I x8), some (av_I j113), some (av_I x131), some (av_I x136), some (av_I j143), some (av_I x159)] [] h (fun r h' => ∃ z, r = some (av_I z) ∧ (z = 0 ∨ z = 1) ∧ h = h') := by
                                refine A_iconst d_MD_goes_413 rfl ?_
                                refine A_goto (tgt := 418) d_MD_goes_414 (by decide) ?_
                                exact A_zret d_MD_goes_418 (by decide) rfl (by omega) ⟨_, rfl, by omega, rfl⟩
                              have jp418 : ∀ (j161 : Int) , 0 ≤ j161 → j161 ≤ 1 → aw G (rm_R 1 0 0) m_MD_goes 0 0 418 [some (av_R (some 170)), some (av_I a1), some (av_I x5), some (av_I x8), some (av_I j113), some (av_I x131), some (av_I x136), some (av_I j143), some (av_I x159)] [av_I j161] h (fun r h' => ∃ z, r = some (av_I z) ∧ (z = 0 ∨ z = 1) ∧ h = h') := by
                                intro j161  _ _ 
                                exact A_zret d_MD_goes_418 (by decide) rfl (by omega) ⟨_, rfl, by omega, rfl⟩
                              refine A_icmp_ge (tgt := 413) d_MD_goes_398 (by decide) (fun c162 => ?_) (fun c162 => ?_)
                              · refine A_pc (pc' := 413) rfl ?_
                                exact jp413 
                              · refine A_iload d_MD_goes_401 rfl ?_
                                refine A_iconst d_MD_goes_403 rfl ?_
                                refine A_icmp_eq (tgt := 413) d_MD_goes_404 (by decide) (fun c163 => ?_) (fun c163 => ?_)
                                · refine A_pc (pc' := 413) rfl ?_
                                  exact jp413 
                                · refine A_iload d_MD_goes_407 rfl ?_
                                  refine A_iconst d_MD_goes_409 rfl ?_
                                  refine A_icmp_ne (tgt := 417) d_MD_goes_410 (by decide) (fun c164 => ?_) (fun c164 => ?_)
                                  · refine A_iconst d_MD_goes_417 rfl ?_
                                    refine A_pc (pc' := 418) rfl ?_
                                    exact jp418 0 (by omega) (by omega)
                                  · refine A_pc (pc' := 413) rfl ?_
                                    exact jp413 
                            · refine A_iload d_MD_goes_375 rfl ?_
                              refine A_iconst d_MD_goes_377 rfl ?_
                              have jp388 : aw G (rm_R 1 0 0) m_MD_goes 0 0 388 [some (av_R (some 170)), some (av_I a1), some (av_I x5), some (av_I x8), some (av_I j113), some (av_I x131), some (av_I x136), some (av_I j143), some (av_I x159)] [] h (fun r h' => ∃ z, r = some (av_I z) ∧ (z = 0 ∨ z = 1) ∧ h = h') := by
                                refine A_iconst d_MD_goes_388 rfl ?_
                                refine A_goto (tgt := 393) d_MD_goes_389 (by decide) ?_
                                exact A_zret d_MD_goes_393 (by decide) rfl (by omega) ⟨_, rfl, by omega, rfl⟩
                              have jp393 : ∀ (j165 : Int) , 0 ≤ j165 → j165 ≤ 1 → aw G (rm_R 1 0 0) m_MD_goes 0 0 393 [some (av_R (some 170)), some (av_I a1), some (av_I x5), some (av_I x8), some (av_I j113), some (av_I x131), some (av_I x136), some (av_I j143), some (av_I x159)] [av_I j165] h (fun r h' => ∃ z, r = some (av_I z) ∧ (z = 0 ∨ z = 1) ∧ h = h') := by
                                intro j165  _ _ 
                                exact A_zret d_MD_goes_393 (by decide) rfl (by omega) ⟨_, rfl, by omega, rfl⟩
                              refine A_icmp_eq (tgt := 388) d_MD_goes_378 (by decide) (fun c166 => ?_) (fun c166 => ?_)
                              · refine A_pc (pc' := 388) rfl ?_
                                exact jp388 
                              · refine A_iload d_MD_goes_381 rfl ?_
                                refine A_bipush d_MD_goes_383 rfl ?_
                                refine A_icmp_ne (tgt := 392) d_MD_goes_385 (by decide) (fun c167 => ?_) (fun c167 => ?_)
                                · refine A_iconst d_MD_goes_392 rfl ?_
                                  refine A_pc (pc' := 393) rfl ?_
                                  exact jp393 0 (by omega) (by omega)
                                · refine A_pc (pc' := 388) rfl ?_
                                  exact jp388 
                          · refine A_pc (pc' := 348) rfl ?_
                            exact jp348 
                      refine A_if_eq (tgt := 334) d_MD_goes_324 (by decide) (fun c168 => ?_) (fun c168 => ?_)
                      · refine A_pc (pc' := 334) rfl ?_
                        exact jp334 
                      · refine A_iload d_MD_goes_327 rfl ?_
                        refine A_if_ne (tgt := 334) d_MD_goes_329 (by decide) (fun c169 => ?_) (fun c169 => ?_)
                        · refine A_pc (pc' := 334) rfl ?_
                          exact jp334 
                        · refine A_iconst d_MD_goes_332 rfl ?_
                          exact A_zret d_MD_goes_333 (by decide) rfl (by omega) ⟨_, rfl, by omega, rfl⟩
                    refine A_if_eq (tgt := 318) d_MD_goes_299 (by decide) (fun c170 => ?_) (fun c170 => ?_)
                    · refine A_pc (pc' := 318) rfl ?_
                      exact jp318 
                    · refine A_iload d_MD_goes_302 rfl ?_
                      refine A_bipush d_MD_goes_304 rfl ?_
                      refine A_icmp_le (tgt := 318) d_MD_goes_306 (by decide) (fun c171 => ?_) (fun c171 => ?_)
                      · refine A_pc (pc' := 318) rfl ?_
                        exact jp318 
                      · refine A_iload d_MD_goes_309 rfl ?_
                        refine A_bipush d_MD_goes_311 rfl ?_
                        refine A_icmp_eq (tgt := 318) d_MD_goes_313 (by decide) (fun c172 => ?_) (fun c172 => ?_)
                        · refine A_pc (pc' := 318) rfl ?_
                          exact jp318 
                        · refine A_iconst d_MD_goes_316 rfl ?_
                          exact A_zret d_MD_goes_317 (by decide) rfl (by omega) ⟨_, rfl, by omega, rfl⟩
                  refine A_if_ge (tgt := 289) d_MD_goes_280 (by decide) (fun c173 => ?_) (fun c173 => ?_)
                  · refine A_iload d_MD_goes_289 rfl ?_
                    refine A_pc (pc' := 291) rfl ?_
                    exact jp291 x131 (by omega) (by omega)
                  · refine A_iload d_MD_goes_283 rfl ?_
                    refine A_inegw d_MD_goes_285 (fun x174 _ _ _ => ?_)
                    refine A_goto (tgt := 291) d_MD_goes_286 (by decide) ?_
                    refine A_pc (pc' := 291) rfl ?_
                    exact jp291 x174 (by omega) (by omega)
                refine A_if_eq (tgt := 278) d_MD_goes_248 (by decide) (fun c175 => ?_) (fun c175 => ?_)
                · refine A_pc (pc' := 278) rfl ?_
                  exact jp278 
                · refine A_iload d_MD_goes_251 rfl ?_
                  refine A_if_eq (tgt := 278) d_MD_goes_253 (by decide) (fun c176 => ?_) (fun c176 => ?_)
                  · refine A_pc (pc' := 278) rfl ?_
                    exact jp278 
                  · refine A_iload d_MD_goes_256 rfl ?_
                    have jp266 : aw G (rm_R 1 0 0) m_MD_goes 0 0 266 [some (av_R (some 170)), some (av_I a1), some (av_I x5), some (av_I x8), some (av_I j113), some (av_I x131), some (av_I x136), none, none] [] h (fun r h' => ∃ z, r = some (av_I z) ∧ (z = 0 ∨ z = 1) ∧ h = h') := by
                      refine A_iload d_MD_goes_266 rfl ?_
                      refine A_if_ge (tgt := 278) d_MD_goes_268 (by decide) (fun c177 => ?_) (fun c177 => ?_)
                      · refine A_pc (pc' := 278) rfl ?_
                        exact jp278 
                      · refine A_iload d_MD_goes_271 rfl ?_
                        refine A_if_ge (tgt := 278) d_MD_goes_273 (by decide) (fun c178 => ?_) (fun c178 => ?_)
                        · refine A_pc (pc' := 278) rfl ?_
                          exact jp278 
                        · refine A_iconst d_MD_goes_276 rfl ?_
                          exact A_zret d_MD_goes_277 (by decide) rfl (by omega) ⟨_, rfl, by omega, rfl⟩
                    have jp276 : aw G (rm_R 1 0 0) m_MD_goes 0 0 276 [some (av_R (some 170)), some (av_I a1), some (av_I x5), some (av_I x8), some (av_I j113), some (av_I x131), some (av_I x136), none, none] [] h (fun r h' => ∃ z, r = some (av_I z) ∧ (z = 0 ∨ z = 1) ∧ h = h') := by
                      refine A_iconst d_MD_goes_276 rfl ?_
                      exact A_zret d_MD_goes_277 (by decide) rfl (by omega) ⟨_, rfl, by omega, rfl⟩
                    refine A_if_le (tgt := 266) d_MD_goes_258 (by decide) (fun c179 => ?_) (fun c179 => ?_)
                    · refine A_pc (pc' := 266) rfl ?_
                      exact jp266 
                    · refine A_iload d_MD_goes_261 rfl ?_
                      refine A_if_gt (tgt := 276) d_MD_goes_263 (by decide) (fun c180 => ?_) (fun c180 => ?_)
                      · refine A_pc (pc' := 276) rfl ?_
                        exact jp276 
                      · refine A_pc (pc' := 266) rfl ?_
                        exact jp266 
              refine A_if_eq (tgt := 242) d_MD_goes_202 (by decide) (fun c181 => ?_) (fun c181 => ?_)
              · refine A_pc (pc' := 242) rfl ?_
                exact jp242 
              · refine A_iload d_MD_goes_205 rfl ?_
                refine A_if_eq (tgt := 242) d_MD_goes_207 (by decide) (fun c182 => ?_) (fun c182 => ?_)
                · refine A_pc (pc' := 242) rfl ?_
                  exact jp242 
                · refine A_iload d_MD_goes_210 rfl ?_
                  refine A_if_eq (tgt := 242) d_MD_goes_212 (by decide) (fun c183 => ?_) (fun c183 => ?_)
                  · refine A_pc (pc' := 242) rfl ?_
                    exact jp242 
                  · refine A_aload_n 0 d_MD_goes_215 rfl rfl ?_
                    refine A_aload_n 0 d_MD_goes_216 rfl rfl ?_
                    refine A_getAv (z := some 230) T_ok d_MD_goes_217 f_MD_193 (mi_s hx sf_170) (mi_r hx rfm_97) ?_
                    refine A_iload_n 1 d_MD_goes_220 rfl rfl ?_
                    refine A_iconst d_MD_goes_221 rfl ?_
                    refine A_pc (pc' := 222) rfl ?_
                    refine A_isubv (z := (a1 - 1)) d_MD_goes_222 (w32_to (by omega) (by unfold i32; omega)) ?_
                    refine A_ialoadv (z := x130) d_MD_goes_223 (mi_s hx sf_230) (by omega) (by omega) ex130.symm ?_
                    refine A_aload_n 0 d_MD_goes_224 rfl rfl ?_
                    refine A_getAv (z := some 229) T_ok d_MD_goes_225 f_MD_190 (mi_s hx sf_170) (mi_r hx rfm_92) ?_
                    refine A_iload_n 1 d_MD_goes_228 rfl rfl ?_
                    refine A_iconst d_MD_goes_229 rfl ?_
                    refine A_pc (pc' := 230) rfl ?_
                    refine A_isubv (z := (a1 - 1)) d_MD_goes_230 (w32_to (by omega) (by unfold i32; omega)) ?_
                    refine A_ialoadv (z := x135) d_MD_goes_231 (mi_s hx sf_229) (by omega) (by omega) ex135.symm ?_
                    refine A_isubw d_MD_goes_232 (fun x188 _ _ _ => ?_)
                    refine A_callV1 m_MD_modulo T_ok d_MD_goes_233 l_MD_535 k_MD_modulo (mi_s hx sf_170) rfl (by decide +kernel) (by decide) (Nat.le_of_ble_eq_true rfl) (s_MD_modulo hx ) (fun r h189 hq => ?_)
                    obtain ⟨x191, rfl, ⟨_, _⟩, rfl⟩ := hq
                    refine A_iload_n 3 d_MD_goes_236 rfl rfl ?_
                    refine A_icmp_ne (tgt := 242) d_MD_goes_237 (by decide) (fun c192 => ?_) (fun c192 => ?_)
                    · refine A_pc (pc' := 242) rfl ?_
                      exact jp242 
                    · refine A_iconst d_MD_goes_240 rfl ?_
                      exact A_zret d_MD_goes_241 (by decide) rfl (by omega) ⟨_, rfl, by omega, rfl⟩
            · refine A_iconst d_MD_goes_161 rfl ?_
              exact A_zret d_MD_goes_162 (by decide) rfl (by omega) ⟨_, rfl, by omega, rfl⟩
          refine A_if_eq (tgt := 157) d_MD_goes_148 (by decide) (fun c193 => ?_) (fun c193 => ?_)
          · refine A_pc (pc' := 157) rfl ?_
            exact jp157 
          · refine A_iload_n 2 d_MD_goes_151 rfl rfl ?_
            refine A_if_ge (tgt := 157) d_MD_goes_152 (by decide) (fun c194 => ?_) (fun c194 => ?_)
            · refine A_pc (pc' := 157) rfl ?_
              exact jp157 
            · refine A_iconst d_MD_goes_155 rfl ?_
              exact A_zret d_MD_goes_156 (by decide) rfl (by omega) ⟨_, rfl, by omega, rfl⟩
        refine A_if_eq (tgt := 141) d_MD_goes_119 (by decide) (fun c195 => ?_) (fun c195 => ?_)
        · refine A_pc (pc' := 141) rfl ?_
          exact jp141 
        · refine A_aload_n 0 d_MD_goes_122 rfl rfl ?_
          refine A_aload_n 0 d_MD_goes_123 rfl rfl ?_
          refine A_aload_n 0 d_MD_goes_124 rfl rfl ?_
          refine A_getAv (z := some 230) T_ok d_MD_goes_125 f_MD_193 (mi_s hx sf_170) (mi_r hx rfm_97) ?_
          refine A_iload_n 1 d_MD_goes_128 rfl rfl ?_
          refine A_pc (pc' := 129) rfl ?_
          refine A_ialoadv (z := x2) d_MD_goes_129 (mi_s hx sf_230) (by omega) (by omega) ex2.symm ?_
          refine A_callV1 m_MD_modulo T_ok d_MD_goes_130 l_MD_535 k_MD_modulo (mi_s hx sf_170) rfl (by decide +kernel) (by decide) (Nat.le_of_ble_eq_true rfl) (s_MD_modulo hx ) (fun r h198 hq => ?_)
          obtain ⟨x200, rfl, ⟨_, _⟩, rfl⟩ := hq
          refine A_callV1 m_MD_isWhite T_ok d_MD_goes_133 l_MD_564 k_MD_isWhite (mi_s hx sf_170) rfl (by decide +kernel) (by decide) (Nat.le_of_ble_eq_true rfl) (s_MD_isWhite  ) (fun r h201 hq => ?_)
          obtain ⟨x203, rfl, bx203, rfl⟩ := hq
          refine A_if_ne (tgt := 141) d_MD_goes_136 (by decide) (fun c204 => ?_) (fun c204 => ?_)
          · refine A_pc (pc' := 141) rfl ?_
            exact jp141 
          · refine A_iconst d_MD_goes_139 rfl ?_
            exact A_zret d_MD_goes_140 (by decide) rfl (by omega) ⟨_, rfl, by omega, rfl⟩
      refine A_if_eq (tgt := 112) d_MD_goes_84 (by decide) (fun c205 => ?_) (fun c205 => ?_)
      · refine A_pc (pc' := 112) rfl ?_
        exact jp112 
      · refine A_iload_n 1 d_MD_goes_87 rfl rfl ?_
        have jp96 : aw G (rm_R 1 0 0) m_MD_goes 0 0 96 [some (av_R (some 170)), some (av_I a1), some (av_I x5), some (av_I x8), some (av_I j113), none, none, none, none] [] h (fun r h' => ∃ z, r = some (av_I z) ∧ (z = 0 ∨ z = 1) ∧ h = h') := by
          refine A_iload_n 1 d_MD_goes_96 rfl rfl ?_
          refine A_aload_n 0 d_MD_goes_97 rfl rfl ?_
          refine A_getIn (lo := 0) (hi := 8) T_ok d_MD_goes_98 f_MD_561 (mi_s hx sf_170) (mi_g hx (by decide) mr_170_93) (fun x206 ex206 _ _ => ?_)
          refine A_iconst d_MD_goes_101 rfl ?_
          refine A_isubv (z := (x206 - 1)) d_MD_goes_102 (w32_to (by omega) (by unfold i32; omega)) ?_
          refine A_pc (pc' := 103) rfl ?_
          refine A_icmp_ne (tgt := 112) d_MD_goes_103 (by decide) (fun c207 => ?_) (fun c207 => ?_)
          · refine A_pc (pc' := 112) rfl ?_
            exact jp112 
          · refine A_iload_n 3 d_MD_goes_106 rfl rfl ?_
            refine A_if_eq (tgt := 112) d_MD_goes_107 (by decide) (fun c208 => ?_) (fun c208 => ?_)
            · refine A_pc (pc' := 112) rfl ?_
              exact jp112 
            · refine A_iconst d_MD_goes_110 rfl ?_
              exact A_zret d_MD_goes_111 (by decide) rfl (by omega) ⟨_, rfl, by omega, rfl⟩
        have jp110 : aw G (rm_R 1 0 0) m_MD_goes 0 0 110 [some (av_R (some 170)), some (av_I a1), some (av_I x5), some (av_I x8), some (av_I j113), none, none, none, none] [] h (fun r h' => ∃ z, r = some (av_I z) ∧ (z = 0 ∨ z = 1) ∧ h = h') := by
          refine A_iconst d_MD_goes_110 rfl ?_
          exact A_zret d_MD_goes_111 (by decide) rfl (by omega) ⟨_, rfl, by omega, rfl⟩
        refine A_if_ne (tgt := 96) d_MD_goes_88 (by decide) (fun c209 => ?_) (fun c209 => ?_)
        · refine A_pc (pc' := 96) rfl ?_
          exact jp96 
        · refine A_iload d_MD_goes_91 rfl ?_
          refine A_if_eq (tgt := 110) d_MD_goes_93 (by decide) (fun c210 => ?_) (fun c210 => ?_)
          · refine A_pc (pc' := 110) rfl ?_
            exact jp110 
          · refine A_pc (pc' := 96) rfl ?_
            exact jp96 
    refine A_if_eq (tgt := 79) d_MD_goes_42 (by decide) (fun c211 => ?_) (fun c211 => ?_)
    · refine A_pc (pc' := 79) rfl ?_
      exact jp79 
    · refine A_iload_n 3 d_MD_goes_45 rfl rfl ?_
      refine A_if_eq (tgt := 79) d_MD_goes_46 (by decide) (fun c212 => ?_) (fun c212 => ?_)
      · refine A_pc (pc' := 79) rfl ?_
        exact jp79 
      · refine A_iload_n 3 d_MD_goes_49 rfl rfl ?_
        refine A_iconst d_MD_goes_50 rfl ?_
        refine A_icmp_eq (tgt := 79) d_MD_goes_51 (by decide) (fun c213 => ?_) (fun c213 => ?_)
        · refine A_pc (pc' := 79) rfl ?_
          exact jp79 
        · refine A_iload_n 3 d_MD_goes_54 rfl rfl ?_
          refine A_iconst d_MD_goes_55 rfl ?_
          refine A_icmp_eq (tgt := 79) d_MD_goes_56 (by decide) (fun c214 => ?_) (fun c214 => ?_)
          · refine A_pc (pc' := 79) rfl ?_
            exact jp79 
          · refine A_iload_n 3 d_MD_goes_59 rfl rfl ?_
            refine A_bipush d_MD_goes_60 rfl ?_
            refine A_icmp_eq (tgt := 79) d_MD_goes_62 (by decide) (fun c215 => ?_) (fun c215 => ?_)
            · refine A_pc (pc' := 79) rfl ?_
              exact jp79 
            · refine A_iload_n 3 d_MD_goes_65 rfl rfl ?_
              refine A_bipush d_MD_goes_66 rfl ?_
              refine A_icmp_eq (tgt := 79) d_MD_goes_68 (by decide) (fun c216 => ?_) (fun c216 => ?_)
              · refine A_pc (pc' := 79) rfl ?_
                exact jp79 
              · refine A_iload_n 3 d_MD_goes_71 rfl rfl ?_
                refine A_bipush d_MD_goes_72 rfl ?_
                refine A_icmp_eq (tgt := 79) d_MD_goes_74 (by decide) (fun c217 => ?_) (fun c217 => ?_)
                · refine A_pc (pc' := 79) rfl ?_
                  exact jp79 
                · refine A_iconst d_MD_goes_77 rfl ?_
                  exact A_zret d_MD_goes_78 (by decide) rfl (by omega) ⟨_, rfl, by omega, rfl⟩
  refine A_if_eq (tgt := 30) d_MD_goes_21 (by decide) (fun c218 => ?_) (fun c218 => ?_)
  · refine A_pc (pc' := 30) rfl ?_
    exact jp30 
  · refine A_iload_n 3 d_MD_goes_24 rfl rfl ?_
    refine A_bipush d_MD_goes_25 rfl ?_
    refine A_icmp_ne (tgt := 34) d_MD_goes_27 (by decide) (fun c219 => ?_) (fun c219 => ?_)
    · refine A_iconst d_MD_goes_34 rfl ?_
      refine A_pc (pc' := 35) rfl ?_
      exact jp35 0 (by omega) (by omega)
    · refine A_pc (pc' := 30) rfl ?_
      exact jp30 
