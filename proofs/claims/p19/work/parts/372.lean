/-! ===== the reference's methods, 372 ===== -/
def m_MD_tree : mr_T := (⟨"PlainMusicModel", "tree", "(II)I"⟩, prog_14_method_86_code, 17, some .int)
theorem d_MD_tree_0 : decode prog_14_method_86_code 0 = .ok (.iload_n 1, 1) := by decide +kernel
theorem d_MD_tree_1 : decode prog_14_method_86_code 1 = .ok (.ifCond .lt 15, 3) := by decide +kernel
theorem d_MD_tree_16 : decode prog_14_method_86_code 16 = .ok (.iconst (-1), 1) := by decide +kernel
theorem d_MD_tree_17 : decode prog_14_method_86_code 17 = .ok (.ireturn, 1) := by decide +kernel
theorem d_MD_tree_4 : decode prog_14_method_86_code 4 = .ok (.iload_n 1, 1) := by decide +kernel
theorem d_MD_tree_5 : decode prog_14_method_86_code 5 = .ok (.aload_n 0, 1) := by decide +kernel
theorem d_MD_tree_6 : decode prog_14_method_86_code 6 = .ok (.getfield 483, 3) := by decide +kernel
theorem d_MD_tree_9 : decode prog_14_method_86_code 9 = .ok (.if_icmp .ge 7, 3) := by decide +kernel
theorem d_MD_tree_12 : decode prog_14_method_86_code 12 = .ok (.iload_n 2, 1) := by decide +kernel
theorem d_MD_tree_13 : decode prog_14_method_86_code 13 = .ok (.ifCond .ge 5, 3) := by decide +kernel
theorem d_MD_tree_18 : decode prog_14_method_86_code 18 = .ok (.iconst 1, 1) := by decide +kernel
theorem d_MD_tree_19 : decode prog_14_method_86_code 19 = .ok (.istore_n 3, 1) := by decide +kernel
theorem d_MD_tree_20 : decode prog_14_method_86_code 20 = .ok (.aload_n 0, 1) := by decide +kernel
theorem d_MD_tree_21 : decode prog_14_method_86_code 21 = .ok (.getfield 199, 3) := by decide +kernel
theorem rfm_100 : (100, 232) ∈ mf_L := by decide +kernel
theorem d_MD_tree_24 : decode prog_14_method_86_code 24 = .ok (.iconst 0, 1) := by decide +kernel
theorem d_MD_tree_25 : decode prog_14_method_86_code 25 = .ok (.aload_n 0, 1) := by decide +kernel
theorem d_MD_tree_26 : decode prog_14_method_86_code 26 = .ok (.getfield 35, 3) := by decide +kernel
theorem d_MD_tree_29 : decode prog_14_method_86_code 29 = .ok (.iconst 0, 1) := by decide +kernel
theorem d_MD_tree_30 : decode prog_14_method_86_code 30 = .ok (.iaload, 1) := by decide +kernel
theorem d_MD_tree_31 : decode prog_14_method_86_code 31 = .ok (.iastore, 1) := by decide +kernel
theorem sf_232 : sh_L[232]? = some (0, 32) := by decide +kernel
theorem mr_232 (k : Nat) : mr 232 k = (0, 15) := rfl
theorem d_MD_tree_32 : decode prog_14_method_86_code 32 = .ok (.aload_n 0, 1) := by decide +kernel
theorem d_MD_tree_33 : decode prog_14_method_86_code 33 = .ok (.getfield 202, 3) := by decide +kernel
theorem rfm_101 : (101, 233) ∈ mf_L := by decide +kernel
theorem d_MD_tree_36 : decode prog_14_method_86_code 36 = .ok (.iconst 0, 1) := by decide +kernel
theorem d_MD_tree_37 : decode prog_14_method_86_code 37 = .ok (.iconst 0, 1) := by decide +kernel
theorem d_MD_tree_38 : decode prog_14_method_86_code 38 = .ok (.iastore, 1) := by decide +kernel
theorem sf_233 : sh_L[233]? = some (0, 32) := by decide +kernel
theorem mr_233 (k : Nat) : mr 233 k = (0, 12) := rfl
theorem d_MD_tree_39 : decode prog_14_method_86_code 39 = .ok (.aload_n 0, 1) := by decide +kernel
theorem d_MD_tree_40 : decode prog_14_method_86_code 40 = .ok (.getfield 205, 3) := by decide +kernel
theorem rfm_102 : (102, 234) ∈ mf_L := by decide +kernel
theorem d_MD_tree_43 : decode prog_14_method_86_code 43 = .ok (.iconst 0, 1) := by decide +kernel
theorem d_MD_tree_44 : decode prog_14_method_86_code 44 = .ok (.aload_n 0, 1) := by decide +kernel
theorem d_MD_tree_45 : decode prog_14_method_86_code 45 = .ok (.getfield 44, 3) := by decide +kernel
theorem d_MD_tree_48 : decode prog_14_method_86_code 48 = .ok (.iconst 0, 1) := by decide +kernel
theorem d_MD_tree_49 : decode prog_14_method_86_code 49 = .ok (.iaload, 1) := by decide +kernel
theorem d_MD_tree_50 : decode prog_14_method_86_code 50 = .ok (.iastore, 1) := by decide +kernel
theorem sf_234 : sh_L[234]? = some (0, 32) := by decide +kernel
theorem mr_234 (k : Nat) : mr 234 k = (0, 12) := rfl
theorem d_MD_tree_51 : decode prog_14_method_86_code 51 = .ok (.aload_n 0, 1) := by decide +kernel
theorem d_MD_tree_52 : decode prog_14_method_86_code 52 = .ok (.getfield 208, 3) := by decide +kernel
theorem rfm_103 : (103, 235) ∈ mf_L := by decide +kernel
theorem d_MD_tree_55 : decode prog_14_method_86_code 55 = .ok (.iconst 0, 1) := by decide +kernel
theorem d_MD_tree_56 : decode prog_14_method_86_code 56 = .ok (.iload_n 1, 1) := by decide +kernel
theorem d_MD_tree_57 : decode prog_14_method_86_code 57 = .ok (.i2l, 1) := by decide +kernel
theorem d_MD_tree_58 : decode prog_14_method_86_code 58 = .ok (.lastore, 1) := by decide +kernel
theorem sf_235 : sh_L[235]? = some (1, 32) := by decide +kernel
theorem mq_235 (k : Nat) : mq 235 k = ((-9223372036854775808), 9223372036854775807) := rfl
theorem d_MD_tree_59 : decode prog_14_method_86_code 59 = .ok (.iconst 0, 1) := by decide +kernel
theorem d_MD_tree_60 : decode prog_14_method_86_code 60 = .ok (.istore 4, 2) := by decide +kernel
theorem d_MD_tree_62 : decode prog_14_method_86_code 62 = .ok (.iload_n 3, 1) := by decide +kernel
theorem d_MD_tree_63 : decode prog_14_method_86_code 63 = .ok (.ifCond .le 312, 3) := by decide +kernel
theorem d_MD_tree_375 : decode prog_14_method_86_code 375 = .ok (.iconst (-1), 1) := by decide +kernel
theorem d_MD_tree_376 : decode prog_14_method_86_code 376 = .ok (.ireturn, 1) := by decide +kernel
theorem d_MD_tree_66 : decode prog_14_method_86_code 66 = .ok (.iinc 3 (-1), 3) := by decide +kernel
theorem d_MD_tree_69 : decode prog_14_method_86_code 69 = .ok (.aload_n 0, 1) := by decide +kernel
theorem d_MD_tree_70 : decode prog_14_method_86_code 70 = .ok (.getfield 202, 3) := by decide +kernel
theorem d_MD_tree_73 : decode prog_14_method_86_code 73 = .ok (.iload_n 3, 1) := by decide +kernel
theorem d_MD_tree_74 : decode prog_14_method_86_code 74 = .ok (.iaload, 1) := by decide +kernel
theorem d_MD_tree_75 : decode prog_14_method_86_code 75 = .ok (.istore 5, 2) := by decide +kernel
theorem d_MD_tree_77 : decode prog_14_method_86_code 77 = .ok (.aload_n 0, 1) := by decide +kernel
theorem d_MD_tree_78 : decode prog_14_method_86_code 78 = .ok (.getfield 205, 3) := by decide +kernel
theorem d_MD_tree_81 : decode prog_14_method_86_code 81 = .ok (.iload_n 3, 1) := by decide +kernel
theorem d_MD_tree_82 : decode prog_14_method_86_code 82 = .ok (.iaload, 1) := by decide +kernel
theorem d_MD_tree_83 : decode prog_14_method_86_code 83 = .ok (.istore 6, 2) := by decide +kernel
theorem d_MD_tree_85 : decode prog_14_method_86_code 85 = .ok (.aload_n 0, 1) := by decide +kernel
theorem d_MD_tree_86 : decode prog_14_method_86_code 86 = .ok (.getfield 208, 3) := by decide +kernel
theorem d_MD_tree_89 : decode prog_14_method_86_code 89 = .ok (.iload_n 3, 1) := by decide +kernel
theorem d_MD_tree_90 : decode prog_14_method_86_code 90 = .ok (.laload, 1) := by decide +kernel
theorem d_MD_tree_91 : decode prog_14_method_86_code 91 = .ok (.lstore 7, 2) := by decide +kernel
theorem d_MD_tree_93 : decode prog_14_method_86_code 93 = .ok (.iconst 0, 1) := by decide +kernel
theorem d_MD_tree_94 : decode prog_14_method_86_code 94 = .ok (.istore 9, 2) := by decide +kernel
theorem d_MD_tree_96 : decode prog_14_method_86_code 96 = .ok (.iconst 0, 1) := by decide +kernel
theorem d_MD_tree_97 : decode prog_14_method_86_code 97 = .ok (.istore 10, 2) := by decide +kernel
theorem d_MD_tree_99 : decode prog_14_method_86_code 99 = .ok (.iconst 0, 1) := by decide +kernel
theorem d_MD_tree_100 : decode prog_14_method_86_code 100 = .ok (.istore 11, 2) := by decide +kernel
theorem d_MD_tree_102 : decode prog_14_method_86_code 102 = .ok (.iconst 0, 1) := by decide +kernel
theorem d_MD_tree_103 : decode prog_14_method_86_code 103 = .ok (.istore 12, 2) := by decide +kernel
theorem d_MD_tree_105 : decode prog_14_method_86_code 105 = .ok (.iload 12, 2) := by decide +kernel
theorem d_MD_tree_107 : decode prog_14_method_86_code 107 = .ok (.aload_n 0, 1) := by decide +kernel
theorem d_MD_tree_108 : decode prog_14_method_86_code 108 = .ok (.getfield 32, 3) := by decide +kernel
theorem d_MD_tree_111 : decode prog_14_method_86_code 111 = .ok (.iconst 0, 1) := by decide +kernel
theorem d_MD_tree_112 : decode prog_14_method_86_code 112 = .ok (.iaload, 1) := by decide +kernel
theorem d_MD_tree_113 : decode prog_14_method_86_code 113 = .ok (.if_icmp .ge 117, 3) := by decide +kernel
theorem d_MD_tree_230 : decode prog_14_method_86_code 230 = .ok (.iload 4, 2) := by decide +kernel
theorem d_MD_tree_232 : decode prog_14_method_86_code 232 = .ok (.iload_n 2, 1) := by decide +kernel
theorem d_MD_tree_233 : decode prog_14_method_86_code 233 = .ok (.if_icmp .ne 6, 3) := by decide +kernel
theorem d_MD_tree_239 : decode prog_14_method_86_code 239 = .ok (.iinc 4 1, 3) := by decide +kernel
theorem d_MD_tree_242 : decode prog_14_method_86_code 242 = .ok (.aload_n 0, 1) := by decide +kernel
theorem d_MD_tree_243 : decode prog_14_method_86_code 243 = .ok (.getfield 41, 3) := by decide +kernel
theorem d_MD_tree_246 : decode prog_14_method_86_code 246 = .ok (.iload 9, 2) := by decide +kernel
theorem d_MD_tree_248 : decode prog_14_method_86_code 248 = .ok (.iaload, 1) := by decide +kernel
theorem d_MD_tree_249 : decode prog_14_method_86_code 249 = .ok (.ifCond .lt 123, 3) := by decide +kernel
theorem d_MD_tree_372 : decode prog_14_method_86_code 372 = .ok (.goto (-310), 3) := by decide +kernel
theorem d_MD_tree_252 : decode prog_14_method_86_code 252 = .ok (.aload_n 0, 1) := by decide +kernel
theorem d_MD_tree_253 : decode prog_14_method_86_code 253 = .ok (.getfield 196, 3) := by decide +kernel
theorem d_MD_tree_256 : decode prog_14_method_86_code 256 = .ok (.aload_n 0, 1) := by decide +kernel
theorem d_MD_tree_257 : decode prog_14_method_86_code 257 = .ok (.aload_n 0, 1) := by decide +kernel
theorem d_MD_tree_258 : decode prog_14_method_86_code 258 = .ok (.getfield 41, 3) := by decide +kernel
theorem d_MD_tree_261 : decode prog_14_method_86_code 261 = .ok (.iload 9, 2) := by decide +kernel
theorem d_MD_tree_263 : decode prog_14_method_86_code 263 = .ok (.iaload, 1) := by decide +kernel
theorem d_MD_tree_264 : decode prog_14_method_86_code 264 = .ok (.iload 5, 2) := by decide +kernel
theorem d_MD_tree_266 : decode prog_14_method_86_code 266 = .ok (.iload 10, 2) := by decide +kernel
theorem d_MD_tree_268 : decode prog_14_method_86_code 268 = .ok (.iadd, 1) := by decide +kernel
theorem d_MD_tree_269 : decode prog_14_method_86_code 269 = .ok (.iload 6, 2) := by decide +kernel
theorem d_MD_tree_271 : decode prog_14_method_86_code 271 = .ok (.iload 10, 2) := by decide +kernel
theorem d_MD_tree_273 : decode prog_14_method_86_code 273 = .ok (.isub, 1) := by decide +kernel
theorem d_MD_tree_274 : decode prog_14_method_86_code 274 = .ok (.invokevirtual 583, 3) := by decide +kernel
theorem d_MD_tree_277 : decode prog_14_method_86_code 277 = .ok (.laload, 1) := by decide +kernel
theorem d_MD_tree_278 : decode prog_14_method_86_code 278 = .ok (.lstore 12, 2) := by decide +kernel
theorem d_MD_tree_280 : decode prog_14_method_86_code 280 = .ok (.aload_n 0, 1) := by decide +kernel
theorem d_MD_tree_281 : decode prog_14_method_86_code 281 = .ok (.getfield 199, 3) := by decide +kernel
theorem d_MD_tree_284 : decode prog_14_method_86_code 284 = .ok (.iload_n 3, 1) := by decide +kernel
theorem d_MD_tree_285 : decode prog_14_method_86_code 285 = .ok (.aload_n 0, 1) := by decide +kernel
theorem d_MD_tree_286 : decode prog_14_method_86_code 286 = .ok (.getfield 41, 3) := by decide +kernel
theorem d_MD_tree_289 : decode prog_14_method_86_code 289 = .ok (.iload 9, 2) := by decide +kernel
theorem d_MD_tree_291 : decode prog_14_method_86_code 291 = .ok (.iaload, 1) := by decide +kernel
theorem d_MD_tree_292 : decode prog_14_method_86_code 292 = .ok (.iastore, 1) := by decide +kernel
theorem d_MD_tree_293 : decode prog_14_method_86_code 293 = .ok (.aload_n 0, 1) := by decide +kernel
theorem d_MD_tree_294 : decode prog_14_method_86_code 294 = .ok (.getfield 202, 3) := by decide +kernel
theorem d_MD_tree_297 : decode prog_14_method_86_code 297 = .ok (.iload_n 3, 1) := by decide +kernel
theorem d_MD_tree_298 : decode prog_14_method_86_code 298 = .ok (.iload 5, 2) := by decide +kernel
theorem d_MD_tree_300 : decode prog_14_method_86_code 300 = .ok (.iload 10, 2) := by decide +kernel
theorem d_MD_tree_302 : decode prog_14_method_86_code 302 = .ok (.iadd, 1) := by decide +kernel
theorem d_MD_tree_303 : decode prog_14_method_86_code 303 = .ok (.iastore, 1) := by decide +kernel
theorem d_MD_tree_304 : decode prog_14_method_86_code 304 = .ok (.aload_n 0, 1) := by decide +kernel
theorem d_MD_tree_305 : decode prog_14_method_86_code 305 = .ok (.getfield 205, 3) := by decide +kernel
theorem d_MD_tree_308 : decode prog_14_method_86_code 308 = .ok (.iload_n 3, 1) := by decide +kernel
theorem d_MD_tree_309 : decode prog_14_method_86_code 309 = .ok (.iload 6, 2) := by decide +kernel
theorem d_MD_tree_311 : decode prog_14_method_86_code 311 = .ok (.iload 10, 2) := by decide +kernel
theorem d_MD_tree_313 : decode prog_14_method_86_code 313 = .ok (.isub, 1) := by decide +kernel
theorem d_MD_tree_314 : decode prog_14_method_86_code 314 = .ok (.iastore, 1) := by decide +kernel
theorem d_MD_tree_315 : decode prog_14_method_86_code 315 = .ok (.aload_n 0, 1) := by decide +kernel
theorem d_MD_tree_316 : decode prog_14_method_86_code 316 = .ok (.getfield 208, 3) := by decide +kernel
theorem d_MD_tree_319 : decode prog_14_method_86_code 319 = .ok (.iload_n 3, 1) := by decide +kernel
theorem d_MD_tree_320 : decode prog_14_method_86_code 320 = .ok (.lload 7, 2) := by decide +kernel
theorem d_MD_tree_322 : decode prog_14_method_86_code 322 = .ok (.lload 12, 2) := by decide +kernel
theorem d_MD_tree_324 : decode prog_14_method_86_code 324 = .ok (.lrem, 1) := by decide +kernel
theorem d_MD_tree_325 : decode prog_14_method_86_code 325 = .ok (.lastore, 1) := by decide +kernel
theorem d_MD_tree_326 : decode prog_14_method_86_code 326 = .ok (.iinc 3 1, 3) := by decide +kernel
theorem d_MD_tree_329 : decode prog_14_method_86_code 329 = .ok (.aload_n 0, 1) := by decide +kernel
theorem d_MD_tree_330 : decode prog_14_method_86_code 330 = .ok (.getfield 199, 3) := by decide +kernel
theorem d_MD_tree_333 : decode prog_14_method_86_code 333 = .ok (.iload_n 3, 1) := by decide +kernel
theorem d_MD_tree_334 : decode prog_14_method_86_code 334 = .ok (.aload_n 0, 1) := by decide +kernel
theorem d_MD_tree_335 : decode prog_14_method_86_code 335 = .ok (.getfield 38, 3) := by decide +kernel
theorem d_MD_tree_338 : decode prog_14_method_86_code 338 = .ok (.iload 9, 2) := by decide +kernel
theorem d_MD_tree_340 : decode prog_14_method_86_code 340 = .ok (.iaload, 1) := by decide +kernel
theorem d_MD_tree_341 : decode prog_14_method_86_code 341 = .ok (.iastore, 1) := by decide +kernel
theorem d_MD_tree_342 : decode prog_14_method_86_code 342 = .ok (.aload_n 0, 1) := by decide +kernel
theorem d_MD_tree_343 : decode prog_14_method_86_code 343 = .ok (.getfield 202, 3) := by decide +kernel
theorem d_MD_tree_346 : decode prog_14_method_86_code 346 = .ok (.iload_n 3, 1) := by decide +kernel
theorem d_MD_tree_347 : decode prog_14_method_86_code 347 = .ok (.iload 5, 2) := by decide +kernel
theorem d_MD_tree_349 : decode prog_14_method_86_code 349 = .ok (.iastore, 1) := by decide +kernel
theorem d_MD_tree_350 : decode prog_14_method_86_code 350 = .ok (.aload_n 0, 1) := by decide +kernel
theorem d_MD_tree_351 : decode prog_14_method_86_code 351 = .ok (.getfield 205, 3) := by decide +kernel
theorem d_MD_tree_354 : decode prog_14_method_86_code 354 = .ok (.iload_n 3, 1) := by decide +kernel
theorem d_MD_tree_355 : decode prog_14_method_86_code 355 = .ok (.iload 10, 2) := by decide +kernel
theorem d_MD_tree_357 : decode prog_14_method_86_code 357 = .ok (.iastore, 1) := by decide +kernel
theorem d_MD_tree_358 : decode prog_14_method_86_code 358 = .ok (.aload_n 0, 1) := by decide +kernel
theorem d_MD_tree_359 : decode prog_14_method_86_code 359 = .ok (.getfield 208, 3) := by decide +kernel
theorem d_MD_tree_362 : decode prog_14_method_86_code 362 = .ok (.iload_n 3, 1) := by decide +kernel
theorem d_MD_tree_363 : decode prog_14_method_86_code 363 = .ok (.lload 7, 2) := by decide +kernel
theorem d_MD_tree_365 : decode prog_14_method_86_code 365 = .ok (.lload 12, 2) := by decide +kernel
theorem d_MD_tree_367 : decode prog_14_method_86_code 367 = .ok (.ldiv, 1) := by decide +kernel
theorem d_MD_tree_368 : decode prog_14_method_86_code 368 = .ok (.lastore, 1) := by decide +kernel
theorem d_MD_tree_369 : decode prog_14_method_86_code 369 = .ok (.iinc 3 1, 3) := by decide +kernel
theorem d_MD_tree_236 : decode prog_14_method_86_code 236 = .ok (.iload 9, 2) := by decide +kernel
theorem d_MD_tree_238 : decode prog_14_method_86_code 238 = .ok (.ireturn, 1) := by decide +kernel
theorem d_MD_tree_116 : decode prog_14_method_86_code 116 = .ok (.iload 11, 2) := by decide +kernel
theorem d_MD_tree_118 : decode prog_14_method_86_code 118 = .ok (.ifCond .ne 112, 3) := by decide +kernel
theorem d_MD_tree_121 : decode prog_14_method_86_code 121 = .ok (.aload_n 0, 1) := by decide +kernel
theorem d_MD_tree_122 : decode prog_14_method_86_code 122 = .ok (.getfield 35, 3) := by decide +kernel
theorem d_MD_tree_125 : decode prog_14_method_86_code 125 = .ok (.iload 12, 2) := by decide +kernel
theorem d_MD_tree_127 : decode prog_14_method_86_code 127 = .ok (.iaload, 1) := by decide +kernel
theorem d_MD_tree_128 : decode prog_14_method_86_code 128 = .ok (.aload_n 0, 1) := by decide +kernel
theorem d_MD_tree_129 : decode prog_14_method_86_code 129 = .ok (.getfield 199, 3) := by decide +kernel
theorem d_MD_tree_132 : decode prog_14_method_86_code 132 = .ok (.iload_n 3, 1) := by decide +kernel
theorem d_MD_tree_133 : decode prog_14_method_86_code 133 = .ok (.iaload, 1) := by decide +kernel
theorem d_MD_tree_134 : decode prog_14_method_86_code 134 = .ok (.if_icmp .eq 6, 3) := by decide +kernel
theorem d_MD_tree_140 : decode prog_14_method_86_code 140 = .ok (.aload_n 0, 1) := by decide +kernel
theorem d_MD_tree_141 : decode prog_14_method_86_code 141 = .ok (.getfield 41, 3) := by decide +kernel
theorem d_MD_tree_144 : decode prog_14_method_86_code 144 = .ok (.iload 12, 2) := by decide +kernel
theorem d_MD_tree_146 : decode prog_14_method_86_code 146 = .ok (.iaload, 1) := by decide +kernel
theorem d_MD_tree_147 : decode prog_14_method_86_code 147 = .ok (.ifCond .ge 7, 3) := by decide +kernel
theorem d_MD_tree_154 : decode prog_14_method_86_code 154 = .ok (.iload 6, 2) := by decide +kernel
theorem d_MD_tree_156 : decode prog_14_method_86_code 156 = .ok (.iconst 1, 1) := by decide +kernel
theorem d_MD_tree_157 : decode prog_14_method_86_code 157 = .ok (.isub, 1) := by decide +kernel
theorem d_MD_tree_158 : decode prog_14_method_86_code 158 = .ok (.istore 13, 2) := by decide +kernel
theorem d_MD_tree_160 : decode prog_14_method_86_code 160 = .ok (.iconst 1, 1) := by decide +kernel
theorem d_MD_tree_161 : decode prog_14_method_86_code 161 = .ok (.istore 14, 2) := by decide +kernel
theorem d_MD_tree_163 : decode prog_14_method_86_code 163 = .ok (.iload 14, 2) := by decide +kernel
theorem d_MD_tree_165 : decode prog_14_method_86_code 165 = .ok (.iload 13, 2) := by decide +kernel
theorem d_MD_tree_167 : decode prog_14_method_86_code 167 = .ok (.if_icmp .gt 57, 3) := by decide +kernel
theorem d_MD_tree_224 : decode prog_14_method_86_code 224 = .ok (.iinc 12 1, 3) := by decide +kernel
theorem d_MD_tree_227 : decode prog_14_method_86_code 227 = .ok (.goto (-122), 3) := by decide +kernel
theorem d_MD_tree_170 : decode prog_14_method_86_code 170 = .ok (.iload 11, 2) := by decide +kernel
theorem d_MD_tree_172 : decode prog_14_method_86_code 172 = .ok (.ifCond .ne 52, 3) := by decide +kernel
theorem d_MD_tree_175 : decode prog_14_method_86_code 175 = .ok (.aload_n 0, 1) := by decide +kernel
theorem d_MD_tree_176 : decode prog_14_method_86_code 176 = .ok (.iload 12, 2) := by decide +kernel
theorem d_MD_tree_178 : decode prog_14_method_86_code 178 = .ok (.iload 5, 2) := by decide +kernel
theorem d_MD_tree_180 : decode prog_14_method_86_code 180 = .ok (.iload 6, 2) := by decide +kernel
theorem d_MD_tree_182 : decode prog_14_method_86_code 182 = .ok (.iload 14, 2) := by decide +kernel
theorem d_MD_tree_184 : decode prog_14_method_86_code 184 = .ok (.invokevirtual 591, 3) := by decide +kernel
theorem d_MD_tree_187 : decode prog_14_method_86_code 187 = .ok (.lstore 15, 2) := by decide +kernel
theorem d_MD_tree_189 : decode prog_14_method_86_code 189 = .ok (.lload 7, 2) := by decide +kernel
theorem d_MD_tree_191 : decode prog_14_method_86_code 191 = .ok (.lload 15, 2) := by decide +kernel
theorem d_MD_tree_193 : decode prog_14_method_86_code 193 = .ok (.lcmp, 1) := by decide +kernel
theorem d_MD_tree_194 : decode prog_14_method_86_code 194 = .ok (.ifCond .ge 17, 3) := by decide +kernel
theorem d_MD_tree_211 : decode prog_14_method_86_code 211 = .ok (.lload 7, 2) := by decide +kernel
theorem d_MD_tree_213 : decode prog_14_method_86_code 213 = .ok (.lload 15, 2) := by decide +kernel
theorem d_MD_tree_215 : decode prog_14_method_86_code 215 = .ok (.lsub, 1) := by decide +kernel
theorem d_MD_tree_216 : decode prog_14_method_86_code 216 = .ok (.lstore 7, 2) := by decide +kernel
theorem d_MD_tree_218 : decode prog_14_method_86_code 218 = .ok (.iinc 14 1, 3) := by decide +kernel
theorem d_MD_tree_221 : decode prog_14_method_86_code 221 = .ok (.goto (-58), 3) := by decide +kernel
theorem d_MD_tree_197 : decode prog_14_method_86_code 197 = .ok (.iconst 1, 1) := by decide +kernel
theorem d_MD_tree_198 : decode prog_14_method_86_code 198 = .ok (.istore 11, 2) := by decide +kernel
theorem d_MD_tree_200 : decode prog_14_method_86_code 200 = .ok (.iload 12, 2) := by decide +kernel
theorem d_MD_tree_202 : decode prog_14_method_86_code 202 = .ok (.istore 9, 2) := by decide +kernel
theorem d_MD_tree_204 : decode prog_14_method_86_code 204 = .ok (.iload 14, 2) := by decide +kernel
theorem d_MD_tree_206 : decode prog_14_method_86_code 206 = .ok (.istore 10, 2) := by decide +kernel
theorem d_MD_tree_208 : decode prog_14_method_86_code 208 = .ok (.goto 10, 3) := by decide +kernel
theorem d_MD_tree_150 : decode prog_14_method_86_code 150 = .ok (.iconst 1, 1) := by decide +kernel
theorem d_MD_tree_151 : decode prog_14_method_86_code 151 = .ok (.goto 7, 3) := by decide +kernel
theorem d_MD_tree_137 : decode prog_14_method_86_code 137 = .ok (.goto 87, 3) := by decide +kernel
set_option maxHeartbeats 8000000 in
theorem s_MD_tree {G : cx_T} {h : ah_T} (hx : mi h) {a1 : Int} {a2 : Int} (hRL : RL h) (hTP : TP h) : con G 2 0 0 m_MD_tree [av_R (some 170), av_I a1, av_I a2] h (fun r h' => ∃ z, r = some (av_I z) ∧ ((-2147483648) ≤ z ∧ z ≤ 2147483647) ∧ kM (pm [] [232, 233, 234, 235]) h h') := by
  refine con_of (L := [some (av_R (some 170)), some (av_I a1), some (av_I a2), none, none, none, none, none, none, none, none, none, none, none, none, none, none]) (by decide +kernel) (Nat.le_of_ble_eq_true rfl) rfl ?_
  have k0 : kM (pm [] [232, 233, 234, 235]) h h := kM_0 hx
  refine A_locI 1 rfl (fun ra => ?_)
  obtain ⟨_, _⟩ := ra
  refine A_locI 2 rfl (fun ra => ?_)
  obtain ⟨_, _⟩ := ra
  refine A_iload_n 1 d_MD_tree_0 rfl rfl ?_
  refine A_if_lt (tgt := 16) d_MD_tree_1 (by decide) (fun c1 => ?_) (fun c1 => ?_)
  · refine A_iconst d_MD_tree_16 rfl ?_
    exact A_iret d_MD_tree_17 (by decide) rfl ⟨_, rfl, ⟨by omega, by omega⟩, k0⟩
  · refine A_iload_n 1 d_MD_tree_4 rfl rfl ?_
    refine A_aload_n 0 d_MD_tree_5 rfl rfl ?_
    refine A_getIn (lo := 0) (hi := 1000000) T_ok d_MD_tree_6 f_MD_483 (mi_s k0.1 sf_170) (mi_g k0.1 (by decide) mr_170_98) (fun x2 ex2 _ _ => ?_)
    refine A_icmp_ge (tgt := 16) d_MD_tree_9 (by decide) (fun c3 => ?_) (fun c3 => ?_)
    · refine A_iconst d_MD_tree_16 rfl ?_
      exact A_iret d_MD_tree_17 (by decide) rfl ⟨_, rfl, ⟨by omega, by omega⟩, k0⟩
    · refine A_iload_n 2 d_MD_tree_12 rfl rfl ?_
      refine A_if_ge (tgt := 18) d_MD_tree_13 (by decide) (fun c4 => ?_) (fun c4 => ?_)
      · obtain ⟨t1, t2, t3, t4⟩ := hTP (by omega)
        have yR0 := (hRL 0 (by omega)).1
        have r181 := mi_g hx (by decide) (rfl : mr 181 0 = (0, 12))
        have r177 := mi_g hx (by decide) (rfl : mr 177 0 = (0, 24))
        refine A_iconst d_MD_tree_18 rfl ?_
        refine A_istore_n 3 (L' := [some (av_R (some 170)), some (av_I a1), some (av_I a2), some (av_I 1), none, none, none, none, none, none, none, none, none, none, none, none, none]) d_MD_tree_19 rfl (Nat.le_of_ble_eq_true rfl) rfl ?_
        refine A_aload_n 0 d_MD_tree_20 rfl rfl ?_
        refine A_getAv (z := some 232) T_ok d_MD_tree_21 f_MD_199 (mi_s k0.1 sf_170) (mi_r k0.1 rfm_100) ?_
        refine A_iconst d_MD_tree_24 rfl ?_
        refine A_pc (pc' := 25) rfl ?_
        refine A_aload_n 0 d_MD_tree_25 rfl rfl ?_
        refine A_getAv (z := some 178) T_ok d_MD_tree_26 f_MD_35 (mi_s k0.1 sf_170) (mi_r k0.1 rfm_20) ?_
        refine A_iconst d_MD_tree_29 rfl ?_
        refine A_ialoadn (lo := (-2)) (hi := 15) d_MD_tree_30 (mi_s k0.1 sf_178) (by decide) (by decide) (mi_g k0.1 (by decide) (mr_178 _)) (fun x7 ex7 _ _ => ?_)
        replace ex7 : x7 = h.2.1 178 0 := ex7
        have yx7 : 0 ≤ x7 := (by omega)
        refine A_iastorek (KR := kM (pm [] [232, 233, 234, 235]) h) d_MD_tree_31 (mi_s k0.1 sf_232) (by decide) (by decide) (kM_i k0 (by decide) rfl (mr_232 _) (by omega) (by omega)) (fun h8 k9 eh8 => ?_)
        refine A_aload_n 0 d_MD_tree_32 rfl rfl ?_
        refine A_pc (pc' := 33) rfl ?_
        refine A_getAv (z := some 233) T_ok d_MD_tree_33 f_MD_202 (mi_s k9.1 sf_170) (mi_r k9.1 rfm_101) ?_
        refine A_iconst d_MD_tree_36 rfl ?_
        refine A_iconst d_MD_tree_37 rfl ?_
        refine A_iastorek (KR := kM (pm [] [232, 233, 234, 235]) h) d_MD_tree_38 (mi_s k9.1 sf_233) (by decide) (by decide) (kM_i k9 (by decide) rfl (mr_233 _) (by omega) (by omega)) (fun h11 k12 eh11 => ?_)
        refine A_aload_n 0 d_MD_tree_39 rfl rfl ?_
        refine A_getAv (z := some 234) T_ok d_MD_tree_40 f_MD_205 (mi_s k12.1 sf_170) (mi_r k12.1 rfm_102) ?_
        refine A_pc (pc' := 43) rfl ?_
        refine A_iconst d_MD_tree_43 rfl ?_
        refine A_aload_n 0 d_MD_tree_44 rfl rfl ?_
        refine A_getAv (z := some 181) T_ok d_MD_tree_45 f_MD_44 (mi_s k12.1 sf_170) (mi_r k12.1 rfm_23) ?_
        refine A_iconst d_MD_tree_48 rfl ?_
        refine A_ialoadn (lo := 0) (hi := 12) d_MD_tree_49 (mi_s k12.1 sf_181) (by decide) (by decide) (mi_g k12.1 (by decide) (mr_181 _)) (fun x15 ex15 _ _ => ?_)
        replace ex15 : x15 = h11.2.1 181 0 := ex15
        have fx15 := ex15.trans (k12.2.2.1 181 _ rfl)
        refine A_iastorek (KR := kM (pm [] [232, 233, 234, 235]) h) d_MD_tree_50 (mi_s k12.1 sf_234) (by decide) (by decide) (kM_i k12 (by decide) rfl (mr_234 _) (by omega) (by omega)) (fun h16 k17 eh16 => ?_)
        refine A_pc (pc' := 51) rfl ?_
        refine A_aload_n 0 d_MD_tree_51 rfl rfl ?_
        refine A_getAv (z := some 235) T_ok d_MD_tree_52 f_MD_208 (mi_s k17.1 sf_170) (mi_r k17.1 rfm_103) ?_
        refine A_iconst d_MD_tree_55 rfl ?_
        refine A_iload_n 1 d_MD_tree_56 rfl rfl ?_
        refine A_i2l d_MD_tree_57 ?_
        refine A_lastorek (KR := kM (pm [] [232, 233, 234, 235]) h) d_MD_tree_58 (mi_s k17.1 sf_235) (by decide) (by decide) (kM_l k17 (by decide) rfl (mq_235 _) (by omega) (by omega)) (fun h19 k20 eh19 => ?_)
        refine A_pc (pc' := 59) rfl ?_
        refine A_iconst d_MD_tree_59 rfl ?_
        refine A_istore (L' := [some (av_R (some 170)), some (av_I a1), some (av_I a2), some (av_I 1), some (av_I 0), none, none, none, none, none, none, none, none, none, none, none, none]) d_MD_tree_60 (Nat.le_of_ble_eq_true rfl) rfl ?_
        have lp62 : ∀ (n : Nat) (i21 i22 : Int) (h23 : ah_T) , 0 ≤ i21 → i21 ≤ 12 → (-2147483648) ≤ i22 → i22 ≤ 2147483647 → (ST h h23 i21) → kM (pm [] [232, 233, 234, 235]) h h23 → (2 * SS (h23.2.1 234) (i21).toNat - i21).toNat < n → aw G (rm_R 2 0 0) m_MD_tree 0 0 62 [some (av_R (some 170)), some (av_I a1), some (av_I a2), some (av_I i21), some (av_I i22), none, none, none, none, none, none, none, none, none, none, none, none] [] h23 (fun r h' => ∃ z, r = some (av_I z) ∧ ((-2147483648) ≤ z ∧ z ≤ 2147483647) ∧ kM (pm [] [232, 233, 234, 235]) h h') := by
          intro n
          induction n with
          | zero => intro i21 i22 h23 _ _ _ _ _ _ hm; omega
          | succ n ih62 =>
            intro i21 i22 h23 hl0 hl1 hl2 hl3 hinv k24 hm
            refine A_iload_n 3 d_MD_tree_62 rfl rfl ?_
            refine A_if_le (tgt := 375) d_MD_tree_63 (by decide) (fun c25 => ?_) (fun c25 => ?_)
            · refine A_iconst d_MD_tree_375 rfl ?_
              exact A_iret d_MD_tree_376 (by decide) rfl ⟨_, rfl, ⟨by omega, by omega⟩, k24⟩
            · refine A_iincv (z := (i21 - 1)) (L' := [some (av_R (some 170)), some (av_I a1), some (av_I a2), some (av_I (i21 - 1)), some (av_I i22), none, none, none, none, none, none, none, none, none, none, none, none]) d_MD_tree_66 rfl (w32_to (by omega) (by unfold i32; omega)) rfl ?_
              have yw := ST_w hinv
              obtain ⟨yP, ySS, y1⟩ := ST_pop hinv (by omega)
              obtain ⟨⟨u1, u2⟩, u3, u4, u5, u6, u7⟩ := y1
              have yh3 := hinv.2.2
              have yR : RL h23 := RL_e hRL (k24.2.2.1 177 0 rfl) (fun k => k24.2.2.1 178 k rfl) (fun k => k24.2.2.1 179 k rfl)
              have yK : RK h h23 := RK_k k24 (by intro a ha j; simp only [List.mem_cons, List.not_mem_nil, or_false] at ha; rcases ha with rfl | rfl | rfl | rfl | rfl | rfl | rfl <;> rfl)
              have yE : h23.2.2.1 231 = h.2.2.1 231 := funext (fun k => k24.2.2.2 231 k rfl)
              have y177 : h23.2.1 177 0 = h.2.1 177 0 := k24.2.2.1 177 0 rfl
              refine A_aload_n 0 d_MD_tree_69 rfl rfl ?_
              refine A_getAv (z := some 233) T_ok d_MD_tree_70 f_MD_202 (mi_s k24.1 sf_170) (mi_r k24.1 rfm_101) ?_
              refine A_iload_n 3 d_MD_tree_73 rfl rfl ?_
              refine A_ialoadn (lo := 0) (hi := 12) d_MD_tree_74 (mi_s k24.1 sf_233) (by omega) (by omega) (mi_g k24.1 (by decide) (mr_233 _)) (fun x27 ex27 _ _ => ?_)
              have yx27 : 0 ≤ x27 ∧ x27 ≤ 11 := (by omega)
              refine A_pc (pc' := 75) rfl ?_
              refine A_istore (L' := [some (av_R (some 170)), some (av_I a1), some (av_I a2), some (av_I (i21 - 1)), some (av_I i22), some (av_I x27), none, none, none, none, none, none, none, none, none, none, none]) d_MD_tree_75 (Nat.le_of_ble_eq_true rfl) rfl ?_
              refine A_aload_n 0 d_MD_tree_77 rfl rfl ?_
              refine A_getAv (z := some 234) T_ok d_MD_tree_78 f_MD_205 (mi_s k24.1 sf_170) (mi_r k24.1 rfm_102) ?_
              refine A_iload_n 3 d_MD_tree_81 rfl rfl ?_
              refine A_ialoadn (lo := 0) (hi := 12) d_MD_tree_82 (mi_s k24.1 sf_234) (by omega) (by omega) (mi_g k24.1 (by decide) (mr_234 _)) (fun x29 ex29 _ _ => ?_)
              have yx29 : 1 ≤ x29 ∧ x29 ≤ 12 := (by omega)
              refine A_istore (L' := [some (av_R (some 170)), some (av_I a1), some (av_I a2), some (av_I (i21 - 1)), some (av_I i22), some (av_I x27), some (av_I x29), none, none, none, none, none, none, none, none, none, none]) d_MD_tree_83 (Nat.le_of_ble_eq_true rfl) rfl ?_
              refine A_pc (pc' := 85) rfl ?_
              refine A_aload_n 0 d_MD_tree_85 rfl rfl ?_
              refine A_getAv (z := some 235) T_ok d_MD_tree_86 f_MD_208 (mi_s k24.1 sf_170) (mi_r k24.1 rfm_103) ?_
              refine A_iload_n 3 d_MD_tree_89 rfl rfl ?_
              refine A_laloadf d_MD_tree_90 (mi_s k24.1 sf_235) (by omega) (by omega) (fun x31 ex31 _ _ => ?_)
              have yx31 : 0 ≤ x31 ∧ x31 ≤ 1000000 := (by have q1 := mi_l hx (by decide) (k := tix (h23.2.1 232 ((i21 - 1)).toNat) (h23.2.1 233 ((i21 - 1)).toNat) (h23.2.1 234 ((i21 - 1)).toNat)) (rfl : mq 231 _ = (0, 1000001)); omega)
              refine A_lstore (L' := [some (av_R (some 170)), some (av_I a1), some (av_I a2), some (av_I (i21 - 1)), some (av_I i22), some (av_I x27), some (av_I x29), some (av_L x31), none, none, none, none, none, none, none, none, none]) d_MD_tree_91 (Nat.le_of_ble_eq_true rfl) rfl ?_
              obtain ⟨nm, enm⟩ : ∃ x, x = h23.2.1 232 ((i21 - 1)).toNat := ⟨_, rfl⟩
              have yW : x31 < RS h nm x27 x29 (h.2.1 177 0).toNat := (by rw [enm, ex27, ex29, ex31]; exact Int.lt_of_lt_of_le u7 (t4 _ _ _ u1 u2 u3 u4 u5))
              refine A_iconst d_MD_tree_93 rfl ?_
              refine A_pc (pc' := 94) rfl ?_
              refine A_istore (L' := [some (av_R (some 170)), some (av_I a1), some (av_I a2), some (av_I (i21 - 1)), some (av_I i22), some (av_I x27), some (av_I x29), some (av_L x31), none, some (av_I 0), none, none, none, none, none, none, none]) d_MD_tree_94 (Nat.le_of_ble_eq_true rfl) rfl ?_
              refine A_iconst d_MD_tree_96 rfl ?_
              refine A_istore (L' := [some (av_R (some 170)), some (av_I a1), some (av_I a2), some (av_I (i21 - 1)), some (av_I i22), some (av_I x27), some (av_I x29), some (av_L x31), none, some (av_I 0), some (av_I 0), none, none, none, none, none, none]) d_MD_tree_97 (Nat.le_of_ble_eq_true rfl) rfl ?_
              refine A_iconst d_MD_tree_99 rfl ?_
              refine A_istore (L' := [some (av_R (some 170)), some (av_I a1), some (av_I a2), some (av_I (i21 - 1)), some (av_I i22), some (av_I x27), some (av_I x29), some (av_L x31), none, some (av_I 0), some (av_I 0), some (av_I 0), none, none, none, none, none]) d_MD_tree_100 (Nat.le_of_ble_eq_true rfl) rfl ?_
              refine A_iconst d_MD_tree_102 rfl ?_
              refine A_pc (pc' := 103) rfl ?_
              refine A_istore (L' := [some (av_R (some 170)), some (av_I a1), some (av_I a2), some (av_I (i21 - 1)), some (av_I i22), some (av_I x27), some (av_I x29), some (av_L x31), none, some (av_I 0), some (av_I 0), some (av_I 0), some (av_I 0), none, none, none, none]) d_MD_tree_103 (Nat.le_of_ble_eq_true rfl) rfl ?_
              have lp105 : ∀ (n : Nat) (i33 i34 i35 i36 i37 : Int) , 0 ≤ i33 → i33 ≤ 1 → 0 ≤ i34 → i34 ≤ 23 → 0 ≤ i35 → i35 ≤ 12 → 0 ≤ i36 → i36 ≤ 1000000 → 0 ≤ i37 → i37 ≤ 24 → (FQ h nm x27 x29 i33 i34 i35 i36 x31 (RS h nm x27 x29 (i37).toNat) ∧ i37 ≤ h.2.1 177 0) → (25 - i37).toNat < n → aw G (rm_R 2 0 0) m_MD_tree 0 0 105 [some (av_R (some 170)), some (av_I a1), some (av_I a2), some (av_I (i21 - 1)), some (av_I i22), some (av_I x27), some (av_I x29), some (av_L i36), none, some (av_I i34), some (av_I i35), some (av_I i33), some (av_I i37), none, none, none, none] [] h23 (fun r h' => ∃ z, r = some (av_I z) ∧ ((-2147483648) ≤ z ∧ z ≤ 2147483647) ∧ kM (pm [] [232, 233, 234, 235]) h h') := by
                intro n
                induction n with
                | zero => intro i33 i34 i35 i36 i37 _ _ _ _ _ _ _ _ _ _ _ hm; omega
                | succ n ih105 =>
                  intro i33 i34 i35 i36 i37 hl0 hl1 hl2 hl3 hl4 hl5 hl6 hl7 hl8 hl9 hinv hm
                  refine A_iload d_MD_tree_105 rfl ?_
                  refine A_aload_n 0 d_MD_tree_107 rfl rfl ?_
                  refine A_getAv (z := some 177) T_ok d_MD_tree_108 f_MD_32 (mi_s k24.1 sf_170) (mi_r k24.1 rfm_19) ?_
                  refine A_iconst d_MD_tree_111 rfl ?_
                  refine A_ialoadn (lo := 0) (hi := 24) d_MD_tree_112 (mi_s k24.1 sf_177) (by decide) (by decide) (mi_g k24.1 (by decide) (mr_177 _)) (fun x39 ex39 _ _ => ?_)
                  replace ex39 : x39 = h23.2.1 177 0 := ex39
                  refine A_pc (pc' := 113) rfl ?_
                  refine A_icmp_ge (tgt := 230) d_MD_tree_113 (by decide) (fun c40 => ?_) (fun c40 => ?_)
                  · have yF : FD h nm x27 x29 i34 i35 i36 := FQ_f hinv.1 (fun q0 => by have q1 := hinv.2; have q2 : i37 = h.2.1 177 0 := (by omega); rw [q2]; exact yW)
                    obtain ⟨⟨v1, v2⟩, v3, ⟨v4, v5⟩, v6, v7⟩ := id yF
                    refine A_iload d_MD_tree_230 rfl ?_
                    refine A_iload_n 2 d_MD_tree_232 rfl rfl ?_
                    refine A_icmp_ne (tgt := 239) d_MD_tree_233 (by decide) (fun c41 => ?_) (fun c41 => ?_)
                    · refine A_iincw d_MD_tree_239 rfl (fun x42 _ _ _ => ?_)
                      refine A_lL (L' := [some (av_R (some 170)), some (av_I a1), some (av_I a2), some (av_I (i21 - 1)), some (av_I x42), some (av_I x27), some (av_I x29), some (av_L i36), none, some (av_I i34), some (av_I i35), some (av_I i33), some (av_I i37), none, none, none, none]) rfl ?_
                      refine A_aload_n 0 d_MD_tree_242 rfl rfl ?_
                      refine A_getAv (z := some 180) T_ok d_MD_tree_243 f_MD_41 (mi_s k24.1 sf_170) (mi_r k24.1 rfm_22) ?_
                      refine A_iload d_MD_tree_246 rfl ?_
                      refine A_ialoadn (lo := (-2)) (hi := 15) d_MD_tree_248 (mi_s k24.1 sf_180) (by omega) (by omega) (mi_g k24.1 (by decide) (mr_180 _)) (fun x44 ex44 _ _ => ?_)
                      have fx44 := ex44.trans (k24.2.2.1 180 _ rfl)
                      refine A_pc (pc' := 249) rfl ?_
                      refine A_if_lt (tgt := 372) d_MD_tree_249 (by decide) (fun c45 => ?_) (fun c45 => ?_)
                      · have yS : ST h h23 (i21 - 1) := yP
                        have yM : 2 * SS (h23.2.1 234) ((i21 - 1)).toNat - (i21 - 1) + 1 ≤ 2 * SS (h23.2.1 234) ((i21 - 1) + 1).toNat - ((i21 - 1) + 1) := (by rw [show ((i21 - 1) + 1).toNat = (i21).toNat by omega]; omega)
                        have yw2 := ST_w yS
                        refine A_goto (tgt := 62) d_MD_tree_372 (by decide) ?_
                        refine A_free (L' := [some (av_R (some 170)), some (av_I a1), some (av_I a2), some (av_I (i21 - 1)), some (av_I x42), none, none, none, none, none, none, none, none, none, none, none, none]) (And.intro rfl (And.intro rfl (And.intro rfl (And.intro rfl (And.intro rfl trivial))))) ?_
                        exact ih62 (i21 - 1) x42 h23 (by omega) (by omega) (by omega) (by omega) yS k24 (by omega)
                      · have yl : 1 ≤ i35 ∧ i35 ≤ x29 - 1 := (by rw [cuts_p (by omega)] at v5; exact ⟨v4, v5⟩)
                        refine A_aload_n 0 d_MD_tree_252 rfl rfl ?_
                        refine A_getAv (z := some 231) T_ok d_MD_tree_253 f_MD_196 (mi_s k24.1 sf_170) (mi_r k24.1 rfm_99) ?_
                        refine A_aload_n 0 d_MD_tree_256 rfl rfl ?_
                        refine A_aload_n 0 d_MD_tree_257 rfl rfl ?_
                        refine A_getAv (z := some 180) T_ok d_MD_tree_258 f_MD_41 (mi_s k24.1 sf_170) (mi_r k24.1 rfm_22) ?_
                        refine A_pc (pc' := 261) rfl ?_
                        refine A_iload d_MD_tree_261 rfl ?_
                        refine A_ialoadv (z := x44) d_MD_tree_263 (mi_s k24.1 sf_180) (by omega) (by omega) ex44.symm ?_
                        refine A_iload d_MD_tree_264 rfl ?_
                        refine A_iload d_MD_tree_266 rfl ?_
                        refine A_iaddv (z := (x27 + i35)) d_MD_tree_268 (w32_to (by omega) (by unfold i32; omega)) ?_
                        refine A_iload d_MD_tree_269 rfl ?_
                        refine A_pc (pc' := 271) rfl ?_
                        refine A_iload d_MD_tree_271 rfl ?_
                        refine A_isubv (z := (x29 - i35)) d_MD_tree_273 (w32_to (by omega) (by unfold i32; omega)) ?_
                        refine A_callV3 m_MD_treeAt T_ok d_MD_tree_274 l_MD_583 k_MD_treeAt (mi_s k24.1 sf_170) rfl (by decide +kernel) (by decide) (Nat.le_of_ble_eq_true rfl) (s_MD_treeAt  (by omega) (by omega) (by omega) (by omega) (by omega) (by omega)) (fun r h49 hq => ?_)
                        obtain ⟨x51, rfl, ⟨_, _⟩, xx51, rfl⟩ := hq
                        refine A_laloadn (lo := 0) (hi := 1000001) d_MD_tree_277 (mi_s k24.1 sf_231) (by omega) (by omega) (mi_l k24.1 (by decide) (mq_231 _)) (fun x52 ex52 _ _ => ?_)
                        have fx52 := ex52.trans (k24.2.2.2 231 _ rfl)
                        have yt : tix x44 (x27 + i35) (x29 - i35) = (x51).toNat := (by unfold tix; rw [xx51])
                        have yF2 := FD_2 (R := x52) hx yF (by omega) (by rw [← fx44, yt]; exact fx52)
                        obtain ⟨z1, z2⟩ := yF2
                        refine A_lstore (L' := [some (av_R (some 170)), some (av_I a1), some (av_I a2), some (av_I (i21 - 1)), some (av_I x42), some (av_I x27), some (av_I x29), some (av_L i36), none, some (av_I i34), some (av_I i35), some (av_I i33), some (av_L x52), none, none, none, none]) d_MD_tree_278 (Nat.le_of_ble_eq_true rfl) rfl ?_
                        refine A_aload_n 0 d_MD_tree_280 rfl rfl ?_
                        refine A_getAv (z := some 232) T_ok d_MD_tree_281 f_MD_199 (mi_s k24.1 sf_170) (mi_r k24.1 rfm_100) ?_
                        refine A_iload_n 3 d_MD_tree_284 rfl rfl ?_
                        refine A_pc (pc' := 285) rfl ?_
                        refine A_aload_n 0 d_MD_tree_285 rfl rfl ?_
                        refine A_getAv (z := some 180) T_ok d_MD_tree_286 f_MD_41 (mi_s k24.1 sf_170) (mi_r k24.1 rfm_22) ?_
                        refine A_iload d_MD_tree_289 rfl ?_
                        refine A_ialoadv (z := x44) d_MD_tree_291 (mi_s k24.1 sf_180) (by omega) (by omega) ex44.symm ?_
                        refine A_iastorek (KR := kM (pm [] [232, 233, 234, 235]) h) d_MD_tree_292 (mi_s k24.1 sf_232) (by omega) (by omega) (kM_i k24 (by decide) rfl (mr_232 _) (by omega) (by omega)) (fun h56 k57 eh56 => ?_)
                        refine A_aload_n 0 d_MD_tree_293 rfl rfl ?_
                        refine A_pc (pc' := 294) rfl ?_
                        refine A_getAv (z := some 233) T_ok d_MD_tree_294 f_MD_202 (mi_s k57.1 sf_170) (mi_r k57.1 rfm_101) ?_
                        refine A_iload_n 3 d_MD_tree_297 rfl rfl ?_
                        refine A_iload d_MD_tree_298 rfl ?_
                        refine A_iload d_MD_tree_300 rfl ?_
                        refine A_iaddv (z := (x27 + i35)) d_MD_tree_302 (w32_to (by omega) (by unfold i32; omega)) ?_
                        refine A_iastorek (KR := kM (pm [] [232, 233, 234, 235]) h) d_MD_tree_303 (mi_s k57.1 sf_233) (by omega) (by omega) (kM_i k57 (by decide) rfl (mr_233 _) (by omega) (by omega)) (fun h59 k60 eh59 => ?_)
                        refine A_pc (pc' := 304) rfl ?_
                        refine A_aload_n 0 d_MD_tree_304 rfl rfl ?_
                        refine A_getAv (z := some 234) T_ok d_MD_tree_305 f_MD_205 (mi_s k60.1 sf_170) (mi_r k60.1 rfm_102) ?_
                        refine A_iload_n 3 d_MD_tree_308 rfl rfl ?_
                        refine A_iload d_MD_tree_309 rfl ?_
                        refine A_iload d_MD_tree_311 rfl ?_
                        refine A_isubv (z := (x29 - i35)) d_MD_tree_313 (w32_to (by omega) (by unfold i32; omega)) ?_
                        refine A_pc (pc' := 314) rfl ?_
                        refine A_iastorek (KR := kM (pm [] [232, 233, 234, 235]) h) d_MD_tree_314 (mi_s k60.1 sf_234) (by omega) (by omega) (kM_i k60 (by decide) rfl (mr_234 _) (by omega) (by omega)) (fun h62 k63 eh62 => ?_)
                        refine A_aload_n 0 d_MD_tree_315 rfl rfl ?_
                        refine A_getAv (z := some 235) T_ok d_MD_tree_316 f_MD_208 (mi_s k63.1 sf_170) (mi_r k63.1 rfm_103) ?_
                        refine A_iload_n 3 d_MD_tree_319 rfl rfl ?_
                        refine A_lload d_MD_tree_320 rfl ?_
                        refine A_lload d_MD_tree_322 rfl ?_
                        refine A_pc (pc' := 324) rfl ?_
                        refine A_lremc d_MD_tree_324 (by omega) (fun x65 ex65 _ _ => ?_)
                        have bx65 := rem_nn ex65 (by omega) (by omega)
                        refine A_lastorek (KR := kM (pm [] [232, 233, 234, 235]) h) d_MD_tree_325 (mi_s k63.1 sf_235) (by omega) (by omega) (kM_l k63 (by decide) rfl (mq_235 _) (by omega) (by omega)) (fun h66 k67 eh66 => ?_)
                        refine A_iincv (z := i21) (L' := [some (av_R (some 170)), some (av_I a1), some (av_I a2), some (av_I i21), some (av_I x42), some (av_I x27), some (av_I x29), some (av_L i36), none, some (av_I i34), some (av_I i35), some (av_I i33), some (av_L x52), none, none, none, none]) d_MD_tree_326 rfl (w32_to (by omega) (by unfold i32; omega)) rfl ?_
                        refine A_aload_n 0 d_MD_tree_329 rfl rfl ?_
                        refine A_getAv (z := some 232) T_ok d_MD_tree_330 f_MD_199 (mi_s k67.1 sf_170) (mi_r k67.1 rfm_100) ?_
                        refine A_iload_n 3 d_MD_tree_333 rfl rfl ?_
                        refine A_pc (pc' := 334) rfl ?_
                        refine A_aload_n 0 d_MD_tree_334 rfl rfl ?_
                        refine A_getAv (z := some 179) T_ok d_MD_tree_335 f_MD_38 (mi_s k67.1 sf_170) (mi_r k67.1 rfm_21) ?_
                        refine A_iload d_MD_tree_338 rfl ?_
                        refine A_ialoadn (lo := (-2)) (hi := 15) d_MD_tree_340 (mi_s k67.1 sf_179) (by omega) (by omega) (mi_g k67.1 (by decide) (mr_179 _)) (fun x70 ex70 _ _ => ?_)
                        have fx70 := ex70.trans (k67.2.2.1 179 _ rfl)
                        have yx70 : 0 ≤ x70 := (by have q1 := (hRL (i34).toNat (by omega)).2; omega)
                        refine A_iastorek (KR := kM (pm [] [232, 233, 234, 235]) h) d_MD_tree_341 (mi_s k67.1 sf_232) (by omega) (by omega) (kM_i k67 (by decide) rfl (mr_232 _) (by omega) (by omega)) (fun h71 k72 eh71 => ?_)
                        refine A_aload_n 0 d_MD_tree_342 rfl rfl ?_
                        refine A_pc (pc' := 343) rfl ?_
                        refine A_getAv (z := some 233) T_ok d_MD_tree_343 f_MD_202 (mi_s k72.1 sf_170) (mi_r k72.1 rfm_101) ?_
                        refine A_iload_n 3 d_MD_tree_346 rfl rfl ?_
                        refine A_iload d_MD_tree_347 rfl ?_
                        refine A_iastorek (KR := kM (pm [] [232, 233, 234, 235]) h) d_MD_tree_349 (mi_s k72.1 sf_233) (by omega) (by omega) (kM_i k72 (by decide) rfl (mr_233 _) (by omega) (by omega)) (fun h74 k75 eh74 => ?_)
                        refine A_aload_n 0 d_MD_tree_350 rfl rfl ?_
                        refine A_getAv (z := some 234) T_ok d_MD_tree_351 f_MD_205 (mi_s k75.1 sf_170) (mi_r k75.1 rfm_102) ?_
                        refine A_pc (pc' := 354) rfl ?_
                        refine A_iload_n 3 d_MD_tree_354 rfl rfl ?_
                        refine A_iload d_MD_tree_355 rfl ?_
                        refine A_iastorek (KR := kM (pm [] [232, 233, 234, 235]) h) d_MD_tree_357 (mi_s k75.1 sf_234) (by omega) (by omega) (kM_i k75 (by decide) rfl (mr_234 _) (by omega) (by omega)) (fun h77 k78 eh77 => ?_)
                        refine A_aload_n 0 d_MD_tree_358 rfl rfl ?_
                        refine A_getAv (z := some 235) T_ok d_MD_tree_359 f_MD_208 (mi_s k78.1 sf_170) (mi_r k78.1 rfm_103) ?_
                        refine A_iload_n 3 d_MD_tree_362 rfl rfl ?_
                        refine A_pc (pc' := 363) rfl ?_
                        refine A_lload d_MD_tree_363 rfl ?_
                        refine A_lload d_MD_tree_365 rfl ?_
                        refine A_ldivc d_MD_tree_367 (by omega) (fun x80 ex80 _ _ => ?_)
                        have bx80 := div_nn64 ex80 (by omega) (by omega) (by omega)
                        refine A_lastorek (KR := kM (pm [] [232, 233, 234, 235]) h) d_MD_tree_368 (mi_s k78.1 sf_235) (by omega) (by omega) (kM_l k78 (by decide) rfl (mq_235 _) (by omega) (by omega)) (fun h81 k82 eh81 => ?_)
                        refine A_iincv (z := (i21 + 1)) (L' := [some (av_R (some 170)), some (av_I a1), some (av_I a2), some (av_I (i21 + 1)), some (av_I x42), some (av_I x27), some (av_I x29), some (av_L i36), none, some (av_I i34), some (av_I i35), some (av_I i33), some (av_L x52), none, none, none, none]) d_MD_tree_369 rfl (w32_to (by omega) (by unfold i32; omega)) rfl ?_
                        obtain ⟨yS0, yM0⟩ := ST_2 (s := x29) (i0 := ((i21 - 1)).toNat) (i1 := (i21).toNat) yP (by omega) (by omega) (by omega) (by intro a ha j hj0 hj1; simp only [List.mem_cons, List.not_mem_nil, or_false] at ha; rcases ha with rfl | rfl | rfl ; exact ((congrFun (congrFun eh81.1 232) j).trans ((eh77.1 232 j (fun q => absurd q (by decide))).trans ((eh74.1 232 j (fun q => absurd q (by decide))).trans ((eh71.1 232 j (fun _ => hj1)).trans ((congrFun (congrFun eh66.1 232) j).trans ((eh62.1 232 j (fun q => absurd q (by decide))).trans ((eh59.1 232 j (fun q => absurd q (by decide))).trans (eh56.1 232 j (fun _ => hj0))))))))) ; exact ((congrFun (congrFun eh81.1 233) j).trans ((eh77.1 233 j (fun q => absurd q (by decide))).trans ((eh74.1 233 j (fun _ => hj1)).trans ((eh71.1 233 j (fun q => absurd q (by decide))).trans ((congrFun (congrFun eh66.1 233) j).trans ((eh62.1 233 j (fun q => absurd q (by decide))).trans ((eh59.1 233 j (fun _ => hj0)).trans (eh56.1 233 j (fun q => absurd q (by decide)))))))))) ; exact ((congrFun (congrFun eh81.1 234) j).trans ((eh77.1 234 j (fun _ => hj1)).trans ((eh74.1 234 j (fun q => absurd q (by decide))).trans ((eh71.1 234 j (fun q => absurd q (by decide))).trans ((congrFun (congrFun eh66.1 234) j).trans ((eh62.1 234 j (fun _ => hj0)).trans ((eh59.1 234 j (fun q => absurd q (by decide))).trans (eh56.1 234 j (fun q => absurd q (by decide))))))))))) (fun j hj0 hj1 => ((eh81.2.1 235 j (fun _ => hj1)).trans ((congrFun (congrFun eh77.2.2 235) j).trans ((congrFun (congrFun eh74.2.2 235) j).trans ((congrFun (congrFun eh71.2.2 235) j).trans ((eh66.2.1 235 j (fun _ => hj0)).trans ((congrFun (congrFun eh62.2.2 235) j).trans ((congrFun (congrFun eh59.2.2 235) j).trans (congrFun (congrFun eh56.2.2 235) j))))))))) (by unfold ST1; rw [((congrFun (congrFun eh81.1 _) _).trans ((eh77.1 _ _ (fun q => absurd q (by decide))).trans ((eh74.1 _ _ (fun q => absurd q (by decide))).trans ((eh71.1 _ _ (fun _ => by omega)).trans ((congrFun (congrFun eh66.1 _) _).trans ((eh62.1 _ _ (fun q => absurd q (by decide))).trans ((eh59.1 _ _ (fun q => absurd q (by decide))).trans eh56.2.1))))))), ((congrFun (congrFun eh81.1 _) _).trans ((eh77.1 _ _ (fun q => absurd q (by decide))).trans ((eh74.1 _ _ (fun _ => by omega)).trans ((eh71.1 _ _ (fun q => absurd q (by decide))).trans ((congrFun (congrFun eh66.1 _) _).trans ((eh62.1 _ _ (fun q => absurd q (by decide))).trans eh59.2.1)))))), ((congrFun (congrFun eh81.1 _) _).trans ((eh77.1 _ _ (fun _ => by omega)).trans ((eh74.1 _ _ (fun q => absurd q (by decide))).trans ((eh71.1 _ _ (fun q => absurd q (by decide))).trans ((congrFun (congrFun eh66.1 _) _).trans eh62.2.1))))), ((eh81.2.1 _ _ (fun _ => by omega)).trans ((congrFun (congrFun eh77.2.2 _) _).trans ((congrFun (congrFun eh74.2.2 _) _).trans ((congrFun (congrFun eh71.2.2 _) _).trans eh66.2.2))))]; exact ⟨⟨by omega, by omega⟩, by omega, by omega, by omega, by omega, (by have q1 := bx65.2.2.1; have q2 := yt; rw [q2, ← fx52]; exact q1)⟩) (by unfold ST1; rw [((congrFun (congrFun eh81.1 _) _).trans ((eh77.1 _ _ (fun q => absurd q (by decide))).trans ((eh74.1 _ _ (fun q => absurd q (by decide))).trans eh71.2.1))), ((congrFun (congrFun eh81.1 _) _).trans ((eh77.1 _ _ (fun q => absurd q (by decide))).trans eh74.2.1)), ((congrFun (congrFun eh81.1 _) _).trans eh77.2.1), eh81.2.2]; exact ⟨⟨by omega, by omega⟩, by omega, by omega, by omega, by omega, (by rw [fx70, bx80.2.2]; exact z2)⟩) (by rw [((congrFun (congrFun eh81.1 _) _).trans ((eh77.1 _ _ (fun _ => by omega)).trans ((eh74.1 _ _ (fun q => absurd q (by decide))).trans ((eh71.1 _ _ (fun q => absurd q (by decide))).trans ((congrFun (congrFun eh66.1 _) _).trans eh62.2.1))))), ((congrFun (congrFun eh81.1 _) _).trans eh77.2.1)]; omega)
                        have yS : ST h h81 (i21 + 1) := (by rw [show (i21 + 1) = (i21 - 1) + 2 by omega]; exact yS0)
                        have yM : 2 * SS (h81.2.1 234) ((i21 + 1)).toNat - (i21 + 1) + 1 ≤ 2 * SS (h23.2.1 234) (i21).toNat - i21 := (by rw [show ((i21 + 1)).toNat = ((i21 - 1) + 2).toNat by omega, yM0]; omega)
                        have yw2 := ST_w yS
                        refine A_goto (tgt := 62) d_MD_tree_372 (by decide) ?_
                        refine A_free (L' := [some (av_R (some 170)), some (av_I a1), some (av_I a2), some (av_I (i21 + 1)), some (av_I x42), none, none, none, none, none, none, none, none, none, none, none, none]) (And.intro rfl (And.intro rfl (And.intro rfl (And.intro rfl (And.intro rfl trivial))))) ?_
                        exact ih62 (i21 + 1) x42 h81 (by omega) (by omega) (by omega) (by omega) yS k82 (by omega)
                    · refine A_iload d_MD_tree_236 rfl ?_
                      exact A_iret d_MD_tree_238 (by decide) rfl ⟨_, rfl, ⟨by omega, by omega⟩, k24⟩
                  · refine A_iload d_MD_tree_116 rfl ?_
                    refine A_if_ne (tgt := 230) d_MD_tree_118 (by decide) (fun c83 => ?_) (fun c83 => ?_)
                    · have yF : FD h nm x27 x29 i34 i35 i36 := FQ_f hinv.1 (fun q0 => by have q1 := hinv.2; have q2 : i37 = h.2.1 177 0 := (by omega); rw [q2]; exact yW)
                      obtain ⟨⟨v1, v2⟩, v3, ⟨v4, v5⟩, v6, v7⟩ := id yF
                      refine A_iload d_MD_tree_230 rfl ?_
                      refine A_iload_n 2 d_MD_tree_232 rfl rfl ?_
                      refine A_icmp_ne (tgt := 239) d_MD_tree_233 (by decide) (fun c84 => ?_) (fun c84 => ?_)
                      · refine A_iincw d_MD_tree_239 rfl (fun x85 _ _ _ => ?_)
                        refine A_lL (L' := [some (av_R (some 170)), some (av_I a1), some (av_I a2), some (av_I (i21 - 1)), some (av_I x85), some (av_I x27), some (av_I x29), some (av_L i36), none, some (av_I i34), some (av_I i35), some (av_I i33), some (av_I i37), none, none, none, none]) rfl ?_
                        refine A_aload_n 0 d_MD_tree_242 rfl rfl ?_
                        refine A_getAv (z := some 180) T_ok d_MD_tree_243 f_MD_41 (mi_s k24.1 sf_170) (mi_r k24.1 rfm_22) ?_
                        refine A_iload d_MD_tree_246 rfl ?_
                        refine A_ialoadn (lo := (-2)) (hi := 15) d_MD_tree_248 (mi_s k24.1 sf_180) (by omega) (by omega) (mi_g k24.1 (by decide) (mr_180 _)) (fun x87 ex87 _ _ => ?_)
                        have fx87 := ex87.trans (k24.2.2.1 180 _ rfl)
                        refine A_pc (pc' := 249) rfl ?_
                        refine A_if_lt (tgt := 372) d_MD_tree_249 (by decide) (fun c88 => ?_) (fun c88 => ?_)
                        · have yS : ST h h23 (i21 - 1) := yP
                          have yM : 2 * SS (h23.2.1 234) ((i21 - 1)).toNat - (i21 - 1) + 1 ≤ 2 * SS (h23.2.1 234) ((i21 - 1) + 1).toNat - ((i21 - 1) + 1) := (by rw [show ((i21 - 1) + 1).toNat = (i21).toNat by omega]; omega)
                          have yw2 := ST_w yS
                          refine A_goto (tgt := 62) d_MD_tree_372 (by decide) ?_
                          refine A_free (L' := [some (av_R (some 170)), some (av_I a1), some (av_I a2), some (av_I (i21 - 1)), some (av_I x85), none, none, none, none, none, none, none, none, none, none, none, none]) (And.intro rfl (And.intro rfl (And.intro rfl (And.intro rfl (And.intro rfl trivial))))) ?_
                          exact ih62 (i21 - 1) x85 h23 (by omega) (by omega) (by omega) (by omega) yS k24 (by omega)
                        · have yl : 1 ≤ i35 ∧ i35 ≤ x29 - 1 := (by rw [cuts_p (by omega)] at v5; exact ⟨v4, v5⟩)
                          refine A_aload_n 0 d_MD_tree_252 rfl rfl ?_
                          refine A_getAv (z := some 231) T_ok d_MD_tree_253 f_MD_196 (mi_s k24.1 sf_170) (mi_r k24.1 rfm_99) ?_
                          refine A_aload_n 0 d_MD_tree_256 rfl rfl ?_
                          refine A_aload_n 0 d_MD_tree_257 rfl rfl ?_
                          refine A_getAv (z := some 180) T_ok d_MD_tree_258 f_MD_41 (mi_s k24.1 sf_170) (mi_r k24.1 rfm_22) ?_
                          refine A_pc (pc' := 261) rfl ?_
                          refine A_iload d_MD_tree_261 rfl ?_
                          refine A_ialoadv (z := x87) d_MD_tree_263 (mi_s k24.1 sf_180) (by omega) (by omega) ex87.symm ?_
                          refine A_iload d_MD_tree_264 rfl ?_
                          refine A_iload d_MD_tree_266 rfl ?_
                          refine A_iaddv (z := (x27 + i35)) d_MD_tree_268 (w32_to (by omega) (by unfold i32; omega)) ?_
                          refine A_iload d_MD_tree_269 rfl ?_
                          refine A_pc (pc' := 271) rfl ?_
                          refine A_iload d_MD_tree_271 rfl ?_
                          refine A_isubv (z := (x29 - i35)) d_MD_tree_273 (w32_to (by omega) (by unfold i32; omega)) ?_
                          refine A_callV3 m_MD_treeAt T_ok d_MD_tree_274 l_MD_583 k_MD_treeAt (mi_s k24.1 sf_170) rfl (by decide +kernel) (by decide) (Nat.le_of_ble_eq_true rfl) (s_MD_treeAt  (by omega) (by omega) (by omega) (by omega) (by omega) (by omega)) (fun r h92 hq => ?_)
                          obtain ⟨x94, rfl, ⟨_, _⟩, xx94, rfl⟩ := hq
                          refine A_laloadn (lo := 0) (hi := 1000001) d_MD_tree_277 (mi_s k24.1 sf_231) (by omega) (by omega) (mi_l k24.1 (by decide) (mq_231 _)) (fun x95 ex95 _ _ => ?_)
                          have fx95 := ex95.trans (k24.2.2.2 231 _ rfl)
                          have yt : tix x87 (x27 + i35) (x29 - i35) = (x94).toNat := (by unfold tix; rw [xx94])
                          have yF2 := FD_2 (R := x95) hx yF (by omega) (by rw [← fx87, yt]; exact fx95)
                          obtain ⟨z1, z2⟩ := yF2
                          refine A_lstore (L' := [some (av_R (some 170)), some (av_I a1), some (av_I a2), some (av_I (i21 - 1)), some (av_I x85), some (av_I x27), some (av_I x29), some (av_L i36), none, some (av_I i34), some (av_I i35), some (av_I i33), some (av_L x95), none, none, none, none]) d_MD_tree_278 (Nat.le_of_ble_eq_true rfl) rfl ?_
                          refine A_aload_n 0 d_MD_tree_280 rfl rfl ?_
                          refine A_getAv (z := some 232) T_ok d_MD_tree_281 f_MD_199 (mi_s k24.1 sf_170) (mi_r k24.1 rfm_100) ?_
                          refine A_iload_n 3 d_MD_tree_284 rfl rfl ?_
                          refine A_pc (pc' := 285) rfl ?_
                          refine A_aload_n 0 d_MD_tree_285 rfl rfl ?_
                          refine A_getAv (z := some 180) T_ok d_MD_tree_286 f_MD_41 (mi_s k24.1 sf_170) (mi_r k24.1 rfm_22) ?_
                          refine A_iload d_MD_tree_289 rfl ?_
                          refine A_ialoadv (z := x87) d_MD_tree_291 (mi_s k24.1 sf_180) (by omega) (by omega) ex87.symm ?_
                          refine A_iastorek (KR := kM (pm [] [232, 233, 234, 235]) h) d_MD_tree_292 (mi_s k24.1 sf_232) (by omega) (by omega) (kM_i k24 (by decide) rfl (mr_232 _) (by omega) (by omega)) (fun h99 k100 eh99 => ?_)
                          refine A_aload_n 0 d_MD_tree_293 rfl rfl ?_
                          refine A_pc (pc' := 294) rfl ?_
                          refine A_getAv (z := some 233) T_ok d_MD_tree_294 f_MD_202 (mi_s k100.1 sf_170) (mi_r k100.1 rfm_101) ?_
                          refine A_iload_n 3 d_MD_tree_297 rfl rfl ?_
                          refine A_iload d_MD_tree_298 rfl ?_
                          refine A_iload d_MD_tree_300 rfl ?_
                          refine A_iaddv (z := (x27 + i35)) d_MD_tree_302 (w32_to (by omega) (by unfold i32; omega)) ?_
                          refine A_iastorek (KR := kM (pm [] [232, 233, 234, 235]) h) d_MD_tree_303 (mi_s k100.1 sf_233) (by omega) (by omega) (kM_i k100 (by decide) rfl (mr_233 _) (by omega) (by omega)) (fun h102 k103 eh102 => ?_)
                          refine A_pc (pc' := 304) rfl ?_
                          refine A_aload_n 0 d_MD_tree_304 rfl rfl ?_
                          refine A_getAv (z := some 234) T_ok d_MD_tree_305 f_MD_205 (mi_s k103.1 sf_170) (mi_r k103.1 rfm_102) ?_
                          refine A_iload_n 3 d_MD_tree_308 rfl rfl ?_
                          refine A_iload d_MD_tree_309 rfl ?_
                          refine A_iload d_MD_tree_311 rfl ?_
                          refine A_isubv (z := (x29 - i35)) d_MD_tree_313 (w32_to (by omega) (by unfold i32; omega)) ?_
                          refine A_pc (pc' := 314) rfl ?_
                          refine A_iastorek (KR := kM (pm [] [232, 233, 234, 235]) h) d_MD_tree_314 (mi_s k103.1 sf_234) (by omega) (by omega) (kM_i k103 (by decide) rfl (mr_234 _) (by omega) (by omega)) (fun h105 k106 eh105 => ?_)
                          refine A_aload_n 0 d_MD_tree_315 rfl rfl ?_
                          refine A_getAv (z := some 235) T_ok d_MD_tree_316 f_MD_208 (mi_s k106.1 sf_170) (mi_r k106.1 rfm_103) ?_
                          refine A_iload_n 3 d_MD_tree_319 rfl rfl ?_
                          refine A_lload d_MD_tree_320 rfl ?_
                          refine A_lload d_MD_tree_322 rfl ?_
                          refine A_pc (pc' := 324) rfl ?_
                          refine A_lremc d_MD_tree_324 (by omega) (fun x108 ex108 _ _ => ?_)
                          have bx108 := rem_nn ex108 (by omega) (by omega)
                          refine A_lastorek (KR := kM (pm [] [232, 233, 234, 235]) h) d_MD_tree_325 (mi_s k106.1 sf_235) (by omega) (by omega) (kM_l k106 (by decide) rfl (mq_235 _) (by omega) (by omega)) (fun h109 k110 eh109 => ?_)
                          refine A_iincv (z := i21) (L' := [some (av_R (some 170)), some (av_I a1), some (av_I a2), some (av_I i21), some (av_I x85), some (av_I x27), some (av_I x29), some (av_L i36), none, some (av_I i34), some (av_I i35), some (av_I i33), some (av_L x95), none, none, none, none]) d_MD_tree_326 rfl (w32_to (by omega) (by unfold i32; omega)) rfl ?_
                          refine A_aload_n 0 d_MD_tree_329 rfl rfl ?_
                          refine A_getAv (z := some 232) T_ok d_MD_tree_330 f_MD_199 (mi_s k110.1 sf_170) (mi_r k110.1 rfm_100) ?_
                          refine A_iload_n 3 d_MD_tree_333 rfl rfl ?_
                          refine A_pc (pc' := 334) rfl ?_
                          refine A_aload_n 0 d_MD_tree_334 rfl rfl ?_
                          refine A_getAv (z := some 179) T_ok d_MD_tree_335 f_MD_38 (mi_s k110.1 sf_170) (mi_r k110.1 rfm_21) ?_
                          refine A_iload d_MD_tree_338 rfl ?_
                          refine A_ialoadn (lo := (-2)) (hi := 15) d_MD_tree_340 (mi_s k110.1 sf_179) (by omega) (by omega) (mi_g k110.1 (by decide) (mr_179 _)) (fun x113 ex113 _ _ => ?_)
                          have fx113 := ex113.trans (k110.2.2.1 179 _ rfl)
                          have yx113 : 0 ≤ x113 := (by have q1 := (hRL (i34).toNat (by omega)).2; omega)
                          refine A_iastorek (KR := kM (pm [] [232, 233, 234, 235]) h) d_MD_tree_341 (mi_s k110.1 sf_232) (by omega) (by omega) (kM_i k110 (by decide) rfl (mr_232 _) (by omega) (by omega)) (fun h114 k115 eh114 => ?_)
                          refine A_aload_n 0 d_MD_tree_342 rfl rfl ?_
                          refine A_pc (pc' := 343) rfl ?_
                          refine A_getAv (z := some 233) T_ok d_MD_tree_343 f_MD_202 (mi_s k115.1 sf_170) (mi_r k115.1 rfm_101) ?_
                          refine A_iload_n 3 d_MD_tree_346 rfl rfl ?_
                          refine A_iload d_MD_tree_347 rfl ?_
                          refine A_iastorek (KR := kM (pm [] [232, 233, 234, 235]) h) d_MD_tree_349 (mi_s k115.1 sf_233) (by omega) (by omega) (kM_i k115 (by decide) rfl (mr_233 _) (by omega) (by omega)) (fun h117 k118 eh117 => ?_)
                          refine A_aload_n 0 d_MD_tree_350 rfl rfl ?_
                          refine A_getAv (z := some 234) T_ok d_MD_tree_351 f_MD_205 (mi_s k118.1 sf_170) (mi_r k118.1 rfm_102) ?_
                          refine A_pc (pc' := 354) rfl ?_
                          refine A_iload_n 3 d_MD_tree_354 rfl rfl ?_
                          refine A_iload d_MD_tree_355 rfl ?_
                          refine A_iastorek (KR := kM (pm [] [232, 233, 234, 235]) h) d_MD_tree_357 (mi_s k118.1 sf_234) (by omega) (by omega) (kM_i k118 (by decide) rfl (mr_234 _) (by omega) (by omega)) (fun h120 k121 eh120 => ?_)
                          refine A_aload_n 0 d_MD_tree_358 rfl rfl ?_
                          refine A_getAv (z := some 235) T_ok d_MD_tree_359 f_MD_208 (mi_s k121.1 sf_170) (mi_r k121.1 rfm_103) ?_
                          refine A_iload_n 3 d_MD_tree_362 rfl rfl ?_
                          refine A_pc (pc' := 363) rfl ?_
                          refine A_lload d_MD_tree_363 rfl ?_
                          refine A_lload d_MD_tree_365 rfl ?_
                          refine A_ldivc d_MD_tree_367 (by omega) (fun x123 ex123 _ _ => ?_)
                          have bx123 := div_nn64 ex123 (by omega) (by omega) (by omega)
                          refine A_lastorek (KR := kM (pm [] [232, 233, 234, 235]) h) d_MD_tree_368 (mi_s k121.1 sf_235) (by omega) (by omega) (kM_l k121 (by decide) rfl (mq_235 _) (by omega) (by omega)) (fun h124 k125 eh124 => ?_)
                          refine A_iincv (z := (i21 + 1)) (L' := [some (av_R (some 170)), some (av_I a1), some (av_I a2), some (av_I (i21 + 1)), some (av_I x85), some (av_I x27), some (av_I x29), some (av_L i36), none, some (av_I i34), some (av_I i35), some (av_I i33), some (av_L x95), none, none, none, none]) d_MD_tree_369 rfl (w32_to (by omega) (by unfold i32; omega)) rfl ?_
                          obtain ⟨yS0, yM0⟩ := ST_2 (s := x29) (i0 := ((i21 - 1)).toNat) (i1 := (i21).toNat) yP (by omega) (by omega) (by omega) (by intro a ha j hj0 hj1; simp only [List.mem_cons, List.not_mem_nil, or_false] at ha; rcases ha with rfl | rfl | rfl ; exact ((congrFun (congrFun eh124.1 232) j).trans ((eh120.1 232 j (fun q => absurd q (by decide))).trans ((eh117.1 232 j (fun q => absurd q (by decide))).trans ((eh114.1 232 j (fun _ => hj1)).trans ((congrFun (congrFun eh109.1 232) j).trans ((eh105.1 232 j (fun q => absurd q (by decide))).trans ((eh102.1 232 j (fun q => absurd q (by decide))).trans (eh99.1 232 j (fun _ => hj0))))))))) ; exact ((congrFun (congrFun eh124.1 233) j).trans ((eh120.1 233 j (fun q => absurd q (by decide))).trans ((eh117.1 233 j (fun _ => hj1)).trans ((eh114.1 233 j (fun q => absurd q (by decide))).trans ((congrFun (congrFun eh109.1 233) j).trans ((eh105.1 233 j (fun q => absurd q (by decide))).trans ((eh102.1 233 j (fun _ => hj0)).trans (eh99.1 233 j (fun q => absurd q (by decide)))))))))) ; exact ((congrFun (congrFun eh124.1 234) j).trans ((eh120.1 234 j (fun _ => hj1)).trans ((eh117.1 234 j (fun q => absurd q (by decide))).trans ((eh114.1 234 j (fun q => absurd q (by decide))).trans ((congrFun (congrFun eh109.1 234) j).trans ((eh105.1 234 j (fun _ => hj0)).trans ((eh102.1 234 j (fun q => absurd q (by decide))).trans (eh99.1 234 j (fun q => absurd q (by decide))))))))))) (fun j hj0 hj1 => ((eh124.2.1 235 j (fun _ => hj1)).trans ((congrFun (congrFun eh120.2.2 235) j).trans ((congrFun (congrFun eh117.2.2 235) j).trans ((congrFun (congrFun eh114.2.2 235) j).trans ((eh109.2.1 235 j (fun _ => hj0)).trans ((congrFun (congrFun eh105.2.2 235) j).trans ((congrFun (congrFun eh102.2.2 235) j).trans (congrFun (congrFun eh99.2.2 235) j))))))))) (by unfold ST1; rw [((congrFun (congrFun eh124.1 _) _).trans ((eh120.1 _ _ (fun q => absurd q (by decide))).trans ((eh117.1 _ _ (fun q => absurd q (by decide))).trans ((eh114.1 _ _ (fun _ => by omega)).trans ((congrFun (congrFun eh109.1 _) _).trans ((eh105.1 _ _ (fun q => absurd q (by decide))).trans ((eh102.1 _ _ (fun q => absurd q (by decide))).trans eh99.2.1))))))), ((congrFun (congrFun eh124.1 _) _).trans ((eh120.1 _ _ (fun q => absurd q (by decide))).trans ((eh117.1 _ _ (fun _ => by omega)).trans ((eh114.1 _ _ (fun q => absurd q (by decide))).trans ((congrFun (congrFun eh109.1 _) _).trans ((eh105.1 _ _ (fun q => absurd q (by decide))).trans eh102.2.1)))))), ((congrFun (congrFun eh124.1 _) _).trans ((eh120.1 _ _ (fun _ => by omega)).trans ((eh117.1 _ _ (fun q => absurd q (by decide))).trans ((eh114.1 _ _ (fun q => absurd q (by decide))).trans ((congrFun (congrFun eh109.1 _) _).trans eh105.2.1))))), ((eh124.2.1 _ _ (fun _ => by omega)).trans ((congrFun (congrFun eh120.2.2 _) _).trans ((congrFun (congrFun eh117.2.2 _) _).trans ((congrFun (congrFun eh114.2.2 _) _).trans eh109.2.2))))]; exact ⟨⟨by omega, by omega⟩, by omega, by omega, by omega, by omega, (by have q1 := bx108.2.2.1; have q2 := yt; rw [q2, ← fx95]; exact q1)⟩) (by unfold ST1; rw [((congrFun (congrFun eh124.1 _) _).trans ((eh120.1 _ _ (fun q => absurd q (by decide))).trans ((eh117.1 _ _ (fun q => absurd q (by decide))).trans eh114.2.1))), ((congrFun (congrFun eh124.1 _) _).trans ((eh120.1 _ _ (fun q => absurd q (by decide))).trans eh117.2.1)), ((congrFun (congrFun eh124.1 _) _).trans eh120.2.1), eh124.2.2]; exact ⟨⟨by omega, by omega⟩, by omega, by omega, by omega, by omega, (by rw [fx113, bx123.2.2]; exact z2)⟩) (by rw [((congrFun (congrFun eh124.1 _) _).trans ((eh120.1 _ _ (fun _ => by omega)).trans ((eh117.1 _ _ (fun q => absurd q (by decide))).trans ((eh114.1 _ _ (fun q => absurd q (by decide))).trans ((congrFun (congrFun eh109.1 _) _).trans eh105.2.1))))), ((congrFun (congrFun eh124.1 _) _).trans eh120.2.1)]; omega)
                          have yS : ST h h124 (i21 + 1) := (by rw [show (i21 + 1) = (i21 - 1) + 2 by omega]; exact yS0)
                          have yM : 2 * SS (h124.2.1 234) ((i21 + 1)).toNat - (i21 + 1) + 1 ≤ 2 * SS (h23.2.1 234) (i21).toNat - i21 := (by rw [show ((i21 + 1)).toNat = ((i21 - 1) + 2).toNat by omega, yM0]; omega)
                          have yw2 := ST_w yS
                          refine A_goto (tgt := 62) d_MD_tree_372 (by decide) ?_
                          refine A_free (L' := [some (av_R (some 170)), some (av_I a1), some (av_I a2), some (av_I (i21 + 1)), some (av_I x85), none, none, none, none, none, none, none, none, none, none, none, none]) (And.intro rfl (And.intro rfl (And.intro rfl (And.intro rfl (And.intro rfl trivial))))) ?_
                          exact ih62 (i21 + 1) x85 h124 (by omega) (by omega) (by omega) (by omega) yS k125 (by omega)
                      · refine A_iload d_MD_tree_236 rfl ?_
                        exact A_iret d_MD_tree_238 (by decide) rfl ⟨_, rfl, ⟨by omega, by omega⟩, k24⟩
                    · refine A_aload_n 0 d_MD_tree_121 rfl rfl ?_
                      refine A_getAv (z := some 178) T_ok d_MD_tree_122 f_MD_35 (mi_s k24.1 sf_170) (mi_r k24.1 rfm_20) ?_
                      refine A_iload d_MD_tree_125 rfl ?_
                      refine A_ialoadn (lo := (-2)) (hi := 15) d_MD_tree_127 (mi_s k24.1 sf_178) (by omega) (by omega) (mi_g k24.1 (by decide) (mr_178 _)) (fun x127 ex127 _ _ => ?_)
                      have fx127 := ex127.trans (k24.2.2.1 178 _ rfl)
                      refine A_aload_n 0 d_MD_tree_128 rfl rfl ?_
                      refine A_pc (pc' := 129) rfl ?_
                      refine A_getAv (z := some 232) T_ok d_MD_tree_129 f_MD_199 (mi_s k24.1 sf_170) (mi_r k24.1 rfm_100) ?_
                      refine A_iload_n 3 d_MD_tree_132 rfl rfl ?_
                      refine A_ialoadn (lo := 0) (hi := 15) d_MD_tree_133 (mi_s k24.1 sf_232) (by omega) (by omega) (mi_g k24.1 (by decide) (mr_232 _)) (fun x129 ex129 _ _ => ?_)
                      refine A_icmp_eq (tgt := 140) d_MD_tree_134 (by decide) (fun c130 => ?_) (fun c130 => ?_)
                      · refine A_aload_n 0 d_MD_tree_140 rfl rfl ?_
                        refine A_getAv (z := some 180) T_ok d_MD_tree_141 f_MD_41 (mi_s k24.1 sf_170) (mi_r k24.1 rfm_22) ?_
                        refine A_iload d_MD_tree_144 rfl ?_
                        refine A_ialoadn (lo := (-2)) (hi := 15) d_MD_tree_146 (mi_s k24.1 sf_180) (by omega) (by omega) (mi_g k24.1 (by decide) (mr_180 _)) (fun x132 ex132 _ _ => ?_)
                        have fx132 := ex132.trans (k24.2.2.1 180 _ rfl)
                        refine A_if_ge (tgt := 154) d_MD_tree_147 (by decide) (fun c133 => ?_) (fun c133 => ?_)
                        · refine A_iload d_MD_tree_154 rfl ?_
                          refine A_iconst d_MD_tree_156 rfl ?_
                          refine A_isubv (z := (x29 - 1)) d_MD_tree_157 (w32_to (by omega) (by unfold i32; omega)) ?_
                          refine A_istore (L' := [some (av_R (some 170)), some (av_I a1), some (av_I a2), some (av_I (i21 - 1)), some (av_I i22), some (av_I x27), some (av_I x29), some (av_L i36), none, some (av_I i34), some (av_I i35), some (av_I i33), some (av_I i37), some (av_I (x29 - 1)), none, none, none]) d_MD_tree_158 (Nat.le_of_ble_eq_true rfl) rfl ?_
                          have yc : cuts h (i37).toNat x29 = (x29 - 1) := (cuts_p (by omega))
                          have hin5 := hinv
                          refine A_iconst d_MD_tree_160 rfl ?_
                          refine A_pc (pc' := 161) rfl ?_
                          refine A_istore (L' := [some (av_R (some 170)), some (av_I a1), some (av_I a2), some (av_I (i21 - 1)), some (av_I i22), some (av_I x27), some (av_I x29), some (av_L i36), none, some (av_I i34), some (av_I i35), some (av_I i33), some (av_I i37), some (av_I (x29 - 1)), some (av_I 1), none, none]) d_MD_tree_161 (Nat.le_of_ble_eq_true rfl) rfl ?_
                          have lp163 : ∀ (n : Nat) (i134 i135 i136 i137 i138 : Int) , 0 ≤ i134 → i134 ≤ 1 → 0 ≤ i135 → i135 ≤ 23 → 0 ≤ i136 → i136 ≤ 12 → 0 ≤ i137 → i137 ≤ 1000000 → 1 ≤ i138 → i138 ≤ 13 → (FQ h nm x27 x29 i134 i135 i136 i137 x31 ((RS h nm x27 x29 (i37).toNat) + CS h (i37).toNat x27 x29 (i138 - 1).toNat) ∧ 1 ≤ i138 ∧ i138 ≤ (x29 - 1) + 1) → (14 - i138).toNat < n → aw G (rm_R 2 0 0) m_MD_tree 0 0 163 [some (av_R (some 170)), some (av_I a1), some (av_I a2), some (av_I (i21 - 1)), some (av_I i22), some (av_I x27), some (av_I x29), some (av_L i137), none, some (av_I i135), some (av_I i136), some (av_I i134), some (av_I i37), some (av_I (x29 - 1)), some (av_I i138), none, none] [] h23 (fun r h' => ∃ z, r = some (av_I z) ∧ ((-2147483648) ≤ z ∧ z ≤ 2147483647) ∧ kM (pm [] [232, 233, 234, 235]) h h') := by
                            intro n
                            induction n with
                            | zero => intro i134 i135 i136 i137 i138 _ _ _ _ _ _ _ _ _ _ _ hm; omega
                            | succ n ih163 =>
                              intro i134 i135 i136 i137 i138 hl0 hl1 hl2 hl3 hl4 hl5 hl6 hl7 hl8 hl9 hinv hm
                              refine A_iload d_MD_tree_163 rfl ?_
                              refine A_iload d_MD_tree_165 rfl ?_
                              refine A_icmp_gt (tgt := 224) d_MD_tree_167 (by decide) (fun c139 => ?_) (fun c139 => ?_)
                              · refine A_iincv (z := (i37 + 1)) (L' := [some (av_R (some 170)), some (av_I a1), some (av_I a2), some (av_I (i21 - 1)), some (av_I i22), some (av_I x27), some (av_I x29), some (av_L i137), none, some (av_I i135), some (av_I i136), some (av_I i134), some (av_I (i37 + 1)), some (av_I (x29 - 1)), some (av_I i138), none, none]) d_MD_tree_224 rfl (w32_to (by omega) (by unfold i32; omega)) rfl ?_
                                refine A_goto (tgt := 105) d_MD_tree_227 (by decide) ?_
                                refine A_free (L' := [some (av_R (some 170)), some (av_I a1), some (av_I a2), some (av_I (i21 - 1)), some (av_I i22), some (av_I x27), some (av_I x29), some (av_L i137), none, some (av_I i135), some (av_I i136), some (av_I i134), some (av_I (i37 + 1)), none, none, none, none]) (And.intro rfl (And.intro rfl (And.intro rfl (And.intro rfl (And.intro rfl (And.intro rfl (And.intro rfl (And.intro rfl (And.intro rfl (And.intro rfl (And.intro rfl (And.intro rfl trivial)))))))))))) ?_
                                exact ih105 i134 i135 i136 i137 (i37 + 1) (by omega) (by omega) (by omega) (by omega) (by omega) (by omega) (by omega) (by omega) (by omega) (by omega) ⟨FQ_s hinv.1 (fun q0 => by have q1 := hinv.2; rw [RS_y (r := (i37).toNat) (by omega) (by omega), yc]; have q2 : i138 - 1 = (x29 - 1) := (by omega); rw [q2]), by omega⟩ (by omega)
                              · refine A_iload d_MD_tree_170 rfl ?_
                                refine A_if_ne (tgt := 224) d_MD_tree_172 (by decide) (fun c140 => ?_) (fun c140 => ?_)
                                · refine A_iincv (z := (i37 + 1)) (L' := [some (av_R (some 170)), some (av_I a1), some (av_I a2), some (av_I (i21 - 1)), some (av_I i22), some (av_I x27), some (av_I x29), some (av_L i137), none, some (av_I i135), some (av_I i136), some (av_I i134), some (av_I (i37 + 1)), some (av_I (x29 - 1)), some (av_I i138), none, none]) d_MD_tree_224 rfl (w32_to (by omega) (by unfold i32; omega)) rfl ?_
                                  refine A_goto (tgt := 105) d_MD_tree_227 (by decide) ?_
                                  refine A_free (L' := [some (av_R (some 170)), some (av_I a1), some (av_I a2), some (av_I (i21 - 1)), some (av_I i22), some (av_I x27), some (av_I x29), some (av_L i137), none, some (av_I i135), some (av_I i136), some (av_I i134), some (av_I (i37 + 1)), none, none, none, none]) (And.intro rfl (And.intro rfl (And.intro rfl (And.intro rfl (And.intro rfl (And.intro rfl (And.intro rfl (And.intro rfl (And.intro rfl (And.intro rfl (And.intro rfl (And.intro rfl trivial)))))))))))) ?_
                                  exact ih105 i134 i135 i136 i137 (i37 + 1) (by omega) (by omega) (by omega) (by omega) (by omega) (by omega) (by omega) (by omega) (by omega) (by omega) ⟨FQ_s hinv.1 (fun q0 => by have q1 := hinv.2; rw [RS_y (r := (i37).toNat) (by omega) (by omega), yc]; have q2 : i138 - 1 = (x29 - 1) := (by omega); rw [q2]), by omega⟩ (by omega)
                                · refine A_aload_n 0 d_MD_tree_175 rfl rfl ?_
                                  refine A_iload d_MD_tree_176 rfl ?_
                                  refine A_iload d_MD_tree_178 rfl ?_
                                  refine A_iload d_MD_tree_180 rfl ?_
                                  refine A_iload d_MD_tree_182 rfl ?_
                                  refine A_pc (pc' := 184) rfl ?_
                                  refine A_callV4 m_MD_byRule T_ok d_MD_tree_184 l_MD_591 k_MD_byRule (mi_s k24.1 sf_170) rfl (by decide +kernel) (by decide) (Nat.le_of_ble_eq_true rfl) (s_MD_byRule k24.1 (by omega) (by omega) (by omega) (by omega) (by omega) (by omega) (by omega) (by omega) (yR (i37).toNat (by omega)).2 (fun q0 => by have q1 := yK.2.1 (i37).toNat (by omega); omega) (by omega)) (fun r h141 hq => ?_)
                                  obtain ⟨x143, rfl, ⟨_, _⟩, xx143, rfl⟩ := hq
                                  have yb : x143 = BR h (i37).toNat x27 x29 i138 := xx143.trans (BR_e yK yE (by omega) (by omega))
                                  refine A_lstore (L' := [some (av_R (some 170)), some (av_I a1), some (av_I a2), some (av_I (i21 - 1)), some (av_I i22), some (av_I x27), some (av_I x29), some (av_L i137), none, some (av_I i135), some (av_I i136), some (av_I i134), some (av_I i37), some (av_I (x29 - 1)), some (av_I i138), some (av_L x143), none]) d_MD_tree_187 (Nat.le_of_ble_eq_true rfl) rfl ?_
                                  refine A_lload d_MD_tree_189 rfl ?_
                                  refine A_lload d_MD_tree_191 rfl ?_
                                  refine A_lcmpn d_MD_tree_193 (fun x144 lx144 ex144 gx144 _ _ => ?_)
                                  refine A_if_ge (tgt := 211) d_MD_tree_194 (by decide) (fun c145 => ?_) (fun c145 => ?_)
                                  · have mc145 : (i137 - x143) ≥ 0 := by omega
                                    refine A_lload d_MD_tree_211 rfl ?_
                                    refine A_lload d_MD_tree_213 rfl ?_
                                    refine A_lsubv (z := (i137 - x143)) d_MD_tree_215 (w64_to (by omega) (by unfold i64; omega)) ?_
                                    refine A_lstore (L' := [some (av_R (some 170)), some (av_I a1), some (av_I a2), some (av_I (i21 - 1)), some (av_I i22), some (av_I x27), some (av_I x29), some (av_L (i137 - x143)), none, some (av_I i135), some (av_I i136), some (av_I i134), some (av_I i37), some (av_I (x29 - 1)), some (av_I i138), some (av_L x143), none]) d_MD_tree_216 (Nat.le_of_ble_eq_true rfl) rfl ?_
                                    refine A_iincv (z := (i138 + 1)) (L' := [some (av_R (some 170)), some (av_I a1), some (av_I a2), some (av_I (i21 - 1)), some (av_I i22), some (av_I x27), some (av_I x29), some (av_L (i137 - x143)), none, some (av_I i135), some (av_I i136), some (av_I i134), some (av_I i37), some (av_I (x29 - 1)), some (av_I (i138 + 1)), some (av_L x143), none]) d_MD_tree_218 rfl (w32_to (by omega) (by unfold i32; omega)) rfl ?_
                                    refine A_pc (pc' := 221) rfl ?_
                                    refine A_goto (tgt := 163) d_MD_tree_221 (by decide) ?_
                                    refine A_free (L' := [some (av_R (some 170)), some (av_I a1), some (av_I a2), some (av_I (i21 - 1)), some (av_I i22), some (av_I x27), some (av_I x29), some (av_L (i137 - x143)), none, some (av_I i135), some (av_I i136), some (av_I i134), some (av_I i37), some (av_I (x29 - 1)), some (av_I (i138 + 1)), none, none]) (And.intro rfl (And.intro rfl (And.intro rfl (And.intro rfl (And.intro rfl (And.intro rfl (And.intro rfl (And.intro rfl (And.intro rfl (And.intro rfl (And.intro rfl (And.intro rfl (And.intro rfl (And.intro rfl trivial)))))))))))))) ?_
                                    exact ih163 i134 i135 i136 (i137 - x143) (i138 + 1) (by omega) (by omega) (by omega) (by omega) (by omega) (by omega) (by omega) (by omega) (by omega) (by omega) ⟨Or.inl ⟨by omega, by omega, by have q0 := hinv.1; unfold FQ at q0; rw [CS_n (c := (i138 - 1).toNat) (l := i138) (by omega) (by omega), ← yb]; omega⟩, by omega, by omega⟩ (by omega)
                                  · have mc145 : (i137 - x143) < 0 := by omega
                                    refine A_iconst d_MD_tree_197 rfl ?_
                                    refine A_istore (L' := [some (av_R (some 170)), some (av_I a1), some (av_I a2), some (av_I (i21 - 1)), some (av_I i22), some (av_I x27), some (av_I x29), some (av_L i137), none, some (av_I i135), some (av_I i136), some (av_I 1), some (av_I i37), some (av_I (x29 - 1)), some (av_I i138), some (av_L x143), none]) d_MD_tree_198 (Nat.le_of_ble_eq_true rfl) rfl ?_
                                    refine A_iload d_MD_tree_200 rfl ?_
                                    refine A_istore (L' := [some (av_R (some 170)), some (av_I a1), some (av_I a2), some (av_I (i21 - 1)), some (av_I i22), some (av_I x27), some (av_I x29), some (av_L i137), none, some (av_I i37), some (av_I i136), some (av_I 1), some (av_I i37), some (av_I (x29 - 1)), some (av_I i138), some (av_L x143), none]) d_MD_tree_202 (Nat.le_of_ble_eq_true rfl) rfl ?_
                                    refine A_iload d_MD_tree_204 rfl ?_
                                    refine A_pc (pc' := 206) rfl ?_
                                    refine A_istore (L' := [some (av_R (some 170)), some (av_I a1), some (av_I a2), some (av_I (i21 - 1)), some (av_I i22), some (av_I x27), some (av_I x29), some (av_L i137), none, some (av_I i37), some (av_I i138), some (av_I 1), some (av_I i37), some (av_I (x29 - 1)), some (av_I i138), some (av_L x143), none]) d_MD_tree_206 (Nat.le_of_ble_eq_true rfl) rfl ?_
                                    refine A_goto (tgt := 218) d_MD_tree_208 (by decide) ?_
                                    refine A_iincv (z := (i138 + 1)) (L' := [some (av_R (some 170)), some (av_I a1), some (av_I a2), some (av_I (i21 - 1)), some (av_I i22), some (av_I x27), some (av_I x29), some (av_L i137), none, some (av_I i37), some (av_I i138), some (av_I 1), some (av_I i37), some (av_I (x29 - 1)), some (av_I (i138 + 1)), some (av_L x143), none]) d_MD_tree_218 rfl (w32_to (by omega) (by unfold i32; omega)) rfl ?_
                                    refine A_goto (tgt := 163) d_MD_tree_221 (by decide) ?_
                                    refine A_free (L' := [some (av_R (some 170)), some (av_I a1), some (av_I a2), some (av_I (i21 - 1)), some (av_I i22), some (av_I x27), some (av_I x29), some (av_L i137), none, some (av_I i37), some (av_I i138), some (av_I 1), some (av_I i37), some (av_I (x29 - 1)), some (av_I (i138 + 1)), none, none]) (And.intro rfl (And.intro rfl (And.intro rfl (And.intro rfl (And.intro rfl (And.intro rfl (And.intro rfl (And.intro rfl (And.intro rfl (And.intro rfl (And.intro rfl (And.intro rfl (And.intro rfl (And.intro rfl trivial)))))))))))))) ?_
                                    exact ih163 1 i37 i138 i137 (i138 + 1) (by omega) (by omega) (by omega) (by omega) (by omega) (by omega) (by omega) (by omega) (by omega) (by omega) ⟨Or.inr ⟨rfl, ⟨by omega, by omega⟩, by omega, ⟨by omega, by rw [yc]; omega⟩, by omega, by rw [← yb]; omega⟩, by omega, by omega⟩ (by omega)
                          exact lp163 _ i33 i34 i35 i36 1 (by omega) (by omega) (by omega) (by omega) (by omega) (by omega) (by omega) (by omega) (by omega) (by omega) ⟨FQ_s hinv.1 (fun _ => Int.add_zero _), by omega, by omega⟩ (Nat.lt_succ_self _)
                        · refine A_iconst d_MD_tree_150 rfl ?_
                          refine A_goto (tgt := 158) d_MD_tree_151 (by decide) ?_
                          refine A_istore (L' := [some (av_R (some 170)), some (av_I a1), some (av_I a2), some (av_I (i21 - 1)), some (av_I i22), some (av_I x27), some (av_I x29), some (av_L i36), none, some (av_I i34), some (av_I i35), some (av_I i33), some (av_I i37), some (av_I 1), none, none, none]) d_MD_tree_158 (Nat.le_of_ble_eq_true rfl) rfl ?_
                          have yc : cuts h (i37).toNat x29 = 1 := (cuts_n (by omega))
                          have hin5 := hinv
                          refine A_iconst d_MD_tree_160 rfl ?_
                          refine A_istore (L' := [some (av_R (some 170)), some (av_I a1), some (av_I a2), some (av_I (i21 - 1)), some (av_I i22), some (av_I x27), some (av_I x29), some (av_L i36), none, some (av_I i34), some (av_I i35), some (av_I i33), some (av_I i37), some (av_I 1), some (av_I 1), none, none]) d_MD_tree_161 (Nat.le_of_ble_eq_true rfl) rfl ?_
                          have lp163 : ∀ (n : Nat) (i146 i147 i148 i149 i150 : Int) , 0 ≤ i146 → i146 ≤ 1 → 0 ≤ i147 → i147 ≤ 23 → 0 ≤ i148 → i148 ≤ 12 → 0 ≤ i149 → i149 ≤ 1000000 → 1 ≤ i150 → i150 ≤ 13 → (FQ h nm x27 x29 i146 i147 i148 i149 x31 ((RS h nm x27 x29 (i37).toNat) + CS h (i37).toNat x27 x29 (i150 - 1).toNat) ∧ 1 ≤ i150 ∧ i150 ≤ 1 + 1) → (14 - i150).toNat < n → aw G (rm_R 2 0 0) m_MD_tree 0 0 163 [some (av_R (some 170)), some (av_I a1), some (av_I a2), some (av_I (i21 - 1)), some (av_I i22), some (av_I x27), some (av_I x29), some (av_L i149), none, some (av_I i147), some (av_I i148), some (av_I i146), some (av_I i37), some (av_I 1), some (av_I i150), none, none] [] h23 (fun r h' => ∃ z, r = some (av_I z) ∧ ((-2147483648) ≤ z ∧ z ≤ 2147483647) ∧ kM (pm [] [232, 233, 234, 235]) h h') := by
                            intro n
                            induction n with
                            | zero => intro i146 i147 i148 i149 i150 _ _ _ _ _ _ _ _ _ _ _ hm; omega
                            | succ n ih163 =>
                              intro i146 i147 i148 i149 i150 hl0 hl1 hl2 hl3 hl4 hl5 hl6 hl7 hl8 hl9 hinv hm
                              refine A_iload d_MD_tree_163 rfl ?_
                              refine A_iload d_MD_tree_165 rfl ?_
                              refine A_icmp_gt (tgt := 224) d_MD_tree_167 (by decide) (fun c151 => ?_) (fun c151 => ?_)
                              · refine A_iincv (z := (i37 + 1)) (L' := [some (av_R (some 170)), some (av_I a1), some (av_I a2), some (av_I (i21 - 1)), some (av_I i22), some (av_I x27), some (av_I x29), some (av_L i149), none, some (av_I i147), some (av_I i148), some (av_I i146), some (av_I (i37 + 1)), some (av_I 1), some (av_I i150), none, none]) d_MD_tree_224 rfl (w32_to (by omega) (by unfold i32; omega)) rfl ?_
                                refine A_goto (tgt := 105) d_MD_tree_227 (by decide) ?_
                                refine A_free (L' := [some (av_R (some 170)), some (av_I a1), some (av_I a2), some (av_I (i21 - 1)), some (av_I i22), some (av_I x27), some (av_I x29), some (av_L i149), none, some (av_I i147), some (av_I i148), some (av_I i146), some (av_I (i37 + 1)), none, none, none, none]) (And.intro rfl (And.intro rfl (And.intro rfl (And.intro rfl (And.intro rfl (And.intro rfl (And.intro rfl (And.intro rfl (And.intro rfl (And.intro rfl (And.intro rfl (And.intro rfl trivial)))))))))))) ?_
                                exact ih105 i146 i147 i148 i149 (i37 + 1) (by omega) (by omega) (by omega) (by omega) (by omega) (by omega) (by omega) (by omega) (by omega) (by omega) ⟨FQ_s hinv.1 (fun q0 => by have q1 := hinv.2; rw [RS_y (r := (i37).toNat) (by omega) (by omega), yc]; have q2 : i150 - 1 = 1 := (by omega); rw [q2]), by omega⟩ (by omega)
                              · refine A_iload d_MD_tree_170 rfl ?_
                                refine A_if_ne (tgt := 224) d_MD_tree_172 (by decide) (fun c152 => ?_) (fun c152 => ?_)
                                · refine A_iincv (z := (i37 + 1)) (L' := [some (av_R (some 170)), some (av_I a1), some (av_I a2), some (av_I (i21 - 1)), some (av_I i22), some (av_I x27), some (av_I x29), some (av_L i149), none, some (av_I i147), some (av_I i148), some (av_I i146), some (av_I (i37 + 1)), some (av_I 1), some (av_I i150), none, none]) d_MD_tree_224 rfl (w32_to (by omega) (by unfold i32; omega)) rfl ?_
                                  refine A_goto (tgt := 105) d_MD_tree_227 (by decide) ?_
                                  refine A_free (L' := [some (av_R (some 170)), some (av_I a1), some (av_I a2), some (av_I (i21 - 1)), some (av_I i22), some (av_I x27), some (av_I x29), some (av_L i149), none, some (av_I i147), some (av_I i148), some (av_I i146), some (av_I (i37 + 1)), none, none, none, none]) (And.intro rfl (And.intro rfl (And.intro rfl (And.intro rfl (And.intro rfl (And.intro rfl (And.intro rfl (And.intro rfl (And.intro rfl (And.intro rfl (And.intro rfl (And.intro rfl trivial)))))))))))) ?_
                                  exact ih105 i146 i147 i148 i149 (i37 + 1) (by omega) (by omega) (by omega) (by omega) (by omega) (by omega) (by omega) (by omega) (by omega) (by omega) ⟨FQ_s hinv.1 (fun q0 => by have q1 := hinv.2; rw [RS_y (r := (i37).toNat) (by omega) (by omega), yc]; have q2 : i150 - 1 = 1 := (by omega); rw [q2]), by omega⟩ (by omega)
                                · refine A_aload_n 0 d_MD_tree_175 rfl rfl ?_
                                  refine A_iload d_MD_tree_176 rfl ?_
                                  refine A_iload d_MD_tree_178 rfl ?_
                                  refine A_iload d_MD_tree_180 rfl ?_
                                  refine A_iload d_MD_tree_182 rfl ?_
                                  refine A_pc (pc' := 184) rfl ?_
                                  refine A_callV4 m_MD_byRule T_ok d_MD_tree_184 l_MD_591 k_MD_byRule (mi_s k24.1 sf_170) rfl (by decide +kernel) (by decide) (Nat.le_of_ble_eq_true rfl) (s_MD_byRule k24.1 (by omega) (by omega) (by omega) (by omega) (by omega) (by omega) (by omega) (by omega) (yR (i37).toNat (by omega)).2 (fun q0 => by have q1 := yK.2.1 (i37).toNat (by omega); omega) (by omega)) (fun r h153 hq => ?_)
                                  obtain ⟨x155, rfl, ⟨_, _⟩, xx155, rfl⟩ := hq
                                  have yb : x155 = BR h (i37).toNat x27 x29 i150 := xx155.trans (BR_e yK yE (by omega) (by omega))
                                  refine A_lstore (L' := [some (av_R (some 170)), some (av_I a1), some (av_I a2), some (av_I (i21 - 1)), some (av_I i22), some (av_I x27), some (av_I x29), some (av_L i149), none, some (av_I i147), some (av_I i148), some (av_I i146), some (av_I i37), some (av_I 1), some (av_I i150), some (av_L x155), none]) d_MD_tree_187 (Nat.le_of_ble_eq_true rfl) rfl ?_
                                  refine A_lload d_MD_tree_189 rfl ?_
                                  refine A_lload d_MD_tree_191 rfl ?_
                                  refine A_lcmpn d_MD_tree_193 (fun x156 lx156 ex156 gx156 _ _ => ?_)
                                  refine A_if_ge (tgt := 211) d_MD_tree_194 (by decide) (fun c157 => ?_) (fun c157 => ?_)
                                  · have mc157 : (i149 - x155) ≥ 0 := by omega
                                    refine A_lload d_MD_tree_211 rfl ?_
                                    refine A_lload d_MD_tree_213 rfl ?_
                                    refine A_lsubv (z := (i149 - x155)) d_MD_tree_215 (w64_to (by omega) (by unfold i64; omega)) ?_
                                    refine A_lstore (L' := [some (av_R (some 170)), some (av_I a1), some (av_I a2), some (av_I (i21 - 1)), some (av_I i22), some (av_I x27), some (av_I x29), some (av_L (i149 - x155)), none, some (av_I i147), some (av_I i148), some (av_I i146), some (av_I i37), some (av_I 1), some (av_I i150), some (av_L x155), none]) d_MD_tree_216 (Nat.le_of_ble_eq_true rfl) rfl ?_
                                    refine A_iincv (z := (i150 + 1)) (L' := [some (av_R (some 170)), some (av_I a1), some (av_I a2), some (av_I (i21 - 1)), some (av_I i22), some (av_I x27), some (av_I x29), some (av_L (i149 - x155)), none, some (av_I i147), some (av_I i148), some (av_I i146), some (av_I i37), some (av_I 1), some (av_I (i150 + 1)), some (av_L x155), none]) d_MD_tree_218 rfl (w32_to (by omega) (by unfold i32; omega)) rfl ?_
                                    refine A_pc (pc' := 221) rfl ?_
                                    refine A_goto (tgt := 163) d_MD_tree_221 (by decide) ?_
                                    refine A_free (L' := [some (av_R (some 170)), some (av_I a1), some (av_I a2), some (av_I (i21 - 1)), some (av_I i22), some (av_I x27), some (av_I x29), some (av_L (i149 - x155)), none, some (av_I i147), some (av_I i148), some (av_I i146), some (av_I i37), some (av_I 1), some (av_I (i150 + 1)), none, none]) (And.intro rfl (And.intro rfl (And.intro rfl (And.intro rfl (And.intro rfl (And.intro rfl (And.intro rfl (And.intro rfl (And.intro rfl (And.intro rfl (And.intro rfl (And.intro rfl (And.intro rfl (And.intro rfl trivial)))))))))))))) ?_
                                    exact ih163 i146 i147 i148 (i149 - x155) (i150 + 1) (by omega) (by omega) (by omega) (by omega) (by omega) (by omega) (by omega) (by omega) (by omega) (by omega) ⟨Or.inl ⟨by omega, by omega, by have q0 := hinv.1; unfold FQ at q0; rw [CS_n (c := (i150 - 1).toNat) (l := i150) (by omega) (by omega), ← yb]; omega⟩, by omega, by omega⟩ (by omega)
                                  · have mc157 : (i149 - x155) < 0 := by omega
                                    refine A_iconst d_MD_tree_197 rfl ?_
                                    refine A_istore (L' := [some (av_R (some 170)), some (av_I a1), some (av_I a2), some (av_I (i21 - 1)), some (av_I i22), some (av_I x27), some (av_I x29), some (av_L i149), none, some (av_I i147), some (av_I i148), some (av_I 1), some (av_I i37), some (av_I 1), some (av_I i150), some (av_L x155), none]) d_MD_tree_198 (Nat.le_of_ble_eq_true rfl) rfl ?_
                                    refine A_iload d_MD_tree_200 rfl ?_
                                    refine A_istore (L' := [some (av_R (some 170)), some (av_I a1), some (av_I a2), some (av_I (i21 - 1)), some (av_I i22), some (av_I x27), some (av_I x29), some (av_L i149), none, some (av_I i37), some (av_I i148), some (av_I 1), some (av_I i37), some (av_I 1), some (av_I i150), some (av_L x155), none]) d_MD_tree_202 (Nat.le_of_ble_eq_true rfl) rfl ?_
                                    refine A_iload d_MD_tree_204 rfl ?_
                                    refine A_pc (pc' := 206) rfl ?_
                                    refine A_istore (L' := [some (av_R (some 170)), some (av_I a1), some (av_I a2), some (av_I (i21 - 1)), some (av_I i22), some (av_I x27), some (av_I x29), some (av_L i149), none, some (av_I i37), some (av_I i150), some (av_I 1), some (av_I i37), some (av_I 1), some (av_I i150), some (av_L x155), none]) d_MD_tree_206 (Nat.le_of_ble_eq_true rfl) rfl ?_
                                    refine A_goto (tgt := 218) d_MD_tree_208 (by decide) ?_
                                    refine A_iincv (z := (i150 + 1)) (L' := [some (av_R (some 170)), some (av_I a1), some (av_I a2), some (av_I (i21 - 1)), some (av_I i22), some (av_I x27), some (av_I x29), some (av_L i149), none, some (av_I i37), some (av_I i150), some (av_I 1), some (av_I i37), some (av_I 1), some (av_I (i150 + 1)), some (av_L x155), none]) d_MD_tree_218 rfl (w32_to (by omega) (by unfold i32; omega)) rfl ?_
                                    refine A_goto (tgt := 163) d_MD_tree_221 (by decide) ?_
                                    refine A_free (L' := [some (av_R (some 170)), some (av_I a1), some (av_I a2), some (av_I (i21 - 1)), some (av_I i22), some (av_I x27), some (av_I x29), some (av_L i149), none, some (av_I i37), some (av_I i150), some (av_I 1), some (av_I i37), some (av_I 1), some (av_I (i150 + 1)), none, none]) (And.intro rfl (And.intro rfl (And.intro rfl (And.intro rfl (And.intro rfl (And.intro rfl (And.intro rfl (And.intro rfl (And.intro rfl (And.intro rfl (And.intro rfl (And.intro rfl (And.intro rfl (And.intro rfl trivial)))))))))))))) ?_
                                    exact ih163 1 i37 i150 i149 (i150 + 1) (by omega) (by omega) (by omega) (by omega) (by omega) (by omega) (by omega) (by omega) (by omega) (by omega) ⟨Or.inr ⟨rfl, ⟨by omega, by omega⟩, by omega, ⟨by omega, by rw [yc]; omega⟩, by omega, by rw [← yb]; omega⟩, by omega, by omega⟩ (by omega)
                          exact lp163 _ i33 i34 i35 i36 1 (by omega) (by omega) (by omega) (by omega) (by omega) (by omega) (by omega) (by omega) (by omega) (by omega) ⟨FQ_s hinv.1 (fun _ => Int.add_zero _), by omega, by omega⟩ (Nat.lt_succ_self _)
                      · refine A_goto (tgt := 224) d_MD_tree_137 (by decide) ?_
                        refine A_iincv (z := (i37 + 1)) (L' := [some (av_R (some 170)), some (av_I a1), some (av_I a2), some (av_I (i21 - 1)), some (av_I i22), some (av_I x27), some (av_I x29), some (av_L i36), none, some (av_I i34), some (av_I i35), some (av_I i33), some (av_I (i37 + 1)), none, none, none, none]) d_MD_tree_224 rfl (w32_to (by omega) (by unfold i32; omega)) rfl ?_
                        refine A_goto (tgt := 105) d_MD_tree_227 (by decide) ?_
                        exact ih105 i33 i34 i35 i36 (i37 + 1) (by omega) (by omega) (by omega) (by omega) (by omega) (by omega) (by omega) (by omega) (by omega) (by omega) ⟨FQ_s hinv.1 (fun _ => RS_n (r := (i37).toNat) (by omega) (by omega)), by omega⟩ (by omega)
              exact lp105 _ 0 0 0 x31 0 (by omega) (by omega) (by omega) (by omega) (by omega) (by omega) (by omega) (by omega) (by omega) (by omega) ⟨FQ_0 (by omega), by omega⟩ (Nat.lt_succ_self _)
        exact lp62 _ 1 0 h19 (by omega) (by omega) (by omega) (by omega) (ST_i hx t2 yR0 (((congrFun (congrFun eh19.1 _) _).trans ((eh16.1 _ _ (fun q => absurd q (by decide))).trans ((eh11.1 _ _ (fun q => absurd q (by decide))).trans eh8.2.1))).trans ex7) ((congrFun (congrFun eh19.1 _) _).trans ((eh16.1 _ _ (fun q => absurd q (by decide))).trans eh11.2.1)) (((congrFun (congrFun eh19.1 _) _).trans eh16.2.1).trans fx15) eh19.2.2 (by omega) (by omega)) k20 (Nat.lt_succ_self _)
      · refine A_iconst d_MD_tree_16 rfl ?_
        exact A_iret d_MD_tree_17 (by decide) rfl ⟨_, rfl, ⟨by omega, by omega⟩, k0⟩
