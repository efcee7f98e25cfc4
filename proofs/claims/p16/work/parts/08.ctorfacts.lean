def m_Voice_init : mr_T := (⟨"PlainMusic$Voice", "<init>", "()V"⟩, prog_12_method_1_code, 1, none)
theorem d_Voice_init_0 : decode prog_12_method_1_code 0 = .ok (.aload_n 0, 1) := by decide +kernel
theorem d_Voice_init_1 : decode prog_12_method_1_code 1 = .ok (.invokespecial 3, 3) := by decide +kernel
theorem oi_Voice : Cond.methodLink "PlainMusic$Voice" 3 Lib.objectInit ∈ gw ∧ Cond.instanceMethod Lib.objectInit ∈ gw ∧ Cond.code Lib.objectInit ⟨#[0xb1]⟩ 1 none ∈ gw := ⟨(gw_in 277 (by decide +kernel) (by decide +kernel)), (gw_in 161 (by decide +kernel) (by decide +kernel)), (gw_in 162 (by decide +kernel) (by decide +kernel))⟩
theorem d_Voice_init_4 : decode prog_12_method_1_code 4 = .ok (.aload_n 0, 1) := by decide +kernel
theorem d_Voice_init_5 : decode prog_12_method_1_code 5 = .ok (.sipush 300, 3) := by decide +kernel
theorem d_Voice_init_8 : decode prog_12_method_1_code 8 = .ok (.newarray .int, 2) := by decide +kernel
theorem ac_int : Cond.arrayClass .int ∈ gw := (gw_in 219 (by decide +kernel) (by decide +kernel))
theorem d_Voice_init_10 : decode prog_12_method_1_code 10 = .ok (.putfield 9, 3) := by decide +kernel
theorem f_Voice_9 : fl_OK "PlainMusic$Voice" 9 10 0 (.array .int) true := ⟨_, rfl, by decide, (gw_in 278 (by decide +kernel) (by decide +kernel)), rfl, rfl⟩
theorem d_Voice_init_13 : decode prog_12_method_1_code 13 = .ok (.aload_n 0, 1) := by decide +kernel
theorem d_Voice_init_14 : decode prog_12_method_1_code 14 = .ok (.sipush 300, 3) := by decide +kernel
theorem d_Voice_init_17 : decode prog_12_method_1_code 17 = .ok (.newarray .int, 2) := by decide +kernel
theorem d_Voice_init_19 : decode prog_12_method_1_code 19 = .ok (.putfield 15, 3) := by decide +kernel
theorem f_Voice_15 : fl_OK "PlainMusic$Voice" 15 10 1 (.array .int) true := ⟨_, rfl, by decide, (gw_in 279 (by decide +kernel) (by decide +kernel)), rfl, rfl⟩
theorem d_Voice_init_22 : decode prog_12_method_1_code 22 = .ok (.aload_n 0, 1) := by decide +kernel
theorem d_Voice_init_23 : decode prog_12_method_1_code 23 = .ok (.sipush 301, 3) := by decide +kernel
theorem d_Voice_init_26 : decode prog_12_method_1_code 26 = .ok (.newarray .int, 2) := by decide +kernel
theorem d_Voice_init_28 : decode prog_12_method_1_code 28 = .ok (.putfield 18, 3) := by decide +kernel
theorem f_Voice_18 : fl_OK "PlainMusic$Voice" 18 10 3 (.array .int) true := ⟨_, rfl, by decide, (gw_in 281 (by decide +kernel) (by decide +kernel)), rfl, rfl⟩
theorem d_Voice_init_31 : decode prog_12_method_1_code 31 = .ok (.aload_n 0, 1) := by decide +kernel
theorem d_Voice_init_32 : decode prog_12_method_1_code 32 = .ok (.sipush 300, 3) := by decide +kernel
theorem d_Voice_init_35 : decode prog_12_method_1_code 35 = .ok (.newarray .int, 2) := by decide +kernel
theorem d_Voice_init_37 : decode prog_12_method_1_code 37 = .ok (.putfield 21, 3) := by decide +kernel
theorem f_Voice_21 : fl_OK "PlainMusic$Voice" 21 10 4 (.array .int) true := ⟨_, rfl, by decide, (gw_in 282 (by decide +kernel) (by decide +kernel)), rfl, rfl⟩
theorem d_Voice_init_40 : decode prog_12_method_1_code 40 = .ok (.aload_n 0, 1) := by decide +kernel
theorem d_Voice_init_41 : decode prog_12_method_1_code 41 = .ok (.sipush 300, 3) := by decide +kernel
theorem d_Voice_init_44 : decode prog_12_method_1_code 44 = .ok (.newarray .int, 2) := by decide +kernel
theorem d_Voice_init_46 : decode prog_12_method_1_code 46 = .ok (.putfield 24, 3) := by decide +kernel
theorem f_Voice_24 : fl_OK "PlainMusic$Voice" 24 10 5 (.array .int) true := ⟨_, rfl, by decide, (gw_in 283 (by decide +kernel) (by decide +kernel)), rfl, rfl⟩
theorem d_Voice_init_49 : decode prog_12_method_1_code 49 = .ok (.aload_n 0, 1) := by decide +kernel
theorem d_Voice_init_50 : decode prog_12_method_1_code 50 = .ok (.sipush 300, 3) := by decide +kernel
theorem d_Voice_init_53 : decode prog_12_method_1_code 53 = .ok (.newarray .boolean, 2) := by decide +kernel
theorem ac_boolean : Cond.arrayClass .boolean ∈ gw := (gw_in 349 (by decide +kernel) (by decide +kernel))
theorem d_Voice_init_55 : decode prog_12_method_1_code 55 = .ok (.putfield 27, 3) := by decide +kernel
theorem f_Voice_27 : fl_OK "PlainMusic$Voice" 27 10 6 (.array .boolean) true := ⟨_, rfl, by decide, (gw_in 284 (by decide +kernel) (by decide +kernel)), rfl, rfl⟩
theorem d_Voice_init_58 : decode prog_12_method_1_code 58 = .ok (.aload_n 0, 1) := by decide +kernel
theorem d_Voice_init_59 : decode prog_12_method_1_code 59 = .ok (.sipush 300, 3) := by decide +kernel
theorem d_Voice_init_62 : decode prog_12_method_1_code 62 = .ok (.newarray .int, 2) := by decide +kernel
theorem d_Voice_init_64 : decode prog_12_method_1_code 64 = .ok (.putfield 31, 3) := by decide +kernel
theorem f_Voice_31 : fl_OK "PlainMusic$Voice" 31 10 8 (.array .int) true := ⟨_, rfl, by decide, (gw_in 286 (by decide +kernel) (by decide +kernel)), rfl, rfl⟩
theorem d_Voice_init_67 : decode prog_12_method_1_code 67 = .ok (.aload_n 0, 1) := by decide +kernel
theorem d_Voice_init_68 : decode prog_12_method_1_code 68 = .ok (.sipush 300, 3) := by decide +kernel
theorem d_Voice_init_71 : decode prog_12_method_1_code 71 = .ok (.newarray .int, 2) := by decide +kernel
theorem d_Voice_init_73 : decode prog_12_method_1_code 73 = .ok (.putfield 34, 3) := by decide +kernel
theorem f_Voice_34 : fl_OK "PlainMusic$Voice" 34 10 9 (.array .int) true := ⟨_, rfl, by decide, (gw_in 287 (by decide +kernel) (by decide +kernel)), rfl, rfl⟩
theorem d_Voice_init_76 : decode prog_12_method_1_code 76 = .ok (.aload_n 0, 1) := by decide +kernel
theorem d_Voice_init_77 : decode prog_12_method_1_code 77 = .ok (.sipush 301, 3) := by decide +kernel
theorem d_Voice_init_80 : decode prog_12_method_1_code 80 = .ok (.newarray .long, 2) := by decide +kernel
theorem ac_long : Cond.arrayClass .long ∈ gw := (gw_in 220 (by decide +kernel) (by decide +kernel))
theorem d_Voice_init_82 : decode prog_12_method_1_code 82 = .ok (.putfield 37, 3) := by decide +kernel
theorem f_Voice_37 : fl_OK "PlainMusic$Voice" 37 10 10 (.array .long) true := ⟨_, rfl, by decide, (gw_in 288 (by decide +kernel) (by decide +kernel)), rfl, rfl⟩
theorem d_Voice_init_85 : decode prog_12_method_1_code 85 = .ok (.aload_n 0, 1) := by decide +kernel
theorem d_Voice_init_86 : decode prog_12_method_1_code 86 = .ok (.sipush 301, 3) := by decide +kernel
theorem d_Voice_init_89 : decode prog_12_method_1_code 89 = .ok (.newarray .long, 2) := by decide +kernel
theorem d_Voice_init_91 : decode prog_12_method_1_code 91 = .ok (.putfield 41, 3) := by decide +kernel
theorem f_Voice_41 : fl_OK "PlainMusic$Voice" 41 10 11 (.array .long) true := ⟨_, rfl, by decide, (gw_in 291 (by decide +kernel) (by decide +kernel)), rfl, rfl⟩
theorem d_Voice_init_94 : decode prog_12_method_1_code 94 = .ok (.aload_n 0, 1) := by decide +kernel
theorem d_Voice_init_95 : decode prog_12_method_1_code 95 = .ok (.sipush 300, 3) := by decide +kernel
theorem d_Voice_init_98 : decode prog_12_method_1_code 98 = .ok (.newarray .long, 2) := by decide +kernel
theorem d_Voice_init_100 : decode prog_12_method_1_code 100 = .ok (.putfield 44, 3) := by decide +kernel
theorem f_Voice_44 : fl_OK "PlainMusic$Voice" 44 10 12 (.array .long) true := ⟨_, rfl, by decide, (gw_in 294 (by decide +kernel) (by decide +kernel)), rfl, rfl⟩
theorem d_Voice_init_103 : decode prog_12_method_1_code 103 = .ok (.aload_n 0, 1) := by decide +kernel
theorem d_Voice_init_104 : decode prog_12_method_1_code 104 = .ok (.sipush 300, 3) := by decide +kernel
theorem d_Voice_init_107 : decode prog_12_method_1_code 107 = .ok (.newarray .long, 2) := by decide +kernel
theorem d_Voice_init_109 : decode prog_12_method_1_code 109 = .ok (.putfield 47, 3) := by decide +kernel
theorem f_Voice_47 : fl_OK "PlainMusic$Voice" 47 10 13 (.array .long) true := ⟨_, rfl, by decide, (gw_in 297 (by decide +kernel) (by decide +kernel)), rfl, rfl⟩
theorem d_Voice_init_112 : decode prog_12_method_1_code 112 = .ok (.aload_n 0, 1) := by decide +kernel
theorem d_Voice_init_113 : decode prog_12_method_1_code 113 = .ok (.bipush 102, 2) := by decide +kernel
theorem d_Voice_init_115 : decode prog_12_method_1_code 115 = .ok (.newarray .int, 2) := by decide +kernel
theorem d_Voice_init_117 : decode prog_12_method_1_code 117 = .ok (.putfield 50, 3) := by decide +kernel
theorem f_Voice_50 : fl_OK "PlainMusic$Voice" 50 10 15 (.array .int) true := ⟨_, rfl, by decide, (gw_in 305 (by decide +kernel) (by decide +kernel)), rfl, rfl⟩
theorem d_Voice_init_120 : decode prog_12_method_1_code 120 = .ok (.return_, 1) := by decide +kernel
def m_Score_init : mr_T := (⟨"PlainMusic$Score", "<init>", "()V"⟩, prog_8_method_1_code, 2, none)
theorem d_Score_init_0 : decode prog_8_method_1_code 0 = .ok (.aload_n 0, 1) := by decide +kernel
theorem d_Score_init_1 : decode prog_8_method_1_code 1 = .ok (.invokespecial 3, 3) := by decide +kernel
theorem oi_Score : Cond.methodLink "PlainMusic$Score" 3 Lib.objectInit ∈ gw ∧ Cond.instanceMethod Lib.objectInit ∈ gw ∧ Cond.code Lib.objectInit ⟨#[0xb1]⟩ 1 none ∈ gw := ⟨(gw_in 270 (by decide +kernel) (by decide +kernel)), (gw_in 161 (by decide +kernel) (by decide +kernel)), (gw_in 162 (by decide +kernel) (by decide +kernel))⟩
theorem d_Score_init_4 : decode prog_8_method_1_code 4 = .ok (.aload_n 0, 1) := by decide +kernel
theorem d_Score_init_5 : decode prog_8_method_1_code 5 = .ok (.iconst 4, 1) := by decide +kernel
theorem d_Score_init_6 : decode prog_8_method_1_code 6 = .ok (.anewarray 9, 3) := by decide +kernel
theorem cl_Score_9 : Cond.classLink "PlainMusic$Score" 9 "PlainMusic$Voice" ∈ gw := (gw_in 271 (by decide +kernel) (by decide +kernel))
theorem ao_V : Cond.arrayOver (.object RX10) ∈ lw_tbl := (List.mem_of_getElem? (i := 272) (by decide +kernel))
theorem d_Score_init_9 : decode prog_8_method_1_code 9 = .ok (.putfield 11, 3) := by decide +kernel
theorem f_Score_11 : fl_OK "PlainMusic$Score" 11 6 0 (.array (.object "PlainMusic$Voice")) true := ⟨_, rfl, by decide, (gw_in 350 (by decide +kernel) (by decide +kernel)), rfl, rfl⟩
theorem d_Score_init_12 : decode prog_8_method_1_code 12 = .ok (.aload_n 0, 1) := by decide +kernel
theorem d_Score_init_13 : decode prog_8_method_1_code 13 = .ok (.iconst 4, 1) := by decide +kernel
theorem d_Score_init_14 : decode prog_8_method_1_code 14 = .ok (.putfield 17, 3) := by decide +kernel
theorem f_Score_17 : fl_OK "PlainMusic$Score" 17 6 2 .int false := ⟨_, rfl, by decide, (gw_in 355 (by decide +kernel) (by decide +kernel)), rfl, rfl⟩
theorem d_Score_init_17 : decode prog_8_method_1_code 17 = .ok (.aload_n 0, 1) := by decide +kernel
theorem d_Score_init_18 : decode prog_8_method_1_code 18 = .ok (.iconst 4, 1) := by decide +kernel
theorem d_Score_init_19 : decode prog_8_method_1_code 19 = .ok (.putfield 21, 3) := by decide +kernel
theorem f_Score_21 : fl_OK "PlainMusic$Score" 21 6 3 .int false := ⟨_, rfl, by decide, (gw_in 358 (by decide +kernel) (by decide +kernel)), rfl, rfl⟩
theorem d_Score_init_22 : decode prog_8_method_1_code 22 = .ok (.aload_n 0, 1) := by decide +kernel
theorem d_Score_init_23 : decode prog_8_method_1_code 23 = .ok (.bipush 8, 2) := by decide +kernel
theorem d_Score_init_25 : decode prog_8_method_1_code 25 = .ok (.newarray .int, 2) := by decide +kernel
theorem d_Score_init_27 : decode prog_8_method_1_code 27 = .ok (.putfield 24, 3) := by decide +kernel
theorem f_Score_24 : fl_OK "PlainMusic$Score" 24 6 5 (.array .int) true := ⟨_, rfl, by decide, (gw_in 363 (by decide +kernel) (by decide +kernel)), rfl, rfl⟩
theorem d_Score_init_30 : decode prog_8_method_1_code 30 = .ok (.aload_n 0, 1) := by decide +kernel
theorem d_Score_init_31 : decode prog_8_method_1_code 31 = .ok (.bipush 24, 2) := by decide +kernel
theorem d_Score_init_33 : decode prog_8_method_1_code 33 = .ok (.newarray .int, 2) := by decide +kernel
theorem d_Score_init_35 : decode prog_8_method_1_code 35 = .ok (.putfield 28, 3) := by decide +kernel
theorem f_Score_28 : fl_OK "PlainMusic$Score" 28 6 7 (.array .int) true := ⟨_, rfl, by decide, (gw_in 369 (by decide +kernel) (by decide +kernel)), rfl, rfl⟩
theorem d_Score_init_38 : decode prog_8_method_1_code 38 = .ok (.aload_n 0, 1) := by decide +kernel
theorem d_Score_init_39 : decode prog_8_method_1_code 39 = .ok (.bipush 24, 2) := by decide +kernel
theorem d_Score_init_41 : decode prog_8_method_1_code 41 = .ok (.newarray .int, 2) := by decide +kernel
theorem d_Score_init_43 : decode prog_8_method_1_code 43 = .ok (.putfield 31, 3) := by decide +kernel
theorem f_Score_31 : fl_OK "PlainMusic$Score" 31 6 8 (.array .int) true := ⟨_, rfl, by decide, (gw_in 371 (by decide +kernel) (by decide +kernel)), rfl, rfl⟩
theorem d_Score_init_46 : decode prog_8_method_1_code 46 = .ok (.aload_n 0, 1) := by decide +kernel
theorem d_Score_init_47 : decode prog_8_method_1_code 47 = .ok (.bipush 24, 2) := by decide +kernel
theorem d_Score_init_49 : decode prog_8_method_1_code 49 = .ok (.newarray .int, 2) := by decide +kernel
theorem d_Score_init_51 : decode prog_8_method_1_code 51 = .ok (.putfield 34, 3) := by decide +kernel
theorem f_Score_34 : fl_OK "PlainMusic$Score" 34 6 9 (.array .int) true := ⟨_, rfl, by decide, (gw_in 373 (by decide +kernel) (by decide +kernel)), rfl, rfl⟩
theorem d_Score_init_54 : decode prog_8_method_1_code 54 = .ok (.aload_n 0, 1) := by decide +kernel
theorem d_Score_init_55 : decode prog_8_method_1_code 55 = .ok (.bipush 12, 2) := by decide +kernel
theorem d_Score_init_57 : decode prog_8_method_1_code 57 = .ok (.newarray .int, 2) := by decide +kernel
theorem d_Score_init_59 : decode prog_8_method_1_code 59 = .ok (.putfield 37, 3) := by decide +kernel
theorem f_Score_37 : fl_OK "PlainMusic$Score" 37 6 11 (.array .int) true := ⟨_, rfl, by decide, (gw_in 379 (by decide +kernel) (by decide +kernel)), rfl, rfl⟩
theorem d_Score_init_62 : decode prog_8_method_1_code 62 = .ok (.iconst 0, 1) := by decide +kernel
theorem d_Score_init_63 : decode prog_8_method_1_code 63 = .ok (.istore_n 1, 1) := by decide +kernel
theorem d_Score_init_64 : decode prog_8_method_1_code 64 = .ok (.iload_n 1, 1) := by decide +kernel
theorem d_Score_init_65 : decode prog_8_method_1_code 65 = .ok (.aload_n 0, 1) := by decide +kernel
theorem d_Score_init_66 : decode prog_8_method_1_code 66 = .ok (.getfield 11, 3) := by decide +kernel
theorem d_Score_init_69 : decode prog_8_method_1_code 69 = .ok (.arraylength, 1) := by decide +kernel
theorem d_Score_init_70 : decode prog_8_method_1_code 70 = .ok (.if_icmp .ge 22, 3) := by decide +kernel
theorem d_Score_init_73 : decode prog_8_method_1_code 73 = .ok (.aload_n 0, 1) := by decide +kernel
theorem d_Score_init_74 : decode prog_8_method_1_code 74 = .ok (.getfield 11, 3) := by decide +kernel
theorem d_Score_init_77 : decode prog_8_method_1_code 77 = .ok (.iload_n 1, 1) := by decide +kernel
theorem d_Score_init_78 : decode prog_8_method_1_code 78 = .ok (.new 9, 3) := by decide +kernel
theorem d_Score_init_81 : decode prog_8_method_1_code 81 = .ok (.dup, 1) := by decide +kernel
theorem d_Score_init_82 : decode prog_8_method_1_code 82 = .ok (.invokespecial 40, 3) := by decide +kernel
theorem l_Score_40 : ml_OK "PlainMusic$Score" 40 ⟨"PlainMusic$Voice", "<init>", "()V"⟩ := Or.inr ⟨"PlainMusic", (List.mem_of_getElem? (i := 274) (by decide +kernel))⟩
theorem k_Voice_init : mt_OK m_Voice_init 0 2 := ⟨(gw_in 276 (by decide +kernel) (by decide +kernel)), (gw_in 139 (by decide +kernel) (by decide +kernel)), ⟨by decide +kernel, by decide +kernel, by decide +kernel⟩, fun h => absurd h (by decide), fun h => absurd h (by decide), fun _ => ⟨(gw_in 275 (by decide +kernel) (by decide +kernel)), rfl, rfl⟩⟩
theorem d_Score_init_85 : decode prog_8_method_1_code 85 = .ok (.aastore, 1) := by decide +kernel
theorem d_Score_init_86 : decode prog_8_method_1_code 86 = .ok (.iinc 1 1, 3) := by decide +kernel
theorem d_Score_init_89 : decode prog_8_method_1_code 89 = .ok (.goto (-25), 3) := by decide +kernel
theorem d_Score_init_92 : decode prog_8_method_1_code 92 = .ok (.return_, 1) := by decide +kernel
def m_Tokens_init : mr_T := (⟨"PlainMusic$Tokens", "<init>", "()V"⟩, prog_10_method_1_code, 1, none)
theorem d_Tokens_init_0 : decode prog_10_method_1_code 0 = .ok (.aload_n 0, 1) := by decide +kernel
theorem d_Tokens_init_1 : decode prog_10_method_1_code 1 = .ok (.invokespecial 3, 3) := by decide +kernel
theorem oi_Tokens : Cond.methodLink "PlainMusic$Tokens" 3 Lib.objectInit ∈ gw ∧ Cond.instanceMethod Lib.objectInit ∈ gw ∧ Cond.code Lib.objectInit ⟨#[0xb1]⟩ 1 none ∈ gw := ⟨(gw_in 174 (by decide +kernel) (by decide +kernel)), (gw_in 161 (by decide +kernel) (by decide +kernel)), (gw_in 162 (by decide +kernel) (by decide +kernel))⟩
theorem d_Tokens_init_4 : decode prog_10_method_1_code 4 = .ok (.aload_n 0, 1) := by decide +kernel
theorem d_Tokens_init_5 : decode prog_10_method_1_code 5 = .ok (.sipush 2001, 3) := by decide +kernel
theorem d_Tokens_init_8 : decode prog_10_method_1_code 8 = .ok (.newarray .int, 2) := by decide +kernel
theorem d_Tokens_init_10 : decode prog_10_method_1_code 10 = .ok (.putfield 9, 3) := by decide +kernel
theorem f_Tokens_9 : fl_OK "PlainMusic$Tokens" 9 8 0 (.array .int) true := ⟨_, rfl, by decide, (gw_in 175 (by decide +kernel) (by decide +kernel)), rfl, rfl⟩
theorem d_Tokens_init_13 : decode prog_10_method_1_code 13 = .ok (.aload_n 0, 1) := by decide +kernel
theorem d_Tokens_init_14 : decode prog_10_method_1_code 14 = .ok (.sipush 2001, 3) := by decide +kernel
theorem d_Tokens_init_17 : decode prog_10_method_1_code 17 = .ok (.newarray .int, 2) := by decide +kernel
theorem d_Tokens_init_19 : decode prog_10_method_1_code 19 = .ok (.putfield 15, 3) := by decide +kernel
theorem f_Tokens_15 : fl_OK "PlainMusic$Tokens" 15 8 1 (.array .int) true := ⟨_, rfl, by decide, (gw_in 176 (by decide +kernel) (by decide +kernel)), rfl, rfl⟩
theorem d_Tokens_init_22 : decode prog_10_method_1_code 22 = .ok (.aload_n 0, 1) := by decide +kernel
theorem d_Tokens_init_23 : decode prog_10_method_1_code 23 = .ok (.sipush 2001, 3) := by decide +kernel
theorem d_Tokens_init_26 : decode prog_10_method_1_code 26 = .ok (.newarray .long, 2) := by decide +kernel
theorem d_Tokens_init_28 : decode prog_10_method_1_code 28 = .ok (.putfield 18, 3) := by decide +kernel
theorem f_Tokens_18 : fl_OK "PlainMusic$Tokens" 18 8 2 (.array .long) true := ⟨_, rfl, by decide, (gw_in 177 (by decide +kernel) (by decide +kernel)), rfl, rfl⟩
theorem d_Tokens_init_31 : decode prog_10_method_1_code 31 = .ok (.aload_n 0, 1) := by decide +kernel
theorem d_Tokens_init_32 : decode prog_10_method_1_code 32 = .ok (.sipush 2001, 3) := by decide +kernel
theorem d_Tokens_init_35 : decode prog_10_method_1_code 35 = .ok (.newarray .int, 2) := by decide +kernel
theorem d_Tokens_init_37 : decode prog_10_method_1_code 37 = .ok (.putfield 22, 3) := by decide +kernel
theorem f_Tokens_22 : fl_OK "PlainMusic$Tokens" 22 8 3 (.array .int) true := ⟨_, rfl, by decide, (gw_in 178 (by decide +kernel) (by decide +kernel)), rfl, rfl⟩
theorem d_Tokens_init_40 : decode prog_10_method_1_code 40 = .ok (.aload_n 0, 1) := by decide +kernel
theorem d_Tokens_init_41 : decode prog_10_method_1_code 41 = .ok (.iconst 0, 1) := by decide +kernel
theorem d_Tokens_init_42 : decode prog_10_method_1_code 42 = .ok (.newarray .int, 2) := by decide +kernel
theorem d_Tokens_init_44 : decode prog_10_method_1_code 44 = .ok (.putfield 25, 3) := by decide +kernel
theorem f_Tokens_25 : fl_OK "PlainMusic$Tokens" 25 8 6 (.array .int) false := ⟨_, rfl, by decide, (gw_in 181 (by decide +kernel) (by decide +kernel)), rfl, rfl⟩
theorem d_Tokens_init_47 : decode prog_10_method_1_code 47 = .ok (.return_, 1) := by decide +kernel
def m_Parts_init : mr_T := (⟨"PlainMusic$Parts", "<init>", "()V"⟩, prog_6_method_1_code, 1, none)
theorem d_Parts_init_0 : decode prog_6_method_1_code 0 = .ok (.aload_n 0, 1) := by decide +kernel
theorem d_Parts_init_1 : decode prog_6_method_1_code 1 = .ok (.invokespecial 3, 3) := by decide +kernel
theorem oi_Parts : Cond.methodLink "PlainMusic$Parts" 3 Lib.objectInit ∈ gw ∧ Cond.instanceMethod Lib.objectInit ∈ gw ∧ Cond.code Lib.objectInit ⟨#[0xb1]⟩ 1 none ∈ gw := ⟨(gw_in 226 (by decide +kernel) (by decide +kernel)), (gw_in 161 (by decide +kernel) (by decide +kernel)), (gw_in 162 (by decide +kernel) (by decide +kernel))⟩
theorem d_Parts_init_4 : decode prog_6_method_1_code 4 = .ok (.aload_n 0, 1) := by decide +kernel
theorem d_Parts_init_5 : decode prog_6_method_1_code 5 = .ok (.sipush 2000, 3) := by decide +kernel
theorem d_Parts_init_8 : decode prog_6_method_1_code 8 = .ok (.newarray .int, 2) := by decide +kernel
theorem d_Parts_init_10 : decode prog_6_method_1_code 10 = .ok (.putfield 9, 3) := by decide +kernel
theorem f_Parts_9 : fl_OK "PlainMusic$Parts" 9 4 0 (.array .int) true := ⟨_, rfl, by decide, (gw_in 227 (by decide +kernel) (by decide +kernel)), rfl, rfl⟩
theorem d_Parts_init_13 : decode prog_6_method_1_code 13 = .ok (.aload_n 0, 1) := by decide +kernel
theorem d_Parts_init_14 : decode prog_6_method_1_code 14 = .ok (.sipush 2000, 3) := by decide +kernel
theorem d_Parts_init_17 : decode prog_6_method_1_code 17 = .ok (.newarray .int, 2) := by decide +kernel
theorem d_Parts_init_19 : decode prog_6_method_1_code 19 = .ok (.putfield 15, 3) := by decide +kernel
theorem f_Parts_15 : fl_OK "PlainMusic$Parts" 15 4 1 (.array .int) true := ⟨_, rfl, by decide, (gw_in 228 (by decide +kernel) (by decide +kernel)), rfl, rfl⟩
theorem d_Parts_init_22 : decode prog_6_method_1_code 22 = .ok (.aload_n 0, 1) := by decide +kernel
theorem d_Parts_init_23 : decode prog_6_method_1_code 23 = .ok (.sipush 2000, 3) := by decide +kernel
theorem d_Parts_init_26 : decode prog_6_method_1_code 26 = .ok (.newarray .int, 2) := by decide +kernel
theorem d_Parts_init_28 : decode prog_6_method_1_code 28 = .ok (.putfield 18, 3) := by decide +kernel
theorem f_Parts_18 : fl_OK "PlainMusic$Parts" 18 4 2 (.array .int) true := ⟨_, rfl, by decide, (gw_in 229 (by decide +kernel) (by decide +kernel)), rfl, rfl⟩
theorem d_Parts_init_31 : decode prog_6_method_1_code 31 = .ok (.aload_n 0, 1) := by decide +kernel
theorem d_Parts_init_32 : decode prog_6_method_1_code 32 = .ok (.sipush 2000, 3) := by decide +kernel
theorem d_Parts_init_35 : decode prog_6_method_1_code 35 = .ok (.newarray .int, 2) := by decide +kernel
theorem d_Parts_init_37 : decode prog_6_method_1_code 37 = .ok (.putfield 21, 3) := by decide +kernel
theorem f_Parts_21 : fl_OK "PlainMusic$Parts" 21 4 3 (.array .int) true := ⟨_, rfl, by decide, (gw_in 230 (by decide +kernel) (by decide +kernel)), rfl, rfl⟩
theorem d_Parts_init_40 : decode prog_6_method_1_code 40 = .ok (.aload_n 0, 1) := by decide +kernel
theorem d_Parts_init_41 : decode prog_6_method_1_code 41 = .ok (.bipush 7, 2) := by decide +kernel
theorem d_Parts_init_43 : decode prog_6_method_1_code 43 = .ok (.newarray .int, 2) := by decide +kernel
theorem d_Parts_init_45 : decode prog_6_method_1_code 45 = .ok (.putfield 24, 3) := by decide +kernel
theorem f_Parts_24 : fl_OK "PlainMusic$Parts" 24 4 5 (.array .int) true := ⟨_, rfl, by decide, (gw_in 232 (by decide +kernel) (by decide +kernel)), rfl, rfl⟩
theorem d_Parts_init_48 : decode prog_6_method_1_code 48 = .ok (.aload_n 0, 1) := by decide +kernel
theorem d_Parts_init_49 : decode prog_6_method_1_code 49 = .ok (.bipush 7, 2) := by decide +kernel
theorem d_Parts_init_51 : decode prog_6_method_1_code 51 = .ok (.newarray .int, 2) := by decide +kernel
theorem d_Parts_init_53 : decode prog_6_method_1_code 53 = .ok (.putfield 27, 3) := by decide +kernel
theorem f_Parts_27 : fl_OK "PlainMusic$Parts" 27 4 6 (.array .int) true := ⟨_, rfl, by decide, (gw_in 233 (by decide +kernel) (by decide +kernel)), rfl, rfl⟩
theorem d_Parts_init_56 : decode prog_6_method_1_code 56 = .ok (.return_, 1) := by decide +kernel
def m_Reader_init : mr_T := (⟨"PlainMusic$Reader", "<init>", "()V"⟩, prog_7_method_1_code, 1, none)
theorem d_Reader_init_0 : decode prog_7_method_1_code 0 = .ok (.aload_n 0, 1) := by decide +kernel
theorem d_Reader_init_1 : decode prog_7_method_1_code 1 = .ok (.invokespecial 3, 3) := by decide +kernel
theorem oi_Reader : Cond.methodLink "PlainMusic$Reader" 3 Lib.objectInit ∈ gw ∧ Cond.instanceMethod Lib.objectInit ∈ gw ∧ Cond.code Lib.objectInit ⟨#[0xb1]⟩ 1 none ∈ gw := ⟨(gw_in 168 (by decide +kernel) (by decide +kernel)), (gw_in 161 (by decide +kernel) (by decide +kernel)), (gw_in 162 (by decide +kernel) (by decide +kernel))⟩
theorem d_Reader_init_4 : decode prog_7_method_1_code 4 = .ok (.aload_n 0, 1) := by decide +kernel
theorem d_Reader_init_5 : decode prog_7_method_1_code 5 = .ok (.new 9, 3) := by decide +kernel
theorem cl_Reader_9 : Cond.classLink "PlainMusic$Reader" 9 "PlainMusic$Tokens" ∈ gw := (gw_in 169 (by decide +kernel) (by decide +kernel))
theorem d_Reader_init_8 : decode prog_7_method_1_code 8 = .ok (.dup, 1) := by decide +kernel
theorem d_Reader_init_9 : decode prog_7_method_1_code 9 = .ok (.invokespecial 11, 3) := by decide +kernel
theorem l_Reader_11 : ml_OK "PlainMusic$Reader" 11 ⟨"PlainMusic$Tokens", "<init>", "()V"⟩ := Or.inr ⟨"PlainMusic", (List.mem_of_getElem? (i := 171) (by decide +kernel))⟩
theorem k_Tokens_init : mt_OK m_Tokens_init 0 2 := ⟨(gw_in 173 (by decide +kernel) (by decide +kernel)), (gw_in 136 (by decide +kernel) (by decide +kernel)), ⟨by decide +kernel, by decide +kernel, by decide +kernel⟩, fun h => absurd h (by decide), fun h => absurd h (by decide), fun _ => ⟨(gw_in 172 (by decide +kernel) (by decide +kernel)), rfl, rfl⟩⟩
theorem d_Reader_init_12 : decode prog_7_method_1_code 12 = .ok (.putfield 12, 3) := by decide +kernel
theorem f_Reader_12 : fl_OK "PlainMusic$Reader" 12 5 0 (.object "PlainMusic$Tokens") true := ⟨_, rfl, by decide, (gw_in 412 (by decide +kernel) (by decide +kernel)), rfl, rfl⟩
theorem d_Reader_init_15 : decode prog_7_method_1_code 15 = .ok (.aload_n 0, 1) := by decide +kernel
theorem d_Reader_init_16 : decode prog_7_method_1_code 16 = .ok (.new 18, 3) := by decide +kernel
theorem cl_Reader_18 : Cond.classLink "PlainMusic$Reader" 18 "PlainMusic$Parts" ∈ gw := (gw_in 221 (by decide +kernel) (by decide +kernel))
theorem d_Reader_init_19 : decode prog_7_method_1_code 19 = .ok (.dup, 1) := by decide +kernel
theorem d_Reader_init_20 : decode prog_7_method_1_code 20 = .ok (.invokespecial 20, 3) := by decide +kernel
theorem l_Reader_20 : ml_OK "PlainMusic$Reader" 20 ⟨"PlainMusic$Parts", "<init>", "()V"⟩ := Or.inr ⟨"PlainMusic", (List.mem_of_getElem? (i := 223) (by decide +kernel))⟩
theorem k_Parts_init : mt_OK m_Parts_init 0 2 := ⟨(gw_in 225 (by decide +kernel) (by decide +kernel)), (gw_in 137 (by decide +kernel) (by decide +kernel)), ⟨by decide +kernel, by decide +kernel, by decide +kernel⟩, fun h => absurd h (by decide), fun h => absurd h (by decide), fun _ => ⟨(gw_in 224 (by decide +kernel) (by decide +kernel)), rfl, rfl⟩⟩
theorem d_Reader_init_23 : decode prog_7_method_1_code 23 = .ok (.putfield 21, 3) := by decide +kernel
theorem f_Reader_21 : fl_OK "PlainMusic$Reader" 21 5 1 (.object "PlainMusic$Parts") true := ⟨_, rfl, by decide, (gw_in 413 (by decide +kernel) (by decide +kernel)), rfl, rfl⟩
theorem d_Reader_init_26 : decode prog_7_method_1_code 26 = .ok (.aload_n 0, 1) := by decide +kernel
theorem d_Reader_init_27 : decode prog_7_method_1_code 27 = .ok (.bipush 16, 2) := by decide +kernel
theorem d_Reader_init_29 : decode prog_7_method_1_code 29 = .ok (.newarray .long, 2) := by decide +kernel
theorem d_Reader_init_31 : decode prog_7_method_1_code 31 = .ok (.putfield 25, 3) := by decide +kernel
theorem f_Reader_25 : fl_OK "PlainMusic$Reader" 25 5 2 (.array .long) true := ⟨_, rfl, by decide, (gw_in 414 (by decide +kernel) (by decide +kernel)), rfl, rfl⟩
theorem d_Reader_init_34 : decode prog_7_method_1_code 34 = .ok (.aload_n 0, 1) := by decide +kernel
theorem d_Reader_init_35 : decode prog_7_method_1_code 35 = .ok (.new 29, 3) := by decide +kernel
theorem cl_Reader_29 : Cond.classLink "PlainMusic$Reader" 29 "PlainMusic$Score" ∈ gw := (gw_in 265 (by decide +kernel) (by decide +kernel))
theorem d_Reader_init_38 : decode prog_7_method_1_code 38 = .ok (.dup, 1) := by decide +kernel
theorem d_Reader_init_39 : decode prog_7_method_1_code 39 = .ok (.invokespecial 31, 3) := by decide +kernel
theorem l_Reader_31 : ml_OK "PlainMusic$Reader" 31 ⟨"PlainMusic$Score", "<init>", "()V"⟩ := Or.inl (gw_in 267 (by decide +kernel) (by decide +kernel))
theorem k_Score_init : mt_OK m_Score_init 0 2 := ⟨(gw_in 269 (by decide +kernel) (by decide +kernel)), (gw_in 138 (by decide +kernel) (by decide +kernel)), ⟨by decide +kernel, by decide +kernel, by decide +kernel⟩, fun h => absurd h (by decide), fun h => absurd h (by decide), fun _ => ⟨(gw_in 268 (by decide +kernel) (by decide +kernel)), rfl, rfl⟩⟩
theorem d_Reader_init_42 : decode prog_7_method_1_code 42 = .ok (.putfield 32, 3) := by decide +kernel
theorem f_Reader_32 : fl_OK "PlainMusic$Reader" 32 5 5 (.object "PlainMusic$Score") false := ⟨_, rfl, by decide, (gw_in 417 (by decide +kernel) (by decide +kernel)), rfl, rfl⟩
theorem d_Reader_init_45 : decode prog_7_method_1_code 45 = .ok (.return_, 1) := by decide +kernel
def m_Judge_init : mr_T := (⟨"PlainMusic$Judge", "<init>", "()V"⟩, prog_3_method_1_code, 1, none)
theorem d_Judge_init_0 : decode prog_3_method_1_code 0 = .ok (.aload_n 0, 1) := by decide +kernel
theorem d_Judge_init_1 : decode prog_3_method_1_code 1 = .ok (.invokespecial 3, 3) := by decide +kernel
theorem oi_Judge : Cond.methodLink "PlainMusic$Judge" 3 Lib.objectInit ∈ gw ∧ Cond.instanceMethod Lib.objectInit ∈ gw ∧ Cond.code Lib.objectInit ⟨#[0xb1]⟩ 1 none ∈ gw := ⟨(gw_in 445 (by decide +kernel) (by decide +kernel)), (gw_in 161 (by decide +kernel) (by decide +kernel)), (gw_in 162 (by decide +kernel) (by decide +kernel))⟩
theorem d_Judge_init_4 : decode prog_3_method_1_code 4 = .ok (.aload_n 0, 1) := by decide +kernel
theorem d_Judge_init_5 : decode prog_3_method_1_code 5 = .ok (.sipush 6404, 3) := by decide +kernel
theorem d_Judge_init_8 : decode prog_3_method_1_code 8 = .ok (.newarray .int, 2) := by decide +kernel
theorem d_Judge_init_10 : decode prog_3_method_1_code 10 = .ok (.putfield 11, 3) := by decide +kernel
theorem f_Judge_11 : fl_OK "PlainMusic$Judge" 11 1 0 (.array .int) true := ⟨_, rfl, by decide, (gw_in 446 (by decide +kernel) (by decide +kernel)), rfl, rfl⟩
theorem d_Judge_init_13 : decode prog_3_method_1_code 13 = .ok (.aload_n 0, 1) := by decide +kernel
theorem d_Judge_init_14 : decode prog_3_method_1_code 14 = .ok (.iconst 4, 1) := by decide +kernel
theorem d_Judge_init_15 : decode prog_3_method_1_code 15 = .ok (.newarray .int, 2) := by decide +kernel
theorem d_Judge_init_17 : decode prog_3_method_1_code 17 = .ok (.putfield 15, 3) := by decide +kernel
theorem f_Judge_15 : fl_OK "PlainMusic$Judge" 15 1 2 (.array .int) true := ⟨_, rfl, by decide, (gw_in 448 (by decide +kernel) (by decide +kernel)), rfl, rfl⟩
theorem d_Judge_init_20 : decode prog_3_method_1_code 20 = .ok (.return_, 1) := by decide +kernel
def m_Beams_init : mr_T := (⟨"PlainMusic$Beams", "<init>", "()V"⟩, prog_2_method_1_code, 1, none)
theorem d_Beams_init_0 : decode prog_2_method_1_code 0 = .ok (.aload_n 0, 1) := by decide +kernel
theorem d_Beams_init_1 : decode prog_2_method_1_code 1 = .ok (.invokespecial 3, 3) := by decide +kernel
theorem oi_Beams : Cond.methodLink "PlainMusic$Beams" 3 Lib.objectInit ∈ gw ∧ Cond.instanceMethod Lib.objectInit ∈ gw ∧ Cond.code Lib.objectInit ⟨#[0xb1]⟩ 1 none ∈ gw := ⟨(gw_in 461 (by decide +kernel) (by decide +kernel)), (gw_in 161 (by decide +kernel) (by decide +kernel)), (gw_in 162 (by decide +kernel) (by decide +kernel))⟩
theorem d_Beams_init_4 : decode prog_2_method_1_code 4 = .ok (.aload_n 0, 1) := by decide +kernel
theorem d_Beams_init_5 : decode prog_2_method_1_code 5 = .ok (.bipush 14, 2) := by decide +kernel
theorem d_Beams_init_7 : decode prog_2_method_1_code 7 = .ok (.newarray .int, 2) := by decide +kernel
theorem d_Beams_init_9 : decode prog_2_method_1_code 9 = .ok (.putfield 11, 3) := by decide +kernel
theorem f_Beams_11 : fl_OK "PlainMusic$Beams" 11 0 0 (.array .int) true := ⟨_, rfl, by decide, (gw_in 462 (by decide +kernel) (by decide +kernel)), rfl, rfl⟩
theorem d_Beams_init_12 : decode prog_2_method_1_code 12 = .ok (.aload_n 0, 1) := by decide +kernel
theorem d_Beams_init_13 : decode prog_2_method_1_code 13 = .ok (.bipush 15, 2) := by decide +kernel
theorem d_Beams_init_15 : decode prog_2_method_1_code 15 = .ok (.newarray .int, 2) := by decide +kernel
theorem d_Beams_init_17 : decode prog_2_method_1_code 17 = .ok (.putfield 15, 3) := by decide +kernel
theorem f_Beams_15 : fl_OK "PlainMusic$Beams" 15 0 2 (.array .int) true := ⟨_, rfl, by decide, (gw_in 464 (by decide +kernel) (by decide +kernel)), rfl, rfl⟩
theorem d_Beams_init_20 : decode prog_2_method_1_code 20 = .ok (.aload_n 0, 1) := by decide +kernel
theorem d_Beams_init_21 : decode prog_2_method_1_code 21 = .ok (.bipush 15, 2) := by decide +kernel
theorem d_Beams_init_23 : decode prog_2_method_1_code 23 = .ok (.newarray .int, 2) := by decide +kernel
theorem d_Beams_init_25 : decode prog_2_method_1_code 25 = .ok (.putfield 18, 3) := by decide +kernel
theorem f_Beams_18 : fl_OK "PlainMusic$Beams" 18 0 3 (.array .int) true := ⟨_, rfl, by decide, (gw_in 465 (by decide +kernel) (by decide +kernel)), rfl, rfl⟩
theorem d_Beams_init_28 : decode prog_2_method_1_code 28 = .ok (.return_, 1) := by decide +kernel
def m_Page_init : mr_T := (⟨"PlainMusic$Page", "<init>", "()V"⟩, prog_4_method_1_code, 1, none)
theorem d_Page_init_0 : decode prog_4_method_1_code 0 = .ok (.aload_n 0, 1) := by decide +kernel
theorem d_Page_init_1 : decode prog_4_method_1_code 1 = .ok (.invokespecial 3, 3) := by decide +kernel
theorem oi_Page : Cond.methodLink "PlainMusic$Page" 3 Lib.objectInit ∈ gw ∧ Cond.instanceMethod Lib.objectInit ∈ gw ∧ Cond.code Lib.objectInit ⟨#[0xb1]⟩ 1 none ∈ gw := ⟨(gw_in 480 (by decide +kernel) (by decide +kernel)), (gw_in 161 (by decide +kernel) (by decide +kernel)), (gw_in 162 (by decide +kernel) (by decide +kernel))⟩
theorem d_Page_init_4 : decode prog_4_method_1_code 4 = .ok (.aload_n 0, 1) := by decide +kernel
theorem d_Page_init_5 : decode prog_4_method_1_code 5 = .ok (.bipush 14, 2) := by decide +kernel
theorem d_Page_init_7 : decode prog_4_method_1_code 7 = .ok (.newarray .int, 2) := by decide +kernel
theorem d_Page_init_9 : decode prog_4_method_1_code 9 = .ok (.putfield 11, 3) := by decide +kernel
theorem f_Page_11 : fl_OK "PlainMusic$Page" 11 2 0 (.array .int) true := ⟨_, rfl, by decide, (gw_in 481 (by decide +kernel) (by decide +kernel)), rfl, rfl⟩
theorem d_Page_init_12 : decode prog_4_method_1_code 12 = .ok (.aload_n 0, 1) := by decide +kernel
theorem d_Page_init_13 : decode prog_4_method_1_code 13 = .ok (.bipush 14, 2) := by decide +kernel
theorem d_Page_init_15 : decode prog_4_method_1_code 15 = .ok (.newarray .int, 2) := by decide +kernel
theorem d_Page_init_17 : decode prog_4_method_1_code 17 = .ok (.putfield 15, 3) := by decide +kernel
theorem f_Page_15 : fl_OK "PlainMusic$Page" 15 2 2 (.array .int) true := ⟨_, rfl, by decide, (gw_in 483 (by decide +kernel) (by decide +kernel)), rfl, rfl⟩
theorem d_Page_init_20 : decode prog_4_method_1_code 20 = .ok (.aload_n 0, 1) := by decide +kernel
theorem d_Page_init_21 : decode prog_4_method_1_code 21 = .ok (.bipush 15, 2) := by decide +kernel
theorem d_Page_init_23 : decode prog_4_method_1_code 23 = .ok (.newarray .long, 2) := by decide +kernel
theorem d_Page_init_25 : decode prog_4_method_1_code 25 = .ok (.putfield 18, 3) := by decide +kernel
theorem f_Page_18 : fl_OK "PlainMusic$Page" 18 2 3 (.array .long) true := ⟨_, rfl, by decide, (gw_in 484 (by decide +kernel) (by decide +kernel)), rfl, rfl⟩
theorem d_Page_init_28 : decode prog_4_method_1_code 28 = .ok (.aload_n 0, 1) := by decide +kernel
theorem d_Page_init_29 : decode prog_4_method_1_code 29 = .ok (.bipush 15, 2) := by decide +kernel
theorem d_Page_init_31 : decode prog_4_method_1_code 31 = .ok (.newarray .int, 2) := by decide +kernel
theorem d_Page_init_33 : decode prog_4_method_1_code 33 = .ok (.putfield 22, 3) := by decide +kernel
theorem f_Page_22 : fl_OK "PlainMusic$Page" 22 2 4 (.array .int) true := ⟨_, rfl, by decide, (gw_in 485 (by decide +kernel) (by decide +kernel)), rfl, rfl⟩
theorem d_Page_init_36 : decode prog_4_method_1_code 36 = .ok (.aload_n 0, 1) := by decide +kernel
theorem d_Page_init_37 : decode prog_4_method_1_code 37 = .ok (.iconst 4, 1) := by decide +kernel
theorem d_Page_init_38 : decode prog_4_method_1_code 38 = .ok (.newarray .int, 2) := by decide +kernel
theorem d_Page_init_40 : decode prog_4_method_1_code 40 = .ok (.putfield 25, 3) := by decide +kernel
theorem f_Page_25 : fl_OK "PlainMusic$Page" 25 2 5 (.array .int) true := ⟨_, rfl, by decide, (gw_in 486 (by decide +kernel) (by decide +kernel)), rfl, rfl⟩
theorem d_Page_init_43 : decode prog_4_method_1_code 43 = .ok (.aload_n 0, 1) := by decide +kernel
theorem d_Page_init_44 : decode prog_4_method_1_code 44 = .ok (.iconst 4, 1) := by decide +kernel
theorem d_Page_init_45 : decode prog_4_method_1_code 45 = .ok (.newarray .long, 2) := by decide +kernel
theorem d_Page_init_47 : decode prog_4_method_1_code 47 = .ok (.putfield 28, 3) := by decide +kernel
theorem f_Page_28 : fl_OK "PlainMusic$Page" 28 2 6 (.array .long) true := ⟨_, rfl, by decide, (gw_in 487 (by decide +kernel) (by decide +kernel)), rfl, rfl⟩
theorem d_Page_init_50 : decode prog_4_method_1_code 50 = .ok (.aload_n 0, 1) := by decide +kernel
theorem d_Page_init_51 : decode prog_4_method_1_code 51 = .ok (.iconst 4, 1) := by decide +kernel
theorem d_Page_init_52 : decode prog_4_method_1_code 52 = .ok (.newarray .long, 2) := by decide +kernel
theorem d_Page_init_54 : decode prog_4_method_1_code 54 = .ok (.putfield 31, 3) := by decide +kernel
theorem f_Page_31 : fl_OK "PlainMusic$Page" 31 2 7 (.array .long) true := ⟨_, rfl, by decide, (gw_in 488 (by decide +kernel) (by decide +kernel)), rfl, rfl⟩
theorem d_Page_init_57 : decode prog_4_method_1_code 57 = .ok (.return_, 1) := by decide +kernel
def m_Seconds_init : mr_T := (⟨"PlainMusic$Seconds", "<init>", "()V"⟩, prog_9_method_1_code, 1, none)
theorem d_Seconds_init_0 : decode prog_9_method_1_code 0 = .ok (.aload_n 0, 1) := by decide +kernel
theorem d_Seconds_init_1 : decode prog_9_method_1_code 1 = .ok (.invokespecial 3, 3) := by decide +kernel
theorem oi_Seconds : Cond.methodLink "PlainMusic$Seconds" 3 Lib.objectInit ∈ gw ∧ Cond.instanceMethod Lib.objectInit ∈ gw ∧ Cond.code Lib.objectInit ⟨#[0xb1]⟩ 1 none ∈ gw := ⟨(gw_in 511 (by decide +kernel) (by decide +kernel)), (gw_in 161 (by decide +kernel) (by decide +kernel)), (gw_in 162 (by decide +kernel) (by decide +kernel))⟩
theorem d_Seconds_init_4 : decode prog_9_method_1_code 4 = .ok (.aload_n 0, 1) := by decide +kernel
theorem d_Seconds_init_5 : decode prog_9_method_1_code 5 = .ok (.sipush 1563, 3) := by decide +kernel
theorem d_Seconds_init_8 : decode prog_9_method_1_code 8 = .ok (.newarray .long, 2) := by decide +kernel
theorem d_Seconds_init_10 : decode prog_9_method_1_code 10 = .ok (.putfield 11, 3) := by decide +kernel
theorem f_Seconds_11 : fl_OK "PlainMusic$Seconds" 11 7 0 (.array .long) true := ⟨_, rfl, by decide, (gw_in 512 (by decide +kernel) (by decide +kernel)), rfl, rfl⟩
theorem d_Seconds_init_13 : decode prog_9_method_1_code 13 = .ok (.aload_n 0, 1) := by decide +kernel
theorem d_Seconds_init_14 : decode prog_9_method_1_code 14 = .ok (.bipush 8, 2) := by decide +kernel
theorem d_Seconds_init_16 : decode prog_9_method_1_code 16 = .ok (.newarray .int, 2) := by decide +kernel
theorem d_Seconds_init_18 : decode prog_9_method_1_code 18 = .ok (.putfield 15, 3) := by decide +kernel
theorem f_Seconds_15 : fl_OK "PlainMusic$Seconds" 15 7 6 (.array .int) true := ⟨_, rfl, by decide, (gw_in 518 (by decide +kernel) (by decide +kernel)), rfl, rfl⟩
theorem d_Seconds_init_21 : decode prog_9_method_1_code 21 = .ok (.aload_n 0, 1) := by decide +kernel
theorem d_Seconds_init_22 : decode prog_9_method_1_code 22 = .ok (.bipush 8, 2) := by decide +kernel
theorem d_Seconds_init_24 : decode prog_9_method_1_code 24 = .ok (.newarray .int, 2) := by decide +kernel
theorem d_Seconds_init_26 : decode prog_9_method_1_code 26 = .ok (.putfield 19, 3) := by decide +kernel
theorem f_Seconds_19 : fl_OK "PlainMusic$Seconds" 19 7 7 (.array .int) true := ⟨_, rfl, by decide, (gw_in 519 (by decide +kernel) (by decide +kernel)), rfl, rfl⟩
theorem d_Seconds_init_29 : decode prog_9_method_1_code 29 = .ok (.return_, 1) := by decide +kernel
def m_Trees_init : mr_T := (⟨"PlainMusic$Trees", "<init>", "()V"⟩, prog_11_method_1_code, 1, none)
theorem d_Trees_init_0 : decode prog_11_method_1_code 0 = .ok (.aload_n 0, 1) := by decide +kernel
theorem d_Trees_init_1 : decode prog_11_method_1_code 1 = .ok (.invokespecial 3, 3) := by decide +kernel
theorem oi_Trees : Cond.methodLink "PlainMusic$Trees" 3 Lib.objectInit ∈ gw ∧ Cond.instanceMethod Lib.objectInit ∈ gw ∧ Cond.code Lib.objectInit ⟨#[0xb1]⟩ 1 none ∈ gw := ⟨(gw_in 542 (by decide +kernel) (by decide +kernel)), (gw_in 161 (by decide +kernel) (by decide +kernel)), (gw_in 162 (by decide +kernel) (by decide +kernel))⟩
theorem d_Trees_init_4 : decode prog_11_method_1_code 4 = .ok (.aload_n 0, 1) := by decide +kernel
theorem d_Trees_init_5 : decode prog_11_method_1_code 5 = .ok (.sipush 2704, 3) := by decide +kernel
theorem d_Trees_init_8 : decode prog_11_method_1_code 8 = .ok (.newarray .int, 2) := by decide +kernel
theorem d_Trees_init_10 : decode prog_11_method_1_code 10 = .ok (.putfield 11, 3) := by decide +kernel
theorem f_Trees_11 : fl_OK "PlainMusic$Trees" 11 9 0 (.array .int) true := ⟨_, rfl, by decide, (gw_in 543 (by decide +kernel) (by decide +kernel)), rfl, rfl⟩
theorem d_Trees_init_13 : decode prog_11_method_1_code 13 = .ok (.return_, 1) := by decide +kernel
def m_Pairing_init : mr_T := (⟨"PlainMusic$Pairing", "<init>", "()V"⟩, prog_5_method_1_code, 1, none)
theorem d_Pairing_init_0 : decode prog_5_method_1_code 0 = .ok (.aload_n 0, 1) := by decide +kernel
theorem d_Pairing_init_1 : decode prog_5_method_1_code 1 = .ok (.invokespecial 5, 3) := by decide +kernel
theorem oi_Pairing : Cond.methodLink "PlainMusic$Pairing" 5 Lib.objectInit ∈ gw ∧ Cond.instanceMethod Lib.objectInit ∈ gw ∧ Cond.code Lib.objectInit ⟨#[0xb1]⟩ 1 none ∈ gw := ⟨(gw_in 567 (by decide +kernel) (by decide +kernel)), (gw_in 161 (by decide +kernel) (by decide +kernel)), (gw_in 162 (by decide +kernel) (by decide +kernel))⟩
theorem d_Pairing_init_4 : decode prog_5_method_1_code 4 = .ok (.aload_n 0, 1) := by decide +kernel
theorem d_Pairing_init_5 : decode prog_5_method_1_code 5 = .ok (.bipush 80, 2) := by decide +kernel
theorem d_Pairing_init_7 : decode prog_5_method_1_code 7 = .ok (.newarray .int, 2) := by decide +kernel
theorem d_Pairing_init_9 : decode prog_5_method_1_code 9 = .ok (.putfield 11, 3) := by decide +kernel
theorem f_Pairing_11 : fl_OK "PlainMusic$Pairing" 11 3 0 (.array .int) true := ⟨_, rfl, by decide, (gw_in 568 (by decide +kernel) (by decide +kernel)), rfl, rfl⟩
theorem d_Pairing_init_12 : decode prog_5_method_1_code 12 = .ok (.aload_n 0, 1) := by decide +kernel
theorem d_Pairing_init_13 : decode prog_5_method_1_code 13 = .ok (.bipush 80, 2) := by decide +kernel
theorem d_Pairing_init_15 : decode prog_5_method_1_code 15 = .ok (.newarray .int, 2) := by decide +kernel
theorem d_Pairing_init_17 : decode prog_5_method_1_code 17 = .ok (.putfield 15, 3) := by decide +kernel
theorem f_Pairing_15 : fl_OK "PlainMusic$Pairing" 15 3 1 (.array .int) true := ⟨_, rfl, by decide, (gw_in 569 (by decide +kernel) (by decide +kernel)), rfl, rfl⟩
theorem d_Pairing_init_20 : decode prog_5_method_1_code 20 = .ok (.aload_n 0, 1) := by decide +kernel
theorem d_Pairing_init_21 : decode prog_5_method_1_code 21 = .ok (.sipush 1681, 3) := by decide +kernel
theorem d_Pairing_init_24 : decode prog_5_method_1_code 24 = .ok (.newarray .int, 2) := by decide +kernel
theorem d_Pairing_init_26 : decode prog_5_method_1_code 26 = .ok (.putfield 18, 3) := by decide +kernel
theorem f_Pairing_18 : fl_OK "PlainMusic$Pairing" 18 3 2 (.array .int) true := ⟨_, rfl, by decide, (gw_in 570 (by decide +kernel) (by decide +kernel)), rfl, rfl⟩
theorem d_Pairing_init_29 : decode prog_5_method_1_code 29 = .ok (.aload_n 0, 1) := by decide +kernel
theorem d_Pairing_init_30 : decode prog_5_method_1_code 30 = .ok (.sipush 1681, 3) := by decide +kernel
theorem d_Pairing_init_33 : decode prog_5_method_1_code 33 = .ok (.newarray .int, 2) := by decide +kernel
theorem d_Pairing_init_35 : decode prog_5_method_1_code 35 = .ok (.putfield 21, 3) := by decide +kernel
theorem f_Pairing_21 : fl_OK "PlainMusic$Pairing" 21 3 3 (.array .int) true := ⟨_, rfl, by decide, (gw_in 571 (by decide +kernel) (by decide +kernel)), rfl, rfl⟩
theorem d_Pairing_init_38 : decode prog_5_method_1_code 38 = .ok (.aload_n 0, 1) := by decide +kernel
theorem d_Pairing_init_39 : decode prog_5_method_1_code 39 = .ok (.bipush 80, 2) := by decide +kernel
theorem d_Pairing_init_41 : decode prog_5_method_1_code 41 = .ok (.newarray .int, 2) := by decide +kernel
theorem d_Pairing_init_43 : decode prog_5_method_1_code 43 = .ok (.putfield 24, 3) := by decide +kernel
theorem f_Pairing_24 : fl_OK "PlainMusic$Pairing" 24 3 4 (.array .int) true := ⟨_, rfl, by decide, (gw_in 572 (by decide +kernel) (by decide +kernel)), rfl, rfl⟩
theorem d_Pairing_init_46 : decode prog_5_method_1_code 46 = .ok (.return_, 1) := by decide +kernel
def m_PM_init : mr_T := (⟨"PlainMusic", "<init>", "()V"⟩, prog_1_method_1_code, 1, none)
theorem d_PM_init_0 : decode prog_1_method_1_code 0 = .ok (.aload_n 0, 1) := by decide +kernel
theorem d_PM_init_1 : decode prog_1_method_1_code 1 = .ok (.invokespecial 1, 3) := by decide +kernel
theorem oi_PM : Cond.methodLink "PlainMusic" 1 Lib.objectInit ∈ gw ∧ Cond.instanceMethod Lib.objectInit ∈ gw ∧ Cond.code Lib.objectInit ⟨#[0xb1]⟩ 1 none ∈ gw := ⟨(gw_in 160 (by decide +kernel) (by decide +kernel)), (gw_in 161 (by decide +kernel) (by decide +kernel)), (gw_in 162 (by decide +kernel) (by decide +kernel))⟩
theorem d_PM_init_4 : decode prog_1_method_1_code 4 = .ok (.aload_n 0, 1) := by decide +kernel
theorem d_PM_init_5 : decode prog_1_method_1_code 5 = .ok (.sipush 2000, 3) := by decide +kernel
theorem d_PM_init_8 : decode prog_1_method_1_code 8 = .ok (.newarray .int, 2) := by decide +kernel
theorem d_PM_init_10 : decode prog_1_method_1_code 10 = .ok (.putfield 9, 3) := by decide +kernel
theorem f_PM_9 : fl_OK "PlainMusic" 9 11 0 (.array .int) true := ⟨_, rfl, by decide, (gw_in 594 (by decide +kernel) (by decide +kernel)), rfl, rfl⟩
theorem d_PM_init_13 : decode prog_1_method_1_code 13 = .ok (.aload_n 0, 1) := by decide +kernel
theorem d_PM_init_14 : decode prog_1_method_1_code 14 = .ok (.iconst 0, 1) := by decide +kernel
theorem d_PM_init_15 : decode prog_1_method_1_code 15 = .ok (.putfield 13, 3) := by decide +kernel
theorem f_PM_13 : fl_OK "PlainMusic" 13 11 1 .int false := ⟨_, rfl, by decide, (gw_in 595 (by decide +kernel) (by decide +kernel)), rfl, rfl⟩
theorem d_PM_init_18 : decode prog_1_method_1_code 18 = .ok (.aload_n 0, 1) := by decide +kernel
theorem d_PM_init_19 : decode prog_1_method_1_code 19 = .ok (.new 17, 3) := by decide +kernel
theorem cl_PM_17 : Cond.classLink "PlainMusic" 17 "PlainMusic$Reader" ∈ gw := (gw_in 163 (by decide +kernel) (by decide +kernel))
theorem d_PM_init_22 : decode prog_1_method_1_code 22 = .ok (.dup, 1) := by decide +kernel
theorem d_PM_init_23 : decode prog_1_method_1_code 23 = .ok (.invokespecial 19, 3) := by decide +kernel
theorem l_PM_19 : ml_OK "PlainMusic" 19 ⟨"PlainMusic$Reader", "<init>", "()V"⟩ := Or.inr ⟨"PlainMusic", (List.mem_of_getElem? (i := 165) (by decide +kernel))⟩
theorem k_Reader_init : mt_OK m_Reader_init 0 2 := ⟨(gw_in 167 (by decide +kernel) (by decide +kernel)), (gw_in 135 (by decide +kernel) (by decide +kernel)), ⟨by decide +kernel, by decide +kernel, by decide +kernel⟩, fun h => absurd h (by decide), fun h => absurd h (by decide), fun _ => ⟨(gw_in 166 (by decide +kernel) (by decide +kernel)), rfl, rfl⟩⟩
theorem d_PM_init_26 : decode prog_1_method_1_code 26 = .ok (.putfield 20, 3) := by decide +kernel
theorem f_PM_20 : fl_OK "PlainMusic" 20 11 2 (.object "PlainMusic$Reader") true := ⟨_, rfl, by decide, (gw_in 596 (by decide +kernel) (by decide +kernel)), rfl, rfl⟩
theorem d_PM_init_29 : decode prog_1_method_1_code 29 = .ok (.aload_n 0, 1) := by decide +kernel
theorem d_PM_init_30 : decode prog_1_method_1_code 30 = .ok (.new 24, 3) := by decide +kernel
theorem cl_PM_24 : Cond.classLink "PlainMusic" 24 "PlainMusic$Score" ∈ gw := (gw_in 438 (by decide +kernel) (by decide +kernel))
theorem d_PM_init_33 : decode prog_1_method_1_code 33 = .ok (.dup, 1) := by decide +kernel
theorem d_PM_init_34 : decode prog_1_method_1_code 34 = .ok (.invokespecial 26, 3) := by decide +kernel
theorem l_PM_26 : ml_OK "PlainMusic" 26 ⟨"PlainMusic$Score", "<init>", "()V"⟩ := Or.inl (gw_in 439 (by decide +kernel) (by decide +kernel))
theorem d_PM_init_37 : decode prog_1_method_1_code 37 = .ok (.putfield 27, 3) := by decide +kernel
theorem f_PM_27 : fl_OK "PlainMusic" 27 11 3 (.object "PlainMusic$Score") false := ⟨_, rfl, by decide, (gw_in 597 (by decide +kernel) (by decide +kernel)), rfl, rfl⟩
theorem d_PM_init_40 : decode prog_1_method_1_code 40 = .ok (.aload_n 0, 1) := by decide +kernel
theorem d_PM_init_41 : decode prog_1_method_1_code 41 = .ok (.bipush (-2), 2) := by decide +kernel
theorem d_PM_init_43 : decode prog_1_method_1_code 43 = .ok (.putfield 31, 3) := by decide +kernel
theorem f_PM_31 : fl_OK "PlainMusic" 31 11 4 .int false := ⟨_, rfl, by decide, (gw_in 598 (by decide +kernel) (by decide +kernel)), rfl, rfl⟩
theorem d_PM_init_46 : decode prog_1_method_1_code 46 = .ok (.aload_n 0, 1) := by decide +kernel
theorem d_PM_init_47 : decode prog_1_method_1_code 47 = .ok (.new 34, 3) := by decide +kernel
theorem cl_PM_34 : Cond.classLink "PlainMusic" 34 "PlainMusic$Judge" ∈ gw := (gw_in 440 (by decide +kernel) (by decide +kernel))
theorem d_PM_init_50 : decode prog_1_method_1_code 50 = .ok (.dup, 1) := by decide +kernel
theorem d_PM_init_51 : decode prog_1_method_1_code 51 = .ok (.invokespecial 36, 3) := by decide +kernel
theorem l_PM_36 : ml_OK "PlainMusic" 36 ⟨"PlainMusic$Judge", "<init>", "()V"⟩ := Or.inr ⟨"PlainMusic", (List.mem_of_getElem? (i := 442) (by decide +kernel))⟩
theorem k_Judge_init : mt_OK m_Judge_init 0 2 := ⟨(gw_in 444 (by decide +kernel) (by decide +kernel)), (gw_in 140 (by decide +kernel) (by decide +kernel)), ⟨by decide +kernel, by decide +kernel, by decide +kernel⟩, fun h => absurd h (by decide), fun h => absurd h (by decide), fun _ => ⟨(gw_in 443 (by decide +kernel) (by decide +kernel)), rfl, rfl⟩⟩
theorem d_PM_init_54 : decode prog_1_method_1_code 54 = .ok (.putfield 37, 3) := by decide +kernel
theorem f_PM_37 : fl_OK "PlainMusic" 37 11 5 (.object "PlainMusic$Judge") true := ⟨_, rfl, by decide, (gw_in 599 (by decide +kernel) (by decide +kernel)), rfl, rfl⟩
theorem d_PM_init_57 : decode prog_1_method_1_code 57 = .ok (.aload_n 0, 1) := by decide +kernel
theorem d_PM_init_58 : decode prog_1_method_1_code 58 = .ok (.new 41, 3) := by decide +kernel
theorem cl_PM_41 : Cond.classLink "PlainMusic" 41 "PlainMusic$Beams" ∈ gw := (gw_in 456 (by decide +kernel) (by decide +kernel))
theorem d_PM_init_61 : decode prog_1_method_1_code 61 = .ok (.dup, 1) := by decide +kernel
theorem d_PM_init_62 : decode prog_1_method_1_code 62 = .ok (.invokespecial 43, 3) := by decide +kernel
theorem l_PM_43 : ml_OK "PlainMusic" 43 ⟨"PlainMusic$Beams", "<init>", "()V"⟩ := Or.inr ⟨"PlainMusic", (List.mem_of_getElem? (i := 458) (by decide +kernel))⟩
theorem k_Beams_init : mt_OK m_Beams_init 0 2 := ⟨(gw_in 460 (by decide +kernel) (by decide +kernel)), (gw_in 141 (by decide +kernel) (by decide +kernel)), ⟨by decide +kernel, by decide +kernel, by decide +kernel⟩, fun h => absurd h (by decide), fun h => absurd h (by decide), fun _ => ⟨(gw_in 459 (by decide +kernel) (by decide +kernel)), rfl, rfl⟩⟩
theorem d_PM_init_65 : decode prog_1_method_1_code 65 = .ok (.putfield 44, 3) := by decide +kernel
theorem f_PM_44 : fl_OK "PlainMusic" 44 11 6 (.object "PlainMusic$Beams") true := ⟨_, rfl, by decide, (gw_in 600 (by decide +kernel) (by decide +kernel)), rfl, rfl⟩
theorem d_PM_init_68 : decode prog_1_method_1_code 68 = .ok (.aload_n 0, 1) := by decide +kernel
theorem d_PM_init_69 : decode prog_1_method_1_code 69 = .ok (.new 48, 3) := by decide +kernel
theorem cl_PM_48 : Cond.classLink "PlainMusic" 48 "PlainMusic$Page" ∈ gw := (gw_in 475 (by decide +kernel) (by decide +kernel))
theorem d_PM_init_72 : decode prog_1_method_1_code 72 = .ok (.dup, 1) := by decide +kernel
theorem d_PM_init_73 : decode prog_1_method_1_code 73 = .ok (.invokespecial 50, 3) := by decide +kernel
theorem l_PM_50 : ml_OK "PlainMusic" 50 ⟨"PlainMusic$Page", "<init>", "()V"⟩ := Or.inr ⟨"PlainMusic", (List.mem_of_getElem? (i := 477) (by decide +kernel))⟩
theorem k_Page_init : mt_OK m_Page_init 0 2 := ⟨(gw_in 479 (by decide +kernel) (by decide +kernel)), (gw_in 142 (by decide +kernel) (by decide +kernel)), ⟨by decide +kernel, by decide +kernel, by decide +kernel⟩, fun h => absurd h (by decide), fun h => absurd h (by decide), fun _ => ⟨(gw_in 478 (by decide +kernel) (by decide +kernel)), rfl, rfl⟩⟩
theorem d_PM_init_76 : decode prog_1_method_1_code 76 = .ok (.putfield 51, 3) := by decide +kernel
theorem f_PM_51 : fl_OK "PlainMusic" 51 11 7 (.object "PlainMusic$Page") true := ⟨_, rfl, by decide, (gw_in 601 (by decide +kernel) (by decide +kernel)), rfl, rfl⟩
theorem d_PM_init_79 : decode prog_1_method_1_code 79 = .ok (.aload_n 0, 1) := by decide +kernel
theorem d_PM_init_80 : decode prog_1_method_1_code 80 = .ok (.new 55, 3) := by decide +kernel
theorem cl_PM_55 : Cond.classLink "PlainMusic" 55 "PlainMusic$Seconds" ∈ gw := (gw_in 506 (by decide +kernel) (by decide +kernel))
theorem d_PM_init_83 : decode prog_1_method_1_code 83 = .ok (.dup, 1) := by decide +kernel
theorem d_PM_init_84 : decode prog_1_method_1_code 84 = .ok (.invokespecial 57, 3) := by decide +kernel
theorem l_PM_57 : ml_OK "PlainMusic" 57 ⟨"PlainMusic$Seconds", "<init>", "()V"⟩ := Or.inr ⟨"PlainMusic", (List.mem_of_getElem? (i := 508) (by decide +kernel))⟩
theorem k_Seconds_init : mt_OK m_Seconds_init 0 2 := ⟨(gw_in 510 (by decide +kernel) (by decide +kernel)), (gw_in 143 (by decide +kernel) (by decide +kernel)), ⟨by decide +kernel, by decide +kernel, by decide +kernel⟩, fun h => absurd h (by decide), fun h => absurd h (by decide), fun _ => ⟨(gw_in 509 (by decide +kernel) (by decide +kernel)), rfl, rfl⟩⟩
theorem d_PM_init_87 : decode prog_1_method_1_code 87 = .ok (.putfield 58, 3) := by decide +kernel
theorem f_PM_58 : fl_OK "PlainMusic" 58 11 8 (.object "PlainMusic$Seconds") true := ⟨_, rfl, by decide, (gw_in 602 (by decide +kernel) (by decide +kernel)), rfl, rfl⟩
theorem d_PM_init_90 : decode prog_1_method_1_code 90 = .ok (.aload_n 0, 1) := by decide +kernel
theorem d_PM_init_91 : decode prog_1_method_1_code 91 = .ok (.new 62, 3) := by decide +kernel
theorem cl_PM_62 : Cond.classLink "PlainMusic" 62 "PlainMusic$Trees" ∈ gw := (gw_in 537 (by decide +kernel) (by decide +kernel))
theorem d_PM_init_94 : decode prog_1_method_1_code 94 = .ok (.dup, 1) := by decide +kernel
theorem d_PM_init_95 : decode prog_1_method_1_code 95 = .ok (.invokespecial 64, 3) := by decide +kernel
theorem l_PM_64 : ml_OK "PlainMusic" 64 ⟨"PlainMusic$Trees", "<init>", "()V"⟩ := Or.inr ⟨"PlainMusic", (List.mem_of_getElem? (i := 539) (by decide +kernel))⟩
theorem k_Trees_init : mt_OK m_Trees_init 0 2 := ⟨(gw_in 541 (by decide +kernel) (by decide +kernel)), (gw_in 144 (by decide +kernel) (by decide +kernel)), ⟨by decide +kernel, by decide +kernel, by decide +kernel⟩, fun h => absurd h (by decide), fun h => absurd h (by decide), fun _ => ⟨(gw_in 540 (by decide +kernel) (by decide +kernel)), rfl, rfl⟩⟩
theorem d_PM_init_98 : decode prog_1_method_1_code 98 = .ok (.putfield 65, 3) := by decide +kernel
theorem f_PM_65 : fl_OK "PlainMusic" 65 11 9 (.object "PlainMusic$Trees") true := ⟨_, rfl, by decide, (gw_in 603 (by decide +kernel) (by decide +kernel)), rfl, rfl⟩
theorem d_PM_init_101 : decode prog_1_method_1_code 101 = .ok (.aload_n 0, 1) := by decide +kernel
theorem d_PM_init_102 : decode prog_1_method_1_code 102 = .ok (.new 69, 3) := by decide +kernel
theorem cl_PM_69 : Cond.classLink "PlainMusic" 69 "PlainMusic$Pairing" ∈ gw := (gw_in 562 (by decide +kernel) (by decide +kernel))
theorem d_PM_init_105 : decode prog_1_method_1_code 105 = .ok (.dup, 1) := by decide +kernel
theorem d_PM_init_106 : decode prog_1_method_1_code 106 = .ok (.invokespecial 71, 3) := by decide +kernel
theorem l_PM_71 : ml_OK "PlainMusic" 71 ⟨"PlainMusic$Pairing", "<init>", "()V"⟩ := Or.inr ⟨"PlainMusic", (List.mem_of_getElem? (i := 564) (by decide +kernel))⟩
theorem k_Pairing_init : mt_OK m_Pairing_init 0 2 := ⟨(gw_in 566 (by decide +kernel) (by decide +kernel)), (gw_in 145 (by decide +kernel) (by decide +kernel)), ⟨by decide +kernel, by decide +kernel, by decide +kernel⟩, fun h => absurd h (by decide), fun h => absurd h (by decide), fun _ => ⟨(gw_in 565 (by decide +kernel) (by decide +kernel)), rfl, rfl⟩⟩
theorem d_PM_init_109 : decode prog_1_method_1_code 109 = .ok (.putfield 72, 3) := by decide +kernel
theorem f_PM_72 : fl_OK "PlainMusic" 72 11 10 (.object "PlainMusic$Pairing") true := ⟨_, rfl, by decide, (gw_in 604 (by decide +kernel) (by decide +kernel)), rfl, rfl⟩
theorem d_PM_init_112 : decode prog_1_method_1_code 112 = .ok (.return_, 1) := by decide +kernel
def m_MD_init : mr_T := (⟨"PlainMusicModel", "<init>", "()V"⟩, prog_14_method_1_code, 1, none)
theorem d_MD_init_0 : decode prog_14_method_1_code 0 = .ok (.aload_n 0, 1) := by decide +kernel
theorem d_MD_init_1 : decode prog_14_method_1_code 1 = .ok (.invokespecial 1, 3) := by decide +kernel
theorem oi_MD : Cond.methodLink "PlainMusicModel" 1 Lib.objectInit ∈ gw ∧ Cond.instanceMethod Lib.objectInit ∈ gw ∧ Cond.code Lib.objectInit ⟨#[0xb1]⟩ 1 none ∈ gw := ⟨(gw_in 1481 (by decide +kernel) (by decide +kernel)), (gw_in 161 (by decide +kernel) (by decide +kernel)), (gw_in 162 (by decide +kernel) (by decide +kernel))⟩
theorem d_MD_init_4 : decode prog_14_method_1_code 4 = .ok (.aload_n 0, 1) := by decide +kernel
theorem d_MD_init_5 : decode prog_14_method_1_code 5 = .ok (.sipush 2000, 3) := by decide +kernel
theorem d_MD_init_8 : decode prog_14_method_1_code 8 = .ok (.newarray .int, 2) := by decide +kernel
theorem d_MD_init_10 : decode prog_14_method_1_code 10 = .ok (.putfield 7, 3) := by decide +kernel
theorem f_MD_7 : fl_OK "PlainMusicModel" 7 12 0 (.array .int) true := ⟨_, rfl, by decide, (gw_in 1482 (by decide +kernel) (by decide +kernel)), rfl, rfl⟩
theorem d_MD_init_13 : decode prog_14_method_1_code 13 = .ok (.aload_n 0, 1) := by decide +kernel
theorem d_MD_init_14 : decode prog_14_method_1_code 14 = .ok (.bipush (-2), 2) := by decide +kernel
theorem d_MD_init_16 : decode prog_14_method_1_code 16 = .ok (.putfield 13, 3) := by decide +kernel
theorem f_MD_13 : fl_OK "PlainMusicModel" 13 12 13 .int false := ⟨_, rfl, by decide, (gw_in 1495 (by decide +kernel) (by decide +kernel)), rfl, rfl⟩
theorem d_MD_init_19 : decode prog_14_method_1_code 19 = .ok (.aload_n 0, 1) := by decide +kernel
theorem d_MD_init_20 : decode prog_14_method_1_code 20 = .ok (.iconst 2, 1) := by decide +kernel
theorem d_MD_init_21 : decode prog_14_method_1_code 21 = .ok (.newarray .int, 2) := by decide +kernel
theorem d_MD_init_23 : decode prog_14_method_1_code 23 = .ok (.putfield 17, 3) := by decide +kernel
theorem f_MD_17 : fl_OK "PlainMusicModel" 17 12 14 (.array .int) true := ⟨_, rfl, by decide, (gw_in 1496 (by decide +kernel) (by decide +kernel)), rfl, rfl⟩
theorem d_MD_init_26 : decode prog_14_method_1_code 26 = .ok (.aload_n 0, 1) := by decide +kernel
theorem d_MD_init_27 : decode prog_14_method_1_code 27 = .ok (.iconst 2, 1) := by decide +kernel
theorem d_MD_init_28 : decode prog_14_method_1_code 28 = .ok (.newarray .int, 2) := by decide +kernel
theorem d_MD_init_30 : decode prog_14_method_1_code 30 = .ok (.putfield 20, 3) := by decide +kernel
theorem f_MD_20 : fl_OK "PlainMusicModel" 20 12 15 (.array .int) true := ⟨_, rfl, by decide, (gw_in 1497 (by decide +kernel) (by decide +kernel)), rfl, rfl⟩
theorem d_MD_init_33 : decode prog_14_method_1_code 33 = .ok (.aload_n 0, 1) := by decide +kernel
theorem d_MD_init_34 : decode prog_14_method_1_code 34 = .ok (.iconst 2, 1) := by decide +kernel
theorem d_MD_init_35 : decode prog_14_method_1_code 35 = .ok (.newarray .int, 2) := by decide +kernel
theorem d_MD_init_37 : decode prog_14_method_1_code 37 = .ok (.putfield 23, 3) := by decide +kernel
theorem f_MD_23 : fl_OK "PlainMusicModel" 23 12 16 (.array .int) true := ⟨_, rfl, by decide, (gw_in 1498 (by decide +kernel) (by decide +kernel)), rfl, rfl⟩
theorem d_MD_init_40 : decode prog_14_method_1_code 40 = .ok (.aload_n 0, 1) := by decide +kernel
theorem d_MD_init_41 : decode prog_14_method_1_code 41 = .ok (.iconst 2, 1) := by decide +kernel
theorem d_MD_init_42 : decode prog_14_method_1_code 42 = .ok (.newarray .int, 2) := by decide +kernel
theorem d_MD_init_44 : decode prog_14_method_1_code 44 = .ok (.putfield 26, 3) := by decide +kernel
theorem f_MD_26 : fl_OK "PlainMusicModel" 26 12 17 (.array .int) true := ⟨_, rfl, by decide, (gw_in 1499 (by decide +kernel) (by decide +kernel)), rfl, rfl⟩
theorem d_MD_init_47 : decode prog_14_method_1_code 47 = .ok (.aload_n 0, 1) := by decide +kernel
theorem d_MD_init_48 : decode prog_14_method_1_code 48 = .ok (.bipush 16, 2) := by decide +kernel
theorem d_MD_init_50 : decode prog_14_method_1_code 50 = .ok (.newarray .int, 2) := by decide +kernel
theorem d_MD_init_52 : decode prog_14_method_1_code 52 = .ok (.putfield 29, 3) := by decide +kernel
theorem f_MD_29 : fl_OK "PlainMusicModel" 29 12 18 (.array .int) true := ⟨_, rfl, by decide, (gw_in 1500 (by decide +kernel) (by decide +kernel)), rfl, rfl⟩
theorem d_MD_init_55 : decode prog_14_method_1_code 55 = .ok (.aload_n 0, 1) := by decide +kernel
theorem d_MD_init_56 : decode prog_14_method_1_code 56 = .ok (.iconst 2, 1) := by decide +kernel
theorem d_MD_init_57 : decode prog_14_method_1_code 57 = .ok (.newarray .int, 2) := by decide +kernel
theorem d_MD_init_59 : decode prog_14_method_1_code 59 = .ok (.putfield 32, 3) := by decide +kernel
theorem f_MD_32 : fl_OK "PlainMusicModel" 32 12 19 (.array .int) true := ⟨_, rfl, by decide, (gw_in 1501 (by decide +kernel) (by decide +kernel)), rfl, rfl⟩
theorem d_MD_init_62 : decode prog_14_method_1_code 62 = .ok (.aload_n 0, 1) := by decide +kernel
theorem d_MD_init_63 : decode prog_14_method_1_code 63 = .ok (.bipush 48, 2) := by decide +kernel
theorem d_MD_init_65 : decode prog_14_method_1_code 65 = .ok (.newarray .int, 2) := by decide +kernel
theorem d_MD_init_67 : decode prog_14_method_1_code 67 = .ok (.putfield 35, 3) := by decide +kernel
theorem f_MD_35 : fl_OK "PlainMusicModel" 35 12 20 (.array .int) true := ⟨_, rfl, by decide, (gw_in 1502 (by decide +kernel) (by decide +kernel)), rfl, rfl⟩
theorem d_MD_init_70 : decode prog_14_method_1_code 70 = .ok (.aload_n 0, 1) := by decide +kernel
theorem d_MD_init_71 : decode prog_14_method_1_code 71 = .ok (.bipush 48, 2) := by decide +kernel
theorem d_MD_init_73 : decode prog_14_method_1_code 73 = .ok (.newarray .int, 2) := by decide +kernel
theorem d_MD_init_75 : decode prog_14_method_1_code 75 = .ok (.putfield 38, 3) := by decide +kernel
theorem f_MD_38 : fl_OK "PlainMusicModel" 38 12 21 (.array .int) true := ⟨_, rfl, by decide, (gw_in 1503 (by decide +kernel) (by decide +kernel)), rfl, rfl⟩
theorem d_MD_init_78 : decode prog_14_method_1_code 78 = .ok (.aload_n 0, 1) := by decide +kernel
theorem d_MD_init_79 : decode prog_14_method_1_code 79 = .ok (.bipush 48, 2) := by decide +kernel
theorem d_MD_init_81 : decode prog_14_method_1_code 81 = .ok (.newarray .int, 2) := by decide +kernel
theorem d_MD_init_83 : decode prog_14_method_1_code 83 = .ok (.putfield 41, 3) := by decide +kernel
theorem f_MD_41 : fl_OK "PlainMusicModel" 41 12 22 (.array .int) true := ⟨_, rfl, by decide, (gw_in 1504 (by decide +kernel) (by decide +kernel)), rfl, rfl⟩
theorem d_MD_init_86 : decode prog_14_method_1_code 86 = .ok (.aload_n 0, 1) := by decide +kernel
theorem d_MD_init_87 : decode prog_14_method_1_code 87 = .ok (.iconst 2, 1) := by decide +kernel
theorem d_MD_init_88 : decode prog_14_method_1_code 88 = .ok (.newarray .int, 2) := by decide +kernel
theorem d_MD_init_90 : decode prog_14_method_1_code 90 = .ok (.putfield 44, 3) := by decide +kernel
theorem f_MD_44 : fl_OK "PlainMusicModel" 44 12 23 (.array .int) true := ⟨_, rfl, by decide, (gw_in 1505 (by decide +kernel) (by decide +kernel)), rfl, rfl⟩
theorem d_MD_init_93 : decode prog_14_method_1_code 93 = .ok (.aload_n 0, 1) := by decide +kernel
theorem d_MD_init_94 : decode prog_14_method_1_code 94 = .ok (.bipush 24, 2) := by decide +kernel
theorem d_MD_init_96 : decode prog_14_method_1_code 96 = .ok (.newarray .int, 2) := by decide +kernel
theorem d_MD_init_98 : decode prog_14_method_1_code 98 = .ok (.putfield 47, 3) := by decide +kernel
theorem f_MD_47 : fl_OK "PlainMusicModel" 47 12 24 (.array .int) true := ⟨_, rfl, by decide, (gw_in 1506 (by decide +kernel) (by decide +kernel)), rfl, rfl⟩
theorem d_MD_init_101 : decode prog_14_method_1_code 101 = .ok (.aload_n 0, 1) := by decide +kernel
theorem d_MD_init_102 : decode prog_14_method_1_code 102 = .ok (.iconst 2, 1) := by decide +kernel
theorem d_MD_init_103 : decode prog_14_method_1_code 103 = .ok (.newarray .int, 2) := by decide +kernel
theorem d_MD_init_105 : decode prog_14_method_1_code 105 = .ok (.putfield 50, 3) := by decide +kernel
theorem f_MD_50 : fl_OK "PlainMusicModel" 50 12 25 (.array .int) true := ⟨_, rfl, by decide, (gw_in 1507 (by decide +kernel) (by decide +kernel)), rfl, rfl⟩
theorem d_MD_init_108 : decode prog_14_method_1_code 108 = .ok (.aload_n 0, 1) := by decide +kernel
theorem d_MD_init_109 : decode prog_14_method_1_code 109 = .ok (.bipush 32, 2) := by decide +kernel
theorem d_MD_init_111 : decode prog_14_method_1_code 111 = .ok (.newarray .long, 2) := by decide +kernel
theorem d_MD_init_113 : decode prog_14_method_1_code 113 = .ok (.putfield 53, 3) := by decide +kernel
theorem f_MD_53 : fl_OK "PlainMusicModel" 53 12 26 (.array .long) true := ⟨_, rfl, by decide, (gw_in 1508 (by decide +kernel) (by decide +kernel)), rfl, rfl⟩
theorem d_MD_init_116 : decode prog_14_method_1_code 116 = .ok (.aload_n 0, 1) := by decide +kernel
theorem d_MD_init_117 : decode prog_14_method_1_code 117 = .ok (.bipush 8, 2) := by decide +kernel
theorem d_MD_init_119 : decode prog_14_method_1_code 119 = .ok (.newarray .int, 2) := by decide +kernel
theorem d_MD_init_121 : decode prog_14_method_1_code 121 = .ok (.putfield 57, 3) := by decide +kernel
theorem f_MD_57 : fl_OK "PlainMusicModel" 57 12 27 (.array .int) true := ⟨_, rfl, by decide, (gw_in 1509 (by decide +kernel) (by decide +kernel)), rfl, rfl⟩
theorem d_MD_init_124 : decode prog_14_method_1_code 124 = .ok (.aload_n 0, 1) := by decide +kernel
theorem d_MD_init_125 : decode prog_14_method_1_code 125 = .ok (.bipush 8, 2) := by decide +kernel
theorem d_MD_init_127 : decode prog_14_method_1_code 127 = .ok (.newarray .int, 2) := by decide +kernel
theorem d_MD_init_129 : decode prog_14_method_1_code 129 = .ok (.putfield 60, 3) := by decide +kernel
theorem f_MD_60 : fl_OK "PlainMusicModel" 60 12 28 (.array .int) true := ⟨_, rfl, by decide, (gw_in 1510 (by decide +kernel) (by decide +kernel)), rfl, rfl⟩
theorem d_MD_init_132 : decode prog_14_method_1_code 132 = .ok (.aload_n 0, 1) := by decide +kernel
theorem d_MD_init_133 : decode prog_14_method_1_code 133 = .ok (.sipush 2400, 3) := by decide +kernel
theorem d_MD_init_136 : decode prog_14_method_1_code 136 = .ok (.newarray .long, 2) := by decide +kernel
theorem d_MD_init_138 : decode prog_14_method_1_code 138 = .ok (.putfield 63, 3) := by decide +kernel
theorem f_MD_63 : fl_OK "PlainMusicModel" 63 12 29 (.array .long) true := ⟨_, rfl, by decide, (gw_in 1511 (by decide +kernel) (by decide +kernel)), rfl, rfl⟩
theorem d_MD_init_141 : decode prog_14_method_1_code 141 = .ok (.aload_n 0, 1) := by decide +kernel
theorem d_MD_init_142 : decode prog_14_method_1_code 142 = .ok (.sipush 2400, 3) := by decide +kernel
theorem d_MD_init_145 : decode prog_14_method_1_code 145 = .ok (.newarray .long, 2) := by decide +kernel
theorem d_MD_init_147 : decode prog_14_method_1_code 147 = .ok (.putfield 66, 3) := by decide +kernel
theorem f_MD_66 : fl_OK "PlainMusicModel" 66 12 30 (.array .long) true := ⟨_, rfl, by decide, (gw_in 1512 (by decide +kernel) (by decide +kernel)), rfl, rfl⟩
theorem d_MD_init_150 : decode prog_14_method_1_code 150 = .ok (.aload_n 0, 1) := by decide +kernel
theorem d_MD_init_151 : decode prog_14_method_1_code 151 = .ok (.sipush 2400, 3) := by decide +kernel
theorem d_MD_init_154 : decode prog_14_method_1_code 154 = .ok (.newarray .long, 2) := by decide +kernel
theorem d_MD_init_156 : decode prog_14_method_1_code 156 = .ok (.putfield 69, 3) := by decide +kernel
theorem f_MD_69 : fl_OK "PlainMusicModel" 69 12 31 (.array .long) true := ⟨_, rfl, by decide, (gw_in 1513 (by decide +kernel) (by decide +kernel)), rfl, rfl⟩
theorem d_MD_init_159 : decode prog_14_method_1_code 159 = .ok (.aload_n 0, 1) := by decide +kernel
theorem d_MD_init_160 : decode prog_14_method_1_code 160 = .ok (.sipush 2400, 3) := by decide +kernel
theorem d_MD_init_163 : decode prog_14_method_1_code 163 = .ok (.newarray .long, 2) := by decide +kernel
theorem d_MD_init_165 : decode prog_14_method_1_code 165 = .ok (.putfield 72, 3) := by decide +kernel
theorem f_MD_72 : fl_OK "PlainMusicModel" 72 12 32 (.array .long) true := ⟨_, rfl, by decide, (gw_in 1514 (by decide +kernel) (by decide +kernel)), rfl, rfl⟩
theorem d_MD_init_168 : decode prog_14_method_1_code 168 = .ok (.aload_n 0, 1) := by decide +kernel
theorem d_MD_init_169 : decode prog_14_method_1_code 169 = .ok (.sipush 2400, 3) := by decide +kernel
theorem d_MD_init_172 : decode prog_14_method_1_code 172 = .ok (.newarray .int, 2) := by decide +kernel
theorem d_MD_init_174 : decode prog_14_method_1_code 174 = .ok (.putfield 75, 3) := by decide +kernel
theorem f_MD_75 : fl_OK "PlainMusicModel" 75 12 33 (.array .int) true := ⟨_, rfl, by decide, (gw_in 1515 (by decide +kernel) (by decide +kernel)), rfl, rfl⟩
theorem d_MD_init_177 : decode prog_14_method_1_code 177 = .ok (.aload_n 0, 1) := by decide +kernel
theorem d_MD_init_178 : decode prog_14_method_1_code 178 = .ok (.sipush 9600, 3) := by decide +kernel
theorem d_MD_init_181 : decode prog_14_method_1_code 181 = .ok (.newarray .int, 2) := by decide +kernel
theorem d_MD_init_183 : decode prog_14_method_1_code 183 = .ok (.putfield 78, 3) := by decide +kernel
theorem f_MD_78 : fl_OK "PlainMusicModel" 78 12 34 (.array .int) true := ⟨_, rfl, by decide, (gw_in 1516 (by decide +kernel) (by decide +kernel)), rfl, rfl⟩
theorem d_MD_init_186 : decode prog_14_method_1_code 186 = .ok (.aload_n 0, 1) := by decide +kernel
theorem d_MD_init_187 : decode prog_14_method_1_code 187 = .ok (.sipush 9600, 3) := by decide +kernel
theorem d_MD_init_190 : decode prog_14_method_1_code 190 = .ok (.newarray .int, 2) := by decide +kernel
theorem d_MD_init_192 : decode prog_14_method_1_code 192 = .ok (.putfield 81, 3) := by decide +kernel
theorem f_MD_81 : fl_OK "PlainMusicModel" 81 12 35 (.array .int) true := ⟨_, rfl, by decide, (gw_in 1517 (by decide +kernel) (by decide +kernel)), rfl, rfl⟩
theorem d_MD_init_195 : decode prog_14_method_1_code 195 = .ok (.aload_n 0, 1) := by decide +kernel
theorem d_MD_init_196 : decode prog_14_method_1_code 196 = .ok (.sipush 2400, 3) := by decide +kernel
theorem d_MD_init_199 : decode prog_14_method_1_code 199 = .ok (.newarray .int, 2) := by decide +kernel
theorem d_MD_init_201 : decode prog_14_method_1_code 201 = .ok (.putfield 84, 3) := by decide +kernel
theorem f_MD_84 : fl_OK "PlainMusicModel" 84 12 36 (.array .int) true := ⟨_, rfl, by decide, (gw_in 1518 (by decide +kernel) (by decide +kernel)), rfl, rfl⟩
theorem d_MD_init_204 : decode prog_14_method_1_code 204 = .ok (.aload_n 0, 1) := by decide +kernel
theorem d_MD_init_205 : decode prog_14_method_1_code 205 = .ok (.sipush 2400, 3) := by decide +kernel
theorem d_MD_init_208 : decode prog_14_method_1_code 208 = .ok (.newarray .boolean, 2) := by decide +kernel
theorem d_MD_init_210 : decode prog_14_method_1_code 210 = .ok (.putfield 87, 3) := by decide +kernel
theorem f_MD_87 : fl_OK "PlainMusicModel" 87 12 37 (.array .boolean) true := ⟨_, rfl, by decide, (gw_in 1519 (by decide +kernel) (by decide +kernel)), rfl, rfl⟩
theorem d_MD_init_213 : decode prog_14_method_1_code 213 = .ok (.aload_n 0, 1) := by decide +kernel
theorem d_MD_init_214 : decode prog_14_method_1_code 214 = .ok (.sipush 2400, 3) := by decide +kernel
theorem d_MD_init_217 : decode prog_14_method_1_code 217 = .ok (.newarray .int, 2) := by decide +kernel
theorem d_MD_init_219 : decode prog_14_method_1_code 219 = .ok (.putfield 91, 3) := by decide +kernel
theorem f_MD_91 : fl_OK "PlainMusicModel" 91 12 38 (.array .int) true := ⟨_, rfl, by decide, (gw_in 1520 (by decide +kernel) (by decide +kernel)), rfl, rfl⟩
theorem d_MD_init_222 : decode prog_14_method_1_code 222 = .ok (.aload_n 0, 1) := by decide +kernel
theorem d_MD_init_223 : decode prog_14_method_1_code 223 = .ok (.sipush 2400, 3) := by decide +kernel
theorem d_MD_init_226 : decode prog_14_method_1_code 226 = .ok (.newarray .int, 2) := by decide +kernel
theorem d_MD_init_228 : decode prog_14_method_1_code 228 = .ok (.putfield 94, 3) := by decide +kernel
theorem f_MD_94 : fl_OK "PlainMusicModel" 94 12 39 (.array .int) true := ⟨_, rfl, by decide, (gw_in 1521 (by decide +kernel) (by decide +kernel)), rfl, rfl⟩
theorem d_MD_init_231 : decode prog_14_method_1_code 231 = .ok (.aload_n 0, 1) := by decide +kernel
theorem d_MD_init_232 : decode prog_14_method_1_code 232 = .ok (.sipush 2400, 3) := by decide +kernel
theorem d_MD_init_235 : decode prog_14_method_1_code 235 = .ok (.newarray .int, 2) := by decide +kernel
theorem d_MD_init_237 : decode prog_14_method_1_code 237 = .ok (.putfield 97, 3) := by decide +kernel
theorem f_MD_97 : fl_OK "PlainMusicModel" 97 12 40 (.array .int) true := ⟨_, rfl, by decide, (gw_in 1522 (by decide +kernel) (by decide +kernel)), rfl, rfl⟩
theorem d_MD_init_240 : decode prog_14_method_1_code 240 = .ok (.aload_n 0, 1) := by decide +kernel
theorem d_MD_init_241 : decode prog_14_method_1_code 241 = .ok (.sipush 816, 3) := by decide +kernel
theorem d_MD_init_244 : decode prog_14_method_1_code 244 = .ok (.newarray .long, 2) := by decide +kernel
theorem d_MD_init_246 : decode prog_14_method_1_code 246 = .ok (.putfield 100, 3) := by decide +kernel
theorem f_MD_100 : fl_OK "PlainMusicModel" 100 12 41 (.array .long) true := ⟨_, rfl, by decide, (gw_in 1523 (by decide +kernel) (by decide +kernel)), rfl, rfl⟩
theorem d_MD_init_249 : decode prog_14_method_1_code 249 = .ok (.aload_n 0, 1) := by decide +kernel
theorem d_MD_init_250 : decode prog_14_method_1_code 250 = .ok (.sipush 816, 3) := by decide +kernel
theorem d_MD_init_253 : decode prog_14_method_1_code 253 = .ok (.newarray .long, 2) := by decide +kernel
theorem d_MD_init_255 : decode prog_14_method_1_code 255 = .ok (.putfield 103, 3) := by decide +kernel
theorem f_MD_103 : fl_OK "PlainMusicModel" 103 12 42 (.array .long) true := ⟨_, rfl, by decide, (gw_in 1524 (by decide +kernel) (by decide +kernel)), rfl, rfl⟩
theorem d_MD_init_258 : decode prog_14_method_1_code 258 = .ok (.aload_n 0, 1) := by decide +kernel
theorem d_MD_init_259 : decode prog_14_method_1_code 259 = .ok (.sipush 2100, 3) := by decide +kernel
theorem d_MD_init_262 : decode prog_14_method_1_code 262 = .ok (.newarray .int, 2) := by decide +kernel
theorem d_MD_init_264 : decode prog_14_method_1_code 264 = .ok (.putfield 106, 3) := by decide +kernel
theorem f_MD_106 : fl_OK "PlainMusicModel" 106 12 44 (.array .int) true := ⟨_, rfl, by decide, (gw_in 1526 (by decide +kernel) (by decide +kernel)), rfl, rfl⟩
theorem d_MD_init_267 : decode prog_14_method_1_code 267 = .ok (.aload_n 0, 1) := by decide +kernel
theorem d_MD_init_268 : decode prog_14_method_1_code 268 = .ok (.sipush 2100, 3) := by decide +kernel
theorem d_MD_init_271 : decode prog_14_method_1_code 271 = .ok (.newarray .int, 2) := by decide +kernel
theorem d_MD_init_273 : decode prog_14_method_1_code 273 = .ok (.putfield 109, 3) := by decide +kernel
theorem f_MD_109 : fl_OK "PlainMusicModel" 109 12 45 (.array .int) true := ⟨_, rfl, by decide, (gw_in 1527 (by decide +kernel) (by decide +kernel)), rfl, rfl⟩
theorem d_MD_init_276 : decode prog_14_method_1_code 276 = .ok (.aload_n 0, 1) := by decide +kernel
theorem d_MD_init_277 : decode prog_14_method_1_code 277 = .ok (.sipush 2100, 3) := by decide +kernel
theorem d_MD_init_280 : decode prog_14_method_1_code 280 = .ok (.newarray .int, 2) := by decide +kernel
theorem d_MD_init_282 : decode prog_14_method_1_code 282 = .ok (.putfield 112, 3) := by decide +kernel
theorem f_MD_112 : fl_OK "PlainMusicModel" 112 12 46 (.array .int) true := ⟨_, rfl, by decide, (gw_in 1528 (by decide +kernel) (by decide +kernel)), rfl, rfl⟩
theorem d_MD_init_285 : decode prog_14_method_1_code 285 = .ok (.aload_n 0, 1) := by decide +kernel
theorem d_MD_init_286 : decode prog_14_method_1_code 286 = .ok (.sipush 2100, 3) := by decide +kernel
theorem d_MD_init_289 : decode prog_14_method_1_code 289 = .ok (.newarray .int, 2) := by decide +kernel
theorem d_MD_init_291 : decode prog_14_method_1_code 291 = .ok (.putfield 115, 3) := by decide +kernel
theorem f_MD_115 : fl_OK "PlainMusicModel" 115 12 47 (.array .int) true := ⟨_, rfl, by decide, (gw_in 1529 (by decide +kernel) (by decide +kernel)), rfl, rfl⟩
theorem d_MD_init_294 : decode prog_14_method_1_code 294 = .ok (.aload_n 0, 1) := by decide +kernel
theorem d_MD_init_295 : decode prog_14_method_1_code 295 = .ok (.sipush 8400, 3) := by decide +kernel
theorem d_MD_init_298 : decode prog_14_method_1_code 298 = .ok (.newarray .int, 2) := by decide +kernel
theorem d_MD_init_300 : decode prog_14_method_1_code 300 = .ok (.putfield 118, 3) := by decide +kernel
theorem f_MD_118 : fl_OK "PlainMusicModel" 118 12 48 (.array .int) true := ⟨_, rfl, by decide, (gw_in 1530 (by decide +kernel) (by decide +kernel)), rfl, rfl⟩
theorem d_MD_init_303 : decode prog_14_method_1_code 303 = .ok (.aload_n 0, 1) := by decide +kernel
theorem d_MD_init_304 : decode prog_14_method_1_code 304 = .ok (.sipush 8400, 3) := by decide +kernel
theorem d_MD_init_307 : decode prog_14_method_1_code 307 = .ok (.newarray .int, 2) := by decide +kernel
theorem d_MD_init_309 : decode prog_14_method_1_code 309 = .ok (.putfield 121, 3) := by decide +kernel
theorem f_MD_121 : fl_OK "PlainMusicModel" 121 12 49 (.array .int) true := ⟨_, rfl, by decide, (gw_in 1531 (by decide +kernel) (by decide +kernel)), rfl, rfl⟩
theorem d_MD_init_312 : decode prog_14_method_1_code 312 = .ok (.aload_n 0, 1) := by decide +kernel
theorem d_MD_init_313 : decode prog_14_method_1_code 313 = .ok (.sipush 2100, 3) := by decide +kernel
theorem d_MD_init_316 : decode prog_14_method_1_code 316 = .ok (.newarray .int, 2) := by decide +kernel
theorem d_MD_init_318 : decode prog_14_method_1_code 318 = .ok (.putfield 124, 3) := by decide +kernel
theorem f_MD_124 : fl_OK "PlainMusicModel" 124 12 50 (.array .int) true := ⟨_, rfl, by decide, (gw_in 1532 (by decide +kernel) (by decide +kernel)), rfl, rfl⟩
theorem d_MD_init_321 : decode prog_14_method_1_code 321 = .ok (.aload_n 0, 1) := by decide +kernel
theorem d_MD_init_322 : decode prog_14_method_1_code 322 = .ok (.sipush 2100, 3) := by decide +kernel
theorem d_MD_init_325 : decode prog_14_method_1_code 325 = .ok (.newarray .boolean, 2) := by decide +kernel
theorem d_MD_init_327 : decode prog_14_method_1_code 327 = .ok (.putfield 127, 3) := by decide +kernel
theorem f_MD_127 : fl_OK "PlainMusicModel" 127 12 51 (.array .boolean) true := ⟨_, rfl, by decide, (gw_in 1533 (by decide +kernel) (by decide +kernel)), rfl, rfl⟩
theorem d_MD_init_330 : decode prog_14_method_1_code 330 = .ok (.aload_n 0, 1) := by decide +kernel
theorem d_MD_init_331 : decode prog_14_method_1_code 331 = .ok (.sipush 2100, 3) := by decide +kernel
theorem d_MD_init_334 : decode prog_14_method_1_code 334 = .ok (.newarray .int, 2) := by decide +kernel
theorem d_MD_init_336 : decode prog_14_method_1_code 336 = .ok (.putfield 130, 3) := by decide +kernel
theorem f_MD_130 : fl_OK "PlainMusicModel" 130 12 52 (.array .int) true := ⟨_, rfl, by decide, (gw_in 1534 (by decide +kernel) (by decide +kernel)), rfl, rfl⟩
theorem d_MD_init_339 : decode prog_14_method_1_code 339 = .ok (.aload_n 0, 1) := by decide +kernel
theorem d_MD_init_340 : decode prog_14_method_1_code 340 = .ok (.sipush 2100, 3) := by decide +kernel
theorem d_MD_init_343 : decode prog_14_method_1_code 343 = .ok (.newarray .int, 2) := by decide +kernel
theorem d_MD_init_345 : decode prog_14_method_1_code 345 = .ok (.putfield 133, 3) := by decide +kernel
theorem f_MD_133 : fl_OK "PlainMusicModel" 133 12 53 (.array .int) true := ⟨_, rfl, by decide, (gw_in 1535 (by decide +kernel) (by decide +kernel)), rfl, rfl⟩
theorem d_MD_init_348 : decode prog_14_method_1_code 348 = .ok (.aload_n 0, 1) := by decide +kernel
theorem d_MD_init_349 : decode prog_14_method_1_code 349 = .ok (.sipush 2100, 3) := by decide +kernel
theorem d_MD_init_352 : decode prog_14_method_1_code 352 = .ok (.newarray .int, 2) := by decide +kernel
theorem d_MD_init_354 : decode prog_14_method_1_code 354 = .ok (.putfield 136, 3) := by decide +kernel
theorem f_MD_136 : fl_OK "PlainMusicModel" 136 12 54 (.array .int) true := ⟨_, rfl, by decide, (gw_in 1536 (by decide +kernel) (by decide +kernel)), rfl, rfl⟩
theorem d_MD_init_357 : decode prog_14_method_1_code 357 = .ok (.aload_n 0, 1) := by decide +kernel
theorem d_MD_init_358 : decode prog_14_method_1_code 358 = .ok (.sipush 2100, 3) := by decide +kernel
theorem d_MD_init_361 : decode prog_14_method_1_code 361 = .ok (.newarray .int, 2) := by decide +kernel
theorem d_MD_init_363 : decode prog_14_method_1_code 363 = .ok (.putfield 139, 3) := by decide +kernel
theorem f_MD_139 : fl_OK "PlainMusicModel" 139 12 55 (.array .int) true := ⟨_, rfl, by decide, (gw_in 1537 (by decide +kernel) (by decide +kernel)), rfl, rfl⟩
theorem d_MD_init_366 : decode prog_14_method_1_code 366 = .ok (.aload_n 0, 1) := by decide +kernel
theorem d_MD_init_367 : decode prog_14_method_1_code 367 = .ok (.sipush 2100, 3) := by decide +kernel
theorem d_MD_init_370 : decode prog_14_method_1_code 370 = .ok (.newarray .int, 2) := by decide +kernel
theorem d_MD_init_372 : decode prog_14_method_1_code 372 = .ok (.putfield 142, 3) := by decide +kernel
theorem f_MD_142 : fl_OK "PlainMusicModel" 142 12 56 (.array .int) true := ⟨_, rfl, by decide, (gw_in 1538 (by decide +kernel) (by decide +kernel)), rfl, rfl⟩
theorem d_MD_init_375 : decode prog_14_method_1_code 375 = .ok (.aload_n 0, 1) := by decide +kernel
theorem d_MD_init_376 : decode prog_14_method_1_code 376 = .ok (.sipush 2100, 3) := by decide +kernel
theorem d_MD_init_379 : decode prog_14_method_1_code 379 = .ok (.newarray .int, 2) := by decide +kernel
theorem d_MD_init_381 : decode prog_14_method_1_code 381 = .ok (.putfield 145, 3) := by decide +kernel
theorem f_MD_145 : fl_OK "PlainMusicModel" 145 12 57 (.array .int) true := ⟨_, rfl, by decide, (gw_in 1539 (by decide +kernel) (by decide +kernel)), rfl, rfl⟩
theorem d_MD_init_384 : decode prog_14_method_1_code 384 = .ok (.aload_n 0, 1) := by decide +kernel
theorem d_MD_init_385 : decode prog_14_method_1_code 385 = .ok (.bipush 8, 2) := by decide +kernel
theorem d_MD_init_387 : decode prog_14_method_1_code 387 = .ok (.newarray .int, 2) := by decide +kernel
theorem d_MD_init_389 : decode prog_14_method_1_code 389 = .ok (.putfield 148, 3) := by decide +kernel
theorem f_MD_148 : fl_OK "PlainMusicModel" 148 12 58 (.array .int) true := ⟨_, rfl, by decide, (gw_in 1540 (by decide +kernel) (by decide +kernel)), rfl, rfl⟩
theorem d_MD_init_392 : decode prog_14_method_1_code 392 = .ok (.aload_n 0, 1) := by decide +kernel
theorem d_MD_init_393 : decode prog_14_method_1_code 393 = .ok (.bipush 8, 2) := by decide +kernel
theorem d_MD_init_395 : decode prog_14_method_1_code 395 = .ok (.newarray .int, 2) := by decide +kernel
theorem d_MD_init_397 : decode prog_14_method_1_code 397 = .ok (.putfield 151, 3) := by decide +kernel
theorem f_MD_151 : fl_OK "PlainMusicModel" 151 12 62 (.array .int) true := ⟨_, rfl, by decide, (gw_in 1544 (by decide +kernel) (by decide +kernel)), rfl, rfl⟩
theorem d_MD_init_400 : decode prog_14_method_1_code 400 = .ok (.aload_n 0, 1) := by decide +kernel
theorem d_MD_init_401 : decode prog_14_method_1_code 401 = .ok (.bipush 10, 2) := by decide +kernel
theorem d_MD_init_403 : decode prog_14_method_1_code 403 = .ok (.newarray .int, 2) := by decide +kernel
theorem d_MD_init_405 : decode prog_14_method_1_code 405 = .ok (.putfield 154, 3) := by decide +kernel
theorem f_MD_154 : fl_OK "PlainMusicModel" 154 12 67 (.array .int) true := ⟨_, rfl, by decide, (gw_in 1549 (by decide +kernel) (by decide +kernel)), rfl, rfl⟩
theorem d_MD_init_408 : decode prog_14_method_1_code 408 = .ok (.aload_n 0, 1) := by decide +kernel
theorem d_MD_init_409 : decode prog_14_method_1_code 409 = .ok (.bipush 10, 2) := by decide +kernel
theorem d_MD_init_411 : decode prog_14_method_1_code 411 = .ok (.newarray .int, 2) := by decide +kernel
theorem d_MD_init_413 : decode prog_14_method_1_code 413 = .ok (.putfield 157, 3) := by decide +kernel
theorem f_MD_157 : fl_OK "PlainMusicModel" 157 12 68 (.array .int) true := ⟨_, rfl, by decide, (gw_in 1550 (by decide +kernel) (by decide +kernel)), rfl, rfl⟩
theorem d_MD_init_416 : decode prog_14_method_1_code 416 = .ok (.aload_n 0, 1) := by decide +kernel
theorem d_MD_init_417 : decode prog_14_method_1_code 417 = .ok (.bipush 10, 2) := by decide +kernel
theorem d_MD_init_419 : decode prog_14_method_1_code 419 = .ok (.newarray .int, 2) := by decide +kernel
theorem d_MD_init_421 : decode prog_14_method_1_code 421 = .ok (.putfield 160, 3) := by decide +kernel
theorem f_MD_160 : fl_OK "PlainMusicModel" 160 12 69 (.array .int) true := ⟨_, rfl, by decide, (gw_in 1551 (by decide +kernel) (by decide +kernel)), rfl, rfl⟩
theorem d_MD_init_424 : decode prog_14_method_1_code 424 = .ok (.aload_n 0, 1) := by decide +kernel
theorem d_MD_init_425 : decode prog_14_method_1_code 425 = .ok (.bipush 10, 2) := by decide +kernel
theorem d_MD_init_427 : decode prog_14_method_1_code 427 = .ok (.newarray .boolean, 2) := by decide +kernel
theorem d_MD_init_429 : decode prog_14_method_1_code 429 = .ok (.putfield 163, 3) := by decide +kernel
theorem f_MD_163 : fl_OK "PlainMusicModel" 163 12 79 (.array .boolean) true := ⟨_, rfl, by decide, (gw_in 1561 (by decide +kernel) (by decide +kernel)), rfl, rfl⟩
theorem d_MD_init_432 : decode prog_14_method_1_code 432 = .ok (.aload_n 0, 1) := by decide +kernel
theorem d_MD_init_433 : decode prog_14_method_1_code 433 = .ok (.sipush 8000, 3) := by decide +kernel
theorem d_MD_init_436 : decode prog_14_method_1_code 436 = .ok (.newarray .int, 2) := by decide +kernel
theorem d_MD_init_438 : decode prog_14_method_1_code 438 = .ok (.putfield 166, 3) := by decide +kernel
theorem f_MD_166 : fl_OK "PlainMusicModel" 166 12 81 (.array .int) true := ⟨_, rfl, by decide, (gw_in 1563 (by decide +kernel) (by decide +kernel)), rfl, rfl⟩
theorem d_MD_init_441 : decode prog_14_method_1_code 441 = .ok (.aload_n 0, 1) := by decide +kernel
theorem d_MD_init_442 : decode prog_14_method_1_code 442 = .ok (.sipush 8000, 3) := by decide +kernel
theorem d_MD_init_445 : decode prog_14_method_1_code 445 = .ok (.newarray .int, 2) := by decide +kernel
theorem d_MD_init_447 : decode prog_14_method_1_code 447 = .ok (.putfield 169, 3) := by decide +kernel
theorem f_MD_169 : fl_OK "PlainMusicModel" 169 12 82 (.array .int) true := ⟨_, rfl, by decide, (gw_in 1564 (by decide +kernel) (by decide +kernel)), rfl, rfl⟩
theorem d_MD_init_450 : decode prog_14_method_1_code 450 = .ok (.aload_n 0, 1) := by decide +kernel
theorem d_MD_init_451 : decode prog_14_method_1_code 451 = .ok (.sipush 8000, 3) := by decide +kernel
theorem d_MD_init_454 : decode prog_14_method_1_code 454 = .ok (.newarray .int, 2) := by decide +kernel
theorem d_MD_init_456 : decode prog_14_method_1_code 456 = .ok (.putfield 172, 3) := by decide +kernel
theorem f_MD_172 : fl_OK "PlainMusicModel" 172 12 83 (.array .int) true := ⟨_, rfl, by decide, (gw_in 1565 (by decide +kernel) (by decide +kernel)), rfl, rfl⟩
theorem d_MD_init_459 : decode prog_14_method_1_code 459 = .ok (.aload_n 0, 1) := by decide +kernel
theorem d_MD_init_460 : decode prog_14_method_1_code 460 = .ok (.sipush 8000, 3) := by decide +kernel
theorem d_MD_init_463 : decode prog_14_method_1_code 463 = .ok (.newarray .int, 2) := by decide +kernel
theorem d_MD_init_465 : decode prog_14_method_1_code 465 = .ok (.putfield 175, 3) := by decide +kernel
theorem f_MD_175 : fl_OK "PlainMusicModel" 175 12 84 (.array .int) true := ⟨_, rfl, by decide, (gw_in 1566 (by decide +kernel) (by decide +kernel)), rfl, rfl⟩
theorem d_MD_init_468 : decode prog_14_method_1_code 468 = .ok (.aload_n 0, 1) := by decide +kernel
theorem d_MD_init_469 : decode prog_14_method_1_code 469 = .ok (.bipush 16, 2) := by decide +kernel
theorem d_MD_init_471 : decode prog_14_method_1_code 471 = .ok (.newarray .int, 2) := by decide +kernel
theorem d_MD_init_473 : decode prog_14_method_1_code 473 = .ok (.putfield 178, 3) := by decide +kernel
theorem f_MD_178 : fl_OK "PlainMusicModel" 178 12 86 (.array .int) true := ⟨_, rfl, by decide, (gw_in 1568 (by decide +kernel) (by decide +kernel)), rfl, rfl⟩
theorem d_MD_init_476 : decode prog_14_method_1_code 476 = .ok (.aload_n 0, 1) := by decide +kernel
theorem d_MD_init_477 : decode prog_14_method_1_code 477 = .ok (.sipush 340, 3) := by decide +kernel
theorem d_MD_init_480 : decode prog_14_method_1_code 480 = .ok (.newarray .int, 2) := by decide +kernel
theorem d_MD_init_482 : decode prog_14_method_1_code 482 = .ok (.putfield 181, 3) := by decide +kernel
theorem f_MD_181 : fl_OK "PlainMusicModel" 181 12 87 (.array .int) true := ⟨_, rfl, by decide, (gw_in 1569 (by decide +kernel) (by decide +kernel)), rfl, rfl⟩
theorem d_MD_init_485 : decode prog_14_method_1_code 485 = .ok (.aload_n 0, 1) := by decide +kernel
theorem d_MD_init_486 : decode prog_14_method_1_code 486 = .ok (.sipush 340, 3) := by decide +kernel
theorem d_MD_init_489 : decode prog_14_method_1_code 489 = .ok (.newarray .int, 2) := by decide +kernel
theorem d_MD_init_491 : decode prog_14_method_1_code 491 = .ok (.putfield 184, 3) := by decide +kernel
theorem f_MD_184 : fl_OK "PlainMusicModel" 184 12 88 (.array .int) true := ⟨_, rfl, by decide, (gw_in 1570 (by decide +kernel) (by decide +kernel)), rfl, rfl⟩
theorem d_MD_init_494 : decode prog_14_method_1_code 494 = .ok (.aload_n 0, 1) := by decide +kernel
theorem d_MD_init_495 : decode prog_14_method_1_code 495 = .ok (.bipush 16, 2) := by decide +kernel
theorem d_MD_init_497 : decode prog_14_method_1_code 497 = .ok (.newarray .int, 2) := by decide +kernel
theorem d_MD_init_499 : decode prog_14_method_1_code 499 = .ok (.putfield 187, 3) := by decide +kernel
theorem f_MD_187 : fl_OK "PlainMusicModel" 187 12 90 (.array .int) true := ⟨_, rfl, by decide, (gw_in 1572 (by decide +kernel) (by decide +kernel)), rfl, rfl⟩
theorem d_MD_init_502 : decode prog_14_method_1_code 502 = .ok (.aload_n 0, 1) := by decide +kernel
theorem d_MD_init_503 : decode prog_14_method_1_code 503 = .ok (.bipush 8, 2) := by decide +kernel
theorem d_MD_init_505 : decode prog_14_method_1_code 505 = .ok (.newarray .int, 2) := by decide +kernel
theorem d_MD_init_507 : decode prog_14_method_1_code 507 = .ok (.putfield 190, 3) := by decide +kernel
theorem f_MD_190 : fl_OK "PlainMusicModel" 190 12 92 (.array .int) true := ⟨_, rfl, by decide, (gw_in 1574 (by decide +kernel) (by decide +kernel)), rfl, rfl⟩
theorem d_MD_init_510 : decode prog_14_method_1_code 510 = .ok (.aload_n 0, 1) := by decide +kernel
theorem d_MD_init_511 : decode prog_14_method_1_code 511 = .ok (.bipush 8, 2) := by decide +kernel
theorem d_MD_init_513 : decode prog_14_method_1_code 513 = .ok (.newarray .int, 2) := by decide +kernel
theorem d_MD_init_515 : decode prog_14_method_1_code 515 = .ok (.putfield 193, 3) := by decide +kernel
theorem f_MD_193 : fl_OK "PlainMusicModel" 193 12 97 (.array .int) true := ⟨_, rfl, by decide, (gw_in 1579 (by decide +kernel) (by decide +kernel)), rfl, rfl⟩
theorem d_MD_init_518 : decode prog_14_method_1_code 518 = .ok (.aload_n 0, 1) := by decide +kernel
theorem d_MD_init_519 : decode prog_14_method_1_code 519 = .ok (.sipush 2704, 3) := by decide +kernel
theorem d_MD_init_522 : decode prog_14_method_1_code 522 = .ok (.newarray .long, 2) := by decide +kernel
theorem d_MD_init_524 : decode prog_14_method_1_code 524 = .ok (.putfield 196, 3) := by decide +kernel
theorem f_MD_196 : fl_OK "PlainMusicModel" 196 12 99 (.array .long) true := ⟨_, rfl, by decide, (gw_in 1581 (by decide +kernel) (by decide +kernel)), rfl, rfl⟩
theorem d_MD_init_527 : decode prog_14_method_1_code 527 = .ok (.aload_n 0, 1) := by decide +kernel
theorem d_MD_init_528 : decode prog_14_method_1_code 528 = .ok (.bipush 32, 2) := by decide +kernel
theorem d_MD_init_530 : decode prog_14_method_1_code 530 = .ok (.newarray .int, 2) := by decide +kernel
theorem d_MD_init_532 : decode prog_14_method_1_code 532 = .ok (.putfield 199, 3) := by decide +kernel
theorem f_MD_199 : fl_OK "PlainMusicModel" 199 12 100 (.array .int) true := ⟨_, rfl, by decide, (gw_in 1582 (by decide +kernel) (by decide +kernel)), rfl, rfl⟩
theorem d_MD_init_535 : decode prog_14_method_1_code 535 = .ok (.aload_n 0, 1) := by decide +kernel
theorem d_MD_init_536 : decode prog_14_method_1_code 536 = .ok (.bipush 32, 2) := by decide +kernel
theorem d_MD_init_538 : decode prog_14_method_1_code 538 = .ok (.newarray .int, 2) := by decide +kernel
theorem d_MD_init_540 : decode prog_14_method_1_code 540 = .ok (.putfield 202, 3) := by decide +kernel
theorem f_MD_202 : fl_OK "PlainMusicModel" 202 12 101 (.array .int) true := ⟨_, rfl, by decide, (gw_in 1583 (by decide +kernel) (by decide +kernel)), rfl, rfl⟩
theorem d_MD_init_543 : decode prog_14_method_1_code 543 = .ok (.aload_n 0, 1) := by decide +kernel
theorem d_MD_init_544 : decode prog_14_method_1_code 544 = .ok (.bipush 32, 2) := by decide +kernel
theorem d_MD_init_546 : decode prog_14_method_1_code 546 = .ok (.newarray .int, 2) := by decide +kernel
theorem d_MD_init_548 : decode prog_14_method_1_code 548 = .ok (.putfield 205, 3) := by decide +kernel
theorem f_MD_205 : fl_OK "PlainMusicModel" 205 12 102 (.array .int) true := ⟨_, rfl, by decide, (gw_in 1584 (by decide +kernel) (by decide +kernel)), rfl, rfl⟩
theorem d_MD_init_551 : decode prog_14_method_1_code 551 = .ok (.aload_n 0, 1) := by decide +kernel
theorem d_MD_init_552 : decode prog_14_method_1_code 552 = .ok (.bipush 32, 2) := by decide +kernel
theorem d_MD_init_554 : decode prog_14_method_1_code 554 = .ok (.newarray .long, 2) := by decide +kernel
theorem d_MD_init_556 : decode prog_14_method_1_code 556 = .ok (.putfield 208, 3) := by decide +kernel
theorem f_MD_208 : fl_OK "PlainMusicModel" 208 12 103 (.array .long) true := ⟨_, rfl, by decide, (gw_in 1585 (by decide +kernel) (by decide +kernel)), rfl, rfl⟩
theorem d_MD_init_559 : decode prog_14_method_1_code 559 = .ok (.aload_n 0, 1) := by decide +kernel
theorem d_MD_init_560 : decode prog_14_method_1_code 560 = .ok (.bipush 80, 2) := by decide +kernel
theorem d_MD_init_562 : decode prog_14_method_1_code 562 = .ok (.newarray .int, 2) := by decide +kernel
theorem d_MD_init_564 : decode prog_14_method_1_code 564 = .ok (.putfield 211, 3) := by decide +kernel
theorem f_MD_211 : fl_OK "PlainMusicModel" 211 12 106 (.array .int) true := ⟨_, rfl, by decide, (gw_in 1588 (by decide +kernel) (by decide +kernel)), rfl, rfl⟩
theorem d_MD_init_567 : decode prog_14_method_1_code 567 = .ok (.aload_n 0, 1) := by decide +kernel
theorem d_MD_init_568 : decode prog_14_method_1_code 568 = .ok (.bipush 80, 2) := by decide +kernel
theorem d_MD_init_570 : decode prog_14_method_1_code 570 = .ok (.newarray .int, 2) := by decide +kernel
theorem d_MD_init_572 : decode prog_14_method_1_code 572 = .ok (.putfield 214, 3) := by decide +kernel
theorem f_MD_214 : fl_OK "PlainMusicModel" 214 12 107 (.array .int) true := ⟨_, rfl, by decide, (gw_in 1589 (by decide +kernel) (by decide +kernel)), rfl, rfl⟩
theorem d_MD_init_575 : decode prog_14_method_1_code 575 = .ok (.aload_n 0, 1) := by decide +kernel
theorem d_MD_init_576 : decode prog_14_method_1_code 576 = .ok (.bipush 80, 2) := by decide +kernel
theorem d_MD_init_578 : decode prog_14_method_1_code 578 = .ok (.newarray .int, 2) := by decide +kernel
theorem d_MD_init_580 : decode prog_14_method_1_code 580 = .ok (.putfield 217, 3) := by decide +kernel
theorem f_MD_217 : fl_OK "PlainMusicModel" 217 12 108 (.array .int) true := ⟨_, rfl, by decide, (gw_in 1590 (by decide +kernel) (by decide +kernel)), rfl, rfl⟩
theorem d_MD_init_583 : decode prog_14_method_1_code 583 = .ok (.aload_n 0, 1) := by decide +kernel
theorem d_MD_init_584 : decode prog_14_method_1_code 584 = .ok (.sipush 6561, 3) := by decide +kernel
theorem d_MD_init_587 : decode prog_14_method_1_code 587 = .ok (.newarray .int, 2) := by decide +kernel
theorem d_MD_init_589 : decode prog_14_method_1_code 589 = .ok (.putfield 220, 3) := by decide +kernel
theorem f_MD_220 : fl_OK "PlainMusicModel" 220 12 109 (.array .int) true := ⟨_, rfl, by decide, (gw_in 1591 (by decide +kernel) (by decide +kernel)), rfl, rfl⟩
theorem d_MD_init_592 : decode prog_14_method_1_code 592 = .ok (.aload_n 0, 1) := by decide +kernel
theorem d_MD_init_593 : decode prog_14_method_1_code 593 = .ok (.sipush 6561, 3) := by decide +kernel
theorem d_MD_init_596 : decode prog_14_method_1_code 596 = .ok (.newarray .long, 2) := by decide +kernel
theorem d_MD_init_598 : decode prog_14_method_1_code 598 = .ok (.putfield 223, 3) := by decide +kernel
theorem f_MD_223 : fl_OK "PlainMusicModel" 223 12 110 (.array .long) true := ⟨_, rfl, by decide, (gw_in 1592 (by decide +kernel) (by decide +kernel)), rfl, rfl⟩
theorem d_MD_init_601 : decode prog_14_method_1_code 601 = .ok (.return_, 1) := by decide +kernel
