def m_Voice_init : mr_T := (⟨"PlainMusic$Voice", "<init>", "()V"⟩, prog_12_method_1_code, 1, none)
theorem d_Voice_init_0 : decode prog_12_method_1_code 0 = .ok (.aload_n 0, 1) := by decide +kernel
theorem d_Voice_init_1 : decode prog_12_method_1_code 1 = .ok (.invokespecial 3, 3) := by decide +kernel
theorem oi_Voice : Cond.methodLink "PlainMusic$Voice" 3 Lib.objectInit ∈ gw ∧ Cond.instanceMethod Lib.objectInit ∈ gw ∧ Cond.code Lib.objectInit ⟨#[0xb1]⟩ 1 none ∈ gw := ⟨gwi_277, gwi_161, gwi_162⟩
theorem d_Voice_init_4 : decode prog_12_method_1_code 4 = .ok (.aload_n 0, 1) := by decide +kernel
theorem d_Voice_init_5 : decode prog_12_method_1_code 5 = .ok (.sipush 300, 3) := by decide +kernel
theorem d_Voice_init_8 : decode prog_12_method_1_code 8 = .ok (.newarray .int, 2) := by decide +kernel
theorem ac_int : Cond.arrayClass .int ∈ gw := gwi_219
theorem d_Voice_init_10 : decode prog_12_method_1_code 10 = .ok (.putfield 9, 3) := by decide +kernel
theorem f_Voice_9 : fl_OK "PlainMusic$Voice" 9 10 0 (.array .int) true := ⟨_, rfl, by decide, gwi_278, rfl, rfl⟩
theorem d_Voice_init_13 : decode prog_12_method_1_code 13 = .ok (.aload_n 0, 1) := by decide +kernel
theorem d_Voice_init_14 : decode prog_12_method_1_code 14 = .ok (.sipush 300, 3) := by decide +kernel
theorem d_Voice_init_17 : decode prog_12_method_1_code 17 = .ok (.newarray .int, 2) := by decide +kernel
theorem d_Voice_init_19 : decode prog_12_method_1_code 19 = .ok (.putfield 15, 3) := by decide +kernel
theorem f_Voice_15 : fl_OK "PlainMusic$Voice" 15 10 1 (.array .int) true := ⟨_, rfl, by decide, gwi_279, rfl, rfl⟩
theorem d_Voice_init_22 : decode prog_12_method_1_code 22 = .ok (.aload_n 0, 1) := by decide +kernel
theorem d_Voice_init_23 : decode prog_12_method_1_code 23 = .ok (.sipush 301, 3) := by decide +kernel
theorem d_Voice_init_26 : decode prog_12_method_1_code 26 = .ok (.newarray .int, 2) := by decide +kernel
theorem d_Voice_init_28 : decode prog_12_method_1_code 28 = .ok (.putfield 18, 3) := by decide +kernel
theorem f_Voice_18 : fl_OK "PlainMusic$Voice" 18 10 3 (.array .int) true := ⟨_, rfl, by decide, gwi_281, rfl, rfl⟩
theorem d_Voice_init_31 : decode prog_12_method_1_code 31 = .ok (.aload_n 0, 1) := by decide +kernel
theorem d_Voice_init_32 : decode prog_12_method_1_code 32 = .ok (.sipush 300, 3) := by decide +kernel
theorem d_Voice_init_35 : decode prog_12_method_1_code 35 = .ok (.newarray .int, 2) := by decide +kernel
theorem d_Voice_init_37 : decode prog_12_method_1_code 37 = .ok (.putfield 21, 3) := by decide +kernel
theorem f_Voice_21 : fl_OK "PlainMusic$Voice" 21 10 4 (.array .int) true := ⟨_, rfl, by decide, gwi_282, rfl, rfl⟩
theorem d_Voice_init_40 : decode prog_12_method_1_code 40 = .ok (.aload_n 0, 1) := by decide +kernel
theorem d_Voice_init_41 : decode prog_12_method_1_code 41 = .ok (.sipush 300, 3) := by decide +kernel
theorem d_Voice_init_44 : decode prog_12_method_1_code 44 = .ok (.newarray .int, 2) := by decide +kernel
theorem d_Voice_init_46 : decode prog_12_method_1_code 46 = .ok (.putfield 24, 3) := by decide +kernel
theorem f_Voice_24 : fl_OK "PlainMusic$Voice" 24 10 5 (.array .int) true := ⟨_, rfl, by decide, gwi_283, rfl, rfl⟩
theorem d_Voice_init_49 : decode prog_12_method_1_code 49 = .ok (.aload_n 0, 1) := by decide +kernel
theorem d_Voice_init_50 : decode prog_12_method_1_code 50 = .ok (.sipush 300, 3) := by decide +kernel
theorem d_Voice_init_53 : decode prog_12_method_1_code 53 = .ok (.newarray .boolean, 2) := by decide +kernel
theorem ac_boolean : Cond.arrayClass .boolean ∈ gw := gwi_349
theorem d_Voice_init_55 : decode prog_12_method_1_code 55 = .ok (.putfield 27, 3) := by decide +kernel
theorem f_Voice_27 : fl_OK "PlainMusic$Voice" 27 10 6 (.array .boolean) true := ⟨_, rfl, by decide, gwi_284, rfl, rfl⟩
theorem d_Voice_init_58 : decode prog_12_method_1_code 58 = .ok (.aload_n 0, 1) := by decide +kernel
theorem d_Voice_init_59 : decode prog_12_method_1_code 59 = .ok (.sipush 300, 3) := by decide +kernel
theorem d_Voice_init_62 : decode prog_12_method_1_code 62 = .ok (.newarray .int, 2) := by decide +kernel
theorem d_Voice_init_64 : decode prog_12_method_1_code 64 = .ok (.putfield 31, 3) := by decide +kernel
theorem f_Voice_31 : fl_OK "PlainMusic$Voice" 31 10 8 (.array .int) true := ⟨_, rfl, by decide, gwi_286, rfl, rfl⟩
theorem d_Voice_init_67 : decode prog_12_method_1_code 67 = .ok (.aload_n 0, 1) := by decide +kernel
theorem d_Voice_init_68 : decode prog_12_method_1_code 68 = .ok (.sipush 300, 3) := by decide +kernel
theorem d_Voice_init_71 : decode prog_12_method_1_code 71 = .ok (.newarray .int, 2) := by decide +kernel
theorem d_Voice_init_73 : decode prog_12_method_1_code 73 = .ok (.putfield 34, 3) := by decide +kernel
theorem f_Voice_34 : fl_OK "PlainMusic$Voice" 34 10 9 (.array .int) true := ⟨_, rfl, by decide, gwi_287, rfl, rfl⟩
theorem d_Voice_init_76 : decode prog_12_method_1_code 76 = .ok (.aload_n 0, 1) := by decide +kernel
theorem d_Voice_init_77 : decode prog_12_method_1_code 77 = .ok (.sipush 301, 3) := by decide +kernel
theorem d_Voice_init_80 : decode prog_12_method_1_code 80 = .ok (.newarray .long, 2) := by decide +kernel
theorem ac_long : Cond.arrayClass .long ∈ gw := gwi_220
theorem d_Voice_init_82 : decode prog_12_method_1_code 82 = .ok (.putfield 37, 3) := by decide +kernel
theorem f_Voice_37 : fl_OK "PlainMusic$Voice" 37 10 10 (.array .long) true := ⟨_, rfl, by decide, gwi_288, rfl, rfl⟩
theorem d_Voice_init_85 : decode prog_12_method_1_code 85 = .ok (.aload_n 0, 1) := by decide +kernel
theorem d_Voice_init_86 : decode prog_12_method_1_code 86 = .ok (.sipush 301, 3) := by decide +kernel
theorem d_Voice_init_89 : decode prog_12_method_1_code 89 = .ok (.newarray .long, 2) := by decide +kernel
theorem d_Voice_init_91 : decode prog_12_method_1_code 91 = .ok (.putfield 41, 3) := by decide +kernel
theorem f_Voice_41 : fl_OK "PlainMusic$Voice" 41 10 11 (.array .long) true := ⟨_, rfl, by decide, gwi_291, rfl, rfl⟩
theorem d_Voice_init_94 : decode prog_12_method_1_code 94 = .ok (.aload_n 0, 1) := by decide +kernel
theorem d_Voice_init_95 : decode prog_12_method_1_code 95 = .ok (.sipush 300, 3) := by decide +kernel
theorem d_Voice_init_98 : decode prog_12_method_1_code 98 = .ok (.newarray .long, 2) := by decide +kernel
theorem d_Voice_init_100 : decode prog_12_method_1_code 100 = .ok (.putfield 44, 3) := by decide +kernel
theorem f_Voice_44 : fl_OK "PlainMusic$Voice" 44 10 12 (.array .long) true := ⟨_, rfl, by decide, gwi_294, rfl, rfl⟩
theorem d_Voice_init_103 : decode prog_12_method_1_code 103 = .ok (.aload_n 0, 1) := by decide +kernel
theorem d_Voice_init_104 : decode prog_12_method_1_code 104 = .ok (.sipush 300, 3) := by decide +kernel
theorem d_Voice_init_107 : decode prog_12_method_1_code 107 = .ok (.newarray .long, 2) := by decide +kernel
theorem d_Voice_init_109 : decode prog_12_method_1_code 109 = .ok (.putfield 47, 3) := by decide +kernel
theorem f_Voice_47 : fl_OK "PlainMusic$Voice" 47 10 13 (.array .long) true := ⟨_, rfl, by decide, gwi_297, rfl, rfl⟩
theorem d_Voice_init_112 : decode prog_12_method_1_code 112 = .ok (.aload_n 0, 1) := by decide +kernel
theorem d_Voice_init_113 : decode prog_12_method_1_code 113 = .ok (.bipush 102, 2) := by decide +kernel
theorem d_Voice_init_115 : decode prog_12_method_1_code 115 = .ok (.newarray .int, 2) := by decide +kernel
theorem d_Voice_init_117 : decode prog_12_method_1_code 117 = .ok (.putfield 50, 3) := by decide +kernel
theorem f_Voice_50 : fl_OK "PlainMusic$Voice" 50 10 15 (.array .int) true := ⟨_, rfl, by decide, gwi_305, rfl, rfl⟩
theorem d_Voice_init_120 : decode prog_12_method_1_code 120 = .ok (.return_, 1) := by decide +kernel
def m_Score_init : mr_T := (⟨"PlainMusic$Score", "<init>", "()V"⟩, prog_8_method_1_code, 2, none)
theorem d_Score_init_0 : decode prog_8_method_1_code 0 = .ok (.aload_n 0, 1) := by decide +kernel
theorem d_Score_init_1 : decode prog_8_method_1_code 1 = .ok (.invokespecial 3, 3) := by decide +kernel
theorem oi_Score : Cond.methodLink "PlainMusic$Score" 3 Lib.objectInit ∈ gw ∧ Cond.instanceMethod Lib.objectInit ∈ gw ∧ Cond.code Lib.objectInit ⟨#[0xb1]⟩ 1 none ∈ gw := ⟨gwi_270, gwi_161, gwi_162⟩
theorem d_Score_init_4 : decode prog_8_method_1_code 4 = .ok (.aload_n 0, 1) := by decide +kernel
theorem d_Score_init_5 : decode prog_8_method_1_code 5 = .ok (.iconst 4, 1) := by decide +kernel
theorem d_Score_init_6 : decode prog_8_method_1_code 6 = .ok (.anewarray 9, 3) := by decide +kernel
theorem cl_Score_9 : Cond.classLink "PlainMusic$Score" 9 "PlainMusic$Voice" ∈ gw := gwi_271
theorem ao_V : Cond.arrayOver (.object RX10) ∈ lw_tbl := (List.mem_of_getElem? (i := 272) (by decide +kernel))
theorem d_Score_init_9 : decode prog_8_method_1_code 9 = .ok (.putfield 11, 3) := by decide +kernel
theorem f_Score_11 : fl_OK "PlainMusic$Score" 11 6 0 (.array (.object "PlainMusic$Voice")) true := ⟨_, rfl, by decide, gwi_350, rfl, rfl⟩
theorem d_Score_init_12 : decode prog_8_method_1_code 12 = .ok (.aload_n 0, 1) := by decide +kernel
theorem d_Score_init_13 : decode prog_8_method_1_code 13 = .ok (.iconst 4, 1) := by decide +kernel
theorem d_Score_init_14 : decode prog_8_method_1_code 14 = .ok (.putfield 17, 3) := by decide +kernel
theorem f_Score_17 : fl_OK "PlainMusic$Score" 17 6 2 .int false := ⟨_, rfl, by decide, gwi_355, rfl, rfl⟩
theorem d_Score_init_17 : decode prog_8_method_1_code 17 = .ok (.aload_n 0, 1) := by decide +kernel
theorem d_Score_init_18 : decode prog_8_method_1_code 18 = .ok (.iconst 4, 1) := by decide +kernel
theorem d_Score_init_19 : decode prog_8_method_1_code 19 = .ok (.putfield 21, 3) := by decide +kernel
theorem f_Score_21 : fl_OK "PlainMusic$Score" 21 6 3 .int false := ⟨_, rfl, by decide, gwi_358, rfl, rfl⟩
theorem d_Score_init_22 : decode prog_8_method_1_code 22 = .ok (.aload_n 0, 1) := by decide +kernel
theorem d_Score_init_23 : decode prog_8_method_1_code 23 = .ok (.bipush 8, 2) := by decide +kernel
theorem d_Score_init_25 : decode prog_8_method_1_code 25 = .ok (.newarray .int, 2) := by decide +kernel
theorem d_Score_init_27 : decode prog_8_method_1_code 27 = .ok (.putfield 24, 3) := by decide +kernel
theorem f_Score_24 : fl_OK "PlainMusic$Score" 24 6 5 (.array .int) true := ⟨_, rfl, by decide, gwi_363, rfl, rfl⟩
theorem d_Score_init_30 : decode prog_8_method_1_code 30 = .ok (.aload_n 0, 1) := by decide +kernel
theorem d_Score_init_31 : decode prog_8_method_1_code 31 = .ok (.bipush 24, 2) := by decide +kernel
theorem d_Score_init_33 : decode prog_8_method_1_code 33 = .ok (.newarray .int, 2) := by decide +kernel
theorem d_Score_init_35 : decode prog_8_method_1_code 35 = .ok (.putfield 28, 3) := by decide +kernel
theorem f_Score_28 : fl_OK "PlainMusic$Score" 28 6 7 (.array .int) true := ⟨_, rfl, by decide, gwi_369, rfl, rfl⟩
theorem d_Score_init_38 : decode prog_8_method_1_code 38 = .ok (.aload_n 0, 1) := by decide +kernel
theorem d_Score_init_39 : decode prog_8_method_1_code 39 = .ok (.bipush 24, 2) := by decide +kernel
theorem d_Score_init_41 : decode prog_8_method_1_code 41 = .ok (.newarray .int, 2) := by decide +kernel
theorem d_Score_init_43 : decode prog_8_method_1_code 43 = .ok (.putfield 31, 3) := by decide +kernel
theorem f_Score_31 : fl_OK "PlainMusic$Score" 31 6 8 (.array .int) true := ⟨_, rfl, by decide, gwi_371, rfl, rfl⟩
theorem d_Score_init_46 : decode prog_8_method_1_code 46 = .ok (.aload_n 0, 1) := by decide +kernel
theorem d_Score_init_47 : decode prog_8_method_1_code 47 = .ok (.bipush 24, 2) := by decide +kernel
theorem d_Score_init_49 : decode prog_8_method_1_code 49 = .ok (.newarray .int, 2) := by decide +kernel
theorem d_Score_init_51 : decode prog_8_method_1_code 51 = .ok (.putfield 34, 3) := by decide +kernel
theorem f_Score_34 : fl_OK "PlainMusic$Score" 34 6 9 (.array .int) true := ⟨_, rfl, by decide, gwi_373, rfl, rfl⟩
theorem d_Score_init_54 : decode prog_8_method_1_code 54 = .ok (.aload_n 0, 1) := by decide +kernel
theorem d_Score_init_55 : decode prog_8_method_1_code 55 = .ok (.bipush 12, 2) := by decide +kernel
theorem d_Score_init_57 : decode prog_8_method_1_code 57 = .ok (.newarray .int, 2) := by decide +kernel
theorem d_Score_init_59 : decode prog_8_method_1_code 59 = .ok (.putfield 37, 3) := by decide +kernel
theorem f_Score_37 : fl_OK "PlainMusic$Score" 37 6 11 (.array .int) true := ⟨_, rfl, by decide, gwi_379, rfl, rfl⟩
theorem d_Score_init_62 : decode prog_8_method_1_code 62 = .ok (.iconst 0, 1) := by decide +kernel
theorem d_Score_init_63 : decode prog_8_method_1_code 63 = .ok (.istore_n 1, 1) := by decide +kernel
theorem d_Score_init_64 : decode prog_8_method_1_code 64 = .ok (.iload_n 1, 1) := by decide +kernel
theorem d_Score_init_65 : decode prog_8_method_1_code 65 = .ok (.aload_n 0, 1) := by decide +kernel
theorem d_Score_init_66 : decode prog_8_method_1_code 66 = .ok (.getfield 11, 3) := by decide +kernel
theorem d_Score_init_69 : decode prog_8_method_1_code 69 = .ok (.arraylength, 1) := by decide +kernel
theorem d_Score_init_70 : decode prog_8_method_1_code 70 = .ok (.if_icmp .ge 22, 3) := by decide +kernel
theorem d_Score_init_73 : decode prog_8_method_1_code 73 = .ok (.aload_n 0, 1) := by decide +kernel
theorem d_Score_init_74 : decode prog_8_method_1_code 74 = .ok (.getfield 11, 3) := by decide +kernel
theorem d_Score_init_77 : decode prog_8_method_1_code 77 = .ok (.iload_n 1, 1) := by decide +kernel
theorem d_Score_init_78 : decode prog_8_method_1_code 78 = .ok (.new 9, 3) := by decide +kernel
theorem d_Score_init_81 : decode prog_8_method_1_code 81 = .ok (.dup, 1) := by decide +kernel
theorem d_Score_init_82 : decode prog_8_method_1_code 82 = .ok (.invokespecial 40, 3) := by decide +kernel
theorem l_Score_40 : ml_OK "PlainMusic$Score" 40 ⟨"PlainMusic$Voice", "<init>", "()V"⟩ := Or.inr ⟨"PlainMusic", (List.mem_of_getElem? (i := 274) (by decide +kernel))⟩
theorem k_Voice_init : mt_OK m_Voice_init 0 2 := ⟨gwi_276, gwi_139, ⟨by decide +kernel, by decide +kernel, by decide +kernel⟩, fun h => absurd h (by decide), fun h => absurd h (by decide), fun _ => ⟨gwi_275, rfl, rfl⟩⟩
theorem d_Score_init_85 : decode prog_8_method_1_code 85 = .ok (.aastore, 1) := by decide +kernel
theorem d_Score_init_86 : decode prog_8_method_1_code 86 = .ok (.iinc 1 1, 3) := by decide +kernel
theorem d_Score_init_89 : decode prog_8_method_1_code 89 = .ok (.goto (-25), 3) := by decide +kernel
theorem d_Score_init_92 : decode prog_8_method_1_code 92 = .ok (.return_, 1) := by decide +kernel
def m_Tokens_init : mr_T := (⟨"PlainMusic$Tokens", "<init>", "()V"⟩, prog_10_method_1_code, 1, none)
theorem d_Tokens_init_0 : decode prog_10_method_1_code 0 = .ok (.aload_n 0, 1) := by decide +kernel
theorem d_Tokens_init_1 : decode prog_10_method_1_code 1 = .ok (.invokespecial 3, 3) := by decide +kernel
theorem oi_Tokens : Cond.methodLink "PlainMusic$Tokens" 3 Lib.objectInit ∈ gw ∧ Cond.instanceMethod Lib.objectInit ∈ gw ∧ Cond.code Lib.objectInit ⟨#[0xb1]⟩ 1 none ∈ gw := ⟨gwi_174, gwi_161, gwi_162⟩
theorem d_Tokens_init_4 : decode prog_10_method_1_code 4 = .ok (.aload_n 0, 1) := by decide +kernel
theorem d_Tokens_init_5 : decode prog_10_method_1_code 5 = .ok (.sipush 2001, 3) := by decide +kernel
theorem d_Tokens_init_8 : decode prog_10_method_1_code 8 = .ok (.newarray .int, 2) := by decide +kernel
theorem d_Tokens_init_10 : decode prog_10_method_1_code 10 = .ok (.putfield 9, 3) := by decide +kernel
theorem f_Tokens_9 : fl_OK "PlainMusic$Tokens" 9 8 0 (.array .int) true := ⟨_, rfl, by decide, gwi_175, rfl, rfl⟩
theorem d_Tokens_init_13 : decode prog_10_method_1_code 13 = .ok (.aload_n 0, 1) := by decide +kernel
theorem d_Tokens_init_14 : decode prog_10_method_1_code 14 = .ok (.sipush 2001, 3) := by decide +kernel
theorem d_Tokens_init_17 : decode prog_10_method_1_code 17 = .ok (.newarray .int, 2) := by decide +kernel
theorem d_Tokens_init_19 : decode prog_10_method_1_code 19 = .ok (.putfield 15, 3) := by decide +kernel
theorem f_Tokens_15 : fl_OK "PlainMusic$Tokens" 15 8 1 (.array .int) true := ⟨_, rfl, by decide, gwi_176, rfl, rfl⟩
theorem d_Tokens_init_22 : decode prog_10_method_1_code 22 = .ok (.aload_n 0, 1) := by decide +kernel
theorem d_Tokens_init_23 : decode prog_10_method_1_code 23 = .ok (.sipush 2001, 3) := by decide +kernel
theorem d_Tokens_init_26 : decode prog_10_method_1_code 26 = .ok (.newarray .long, 2) := by decide +kernel
theorem d_Tokens_init_28 : decode prog_10_method_1_code 28 = .ok (.putfield 18, 3) := by decide +kernel
theorem f_Tokens_18 : fl_OK "PlainMusic$Tokens" 18 8 2 (.array .long) true := ⟨_, rfl, by decide, gwi_177, rfl, rfl⟩
theorem d_Tokens_init_31 : decode prog_10_method_1_code 31 = .ok (.aload_n 0, 1) := by decide +kernel
theorem d_Tokens_init_32 : decode prog_10_method_1_code 32 = .ok (.sipush 2001, 3) := by decide +kernel
theorem d_Tokens_init_35 : decode prog_10_method_1_code 35 = .ok (.newarray .int, 2) := by decide +kernel
theorem d_Tokens_init_37 : decode prog_10_method_1_code 37 = .ok (.putfield 22, 3) := by decide +kernel
theorem f_Tokens_22 : fl_OK "PlainMusic$Tokens" 22 8 3 (.array .int) true := ⟨_, rfl, by decide, gwi_178, rfl, rfl⟩
theorem d_Tokens_init_40 : decode prog_10_method_1_code 40 = .ok (.aload_n 0, 1) := by decide +kernel
theorem d_Tokens_init_41 : decode prog_10_method_1_code 41 = .ok (.iconst 0, 1) := by decide +kernel
theorem d_Tokens_init_42 : decode prog_10_method_1_code 42 = .ok (.newarray .int, 2) := by decide +kernel
theorem d_Tokens_init_44 : decode prog_10_method_1_code 44 = .ok (.putfield 25, 3) := by decide +kernel
theorem f_Tokens_25 : fl_OK "PlainMusic$Tokens" 25 8 6 (.array .int) false := ⟨_, rfl, by decide, gwi_181, rfl, rfl⟩
theorem d_Tokens_init_47 : decode prog_10_method_1_code 47 = .ok (.return_, 1) := by decide +kernel
def m_Parts_init : mr_T := (⟨"PlainMusic$Parts", "<init>", "()V"⟩, prog_6_method_1_code, 1, none)
theorem d_Parts_init_0 : decode prog_6_method_1_code 0 = .ok (.aload_n 0, 1) := by decide +kernel
theorem d_Parts_init_1 : decode prog_6_method_1_code 1 = .ok (.invokespecial 3, 3) := by decide +kernel
theorem oi_Parts : Cond.methodLink "PlainMusic$Parts" 3 Lib.objectInit ∈ gw ∧ Cond.instanceMethod Lib.objectInit ∈ gw ∧ Cond.code Lib.objectInit ⟨#[0xb1]⟩ 1 none ∈ gw := ⟨gwi_226, gwi_161, gwi_162⟩
theorem d_Parts_init_4 : decode prog_6_method_1_code 4 = .ok (.aload_n 0, 1) := by decide +kernel
theorem d_Parts_init_5 : decode prog_6_method_1_code 5 = .ok (.sipush 2000, 3) := by decide +kernel
theorem d_Parts_init_8 : decode prog_6_method_1_code 8 = .ok (.newarray .int, 2) := by decide +kernel
theorem d_Parts_init_10 : decode prog_6_method_1_code 10 = .ok (.putfield 9, 3) := by decide +kernel
theorem f_Parts_9 : fl_OK "PlainMusic$Parts" 9 4 0 (.array .int) true := ⟨_, rfl, by decide, gwi_227, rfl, rfl⟩
theorem d_Parts_init_13 : decode prog_6_method_1_code 13 = .ok (.aload_n 0, 1) := by decide +kernel
theorem d_Parts_init_14 : decode prog_6_method_1_code 14 = .ok (.sipush 2000, 3) := by decide +kernel
theorem d_Parts_init_17 : decode prog_6_method_1_code 17 = .ok (.newarray .int, 2) := by decide +kernel
theorem d_Parts_init_19 : decode prog_6_method_1_code 19 = .ok (.putfield 15, 3) := by decide +kernel
theorem f_Parts_15 : fl_OK "PlainMusic$Parts" 15 4 1 (.array .int) true := ⟨_, rfl, by decide, gwi_228, rfl, rfl⟩
theorem d_Parts_init_22 : decode prog_6_method_1_code 22 = .ok (.aload_n 0, 1) := by decide +kernel
theorem d_Parts_init_23 : decode prog_6_method_1_code 23 = .ok (.sipush 2000, 3) := by decide +kernel
theorem d_Parts_init_26 : decode prog_6_method_1_code 26 = .ok (.newarray .int, 2) := by decide +kernel
theorem d_Parts_init_28 : decode prog_6_method_1_code 28 = .ok (.putfield 18, 3) := by decide +kernel
theorem f_Parts_18 : fl_OK "PlainMusic$Parts" 18 4 2 (.array .int) true := ⟨_, rfl, by decide, gwi_229, rfl, rfl⟩
theorem d_Parts_init_31 : decode prog_6_method_1_code 31 = .ok (.aload_n 0, 1) := by decide +kernel
theorem d_Parts_init_32 : decode prog_6_method_1_code 32 = .ok (.sipush 2000, 3) := by decide +kernel
theorem d_Parts_init_35 : decode prog_6_method_1_code 35 = .ok (.newarray .int, 2) := by decide +kernel
theorem d_Parts_init_37 : decode prog_6_method_1_code 37 = .ok (.putfield 21, 3) := by decide +kernel
theorem f_Parts_21 : fl_OK "PlainMusic$Parts" 21 4 3 (.array .int) true := ⟨_, rfl, by decide, gwi_230, rfl, rfl⟩
theorem d_Parts_init_40 : decode prog_6_method_1_code 40 = .ok (.aload_n 0, 1) := by decide +kernel
theorem d_Parts_init_41 : decode prog_6_method_1_code 41 = .ok (.bipush 7, 2) := by decide +kernel
theorem d_Parts_init_43 : decode prog_6_method_1_code 43 = .ok (.newarray .int, 2) := by decide +kernel
theorem d_Parts_init_45 : decode prog_6_method_1_code 45 = .ok (.putfield 24, 3) := by decide +kernel
theorem f_Parts_24 : fl_OK "PlainMusic$Parts" 24 4 5 (.array .int) true := ⟨_, rfl, by decide, gwi_232, rfl, rfl⟩
theorem d_Parts_init_48 : decode prog_6_method_1_code 48 = .ok (.aload_n 0, 1) := by decide +kernel
theorem d_Parts_init_49 : decode prog_6_method_1_code 49 = .ok (.bipush 7, 2) := by decide +kernel
theorem d_Parts_init_51 : decode prog_6_method_1_code 51 = .ok (.newarray .int, 2) := by decide +kernel
theorem d_Parts_init_53 : decode prog_6_method_1_code 53 = .ok (.putfield 27, 3) := by decide +kernel
theorem f_Parts_27 : fl_OK "PlainMusic$Parts" 27 4 6 (.array .int) true := ⟨_, rfl, by decide, gwi_233, rfl, rfl⟩
theorem d_Parts_init_56 : decode prog_6_method_1_code 56 = .ok (.return_, 1) := by decide +kernel
def m_Reader_init : mr_T := (⟨"PlainMusic$Reader", "<init>", "()V"⟩, prog_7_method_1_code, 1, none)
theorem d_Reader_init_0 : decode prog_7_method_1_code 0 = .ok (.aload_n 0, 1) := by decide +kernel
theorem d_Reader_init_1 : decode prog_7_method_1_code 1 = .ok (.invokespecial 3, 3) := by decide +kernel
theorem oi_Reader : Cond.methodLink "PlainMusic$Reader" 3 Lib.objectInit ∈ gw ∧ Cond.instanceMethod Lib.objectInit ∈ gw ∧ Cond.code Lib.objectInit ⟨#[0xb1]⟩ 1 none ∈ gw := ⟨gwi_168, gwi_161, gwi_162⟩
theorem d_Reader_init_4 : decode prog_7_method_1_code 4 = .ok (.aload_n 0, 1) := by decide +kernel
theorem d_Reader_init_5 : decode prog_7_method_1_code 5 = .ok (.new 9, 3) := by decide +kernel
theorem cl_Reader_9 : Cond.classLink "PlainMusic$Reader" 9 "PlainMusic$Tokens" ∈ gw := gwi_169
theorem d_Reader_init_8 : decode prog_7_method_1_code 8 = .ok (.dup, 1) := by decide +kernel
theorem d_Reader_init_9 : decode prog_7_method_1_code 9 = .ok (.invokespecial 11, 3) := by decide +kernel
theorem l_Reader_11 : ml_OK "PlainMusic$Reader" 11 ⟨"PlainMusic$Tokens", "<init>", "()V"⟩ := Or.inr ⟨"PlainMusic", (List.mem_of_getElem? (i := 171) (by decide +kernel))⟩
theorem k_Tokens_init : mt_OK m_Tokens_init 0 2 := ⟨gwi_173, gwi_136, ⟨by decide +kernel, by decide +kernel, by decide +kernel⟩, fun h => absurd h (by decide), fun h => absurd h (by decide), fun _ => ⟨gwi_172, rfl, rfl⟩⟩
theorem d_Reader_init_12 : decode prog_7_method_1_code 12 = .ok (.putfield 12, 3) := by decide +kernel
theorem f_Reader_12 : fl_OK "PlainMusic$Reader" 12 5 0 (.object "PlainMusic$Tokens") true := ⟨_, rfl, by decide, gwi_412, rfl, rfl⟩
theorem d_Reader_init_15 : decode prog_7_method_1_code 15 = .ok (.aload_n 0, 1) := by decide +kernel
theorem d_Reader_init_16 : decode prog_7_method_1_code 16 = .ok (.new 18, 3) := by decide +kernel
theorem cl_Reader_18 : Cond.classLink "PlainMusic$Reader" 18 "PlainMusic$Parts" ∈ gw := gwi_221
theorem d_Reader_init_19 : decode prog_7_method_1_code 19 = .ok (.dup, 1) := by decide +kernel
theorem d_Reader_init_20 : decode prog_7_method_1_code 20 = .ok (.invokespecial 20, 3) := by decide +kernel
theorem l_Reader_20 : ml_OK "PlainMusic$Reader" 20 ⟨"PlainMusic$Parts", "<init>", "()V"⟩ := Or.inr ⟨"PlainMusic", (List.mem_of_getElem? (i := 223) (by decide +kernel))⟩
theorem k_Parts_init : mt_OK m_Parts_init 0 2 := ⟨gwi_225, gwi_137, ⟨by decide +kernel, by decide +kernel, by decide +kernel⟩, fun h => absurd h (by decide), fun h => absurd h (by decide), fun _ => ⟨gwi_224, rfl, rfl⟩⟩
theorem d_Reader_init_23 : decode prog_7_method_1_code 23 = .ok (.putfield 21, 3) := by decide +kernel
theorem f_Reader_21 : fl_OK "PlainMusic$Reader" 21 5 1 (.object "PlainMusic$Parts") true := ⟨_, rfl, by decide, gwi_413, rfl, rfl⟩
theorem d_Reader_init_26 : decode prog_7_method_1_code 26 = .ok (.aload_n 0, 1) := by decide +kernel
theorem d_Reader_init_27 : decode prog_7_method_1_code 27 = .ok (.bipush 16, 2) := by decide +kernel
theorem d_Reader_init_29 : decode prog_7_method_1_code 29 = .ok (.newarray .long, 2) := by decide +kernel
theorem d_Reader_init_31 : decode prog_7_method_1_code 31 = .ok (.putfield 25, 3) := by decide +kernel
theorem f_Reader_25 : fl_OK "PlainMusic$Reader" 25 5 2 (.array .long) true := ⟨_, rfl, by decide, gwi_414, rfl, rfl⟩
theorem d_Reader_init_34 : decode prog_7_method_1_code 34 = .ok (.aload_n 0, 1) := by decide +kernel
theorem d_Reader_init_35 : decode prog_7_method_1_code 35 = .ok (.new 29, 3) := by decide +kernel
theorem cl_Reader_29 : Cond.classLink "PlainMusic$Reader" 29 "PlainMusic$Score" ∈ gw := gwi_265
theorem d_Reader_init_38 : decode prog_7_method_1_code 38 = .ok (.dup, 1) := by decide +kernel
theorem d_Reader_init_39 : decode prog_7_method_1_code 39 = .ok (.invokespecial 31, 3) := by decide +kernel
theorem l_Reader_31 : ml_OK "PlainMusic$Reader" 31 ⟨"PlainMusic$Score", "<init>", "()V"⟩ := Or.inl gwi_267
theorem k_Score_init : mt_OK m_Score_init 0 2 := ⟨gwi_269, gwi_138, ⟨by decide +kernel, by decide +kernel, by decide +kernel⟩, fun h => absurd h (by decide), fun h => absurd h (by decide), fun _ => ⟨gwi_268, rfl, rfl⟩⟩
theorem d_Reader_init_42 : decode prog_7_method_1_code 42 = .ok (.putfield 32, 3) := by decide +kernel
theorem f_Reader_32 : fl_OK "PlainMusic$Reader" 32 5 5 (.object "PlainMusic$Score") false := ⟨_, rfl, by decide, gwi_417, rfl, rfl⟩
theorem d_Reader_init_45 : decode prog_7_method_1_code 45 = .ok (.return_, 1) := by decide +kernel
def m_Judge_init : mr_T := (⟨"PlainMusic$Judge", "<init>", "()V"⟩, prog_3_method_1_code, 1, none)
theorem d_Judge_init_0 : decode prog_3_method_1_code 0 = .ok (.aload_n 0, 1) := by decide +kernel
theorem d_Judge_init_1 : decode prog_3_method_1_code 1 = .ok (.invokespecial 3, 3) := by decide +kernel
theorem oi_Judge : Cond.methodLink "PlainMusic$Judge" 3 Lib.objectInit ∈ gw ∧ Cond.instanceMethod Lib.objectInit ∈ gw ∧ Cond.code Lib.objectInit ⟨#[0xb1]⟩ 1 none ∈ gw := ⟨gwi_445, gwi_161, gwi_162⟩
theorem d_Judge_init_4 : decode prog_3_method_1_code 4 = .ok (.aload_n 0, 1) := by decide +kernel
theorem d_Judge_init_5 : decode prog_3_method_1_code 5 = .ok (.sipush 6404, 3) := by decide +kernel
theorem d_Judge_init_8 : decode prog_3_method_1_code 8 = .ok (.newarray .int, 2) := by decide +kernel
theorem d_Judge_init_10 : decode prog_3_method_1_code 10 = .ok (.putfield 11, 3) := by decide +kernel
theorem f_Judge_11 : fl_OK "PlainMusic$Judge" 11 1 0 (.array .int) true := ⟨_, rfl, by decide, gwi_446, rfl, rfl⟩
theorem d_Judge_init_13 : decode prog_3_method_1_code 13 = .ok (.aload_n 0, 1) := by decide +kernel
theorem d_Judge_init_14 : decode prog_3_method_1_code 14 = .ok (.iconst 4, 1) := by decide +kernel
theorem d_Judge_init_15 : decode prog_3_method_1_code 15 = .ok (.newarray .int, 2) := by decide +kernel
theorem d_Judge_init_17 : decode prog_3_method_1_code 17 = .ok (.putfield 15, 3) := by decide +kernel
theorem f_Judge_15 : fl_OK "PlainMusic$Judge" 15 1 2 (.array .int) true := ⟨_, rfl, by decide, gwi_448, rfl, rfl⟩
theorem d_Judge_init_20 : decode prog_3_method_1_code 20 = .ok (.return_, 1) := by decide +kernel
def m_Beams_init : mr_T := (⟨"PlainMusic$Beams", "<init>", "()V"⟩, prog_2_method_1_code, 1, none)
theorem d_Beams_init_0 : decode prog_2_method_1_code 0 = .ok (.aload_n 0, 1) := by decide +kernel
theorem d_Beams_init_1 : decode prog_2_method_1_code 1 = .ok (.invokespecial 3, 3) := by decide +kernel
theorem oi_Beams : Cond.methodLink "PlainMusic$Beams" 3 Lib.objectInit ∈ gw ∧ Cond.instanceMethod Lib.objectInit ∈ gw ∧ Cond.code Lib.objectInit ⟨#[0xb1]⟩ 1 none ∈ gw := ⟨gwi_461, gwi_161, gwi_162⟩
theorem d_Beams_init_4 : decode prog_2_method_1_code 4 = .ok (.aload_n 0, 1) := by decide +kernel
theorem d_Beams_init_5 : decode prog_2_method_1_code 5 = .ok (.bipush 14, 2) := by decide +kernel
theorem d_Beams_init_7 : decode prog_2_method_1_code 7 = .ok (.newarray .int, 2) := by decide +kernel
theorem d_Beams_init_9 : decode prog_2_method_1_code 9 = .ok (.putfield 11, 3) := by decide +kernel
theorem f_Beams_11 : fl_OK "PlainMusic$Beams" 11 0 0 (.array .int) true := ⟨_, rfl, by decide, gwi_462, rfl, rfl⟩
theorem d_Beams_init_12 : decode prog_2_method_1_code 12 = .ok (.aload_n 0, 1) := by decide +kernel
theorem d_Beams_init_13 : decode prog_2_method_1_code 13 = .ok (.bipush 15, 2) := by decide +kernel
theorem d_Beams_init_15 : decode prog_2_method_1_code 15 = .ok (.newarray .int, 2) := by decide +kernel
theorem d_Beams_init_17 : decode prog_2_method_1_code 17 = .ok (.putfield 15, 3) := by decide +kernel
theorem f_Beams_15 : fl_OK "PlainMusic$Beams" 15 0 2 (.array .int) true := ⟨_, rfl, by decide, gwi_464, rfl, rfl⟩
theorem d_Beams_init_20 : decode prog_2_method_1_code 20 = .ok (.aload_n 0, 1) := by decide +kernel
theorem d_Beams_init_21 : decode prog_2_method_1_code 21 = .ok (.bipush 15, 2) := by decide +kernel
theorem d_Beams_init_23 : decode prog_2_method_1_code 23 = .ok (.newarray .int, 2) := by decide +kernel
theorem d_Beams_init_25 : decode prog_2_method_1_code 25 = .ok (.putfield 18, 3) := by decide +kernel
theorem f_Beams_18 : fl_OK "PlainMusic$Beams" 18 0 3 (.array .int) true := ⟨_, rfl, by decide, gwi_465, rfl, rfl⟩
theorem d_Beams_init_28 : decode prog_2_method_1_code 28 = .ok (.return_, 1) := by decide +kernel
def m_Page_init : mr_T := (⟨"PlainMusic$Page", "<init>", "()V"⟩, prog_4_method_1_code, 1, none)
theorem d_Page_init_0 : decode prog_4_method_1_code 0 = .ok (.aload_n 0, 1) := by decide +kernel
theorem d_Page_init_1 : decode prog_4_method_1_code 1 = .ok (.invokespecial 3, 3) := by decide +kernel
theorem oi_Page : Cond.methodLink "PlainMusic$Page" 3 Lib.objectInit ∈ gw ∧ Cond.instanceMethod Lib.objectInit ∈ gw ∧ Cond.code Lib.objectInit ⟨#[0xb1]⟩ 1 none ∈ gw := ⟨gwi_480, gwi_161, gwi_162⟩
theorem d_Page_init_4 : decode prog_4_method_1_code 4 = .ok (.aload_n 0, 1) := by decide +kernel
theorem d_Page_init_5 : decode prog_4_method_1_code 5 = .ok (.bipush 14, 2) := by decide +kernel
theorem d_Page_init_7 : decode prog_4_method_1_code 7 = .ok (.newarray .int, 2) := by decide +kernel
theorem d_Page_init_9 : decode prog_4_method_1_code 9 = .ok (.putfield 11, 3) := by decide +kernel
theorem f_Page_11 : fl_OK "PlainMusic$Page" 11 2 0 (.array .int) true := ⟨_, rfl, by decide, gwi_481, rfl, rfl⟩
theorem d_Page_init_12 : decode prog_4_method_1_code 12 = .ok (.aload_n 0, 1) := by decide +kernel
theorem d_Page_init_13 : decode prog_4_method_1_code 13 = .ok (.bipush 14, 2) := by decide +kernel
theorem d_Page_init_15 : decode prog_4_method_1_code 15 = .ok (.newarray .int, 2) := by decide +kernel
theorem d_Page_init_17 : decode prog_4_method_1_code 17 = .ok (.putfield 15, 3) := by decide +kernel
theorem f_Page_15 : fl_OK "PlainMusic$Page" 15 2 2 (.array .int) true := ⟨_, rfl, by decide, gwi_483, rfl, rfl⟩
theorem d_Page_init_20 : decode prog_4_method_1_code 20 = .ok (.aload_n 0, 1) := by decide +kernel
theorem d_Page_init_21 : decode prog_4_method_1_code 21 = .ok (.bipush 15, 2) := by decide +kernel
theorem d_Page_init_23 : decode prog_4_method_1_code 23 = .ok (.newarray .long, 2) := by decide +kernel
theorem d_Page_init_25 : decode prog_4_method_1_code 25 = .ok (.putfield 18, 3) := by decide +kernel
theorem f_Page_18 : fl_OK "PlainMusic$Page" 18 2 3 (.array .long) true := ⟨_, rfl, by decide, gwi_484, rfl, rfl⟩
theorem d_Page_init_28 : decode prog_4_method_1_code 28 = .ok (.aload_n 0, 1) := by decide +kernel
theorem d_Page_init_29 : decode prog_4_method_1_code 29 = .ok (.bipush 15, 2) := by decide +kernel
theorem d_Page_init_31 : decode prog_4_method_1_code 31 = .ok (.newarray .int, 2) := by decide +kernel
theorem d_Page_init_33 : decode prog_4_method_1_code 33 = .ok (.putfield 22, 3) := by decide +kernel
theorem f_Page_22 : fl_OK "PlainMusic$Page" 22 2 4 (.array .int) true := ⟨_, rfl, by decide, gwi_485, rfl, rfl⟩
theorem d_Page_init_36 : decode prog_4_method_1_code 36 = .ok (.aload_n 0, 1) := by decide +kernel
theorem d_Page_init_37 : decode prog_4_method_1_code 37 = .ok (.iconst 4, 1) := by decide +kernel
theorem d_Page_init_38 : decode prog_4_method_1_code 38 = .ok (.newarray .int, 2) := by decide +kernel
theorem d_Page_init_40 : decode prog_4_method_1_code 40 = .ok (.putfield 25, 3) := by decide +kernel
theorem f_Page_25 : fl_OK "PlainMusic$Page" 25 2 5 (.array .int) true := ⟨_, rfl, by decide, gwi_486, rfl, rfl⟩
theorem d_Page_init_43 : decode prog_4_method_1_code 43 = .ok (.aload_n 0, 1) := by decide +kernel
theorem d_Page_init_44 : decode prog_4_method_1_code 44 = .ok (.iconst 4, 1) := by decide +kernel
theorem d_Page_init_45 : decode prog_4_method_1_code 45 = .ok (.newarray .long, 2) := by decide +kernel
theorem d_Page_init_47 : decode prog_4_method_1_code 47 = .ok (.putfield 28, 3) := by decide +kernel
theorem f_Page_28 : fl_OK "PlainMusic$Page" 28 2 6 (.array .long) true := ⟨_, rfl, by decide, gwi_487, rfl, rfl⟩
theorem d_Page_init_50 : decode prog_4_method_1_code 50 = .ok (.aload_n 0, 1) := by decide +kernel
theorem d_Page_init_51 : decode prog_4_method_1_code 51 = .ok (.iconst 4, 1) := by decide +kernel
theorem d_Page_init_52 : decode prog_4_method_1_code 52 = .ok (.newarray .long, 2) := by decide +kernel
theorem d_Page_init_54 : decode prog_4_method_1_code 54 = .ok (.putfield 31, 3) := by decide +kernel
theorem f_Page_31 : fl_OK "PlainMusic$Page" 31 2 7 (.array .long) true := ⟨_, rfl, by decide, gwi_488, rfl, rfl⟩
theorem d_Page_init_57 : decode prog_4_method_1_code 57 = .ok (.return_, 1) := by decide +kernel
def m_Seconds_init : mr_T := (⟨"PlainMusic$Seconds", "<init>", "()V"⟩, prog_9_method_1_code, 1, none)
theorem d_Seconds_init_0 : decode prog_9_method_1_code 0 = .ok (.aload_n 0, 1) := by decide +kernel
theorem d_Seconds_init_1 : decode prog_9_method_1_code 1 = .ok (.invokespecial 3, 3) := by decide +kernel
theorem oi_Seconds : Cond.methodLink "PlainMusic$Seconds" 3 Lib.objectInit ∈ gw ∧ Cond.instanceMethod Lib.objectInit ∈ gw ∧ Cond.code Lib.objectInit ⟨#[0xb1]⟩ 1 none ∈ gw := ⟨gwi_511, gwi_161, gwi_162⟩
theorem d_Seconds_init_4 : decode prog_9_method_1_code 4 = .ok (.aload_n 0, 1) := by decide +kernel
theorem d_Seconds_init_5 : decode prog_9_method_1_code 5 = .ok (.sipush 1563, 3) := by decide +kernel
theorem d_Seconds_init_8 : decode prog_9_method_1_code 8 = .ok (.newarray .long, 2) := by decide +kernel
theorem d_Seconds_init_10 : decode prog_9_method_1_code 10 = .ok (.putfield 11, 3) := by decide +kernel
theorem f_Seconds_11 : fl_OK "PlainMusic$Seconds" 11 7 0 (.array .long) true := ⟨_, rfl, by decide, gwi_512, rfl, rfl⟩
theorem d_Seconds_init_13 : decode prog_9_method_1_code 13 = .ok (.aload_n 0, 1) := by decide +kernel
theorem d_Seconds_init_14 : decode prog_9_method_1_code 14 = .ok (.bipush 8, 2) := by decide +kernel
theorem d_Seconds_init_16 : decode prog_9_method_1_code 16 = .ok (.newarray .int, 2) := by decide +kernel
theorem d_Seconds_init_18 : decode prog_9_method_1_code 18 = .ok (.putfield 15, 3) := by decide +kernel
theorem f_Seconds_15 : fl_OK "PlainMusic$Seconds" 15 7 6 (.array .int) true := ⟨_, rfl, by decide, gwi_518, rfl, rfl⟩
theorem d_Seconds_init_21 : decode prog_9_method_1_code 21 = .ok (.aload_n 0, 1) := by decide +kernel
theorem d_Seconds_init_22 : decode prog_9_method_1_code 22 = .ok (.bipush 8, 2) := by decide +kernel
theorem d_Seconds_init_24 : decode prog_9_method_1_code 24 = .ok (.newarray .int, 2) := by decide +kernel
theorem d_Seconds_init_26 : decode prog_9_method_1_code 26 = .ok (.putfield 19, 3) := by decide +kernel
theorem f_Seconds_19 : fl_OK "PlainMusic$Seconds" 19 7 7 (.array .int) true := ⟨_, rfl, by decide, gwi_519, rfl, rfl⟩
theorem d_Seconds_init_29 : decode prog_9_method_1_code 29 = .ok (.return_, 1) := by decide +kernel
def m_Trees_init : mr_T := (⟨"PlainMusic$Trees", "<init>", "()V"⟩, prog_11_method_1_code, 1, none)
theorem d_Trees_init_0 : decode prog_11_method_1_code 0 = .ok (.aload_n 0, 1) := by decide +kernel
theorem d_Trees_init_1 : decode prog_11_method_1_code 1 = .ok (.invokespecial 3, 3) := by decide +kernel
theorem oi_Trees : Cond.methodLink "PlainMusic$Trees" 3 Lib.objectInit ∈ gw ∧ Cond.instanceMethod Lib.objectInit ∈ gw ∧ Cond.code Lib.objectInit ⟨#[0xb1]⟩ 1 none ∈ gw := ⟨gwi_542, gwi_161, gwi_162⟩
theorem d_Trees_init_4 : decode prog_11_method_1_code 4 = .ok (.aload_n 0, 1) := by decide +kernel
theorem d_Trees_init_5 : decode prog_11_method_1_code 5 = .ok (.sipush 2704, 3) := by decide +kernel
theorem d_Trees_init_8 : decode prog_11_method_1_code 8 = .ok (.newarray .int, 2) := by decide +kernel
theorem d_Trees_init_10 : decode prog_11_method_1_code 10 = .ok (.putfield 11, 3) := by decide +kernel
theorem f_Trees_11 : fl_OK "PlainMusic$Trees" 11 9 0 (.array .int) true := ⟨_, rfl, by decide, gwi_543, rfl, rfl⟩
theorem d_Trees_init_13 : decode prog_11_method_1_code 13 = .ok (.return_, 1) := by decide +kernel
def m_Pairing_init : mr_T := (⟨"PlainMusic$Pairing", "<init>", "()V"⟩, prog_5_method_1_code, 1, none)
theorem d_Pairing_init_0 : decode prog_5_method_1_code 0 = .ok (.aload_n 0, 1) := by decide +kernel
theorem d_Pairing_init_1 : decode prog_5_method_1_code 1 = .ok (.invokespecial 5, 3) := by decide +kernel
theorem oi_Pairing : Cond.methodLink "PlainMusic$Pairing" 5 Lib.objectInit ∈ gw ∧ Cond.instanceMethod Lib.objectInit ∈ gw ∧ Cond.code Lib.objectInit ⟨#[0xb1]⟩ 1 none ∈ gw := ⟨gwi_567, gwi_161, gwi_162⟩
theorem d_Pairing_init_4 : decode prog_5_method_1_code 4 = .ok (.aload_n 0, 1) := by decide +kernel
theorem d_Pairing_init_5 : decode prog_5_method_1_code 5 = .ok (.bipush 80, 2) := by decide +kernel
theorem d_Pairing_init_7 : decode prog_5_method_1_code 7 = .ok (.newarray .int, 2) := by decide +kernel
theorem d_Pairing_init_9 : decode prog_5_method_1_code 9 = .ok (.putfield 11, 3) := by decide +kernel
theorem f_Pairing_11 : fl_OK "PlainMusic$Pairing" 11 3 0 (.array .int) true := ⟨_, rfl, by decide, gwi_568, rfl, rfl⟩
theorem d_Pairing_init_12 : decode prog_5_method_1_code 12 = .ok (.aload_n 0, 1) := by decide +kernel
theorem d_Pairing_init_13 : decode prog_5_method_1_code 13 = .ok (.bipush 80, 2) := by decide +kernel
theorem d_Pairing_init_15 : decode prog_5_method_1_code 15 = .ok (.newarray .int, 2) := by decide +kernel
theorem d_Pairing_init_17 : decode prog_5_method_1_code 17 = .ok (.putfield 15, 3) := by decide +kernel
theorem f_Pairing_15 : fl_OK "PlainMusic$Pairing" 15 3 1 (.array .int) true := ⟨_, rfl, by decide, gwi_569, rfl, rfl⟩
theorem d_Pairing_init_20 : decode prog_5_method_1_code 20 = .ok (.aload_n 0, 1) := by decide +kernel
theorem d_Pairing_init_21 : decode prog_5_method_1_code 21 = .ok (.sipush 1681, 3) := by decide +kernel
theorem d_Pairing_init_24 : decode prog_5_method_1_code 24 = .ok (.newarray .int, 2) := by decide +kernel
theorem d_Pairing_init_26 : decode prog_5_method_1_code 26 = .ok (.putfield 18, 3) := by decide +kernel
theorem f_Pairing_18 : fl_OK "PlainMusic$Pairing" 18 3 2 (.array .int) true := ⟨_, rfl, by decide, gwi_570, rfl, rfl⟩
theorem d_Pairing_init_29 : decode prog_5_method_1_code 29 = .ok (.aload_n 0, 1) := by decide +kernel
theorem d_Pairing_init_30 : decode prog_5_method_1_code 30 = .ok (.sipush 1681, 3) := by decide +kernel
theorem d_Pairing_init_33 : decode prog_5_method_1_code 33 = .ok (.newarray .int, 2) := by decide +kernel
theorem d_Pairing_init_35 : decode prog_5_method_1_code 35 = .ok (.putfield 21, 3) := by decide +kernel
theorem f_Pairing_21 : fl_OK "PlainMusic$Pairing" 21 3 3 (.array .int) true := ⟨_, rfl, by decide, gwi_571, rfl, rfl⟩
theorem d_Pairing_init_38 : decode prog_5_method_1_code 38 = .ok (.aload_n 0, 1) := by decide +kernel
theorem d_Pairing_init_39 : decode prog_5_method_1_code 39 = .ok (.bipush 80, 2) := by decide +kernel
theorem d_Pairing_init_41 : decode prog_5_method_1_code 41 = .ok (.newarray .int, 2) := by decide +kernel
theorem d_Pairing_init_43 : decode prog_5_method_1_code 43 = .ok (.putfield 24, 3) := by decide +kernel
theorem f_Pairing_24 : fl_OK "PlainMusic$Pairing" 24 3 4 (.array .int) true := ⟨_, rfl, by decide, gwi_572, rfl, rfl⟩
theorem d_Pairing_init_46 : decode prog_5_method_1_code 46 = .ok (.return_, 1) := by decide +kernel
def m_PM_init : mr_T := (⟨"PlainMusic", "<init>", "()V"⟩, prog_1_method_1_code, 1, none)
theorem d_PM_init_0 : decode prog_1_method_1_code 0 = .ok (.aload_n 0, 1) := by decide +kernel
theorem d_PM_init_1 : decode prog_1_method_1_code 1 = .ok (.invokespecial 1, 3) := by decide +kernel
theorem oi_PM : Cond.methodLink "PlainMusic" 1 Lib.objectInit ∈ gw ∧ Cond.instanceMethod Lib.objectInit ∈ gw ∧ Cond.code Lib.objectInit ⟨#[0xb1]⟩ 1 none ∈ gw := ⟨gwi_160, gwi_161, gwi_162⟩
theorem d_PM_init_4 : decode prog_1_method_1_code 4 = .ok (.aload_n 0, 1) := by decide +kernel
theorem d_PM_init_5 : decode prog_1_method_1_code 5 = .ok (.sipush 2000, 3) := by decide +kernel
theorem d_PM_init_8 : decode prog_1_method_1_code 8 = .ok (.newarray .int, 2) := by decide +kernel
theorem d_PM_init_10 : decode prog_1_method_1_code 10 = .ok (.putfield 9, 3) := by decide +kernel
theorem f_PM_9 : fl_OK "PlainMusic" 9 11 0 (.array .int) true := ⟨_, rfl, by decide, gwi_594, rfl, rfl⟩
theorem d_PM_init_13 : decode prog_1_method_1_code 13 = .ok (.aload_n 0, 1) := by decide +kernel
theorem d_PM_init_14 : decode prog_1_method_1_code 14 = .ok (.iconst 0, 1) := by decide +kernel
theorem d_PM_init_15 : decode prog_1_method_1_code 15 = .ok (.putfield 13, 3) := by decide +kernel
theorem f_PM_13 : fl_OK "PlainMusic" 13 11 1 .int false := ⟨_, rfl, by decide, gwi_595, rfl, rfl⟩
theorem d_PM_init_18 : decode prog_1_method_1_code 18 = .ok (.aload_n 0, 1) := by decide +kernel
theorem d_PM_init_19 : decode prog_1_method_1_code 19 = .ok (.new 17, 3) := by decide +kernel
theorem cl_PM_17 : Cond.classLink "PlainMusic" 17 "PlainMusic$Reader" ∈ gw := gwi_163
theorem d_PM_init_22 : decode prog_1_method_1_code 22 = .ok (.dup, 1) := by decide +kernel
theorem d_PM_init_23 : decode prog_1_method_1_code 23 = .ok (.invokespecial 19, 3) := by decide +kernel
theorem l_PM_19 : ml_OK "PlainMusic" 19 ⟨"PlainMusic$Reader", "<init>", "()V"⟩ := Or.inr ⟨"PlainMusic", (List.mem_of_getElem? (i := 165) (by decide +kernel))⟩
theorem k_Reader_init : mt_OK m_Reader_init 0 2 := ⟨gwi_167, gwi_135, ⟨by decide +kernel, by decide +kernel, by decide +kernel⟩, fun h => absurd h (by decide), fun h => absurd h (by decide), fun _ => ⟨gwi_166, rfl, rfl⟩⟩
theorem d_PM_init_26 : decode prog_1_method_1_code 26 = .ok (.putfield 20, 3) := by decide +kernel
theorem f_PM_20 : fl_OK "PlainMusic" 20 11 2 (.object "PlainMusic$Reader") true := ⟨_, rfl, by decide, gwi_596, rfl, rfl⟩
theorem d_PM_init_29 : decode prog_1_method_1_code 29 = .ok (.aload_n 0, 1) := by decide +kernel
theorem d_PM_init_30 : decode prog_1_method_1_code 30 = .ok (.new 24, 3) := by decide +kernel
theorem cl_PM_24 : Cond.classLink "PlainMusic" 24 "PlainMusic$Score" ∈ gw := gwi_438
theorem d_PM_init_33 : decode prog_1_method_1_code 33 = .ok (.dup, 1) := by decide +kernel
theorem d_PM_init_34 : decode prog_1_method_1_code 34 = .ok (.invokespecial 26, 3) := by decide +kernel
theorem l_PM_26 : ml_OK "PlainMusic" 26 ⟨"PlainMusic$Score", "<init>", "()V"⟩ := Or.inl gwi_439
theorem d_PM_init_37 : decode prog_1_method_1_code 37 = .ok (.putfield 27, 3) := by decide +kernel
theorem f_PM_27 : fl_OK "PlainMusic" 27 11 3 (.object "PlainMusic$Score") false := ⟨_, rfl, by decide, gwi_597, rfl, rfl⟩
theorem d_PM_init_40 : decode prog_1_method_1_code 40 = .ok (.aload_n 0, 1) := by decide +kernel
theorem d_PM_init_41 : decode prog_1_method_1_code 41 = .ok (.bipush (-2), 2) := by decide +kernel
theorem d_PM_init_43 : decode prog_1_method_1_code 43 = .ok (.putfield 31, 3) := by decide +kernel
theorem f_PM_31 : fl_OK "PlainMusic" 31 11 4 .int false := ⟨_, rfl, by decide, gwi_598, rfl, rfl⟩
theorem d_PM_init_46 : decode prog_1_method_1_code 46 = .ok (.aload_n 0, 1) := by decide +kernel
theorem d_PM_init_47 : decode prog_1_method_1_code 47 = .ok (.new 34, 3) := by decide +kernel
theorem cl_PM_34 : Cond.classLink "PlainMusic" 34 "PlainMusic$Judge" ∈ gw := gwi_440
theorem d_PM_init_50 : decode prog_1_method_1_code 50 = .ok (.dup, 1) := by decide +kernel
theorem d_PM_init_51 : decode prog_1_method_1_code 51 = .ok (.invokespecial 36, 3) := by decide +kernel
theorem l_PM_36 : ml_OK "PlainMusic" 36 ⟨"PlainMusic$Judge", "<init>", "()V"⟩ := Or.inr ⟨"PlainMusic", (List.mem_of_getElem? (i := 442) (by decide +kernel))⟩
theorem k_Judge_init : mt_OK m_Judge_init 0 2 := ⟨gwi_444, gwi_140, ⟨by decide +kernel, by decide +kernel, by decide +kernel⟩, fun h => absurd h (by decide), fun h => absurd h (by decide), fun _ => ⟨gwi_443, rfl, rfl⟩⟩
theorem d_PM_init_54 : decode prog_1_method_1_code 54 = .ok (.putfield 37, 3) := by decide +kernel
theorem f_PM_37 : fl_OK "PlainMusic" 37 11 5 (.object "PlainMusic$Judge") true := ⟨_, rfl, by decide, gwi_599, rfl, rfl⟩
theorem d_PM_init_57 : decode prog_1_method_1_code 57 = .ok (.aload_n 0, 1) := by decide +kernel
theorem d_PM_init_58 : decode prog_1_method_1_code 58 = .ok (.new 41, 3) := by decide +kernel
theorem cl_PM_41 : Cond.classLink "PlainMusic" 41 "PlainMusic$Beams" ∈ gw := gwi_456
theorem d_PM_init_61 : decode prog_1_method_1_code 61 = .ok (.dup, 1) := by decide +kernel
theorem d_PM_init_62 : decode prog_1_method_1_code 62 = .ok (.invokespecial 43, 3) := by decide +kernel
theorem l_PM_43 : ml_OK "PlainMusic" 43 ⟨"PlainMusic$Beams", "<init>", "()V"⟩ := Or.inr ⟨"PlainMusic", (List.mem_of_getElem? (i := 458) (by decide +kernel))⟩
theorem k_Beams_init : mt_OK m_Beams_init 0 2 := ⟨gwi_460, gwi_141, ⟨by decide +kernel, by decide +kernel, by decide +kernel⟩, fun h => absurd h (by decide), fun h => absurd h (by decide), fun _ => ⟨gwi_459, rfl, rfl⟩⟩
theorem d_PM_init_65 : decode prog_1_method_1_code 65 = .ok (.putfield 44, 3) := by decide +kernel
theorem f_PM_44 : fl_OK "PlainMusic" 44 11 6 (.object "PlainMusic$Beams") true := ⟨_, rfl, by decide, gwi_600, rfl, rfl⟩
theorem d_PM_init_68 : decode prog_1_method_1_code 68 = .ok (.aload_n 0, 1) := by decide +kernel
theorem d_PM_init_69 : decode prog_1_method_1_code 69 = .ok (.new 48, 3) := by decide +kernel
theorem cl_PM_48 : Cond.classLink "PlainMusic" 48 "PlainMusic$Page" ∈ gw := gwi_475
theorem d_PM_init_72 : decode prog_1_method_1_code 72 = .ok (.dup, 1) := by decide +kernel
theorem d_PM_init_73 : decode prog_1_method_1_code 73 = .ok (.invokespecial 50, 3) := by decide +kernel
theorem l_PM_50 : ml_OK "PlainMusic" 50 ⟨"PlainMusic$Page", "<init>", "()V"⟩ := Or.inr ⟨"PlainMusic", (List.mem_of_getElem? (i := 477) (by decide +kernel))⟩
theorem k_Page_init : mt_OK m_Page_init 0 2 := ⟨gwi_479, gwi_142, ⟨by decide +kernel, by decide +kernel, by decide +kernel⟩, fun h => absurd h (by decide), fun h => absurd h (by decide), fun _ => ⟨gwi_478, rfl, rfl⟩⟩
theorem d_PM_init_76 : decode prog_1_method_1_code 76 = .ok (.putfield 51, 3) := by decide +kernel
theorem f_PM_51 : fl_OK "PlainMusic" 51 11 7 (.object "PlainMusic$Page") true := ⟨_, rfl, by decide, gwi_601, rfl, rfl⟩
theorem d_PM_init_79 : decode prog_1_method_1_code 79 = .ok (.aload_n 0, 1) := by decide +kernel
theorem d_PM_init_80 : decode prog_1_method_1_code 80 = .ok (.new 55, 3) := by decide +kernel
theorem cl_PM_55 : Cond.classLink "PlainMusic" 55 "PlainMusic$Seconds" ∈ gw := gwi_506
theorem d_PM_init_83 : decode prog_1_method_1_code 83 = .ok (.dup, 1) := by decide +kernel
theorem d_PM_init_84 : decode prog_1_method_1_code 84 = .ok (.invokespecial 57, 3) := by decide +kernel
theorem l_PM_57 : ml_OK "PlainMusic" 57 ⟨"PlainMusic$Seconds", "<init>", "()V"⟩ := Or.inr ⟨"PlainMusic", (List.mem_of_getElem? (i := 508) (by decide +kernel))⟩
theorem k_Seconds_init : mt_OK m_Seconds_init 0 2 := ⟨gwi_510, gwi_143, ⟨by decide +kernel, by decide +kernel, by decide +kernel⟩, fun h => absurd h (by decide), fun h => absurd h (by decide), fun _ => ⟨gwi_509, rfl, rfl⟩⟩
theorem d_PM_init_87 : decode prog_1_method_1_code 87 = .ok (.putfield 58, 3) := by decide +kernel
theorem f_PM_58 : fl_OK "PlainMusic" 58 11 8 (.object "PlainMusic$Seconds") true := ⟨_, rfl, by decide, gwi_602, rfl, rfl⟩
theorem d_PM_init_90 : decode prog_1_method_1_code 90 = .ok (.aload_n 0, 1) := by decide +kernel
theorem d_PM_init_91 : decode prog_1_method_1_code 91 = .ok (.new 62, 3) := by decide +kernel
theorem cl_PM_62 : Cond.classLink "PlainMusic" 62 "PlainMusic$Trees" ∈ gw := gwi_537
theorem d_PM_init_94 : decode prog_1_method_1_code 94 = .ok (.dup, 1) := by decide +kernel
theorem d_PM_init_95 : decode prog_1_method_1_code 95 = .ok (.invokespecial 64, 3) := by decide +kernel
theorem l_PM_64 : ml_OK "PlainMusic" 64 ⟨"PlainMusic$Trees", "<init>", "()V"⟩ := Or.inr ⟨"PlainMusic", (List.mem_of_getElem? (i := 539) (by decide +kernel))⟩
theorem k_Trees_init : mt_OK m_Trees_init 0 2 := ⟨gwi_541, gwi_144, ⟨by decide +kernel, by decide +kernel, by decide +kernel⟩, fun h => absurd h (by decide), fun h => absurd h (by decide), fun _ => ⟨gwi_540, rfl, rfl⟩⟩
theorem d_PM_init_98 : decode prog_1_method_1_code 98 = .ok (.putfield 65, 3) := by decide +kernel
theorem f_PM_65 : fl_OK "PlainMusic" 65 11 9 (.object "PlainMusic$Trees") true := ⟨_, rfl, by decide, gwi_603, rfl, rfl⟩
theorem d_PM_init_101 : decode prog_1_method_1_code 101 = .ok (.aload_n 0, 1) := by decide +kernel
theorem d_PM_init_102 : decode prog_1_method_1_code 102 = .ok (.new 69, 3) := by decide +kernel
theorem cl_PM_69 : Cond.classLink "PlainMusic" 69 "PlainMusic$Pairing" ∈ gw := gwi_562
theorem d_PM_init_105 : decode prog_1_method_1_code 105 = .ok (.dup, 1) := by decide +kernel
theorem d_PM_init_106 : decode prog_1_method_1_code 106 = .ok (.invokespecial 71, 3) := by decide +kernel
theorem l_PM_71 : ml_OK "PlainMusic" 71 ⟨"PlainMusic$Pairing", "<init>", "()V"⟩ := Or.inr ⟨"PlainMusic", (List.mem_of_getElem? (i := 564) (by decide +kernel))⟩
theorem k_Pairing_init : mt_OK m_Pairing_init 0 2 := ⟨gwi_566, gwi_145, ⟨by decide +kernel, by decide +kernel, by decide +kernel⟩, fun h => absurd h (by decide), fun h => absurd h (by decide), fun _ => ⟨gwi_565, rfl, rfl⟩⟩
theorem d_PM_init_109 : decode prog_1_method_1_code 109 = .ok (.putfield 72, 3) := by decide +kernel
theorem f_PM_72 : fl_OK "PlainMusic" 72 11 10 (.object "PlainMusic$Pairing") true := ⟨_, rfl, by decide, gwi_604, rfl, rfl⟩
theorem d_PM_init_112 : decode prog_1_method_1_code 112 = .ok (.return_, 1) := by decide +kernel
def m_MD_init : mr_T := (⟨"PlainMusicModel", "<init>", "()V"⟩, prog_14_method_1_code, 1, none)
theorem d_MD_init_0 : decode prog_14_method_1_code 0 = .ok (.aload_n 0, 1) := by decide +kernel
theorem d_MD_init_1 : decode prog_14_method_1_code 1 = .ok (.invokespecial 1, 3) := by decide +kernel
theorem oi_MD : Cond.methodLink "PlainMusicModel" 1 Lib.objectInit ∈ gw ∧ Cond.instanceMethod Lib.objectInit ∈ gw ∧ Cond.code Lib.objectInit ⟨#[0xb1]⟩ 1 none ∈ gw := ⟨gwi_1481, gwi_161, gwi_162⟩
theorem d_MD_init_4 : decode prog_14_method_1_code 4 = .ok (.aload_n 0, 1) := by decide +kernel
theorem d_MD_init_5 : decode prog_14_method_1_code 5 = .ok (.sipush 2000, 3) := by decide +kernel
theorem d_MD_init_8 : decode prog_14_method_1_code 8 = .ok (.newarray .int, 2) := by decide +kernel
theorem d_MD_init_10 : decode prog_14_method_1_code 10 = .ok (.putfield 7, 3) := by decide +kernel
theorem f_MD_7 : fl_OK "PlainMusicModel" 7 12 0 (.array .int) true := ⟨_, rfl, by decide, gwi_1482, rfl, rfl⟩
theorem d_MD_init_13 : decode prog_14_method_1_code 13 = .ok (.aload_n 0, 1) := by decide +kernel
theorem d_MD_init_14 : decode prog_14_method_1_code 14 = .ok (.bipush (-2), 2) := by decide +kernel
theorem d_MD_init_16 : decode prog_14_method_1_code 16 = .ok (.putfield 13, 3) := by decide +kernel
theorem f_MD_13 : fl_OK "PlainMusicModel" 13 12 13 .int false := ⟨_, rfl, by decide, gwi_1495, rfl, rfl⟩
theorem d_MD_init_19 : decode prog_14_method_1_code 19 = .ok (.aload_n 0, 1) := by decide +kernel
theorem d_MD_init_20 : decode prog_14_method_1_code 20 = .ok (.iconst 2, 1) := by decide +kernel
theorem d_MD_init_21 : decode prog_14_method_1_code 21 = .ok (.newarray .int, 2) := by decide +kernel
theorem d_MD_init_23 : decode prog_14_method_1_code 23 = .ok (.putfield 17, 3) := by decide +kernel
theorem f_MD_17 : fl_OK "PlainMusicModel" 17 12 14 (.array .int) true := ⟨_, rfl, by decide, gwi_1496, rfl, rfl⟩
theorem d_MD_init_26 : decode prog_14_method_1_code 26 = .ok (.aload_n 0, 1) := by decide +kernel
theorem d_MD_init_27 : decode prog_14_method_1_code 27 = .ok (.iconst 2, 1) := by decide +kernel
theorem d_MD_init_28 : decode prog_14_method_1_code 28 = .ok (.newarray .int, 2) := by decide +kernel
theorem d_MD_init_30 : decode prog_14_method_1_code 30 = .ok (.putfield 20, 3) := by decide +kernel
theorem f_MD_20 : fl_OK "PlainMusicModel" 20 12 15 (.array .int) true := ⟨_, rfl, by decide, gwi_1497, rfl, rfl⟩
theorem d_MD_init_33 : decode prog_14_method_1_code 33 = .ok (.aload_n 0, 1) := by decide +kernel
theorem d_MD_init_34 : decode prog_14_method_1_code 34 = .ok (.iconst 2, 1) := by decide +kernel
theorem d_MD_init_35 : decode prog_14_method_1_code 35 = .ok (.newarray .int, 2) := by decide +kernel
theorem d_MD_init_37 : decode prog_14_method_1_code 37 = .ok (.putfield 23, 3) := by decide +kernel
theorem f_MD_23 : fl_OK "PlainMusicModel" 23 12 16 (.array .int) true := ⟨_, rfl, by decide, gwi_1498, rfl, rfl⟩
theorem d_MD_init_40 : decode prog_14_method_1_code 40 = .ok (.aload_n 0, 1) := by decide +kernel
theorem d_MD_init_41 : decode prog_14_method_1_code 41 = .ok (.iconst 2, 1) := by decide +kernel
theorem d_MD_init_42 : decode prog_14_method_1_code 42 = .ok (.newarray .int, 2) := by decide +kernel
theorem d_MD_init_44 : decode prog_14_method_1_code 44 = .ok (.putfield 26, 3) := by decide +kernel
theorem f_MD_26 : fl_OK "PlainMusicModel" 26 12 17 (.array .int) true := ⟨_, rfl, by decide, gwi_1499, rfl, rfl⟩
theorem d_MD_init_47 : decode prog_14_method_1_code 47 = .ok (.aload_n 0, 1) := by decide +kernel
theorem d_MD_init_48 : decode prog_14_method_1_code 48 = .ok (.bipush 16, 2) := by decide +kernel
theorem d_MD_init_50 : decode prog_14_method_1_code 50 = .ok (.newarray .int, 2) := by decide +kernel
theorem d_MD_init_52 : decode prog_14_method_1_code 52 = .ok (.putfield 29, 3) := by decide +kernel
theorem f_MD_29 : fl_OK "PlainMusicModel" 29 12 18 (.array .int) true := ⟨_, rfl, by decide, gwi_1500, rfl, rfl⟩
theorem d_MD_init_55 : decode prog_14_method_1_code 55 = .ok (.aload_n 0, 1) := by decide +kernel
theorem d_MD_init_56 : decode prog_14_method_1_code 56 = .ok (.iconst 2, 1) := by decide +kernel
theorem d_MD_init_57 : decode prog_14_method_1_code 57 = .ok (.newarray .int, 2) := by decide +kernel
theorem d_MD_init_59 : decode prog_14_method_1_code 59 = .ok (.putfield 32, 3) := by decide +kernel
theorem f_MD_32 : fl_OK "PlainMusicModel" 32 12 19 (.array .int) true := ⟨_, rfl, by decide, gwi_1501, rfl, rfl⟩
theorem d_MD_init_62 : decode prog_14_method_1_code 62 = .ok (.aload_n 0, 1) := by decide +kernel
theorem d_MD_init_63 : decode prog_14_method_1_code 63 = .ok (.bipush 48, 2) := by decide +kernel
theorem d_MD_init_65 : decode prog_14_method_1_code 65 = .ok (.newarray .int, 2) := by decide +kernel
theorem d_MD_init_67 : decode prog_14_method_1_code 67 = .ok (.putfield 35, 3) := by decide +kernel
theorem f_MD_35 : fl_OK "PlainMusicModel" 35 12 20 (.array .int) true := ⟨_, rfl, by decide, gwi_1502, rfl, rfl⟩
theorem d_MD_init_70 : decode prog_14_method_1_code 70 = .ok (.aload_n 0, 1) := by decide +kernel
theorem d_MD_init_71 : decode prog_14_method_1_code 71 = .ok (.bipush 48, 2) := by decide +kernel
theorem d_MD_init_73 : decode prog_14_method_1_code 73 = .ok (.newarray .int, 2) := by decide +kernel
theorem d_MD_init_75 : decode prog_14_method_1_code 75 = .ok (.putfield 38, 3) := by decide +kernel
theorem f_MD_38 : fl_OK "PlainMusicModel" 38 12 21 (.array .int) true := ⟨_, rfl, by decide, gwi_1503, rfl, rfl⟩
theorem d_MD_init_78 : decode prog_14_method_1_code 78 = .ok (.aload_n 0, 1) := by decide +kernel
theorem d_MD_init_79 : decode prog_14_method_1_code 79 = .ok (.bipush 48, 2) := by decide +kernel
theorem d_MD_init_81 : decode prog_14_method_1_code 81 = .ok (.newarray .int, 2) := by decide +kernel
theorem d_MD_init_83 : decode prog_14_method_1_code 83 = .ok (.putfield 41, 3) := by decide +kernel
theorem f_MD_41 : fl_OK "PlainMusicModel" 41 12 22 (.array .int) true := ⟨_, rfl, by decide, gwi_1504, rfl, rfl⟩
theorem d_MD_init_86 : decode prog_14_method_1_code 86 = .ok (.aload_n 0, 1) := by decide +kernel
theorem d_MD_init_87 : decode prog_14_method_1_code 87 = .ok (.iconst 2, 1) := by decide +kernel
theorem d_MD_init_88 : decode prog_14_method_1_code 88 = .ok (.newarray .int, 2) := by decide +kernel
theorem d_MD_init_90 : decode prog_14_method_1_code 90 = .ok (.putfield 44, 3) := by decide +kernel
theorem f_MD_44 : fl_OK "PlainMusicModel" 44 12 23 (.array .int) true := ⟨_, rfl, by decide, gwi_1505, rfl, rfl⟩
theorem d_MD_init_93 : decode prog_14_method_1_code 93 = .ok (.aload_n 0, 1) := by decide +kernel
theorem d_MD_init_94 : decode prog_14_method_1_code 94 = .ok (.bipush 24, 2) := by decide +kernel
theorem d_MD_init_96 : decode prog_14_method_1_code 96 = .ok (.newarray .int, 2) := by decide +kernel
theorem d_MD_init_98 : decode prog_14_method_1_code 98 = .ok (.putfield 47, 3) := by decide +kernel
theorem f_MD_47 : fl_OK "PlainMusicModel" 47 12 24 (.array .int) true := ⟨_, rfl, by decide, gwi_1506, rfl, rfl⟩
theorem d_MD_init_101 : decode prog_14_method_1_code 101 = .ok (.aload_n 0, 1) := by decide +kernel
theorem d_MD_init_102 : decode prog_14_method_1_code 102 = .ok (.iconst 2, 1) := by decide +kernel
theorem d_MD_init_103 : decode prog_14_method_1_code 103 = .ok (.newarray .int, 2) := by decide +kernel
theorem d_MD_init_105 : decode prog_14_method_1_code 105 = .ok (.putfield 50, 3) := by decide +kernel
theorem f_MD_50 : fl_OK "PlainMusicModel" 50 12 25 (.array .int) true := ⟨_, rfl, by decide, gwi_1507, rfl, rfl⟩
theorem d_MD_init_108 : decode prog_14_method_1_code 108 = .ok (.aload_n 0, 1) := by decide +kernel
theorem d_MD_init_109 : decode prog_14_method_1_code 109 = .ok (.bipush 32, 2) := by decide +kernel
theorem d_MD_init_111 : decode prog_14_method_1_code 111 = .ok (.newarray .long, 2) := by decide +kernel
theorem d_MD_init_113 : decode prog_14_method_1_code 113 = .ok (.putfield 53, 3) := by decide +kernel
theorem f_MD_53 : fl_OK "PlainMusicModel" 53 12 26 (.array .long) true := ⟨_, rfl, by decide, gwi_1508, rfl, rfl⟩
theorem d_MD_init_116 : decode prog_14_method_1_code 116 = .ok (.aload_n 0, 1) := by decide +kernel
theorem d_MD_init_117 : decode prog_14_method_1_code 117 = .ok (.bipush 8, 2) := by decide +kernel
theorem d_MD_init_119 : decode prog_14_method_1_code 119 = .ok (.newarray .int, 2) := by decide +kernel
theorem d_MD_init_121 : decode prog_14_method_1_code 121 = .ok (.putfield 57, 3) := by decide +kernel
theorem f_MD_57 : fl_OK "PlainMusicModel" 57 12 27 (.array .int) true := ⟨_, rfl, by decide, gwi_1509, rfl, rfl⟩
theorem d_MD_init_124 : decode prog_14_method_1_code 124 = .ok (.aload_n 0, 1) := by decide +kernel
theorem d_MD_init_125 : decode prog_14_method_1_code 125 = .ok (.bipush 8, 2) := by decide +kernel
theorem d_MD_init_127 : decode prog_14_method_1_code 127 = .ok (.newarray .int, 2) := by decide +kernel
theorem d_MD_init_129 : decode prog_14_method_1_code 129 = .ok (.putfield 60, 3) := by decide +kernel
theorem f_MD_60 : fl_OK "PlainMusicModel" 60 12 28 (.array .int) true := ⟨_, rfl, by decide, gwi_1510, rfl, rfl⟩
theorem d_MD_init_132 : decode prog_14_method_1_code 132 = .ok (.aload_n 0, 1) := by decide +kernel
theorem d_MD_init_133 : decode prog_14_method_1_code 133 = .ok (.sipush 2400, 3) := by decide +kernel
theorem d_MD_init_136 : decode prog_14_method_1_code 136 = .ok (.newarray .long, 2) := by decide +kernel
theorem d_MD_init_138 : decode prog_14_method_1_code 138 = .ok (.putfield 63, 3) := by decide +kernel
theorem f_MD_63 : fl_OK "PlainMusicModel" 63 12 29 (.array .long) true := ⟨_, rfl, by decide, gwi_1511, rfl, rfl⟩
theorem d_MD_init_141 : decode prog_14_method_1_code 141 = .ok (.aload_n 0, 1) := by decide +kernel
theorem d_MD_init_142 : decode prog_14_method_1_code 142 = .ok (.sipush 2400, 3) := by decide +kernel
theorem d_MD_init_145 : decode prog_14_method_1_code 145 = .ok (.newarray .long, 2) := by decide +kernel
theorem d_MD_init_147 : decode prog_14_method_1_code 147 = .ok (.putfield 66, 3) := by decide +kernel
theorem f_MD_66 : fl_OK "PlainMusicModel" 66 12 30 (.array .long) true := ⟨_, rfl, by decide, gwi_1512, rfl, rfl⟩
theorem d_MD_init_150 : decode prog_14_method_1_code 150 = .ok (.aload_n 0, 1) := by decide +kernel
theorem d_MD_init_151 : decode prog_14_method_1_code 151 = .ok (.sipush 2400, 3) := by decide +kernel
theorem d_MD_init_154 : decode prog_14_method_1_code 154 = .ok (.newarray .long, 2) := by decide +kernel
theorem d_MD_init_156 : decode prog_14_method_1_code 156 = .ok (.putfield 69, 3) := by decide +kernel
theorem f_MD_69 : fl_OK "PlainMusicModel" 69 12 31 (.array .long) true := ⟨_, rfl, by decide, gwi_1513, rfl, rfl⟩
theorem d_MD_init_159 : decode prog_14_method_1_code 159 = .ok (.aload_n 0, 1) := by decide +kernel
theorem d_MD_init_160 : decode prog_14_method_1_code 160 = .ok (.sipush 2400, 3) := by decide +kernel
theorem d_MD_init_163 : decode prog_14_method_1_code 163 = .ok (.newarray .long, 2) := by decide +kernel
theorem d_MD_init_165 : decode prog_14_method_1_code 165 = .ok (.putfield 72, 3) := by decide +kernel
theorem f_MD_72 : fl_OK "PlainMusicModel" 72 12 32 (.array .long) true := ⟨_, rfl, by decide, gwi_1514, rfl, rfl⟩
theorem d_MD_init_168 : decode prog_14_method_1_code 168 = .ok (.aload_n 0, 1) := by decide +kernel
theorem d_MD_init_169 : decode prog_14_method_1_code 169 = .ok (.sipush 2400, 3) := by decide +kernel
theorem d_MD_init_172 : decode prog_14_method_1_code 172 = .ok (.newarray .int, 2) := by decide +kernel
theorem d_MD_init_174 : decode prog_14_method_1_code 174 = .ok (.putfield 75, 3) := by decide +kernel
theorem f_MD_75 : fl_OK "PlainMusicModel" 75 12 33 (.array .int) true := ⟨_, rfl, by decide, gwi_1515, rfl, rfl⟩
theorem d_MD_init_177 : decode prog_14_method_1_code 177 = .ok (.aload_n 0, 1) := by decide +kernel
theorem d_MD_init_178 : decode prog_14_method_1_code 178 = .ok (.sipush 9600, 3) := by decide +kernel
theorem d_MD_init_181 : decode prog_14_method_1_code 181 = .ok (.newarray .int, 2) := by decide +kernel
theorem d_MD_init_183 : decode prog_14_method_1_code 183 = .ok (.putfield 78, 3) := by decide +kernel
theorem f_MD_78 : fl_OK "PlainMusicModel" 78 12 34 (.array .int) true := ⟨_, rfl, by decide, gwi_1516, rfl, rfl⟩
theorem d_MD_init_186 : decode prog_14_method_1_code 186 = .ok (.aload_n 0, 1) := by decide +kernel
theorem d_MD_init_187 : decode prog_14_method_1_code 187 = .ok (.sipush 9600, 3) := by decide +kernel
theorem d_MD_init_190 : decode prog_14_method_1_code 190 = .ok (.newarray .int, 2) := by decide +kernel
theorem d_MD_init_192 : decode prog_14_method_1_code 192 = .ok (.putfield 81, 3) := by decide +kernel
theorem f_MD_81 : fl_OK "PlainMusicModel" 81 12 35 (.array .int) true := ⟨_, rfl, by decide, gwi_1517, rfl, rfl⟩
theorem d_MD_init_195 : decode prog_14_method_1_code 195 = .ok (.aload_n 0, 1) := by decide +kernel
theorem d_MD_init_196 : decode prog_14_method_1_code 196 = .ok (.sipush 2400, 3) := by decide +kernel
theorem d_MD_init_199 : decode prog_14_method_1_code 199 = .ok (.newarray .int, 2) := by decide +kernel
theorem d_MD_init_201 : decode prog_14_method_1_code 201 = .ok (.putfield 84, 3) := by decide +kernel
theorem f_MD_84 : fl_OK "PlainMusicModel" 84 12 36 (.array .int) true := ⟨_, rfl, by decide, gwi_1518, rfl, rfl⟩
theorem d_MD_init_204 : decode prog_14_method_1_code 204 = .ok (.aload_n 0, 1) := by decide +kernel
theorem d_MD_init_205 : decode prog_14_method_1_code 205 = .ok (.sipush 2400, 3) := by decide +kernel
theorem d_MD_init_208 : decode prog_14_method_1_code 208 = .ok (.newarray .boolean, 2) := by decide +kernel
theorem d_MD_init_210 : decode prog_14_method_1_code 210 = .ok (.putfield 87, 3) := by decide +kernel
theorem f_MD_87 : fl_OK "PlainMusicModel" 87 12 37 (.array .boolean) true := ⟨_, rfl, by decide, gwi_1519, rfl, rfl⟩
theorem d_MD_init_213 : decode prog_14_method_1_code 213 = .ok (.aload_n 0, 1) := by decide +kernel
theorem d_MD_init_214 : decode prog_14_method_1_code 214 = .ok (.sipush 2400, 3) := by decide +kernel
theorem d_MD_init_217 : decode prog_14_method_1_code 217 = .ok (.newarray .int, 2) := by decide +kernel
theorem d_MD_init_219 : decode prog_14_method_1_code 219 = .ok (.putfield 91, 3) := by decide +kernel
theorem f_MD_91 : fl_OK "PlainMusicModel" 91 12 38 (.array .int) true := ⟨_, rfl, by decide, gwi_1520, rfl, rfl⟩
theorem d_MD_init_222 : decode prog_14_method_1_code 222 = .ok (.aload_n 0, 1) := by decide +kernel
theorem d_MD_init_223 : decode prog_14_method_1_code 223 = .ok (.sipush 2400, 3) := by decide +kernel
theorem d_MD_init_226 : decode prog_14_method_1_code 226 = .ok (.newarray .int, 2) := by decide +kernel
theorem d_MD_init_228 : decode prog_14_method_1_code 228 = .ok (.putfield 94, 3) := by decide +kernel
theorem f_MD_94 : fl_OK "PlainMusicModel" 94 12 39 (.array .int) true := ⟨_, rfl, by decide, gwi_1521, rfl, rfl⟩
theorem d_MD_init_231 : decode prog_14_method_1_code 231 = .ok (.aload_n 0, 1) := by decide +kernel
theorem d_MD_init_232 : decode prog_14_method_1_code 232 = .ok (.sipush 2400, 3) := by decide +kernel
theorem d_MD_init_235 : decode prog_14_method_1_code 235 = .ok (.newarray .int, 2) := by decide +kernel
theorem d_MD_init_237 : decode prog_14_method_1_code 237 = .ok (.putfield 97, 3) := by decide +kernel
theorem f_MD_97 : fl_OK "PlainMusicModel" 97 12 40 (.array .int) true := ⟨_, rfl, by decide, gwi_1522, rfl, rfl⟩
theorem d_MD_init_240 : decode prog_14_method_1_code 240 = .ok (.aload_n 0, 1) := by decide +kernel
theorem d_MD_init_241 : decode prog_14_method_1_code 241 = .ok (.sipush 816, 3) := by decide +kernel
theorem d_MD_init_244 : decode prog_14_method_1_code 244 = .ok (.newarray .long, 2) := by decide +kernel
theorem d_MD_init_246 : decode prog_14_method_1_code 246 = .ok (.putfield 100, 3) := by decide +kernel
theorem f_MD_100 : fl_OK "PlainMusicModel" 100 12 41 (.array .long) true := ⟨_, rfl, by decide, gwi_1523, rfl, rfl⟩
theorem d_MD_init_249 : decode prog_14_method_1_code 249 = .ok (.aload_n 0, 1) := by decide +kernel
theorem d_MD_init_250 : decode prog_14_method_1_code 250 = .ok (.sipush 816, 3) := by decide +kernel
theorem d_MD_init_253 : decode prog_14_method_1_code 253 = .ok (.newarray .long, 2) := by decide +kernel
theorem d_MD_init_255 : decode prog_14_method_1_code 255 = .ok (.putfield 103, 3) := by decide +kernel
theorem f_MD_103 : fl_OK "PlainMusicModel" 103 12 42 (.array .long) true := ⟨_, rfl, by decide, gwi_1524, rfl, rfl⟩
theorem d_MD_init_258 : decode prog_14_method_1_code 258 = .ok (.aload_n 0, 1) := by decide +kernel
theorem d_MD_init_259 : decode prog_14_method_1_code 259 = .ok (.sipush 2100, 3) := by decide +kernel
theorem d_MD_init_262 : decode prog_14_method_1_code 262 = .ok (.newarray .int, 2) := by decide +kernel
theorem d_MD_init_264 : decode prog_14_method_1_code 264 = .ok (.putfield 106, 3) := by decide +kernel
theorem f_MD_106 : fl_OK "PlainMusicModel" 106 12 44 (.array .int) true := ⟨_, rfl, by decide, gwi_1526, rfl, rfl⟩
theorem d_MD_init_267 : decode prog_14_method_1_code 267 = .ok (.aload_n 0, 1) := by decide +kernel
theorem d_MD_init_268 : decode prog_14_method_1_code 268 = .ok (.sipush 2100, 3) := by decide +kernel
theorem d_MD_init_271 : decode prog_14_method_1_code 271 = .ok (.newarray .int, 2) := by decide +kernel
theorem d_MD_init_273 : decode prog_14_method_1_code 273 = .ok (.putfield 109, 3) := by decide +kernel
theorem f_MD_109 : fl_OK "PlainMusicModel" 109 12 45 (.array .int) true := ⟨_, rfl, by decide, gwi_1527, rfl, rfl⟩
theorem d_MD_init_276 : decode prog_14_method_1_code 276 = .ok (.aload_n 0, 1) := by decide +kernel
theorem d_MD_init_277 : decode prog_14_method_1_code 277 = .ok (.sipush 2100, 3) := by decide +kernel
theorem d_MD_init_280 : decode prog_14_method_1_code 280 = .ok (.newarray .int, 2) := by decide +kernel
theorem d_MD_init_282 : decode prog_14_method_1_code 282 = .ok (.putfield 112, 3) := by decide +kernel
theorem f_MD_112 : fl_OK "PlainMusicModel" 112 12 46 (.array .int) true := ⟨_, rfl, by decide, gwi_1528, rfl, rfl⟩
theorem d_MD_init_285 : decode prog_14_method_1_code 285 = .ok (.aload_n 0, 1) := by decide +kernel
theorem d_MD_init_286 : decode prog_14_method_1_code 286 = .ok (.sipush 2100, 3) := by decide +kernel
theorem d_MD_init_289 : decode prog_14_method_1_code 289 = .ok (.newarray .int, 2) := by decide +kernel
theorem d_MD_init_291 : decode prog_14_method_1_code 291 = .ok (.putfield 115, 3) := by decide +kernel
theorem f_MD_115 : fl_OK "PlainMusicModel" 115 12 47 (.array .int) true := ⟨_, rfl, by decide, gwi_1529, rfl, rfl⟩
theorem d_MD_init_294 : decode prog_14_method_1_code 294 = .ok (.aload_n 0, 1) := by decide +kernel
theorem d_MD_init_295 : decode prog_14_method_1_code 295 = .ok (.sipush 8400, 3) := by decide +kernel
theorem d_MD_init_298 : decode prog_14_method_1_code 298 = .ok (.newarray .int, 2) := by decide +kernel
theorem d_MD_init_300 : decode prog_14_method_1_code 300 = .ok (.putfield 118, 3) := by decide +kernel
theorem f_MD_118 : fl_OK "PlainMusicModel" 118 12 48 (.array .int) true := ⟨_, rfl, by decide, gwi_1530, rfl, rfl⟩
theorem d_MD_init_303 : decode prog_14_method_1_code 303 = .ok (.aload_n 0, 1) := by decide +kernel
theorem d_MD_init_304 : decode prog_14_method_1_code 304 = .ok (.sipush 8400, 3) := by decide +kernel
theorem d_MD_init_307 : decode prog_14_method_1_code 307 = .ok (.newarray .int, 2) := by decide +kernel
theorem d_MD_init_309 : decode prog_14_method_1_code 309 = .ok (.putfield 121, 3) := by decide +kernel
theorem f_MD_121 : fl_OK "PlainMusicModel" 121 12 49 (.array .int) true := ⟨_, rfl, by decide, gwi_1531, rfl, rfl⟩
theorem d_MD_init_312 : decode prog_14_method_1_code 312 = .ok (.aload_n 0, 1) := by decide +kernel
theorem d_MD_init_313 : decode prog_14_method_1_code 313 = .ok (.sipush 2100, 3) := by decide +kernel
theorem d_MD_init_316 : decode prog_14_method_1_code 316 = .ok (.newarray .int, 2) := by decide +kernel
theorem d_MD_init_318 : decode prog_14_method_1_code 318 = .ok (.putfield 124, 3) := by decide +kernel
theorem f_MD_124 : fl_OK "PlainMusicModel" 124 12 50 (.array .int) true := ⟨_, rfl, by decide, gwi_1532, rfl, rfl⟩
theorem d_MD_init_321 : decode prog_14_method_1_code 321 = .ok (.aload_n 0, 1) := by decide +kernel
theorem d_MD_init_322 : decode prog_14_method_1_code 322 = .ok (.sipush 2100, 3) := by decide +kernel
theorem d_MD_init_325 : decode prog_14_method_1_code 325 = .ok (.newarray .boolean, 2) := by decide +kernel
theorem d_MD_init_327 : decode prog_14_method_1_code 327 = .ok (.putfield 127, 3) := by decide +kernel
theorem f_MD_127 : fl_OK "PlainMusicModel" 127 12 51 (.array .boolean) true := ⟨_, rfl, by decide, gwi_1533, rfl, rfl⟩
theorem d_MD_init_330 : decode prog_14_method_1_code 330 = .ok (.aload_n 0, 1) := by decide +kernel
theorem d_MD_init_331 : decode prog_14_method_1_code 331 = .ok (.sipush 2100, 3) := by decide +kernel
theorem d_MD_init_334 : decode prog_14_method_1_code 334 = .ok (.newarray .int, 2) := by decide +kernel
theorem d_MD_init_336 : decode prog_14_method_1_code 336 = .ok (.putfield 130, 3) := by decide +kernel
theorem f_MD_130 : fl_OK "PlainMusicModel" 130 12 52 (.array .int) true := ⟨_, rfl, by decide, gwi_1534, rfl, rfl⟩
theorem d_MD_init_339 : decode prog_14_method_1_code 339 = .ok (.aload_n 0, 1) := by decide +kernel
theorem d_MD_init_340 : decode prog_14_method_1_code 340 = .ok (.sipush 2100, 3) := by decide +kernel
theorem d_MD_init_343 : decode prog_14_method_1_code 343 = .ok (.newarray .int, 2) := by decide +kernel
theorem d_MD_init_345 : decode prog_14_method_1_code 345 = .ok (.putfield 133, 3) := by decide +kernel
theorem f_MD_133 : fl_OK "PlainMusicModel" 133 12 53 (.array .int) true := ⟨_, rfl, by decide, gwi_1535, rfl, rfl⟩
theorem d_MD_init_348 : decode prog_14_method_1_code 348 = .ok (.aload_n 0, 1) := by decide +kernel
theorem d_MD_init_349 : decode prog_14_method_1_code 349 = .ok (.sipush 2100, 3) := by decide +kernel
theorem d_MD_init_352 : decode prog_14_method_1_code 352 = .ok (.newarray .int, 2) := by decide +kernel
theorem d_MD_init_354 : decode prog_14_method_1_code 354 = .ok (.putfield 136, 3) := by decide +kernel
theorem f_MD_136 : fl_OK "PlainMusicModel" 136 12 54 (.array .int) true := ⟨_, rfl, by decide, gwi_1536, rfl, rfl⟩
theorem d_MD_init_357 : decode prog_14_method_1_code 357 = .ok (.aload_n 0, 1) := by decide +kernel
theorem d_MD_init_358 : decode prog_14_method_1_code 358 = .ok (.sipush 2100, 3) := by decide +kernel
theorem d_MD_init_361 : decode prog_14_method_1_code 361 = .ok (.newarray .int, 2) := by decide +kernel
theorem d_MD_init_363 : decode prog_14_method_1_code 363 = .ok (.putfield 139, 3) := by decide +kernel
theorem f_MD_139 : fl_OK "PlainMusicModel" 139 12 55 (.array .int) true := ⟨_, rfl, by decide, gwi_1537, rfl, rfl⟩
theorem d_MD_init_366 : decode prog_14_method_1_code 366 = .ok (.aload_n 0, 1) := by decide +kernel
theorem d_MD_init_367 : decode prog_14_method_1_code 367 = .ok (.sipush 2100, 3) := by decide +kernel
theorem d_MD_init_370 : decode prog_14_method_1_code 370 = .ok (.newarray .int, 2) := by decide +kernel
theorem d_MD_init_372 : decode prog_14_method_1_code 372 = .ok (.putfield 142, 3) := by decide +kernel
theorem f_MD_142 : fl_OK "PlainMusicModel" 142 12 56 (.array .int) true := ⟨_, rfl, by decide, gwi_1538, rfl, rfl⟩
theorem d_MD_init_375 : decode prog_14_method_1_code 375 = .ok (.aload_n 0, 1) := by decide +kernel
theorem d_MD_init_376 : decode prog_14_method_1_code 376 = .ok (.sipush 2100, 3) := by decide +kernel
theorem d_MD_init_379 : decode prog_14_method_1_code 379 = .ok (.newarray .int, 2) := by decide +kernel
theorem d_MD_init_381 : decode prog_14_method_1_code 381 = .ok (.putfield 145, 3) := by decide +kernel
theorem f_MD_145 : fl_OK "PlainMusicModel" 145 12 57 (.array .int) true := ⟨_, rfl, by decide, gwi_1539, rfl, rfl⟩
theorem d_MD_init_384 : decode prog_14_method_1_code 384 = .ok (.aload_n 0, 1) := by decide +kernel
theorem d_MD_init_385 : decode prog_14_method_1_code 385 = .ok (.bipush 8, 2) := by decide +kernel
theorem d_MD_init_387 : decode prog_14_method_1_code 387 = .ok (.newarray .int, 2) := by decide +kernel
theorem d_MD_init_389 : decode prog_14_method_1_code 389 = .ok (.putfield 148, 3) := by decide +kernel
theorem f_MD_148 : fl_OK "PlainMusicModel" 148 12 58 (.array .int) true := ⟨_, rfl, by decide, gwi_1540, rfl, rfl⟩
theorem d_MD_init_392 : decode prog_14_method_1_code 392 = .ok (.aload_n 0, 1) := by decide +kernel
theorem d_MD_init_393 : decode prog_14_method_1_code 393 = .ok (.bipush 8, 2) := by decide +kernel
theorem d_MD_init_395 : decode prog_14_method_1_code 395 = .ok (.newarray .int, 2) := by decide +kernel
theorem d_MD_init_397 : decode prog_14_method_1_code 397 = .ok (.putfield 151, 3) := by decide +kernel
theorem f_MD_151 : fl_OK "PlainMusicModel" 151 12 62 (.array .int) true := ⟨_, rfl, by decide, gwi_1544, rfl, rfl⟩
theorem d_MD_init_400 : decode prog_14_method_1_code 400 = .ok (.aload_n 0, 1) := by decide +kernel
theorem d_MD_init_401 : decode prog_14_method_1_code 401 = .ok (.bipush 10, 2) := by decide +kernel
theorem d_MD_init_403 : decode prog_14_method_1_code 403 = .ok (.newarray .int, 2) := by decide +kernel
theorem d_MD_init_405 : decode prog_14_method_1_code 405 = .ok (.putfield 154, 3) := by decide +kernel
theorem f_MD_154 : fl_OK "PlainMusicModel" 154 12 67 (.array .int) true := ⟨_, rfl, by decide, gwi_1549, rfl, rfl⟩
theorem d_MD_init_408 : decode prog_14_method_1_code 408 = .ok (.aload_n 0, 1) := by decide +kernel
theorem d_MD_init_409 : decode prog_14_method_1_code 409 = .ok (.bipush 10, 2) := by decide +kernel
theorem d_MD_init_411 : decode prog_14_method_1_code 411 = .ok (.newarray .int, 2) := by decide +kernel
theorem d_MD_init_413 : decode prog_14_method_1_code 413 = .ok (.putfield 157, 3) := by decide +kernel
theorem f_MD_157 : fl_OK "PlainMusicModel" 157 12 68 (.array .int) true := ⟨_, rfl, by decide, gwi_1550, rfl, rfl⟩
theorem d_MD_init_416 : decode prog_14_method_1_code 416 = .ok (.aload_n 0, 1) := by decide +kernel
theorem d_MD_init_417 : decode prog_14_method_1_code 417 = .ok (.bipush 10, 2) := by decide +kernel
theorem d_MD_init_419 : decode prog_14_method_1_code 419 = .ok (.newarray .int, 2) := by decide +kernel
theorem d_MD_init_421 : decode prog_14_method_1_code 421 = .ok (.putfield 160, 3) := by decide +kernel
theorem f_MD_160 : fl_OK "PlainMusicModel" 160 12 69 (.array .int) true := ⟨_, rfl, by decide, gwi_1551, rfl, rfl⟩
theorem d_MD_init_424 : decode prog_14_method_1_code 424 = .ok (.aload_n 0, 1) := by decide +kernel
theorem d_MD_init_425 : decode prog_14_method_1_code 425 = .ok (.bipush 10, 2) := by decide +kernel
theorem d_MD_init_427 : decode prog_14_method_1_code 427 = .ok (.newarray .boolean, 2) := by decide +kernel
theorem d_MD_init_429 : decode prog_14_method_1_code 429 = .ok (.putfield 163, 3) := by decide +kernel
theorem f_MD_163 : fl_OK "PlainMusicModel" 163 12 79 (.array .boolean) true := ⟨_, rfl, by decide, gwi_1561, rfl, rfl⟩
theorem d_MD_init_432 : decode prog_14_method_1_code 432 = .ok (.aload_n 0, 1) := by decide +kernel
theorem d_MD_init_433 : decode prog_14_method_1_code 433 = .ok (.sipush 8000, 3) := by decide +kernel
theorem d_MD_init_436 : decode prog_14_method_1_code 436 = .ok (.newarray .int, 2) := by decide +kernel
theorem d_MD_init_438 : decode prog_14_method_1_code 438 = .ok (.putfield 166, 3) := by decide +kernel
theorem f_MD_166 : fl_OK "PlainMusicModel" 166 12 81 (.array .int) true := ⟨_, rfl, by decide, gwi_1563, rfl, rfl⟩
theorem d_MD_init_441 : decode prog_14_method_1_code 441 = .ok (.aload_n 0, 1) := by decide +kernel
theorem d_MD_init_442 : decode prog_14_method_1_code 442 = .ok (.sipush 8000, 3) := by decide +kernel
theorem d_MD_init_445 : decode prog_14_method_1_code 445 = .ok (.newarray .int, 2) := by decide +kernel
theorem d_MD_init_447 : decode prog_14_method_1_code 447 = .ok (.putfield 169, 3) := by decide +kernel
theorem f_MD_169 : fl_OK "PlainMusicModel" 169 12 82 (.array .int) true := ⟨_, rfl, by decide, gwi_1564, rfl, rfl⟩
theorem d_MD_init_450 : decode prog_14_method_1_code 450 = .ok (.aload_n 0, 1) := by decide +kernel
theorem d_MD_init_451 : decode prog_14_method_1_code 451 = .ok (.sipush 8000, 3) := by decide +kernel
theorem d_MD_init_454 : decode prog_14_method_1_code 454 = .ok (.newarray .int, 2) := by decide +kernel
theorem d_MD_init_456 : decode prog_14_method_1_code 456 = .ok (.putfield 172, 3) := by decide +kernel
theorem f_MD_172 : fl_OK "PlainMusicModel" 172 12 83 (.array .int) true := ⟨_, rfl, by decide, gwi_1565, rfl, rfl⟩
theorem d_MD_init_459 : decode prog_14_method_1_code 459 = .ok (.aload_n 0, 1) := by decide +kernel
theorem d_MD_init_460 : decode prog_14_method_1_code 460 = .ok (.sipush 8000, 3) := by decide +kernel
theorem d_MD_init_463 : decode prog_14_method_1_code 463 = .ok (.newarray .int, 2) := by decide +kernel
theorem d_MD_init_465 : decode prog_14_method_1_code 465 = .ok (.putfield 175, 3) := by decide +kernel
theorem f_MD_175 : fl_OK "PlainMusicModel" 175 12 84 (.array .int) true := ⟨_, rfl, by decide, gwi_1566, rfl, rfl⟩
theorem d_MD_init_468 : decode prog_14_method_1_code 468 = .ok (.aload_n 0, 1) := by decide +kernel
theorem d_MD_init_469 : decode prog_14_method_1_code 469 = .ok (.bipush 16, 2) := by decide +kernel
theorem d_MD_init_471 : decode prog_14_method_1_code 471 = .ok (.newarray .int, 2) := by decide +kernel
theorem d_MD_init_473 : decode prog_14_method_1_code 473 = .ok (.putfield 178, 3) := by decide +kernel
theorem f_MD_178 : fl_OK "PlainMusicModel" 178 12 86 (.array .int) true := ⟨_, rfl, by decide, gwi_1568, rfl, rfl⟩
theorem d_MD_init_476 : decode prog_14_method_1_code 476 = .ok (.aload_n 0, 1) := by decide +kernel
theorem d_MD_init_477 : decode prog_14_method_1_code 477 = .ok (.sipush 340, 3) := by decide +kernel
theorem d_MD_init_480 : decode prog_14_method_1_code 480 = .ok (.newarray .int, 2) := by decide +kernel
theorem d_MD_init_482 : decode prog_14_method_1_code 482 = .ok (.putfield 181, 3) := by decide +kernel
theorem f_MD_181 : fl_OK "PlainMusicModel" 181 12 87 (.array .int) true := ⟨_, rfl, by decide, gwi_1569, rfl, rfl⟩
theorem d_MD_init_485 : decode prog_14_method_1_code 485 = .ok (.aload_n 0, 1) := by decide +kernel
theorem d_MD_init_486 : decode prog_14_method_1_code 486 = .ok (.sipush 340, 3) := by decide +kernel
theorem d_MD_init_489 : decode prog_14_method_1_code 489 = .ok (.newarray .int, 2) := by decide +kernel
theorem d_MD_init_491 : decode prog_14_method_1_code 491 = .ok (.putfield 184, 3) := by decide +kernel
theorem f_MD_184 : fl_OK "PlainMusicModel" 184 12 88 (.array .int) true := ⟨_, rfl, by decide, gwi_1570, rfl, rfl⟩
theorem d_MD_init_494 : decode prog_14_method_1_code 494 = .ok (.aload_n 0, 1) := by decide +kernel
theorem d_MD_init_495 : decode prog_14_method_1_code 495 = .ok (.bipush 16, 2) := by decide +kernel
theorem d_MD_init_497 : decode prog_14_method_1_code 497 = .ok (.newarray .int, 2) := by decide +kernel
theorem d_MD_init_499 : decode prog_14_method_1_code 499 = .ok (.putfield 187, 3) := by decide +kernel
theorem f_MD_187 : fl_OK "PlainMusicModel" 187 12 90 (.array .int) true := ⟨_, rfl, by decide, gwi_1572, rfl, rfl⟩
theorem d_MD_init_502 : decode prog_14_method_1_code 502 = .ok (.aload_n 0, 1) := by decide +kernel
theorem d_MD_init_503 : decode prog_14_method_1_code 503 = .ok (.bipush 8, 2) := by decide +kernel
theorem d_MD_init_505 : decode prog_14_method_1_code 505 = .ok (.newarray .int, 2) := by decide +kernel
theorem d_MD_init_507 : decode prog_14_method_1_code 507 = .ok (.putfield 190, 3) := by decide +kernel
theorem f_MD_190 : fl_OK "PlainMusicModel" 190 12 92 (.array .int) true := ⟨_, rfl, by decide, gwi_1574, rfl, rfl⟩
theorem d_MD_init_510 : decode prog_14_method_1_code 510 = .ok (.aload_n 0, 1) := by decide +kernel
theorem d_MD_init_511 : decode prog_14_method_1_code 511 = .ok (.bipush 8, 2) := by decide +kernel
theorem d_MD_init_513 : decode prog_14_method_1_code 513 = .ok (.newarray .int, 2) := by decide +kernel
theorem d_MD_init_515 : decode prog_14_method_1_code 515 = .ok (.putfield 193, 3) := by decide +kernel
theorem f_MD_193 : fl_OK "PlainMusicModel" 193 12 97 (.array .int) true := ⟨_, rfl, by decide, gwi_1579, rfl, rfl⟩
theorem d_MD_init_518 : decode prog_14_method_1_code 518 = .ok (.aload_n 0, 1) := by decide +kernel
theorem d_MD_init_519 : decode prog_14_method_1_code 519 = .ok (.sipush 2704, 3) := by decide +kernel
theorem d_MD_init_522 : decode prog_14_method_1_code 522 = .ok (.newarray .long, 2) := by decide +kernel
theorem d_MD_init_524 : decode prog_14_method_1_code 524 = .ok (.putfield 196, 3) := by decide +kernel
theorem f_MD_196 : fl_OK "PlainMusicModel" 196 12 99 (.array .long) true := ⟨_, rfl, by decide, gwi_1581, rfl, rfl⟩
theorem d_MD_init_527 : decode prog_14_method_1_code 527 = .ok (.aload_n 0, 1) := by decide +kernel
theorem d_MD_init_528 : decode prog_14_method_1_code 528 = .ok (.bipush 32, 2) := by decide +kernel
theorem d_MD_init_530 : decode prog_14_method_1_code 530 = .ok (.newarray .int, 2) := by decide +kernel
theorem d_MD_init_532 : decode prog_14_method_1_code 532 = .ok (.putfield 199, 3) := by decide +kernel
theorem f_MD_199 : fl_OK "PlainMusicModel" 199 12 100 (.array .int) true := ⟨_, rfl, by decide, gwi_1582, rfl, rfl⟩
theorem d_MD_init_535 : decode prog_14_method_1_code 535 = .ok (.aload_n 0, 1) := by decide +kernel
theorem d_MD_init_536 : decode prog_14_method_1_code 536 = .ok (.bipush 32, 2) := by decide +kernel
theorem d_MD_init_538 : decode prog_14_method_1_code 538 = .ok (.newarray .int, 2) := by decide +kernel
theorem d_MD_init_540 : decode prog_14_method_1_code 540 = .ok (.putfield 202, 3) := by decide +kernel
theorem f_MD_202 : fl_OK "PlainMusicModel" 202 12 101 (.array .int) true := ⟨_, rfl, by decide, gwi_1583, rfl, rfl⟩
theorem d_MD_init_543 : decode prog_14_method_1_code 543 = .ok (.aload_n 0, 1) := by decide +kernel
theorem d_MD_init_544 : decode prog_14_method_1_code 544 = .ok (.bipush 32, 2) := by decide +kernel
theorem d_MD_init_546 : decode prog_14_method_1_code 546 = .ok (.newarray .int, 2) := by decide +kernel
theorem d_MD_init_548 : decode prog_14_method_1_code 548 = .ok (.putfield 205, 3) := by decide +kernel
theorem f_MD_205 : fl_OK "PlainMusicModel" 205 12 102 (.array .int) true := ⟨_, rfl, by decide, gwi_1584, rfl, rfl⟩
theorem d_MD_init_551 : decode prog_14_method_1_code 551 = .ok (.aload_n 0, 1) := by decide +kernel
theorem d_MD_init_552 : decode prog_14_method_1_code 552 = .ok (.bipush 32, 2) := by decide +kernel
theorem d_MD_init_554 : decode prog_14_method_1_code 554 = .ok (.newarray .long, 2) := by decide +kernel
theorem d_MD_init_556 : decode prog_14_method_1_code 556 = .ok (.putfield 208, 3) := by decide +kernel
theorem f_MD_208 : fl_OK "PlainMusicModel" 208 12 103 (.array .long) true := ⟨_, rfl, by decide, gwi_1585, rfl, rfl⟩
theorem d_MD_init_559 : decode prog_14_method_1_code 559 = .ok (.aload_n 0, 1) := by decide +kernel
theorem d_MD_init_560 : decode prog_14_method_1_code 560 = .ok (.bipush 80, 2) := by decide +kernel
theorem d_MD_init_562 : decode prog_14_method_1_code 562 = .ok (.newarray .int, 2) := by decide +kernel
theorem d_MD_init_564 : decode prog_14_method_1_code 564 = .ok (.putfield 211, 3) := by decide +kernel
theorem f_MD_211 : fl_OK "PlainMusicModel" 211 12 106 (.array .int) true := ⟨_, rfl, by decide, gwi_1588, rfl, rfl⟩
theorem d_MD_init_567 : decode prog_14_method_1_code 567 = .ok (.aload_n 0, 1) := by decide +kernel
theorem d_MD_init_568 : decode prog_14_method_1_code 568 = .ok (.bipush 80, 2) := by decide +kernel
theorem d_MD_init_570 : decode prog_14_method_1_code 570 = .ok (.newarray .int, 2) := by decide +kernel
theorem d_MD_init_572 : decode prog_14_method_1_code 572 = .ok (.putfield 214, 3) := by decide +kernel
theorem f_MD_214 : fl_OK "PlainMusicModel" 214 12 107 (.array .int) true := ⟨_, rfl, by decide, gwi_1589, rfl, rfl⟩
theorem d_MD_init_575 : decode prog_14_method_1_code 575 = .ok (.aload_n 0, 1) := by decide +kernel
theorem d_MD_init_576 : decode prog_14_method_1_code 576 = .ok (.bipush 80, 2) := by decide +kernel
theorem d_MD_init_578 : decode prog_14_method_1_code 578 = .ok (.newarray .int, 2) := by decide +kernel
theorem d_MD_init_580 : decode prog_14_method_1_code 580 = .ok (.putfield 217, 3) := by decide +kernel
theorem f_MD_217 : fl_OK "PlainMusicModel" 217 12 108 (.array .int) true := ⟨_, rfl, by decide, gwi_1590, rfl, rfl⟩
theorem d_MD_init_583 : decode prog_14_method_1_code 583 = .ok (.aload_n 0, 1) := by decide +kernel
theorem d_MD_init_584 : decode prog_14_method_1_code 584 = .ok (.sipush 6561, 3) := by decide +kernel
theorem d_MD_init_587 : decode prog_14_method_1_code 587 = .ok (.newarray .int, 2) := by decide +kernel
theorem d_MD_init_589 : decode prog_14_method_1_code 589 = .ok (.putfield 220, 3) := by decide +kernel
theorem f_MD_220 : fl_OK "PlainMusicModel" 220 12 109 (.array .int) true := ⟨_, rfl, by decide, gwi_1591, rfl, rfl⟩
theorem d_MD_init_592 : decode prog_14_method_1_code 592 = .ok (.aload_n 0, 1) := by decide +kernel
theorem d_MD_init_593 : decode prog_14_method_1_code 593 = .ok (.sipush 6561, 3) := by decide +kernel
theorem d_MD_init_596 : decode prog_14_method_1_code 596 = .ok (.newarray .long, 2) := by decide +kernel
theorem d_MD_init_598 : decode prog_14_method_1_code 598 = .ok (.putfield 223, 3) := by decide +kernel
theorem f_MD_223 : fl_OK "PlainMusicModel" 223 12 110 (.array .long) true := ⟨_, rfl, by decide, gwi_1592, rfl, rfl⟩
theorem d_MD_init_601 : decode prog_14_method_1_code 601 = .ok (.return_, 1) := by decide +kernel

def i_Voice (h : ah_T) (t n : Nat) : ah_T := (st_r (st_n (st_r (st_n (st_r (st_n (st_r (st_n (st_r (st_n (st_r (st_n (st_r (st_n (st_r (st_n (st_r (st_n (st_r (st_n (st_r (st_n (st_r (st_n (st_r (st_n h 0 300) t 0 (some n)) 0 300) t 1 (some (n + 1))) 0 301) t 3 (some (n + 2))) 0 300) t 4 (some (n + 3))) 0 300) t 5 (some (n + 4))) 2 300) t 6 (some (n + 5))) 0 300) t 8 (some (n + 6))) 0 300) t 9 (some (n + 7))) 1 301) t 10 (some (n + 8))) 1 301) t 11 (some (n + 9))) 1 300) t 12 (some (n + 10))) 1 300) t 13 (some (n + 11))) 0 102) t 15 (some (n + 12)))
set_option maxRecDepth 100000 in
theorem i_Voice_sh (h : ah_T) (t n : Nat) : (i_Voice h t n).1 = h.1 ++ [(0, 300), (0, 300), (0, 301), (0, 300), (0, 300), (2, 300), (0, 300), (0, 300), (1, 301), (1, 301), (1, 300), (1, 300), (0, 102)] := by
  simp only [i_Voice, n1_s, i1_s, l1_s, r1_s, List.append_assoc, List.cons_append, List.nil_append]
theorem i_Voice_len {h : ah_T} {t n q : Nat} (hq : h.1.length = q) : (i_Voice h t n).1.length = q + 13 := by rw [i_Voice_sh, List.length_append, hq]; rfl
theorem i_Voice_at {h : ah_T} {t n x : Nat} {y : Nat × Nat} (hx : h.1[x]? = some y) : (i_Voice h t n).1[x]? = some y := by rw [i_Voice_sh, List.getElem?_append_left (List.getElem?_eq_some_iff.mp hx).1]; exact hx
theorem i_Voice_atE {h h' : ah_T} {t n x : Nat} {y : Nat × Nat} (e : h' = i_Voice h t n) (hx : h.1[x]? = some y) : h'.1[x]? = some y := by subst e; exact i_Voice_at hx
theorem i_Voice_lenE {h h' : ah_T} {t n q : Nat} (e : h' = i_Voice h t n) (hq : h.1.length = q) : h'.1.length = q + 13 := by subst e; exact i_Voice_len hq
theorem i_Voice_roE {h h' : ah_T} {t n x y : Nat} {v : Option Nat} (e : h' = i_Voice h t n) (hx : x ≠ t) (hv : h.2.2.2 x y = v) : h'.2.2.2 x y = v := by subst e; rw [← hv]; simp only [i_Voice, n1_r, i1_r, l1_r, r1_r hx]
theorem i_Voice_ro {h : ah_T} {t n x y : Nat} (hx : x ≠ t) : (i_Voice h t n).2.2.2 x y = h.2.2.2 x y := by
  simp only [i_Voice, n1_r, i1_r, l1_r, r1_r hx]
set_option maxRecDepth 100000 in
set_option maxHeartbeats 8000000 in
theorem c_Voice_init {G : cx_T} (h : ah_T) (t n : Nat) (hn : h.1.length = n) (hs : h.1[t]? = some (10 + 4, 17)) (d : Nat) (hd : d = 1 := by rfl) : con G d 13 3705 m_Voice_init [av_R (some t)] h (fun r h' => r = none ∧ h' = i_Voice h t n) := by
  subst hd
  have htn : t < n := by rw [← hn]; exact (List.getElem?_eq_some_iff.mp hs).1
  refine con_of (L := [some (av_R (some t))]) (by decide +kernel) (Nat.le_of_ble_eq_true rfl) rfl ?_
  refine A_aload_n 0 d_Voice_init_0 rfl rfl ?_
  refine A_objInit d_Voice_init_1 oi_Voice.1 oi_Voice.2.1 oi_Voice.2.2 (by decide) rfl ?_
  refine A_aload_n 0 d_Voice_init_4 rfl rfl ?_
  refine A_sipush d_Voice_init_5 rfl ?_
  refine A_newIv (q := n) (N := 300) d_Voice_init_8 ac_int rfl (by decide) (by decide) (by decide) hn (fun h1 eh1 nh1 gh1 => ?_)
  have oh1 := hn
  replace hn := nh1
  replace hs := gh1 _ _ hs
  refine A_pc (pc' := 10) rfl ?_
  refine A_putRv T_ok d_Voice_init_10 f_Voice_9 ty_a hs (Or.inr ⟨rfl, fun q hq => by cases hq; rfl⟩) (fun h2 eh2 => ?_)
  replace hn := sn_r eh2 hn
  replace hs := sp_r eh2 hs
  refine A_aload_n 0 d_Voice_init_13 rfl rfl ?_
  refine A_sipush d_Voice_init_14 rfl ?_
  refine A_newIv (q := (n + 1)) (N := 300) d_Voice_init_17 ac_int rfl (by decide) (by decide) (by decide) hn (fun h3 eh3 nh3 gh3 => ?_)
  have oh3 := hn
  replace hn := nh3
  replace hs := gh3 _ _ hs
  refine A_putRv T_ok d_Voice_init_19 f_Voice_15 ty_a hs (Or.inr ⟨rfl, fun q hq => by cases hq; rfl⟩) (fun h4 eh4 => ?_)
  replace hn := sn_r eh4 hn
  replace hs := sp_r eh4 hs
  refine A_aload_n 0 d_Voice_init_22 rfl rfl ?_
  refine A_pc (pc' := 23) rfl ?_
  refine A_sipush d_Voice_init_23 rfl ?_
  refine A_newIv (q := (n + 2)) (N := 301) d_Voice_init_26 ac_int rfl (by decide) (by decide) (by decide) hn (fun h5 eh5 nh5 gh5 => ?_)
  have oh5 := hn
  replace hn := nh5
  replace hs := gh5 _ _ hs
  refine A_putRv T_ok d_Voice_init_28 f_Voice_18 ty_a hs (Or.inr ⟨rfl, fun q hq => by cases hq; rfl⟩) (fun h6 eh6 => ?_)
  replace hn := sn_r eh6 hn
  replace hs := sp_r eh6 hs
  refine A_aload_n 0 d_Voice_init_31 rfl rfl ?_
  refine A_sipush d_Voice_init_32 rfl ?_
  refine A_newIv (q := (n + 3)) (N := 300) d_Voice_init_35 ac_int rfl (by decide) (by decide) (by decide) hn (fun h7 eh7 nh7 gh7 => ?_)
  have oh7 := hn
  replace hn := nh7
  replace hs := gh7 _ _ hs
  refine A_pc (pc' := 37) rfl ?_
  refine A_putRv T_ok d_Voice_init_37 f_Voice_21 ty_a hs (Or.inr ⟨rfl, fun q hq => by cases hq; rfl⟩) (fun h8 eh8 => ?_)
  replace hn := sn_r eh8 hn
  replace hs := sp_r eh8 hs
  refine A_aload_n 0 d_Voice_init_40 rfl rfl ?_
  refine A_sipush d_Voice_init_41 rfl ?_
  refine A_newIv (q := (n + 4)) (N := 300) d_Voice_init_44 ac_int rfl (by decide) (by decide) (by decide) hn (fun h9 eh9 nh9 gh9 => ?_)
  have oh9 := hn
  replace hn := nh9
  replace hs := gh9 _ _ hs
  refine A_putRv T_ok d_Voice_init_46 f_Voice_24 ty_a hs (Or.inr ⟨rfl, fun q hq => by cases hq; rfl⟩) (fun h10 eh10 => ?_)
  replace hn := sn_r eh10 hn
  replace hs := sp_r eh10 hs
  refine A_aload_n 0 d_Voice_init_49 rfl rfl ?_
  refine A_pc (pc' := 50) rfl ?_
  refine A_sipush d_Voice_init_50 rfl ?_
  refine A_newZv (q := (n + 5)) (N := 300) d_Voice_init_53 ac_boolean rfl (by decide) (by decide) (by decide) hn (fun h11 eh11 nh11 gh11 => ?_)
  have oh11 := hn
  replace hn := nh11
  replace hs := gh11 _ _ hs
  refine A_putRv T_ok d_Voice_init_55 f_Voice_27 ty_a hs (Or.inr ⟨rfl, fun q hq => by cases hq; rfl⟩) (fun h12 eh12 => ?_)
  replace hn := sn_r eh12 hn
  replace hs := sp_r eh12 hs
  refine A_aload_n 0 d_Voice_init_58 rfl rfl ?_
  refine A_sipush d_Voice_init_59 rfl ?_
  refine A_newIv (q := (n + 6)) (N := 300) d_Voice_init_62 ac_int rfl (by decide) (by decide) (by decide) hn (fun h13 eh13 nh13 gh13 => ?_)
  have oh13 := hn
  replace hn := nh13
  replace hs := gh13 _ _ hs
  refine A_pc (pc' := 64) rfl ?_
  refine A_putRv T_ok d_Voice_init_64 f_Voice_31 ty_a hs (Or.inr ⟨rfl, fun q hq => by cases hq; rfl⟩) (fun h14 eh14 => ?_)
  replace hn := sn_r eh14 hn
  replace hs := sp_r eh14 hs
  refine A_aload_n 0 d_Voice_init_67 rfl rfl ?_
  refine A_sipush d_Voice_init_68 rfl ?_
  refine A_newIv (q := (n + 7)) (N := 300) d_Voice_init_71 ac_int rfl (by decide) (by decide) (by decide) hn (fun h15 eh15 nh15 gh15 => ?_)
  have oh15 := hn
  replace hn := nh15
  replace hs := gh15 _ _ hs
  refine A_putRv T_ok d_Voice_init_73 f_Voice_34 ty_a hs (Or.inr ⟨rfl, fun q hq => by cases hq; rfl⟩) (fun h16 eh16 => ?_)
  replace hn := sn_r eh16 hn
  replace hs := sp_r eh16 hs
  refine A_aload_n 0 d_Voice_init_76 rfl rfl ?_
  refine A_pc (pc' := 77) rfl ?_
  refine A_sipush d_Voice_init_77 rfl ?_
  refine A_newLv (q := (n + 8)) (N := 301) d_Voice_init_80 ac_long rfl (by decide) (by decide) (by decide) hn (fun h17 eh17 nh17 gh17 => ?_)
  have oh17 := hn
  replace hn := nh17
  replace hs := gh17 _ _ hs
  refine A_putRv T_ok d_Voice_init_82 f_Voice_37 ty_a hs (Or.inr ⟨rfl, fun q hq => by cases hq; rfl⟩) (fun h18 eh18 => ?_)
  replace hn := sn_r eh18 hn
  replace hs := sp_r eh18 hs
  refine A_aload_n 0 d_Voice_init_85 rfl rfl ?_
  refine A_sipush d_Voice_init_86 rfl ?_
  refine A_newLv (q := (n + 9)) (N := 301) d_Voice_init_89 ac_long rfl (by decide) (by decide) (by decide) hn (fun h19 eh19 nh19 gh19 => ?_)
  have oh19 := hn
  replace hn := nh19
  replace hs := gh19 _ _ hs
  refine A_pc (pc' := 91) rfl ?_
  refine A_putRv T_ok d_Voice_init_91 f_Voice_41 ty_a hs (Or.inr ⟨rfl, fun q hq => by cases hq; rfl⟩) (fun h20 eh20 => ?_)
  replace hn := sn_r eh20 hn
  replace hs := sp_r eh20 hs
  refine A_aload_n 0 d_Voice_init_94 rfl rfl ?_
  refine A_sipush d_Voice_init_95 rfl ?_
  refine A_newLv (q := (n + 10)) (N := 300) d_Voice_init_98 ac_long rfl (by decide) (by decide) (by decide) hn (fun h21 eh21 nh21 gh21 => ?_)
  have oh21 := hn
  replace hn := nh21
  replace hs := gh21 _ _ hs
  refine A_putRv T_ok d_Voice_init_100 f_Voice_44 ty_a hs (Or.inr ⟨rfl, fun q hq => by cases hq; rfl⟩) (fun h22 eh22 => ?_)
  replace hn := sn_r eh22 hn
  replace hs := sp_r eh22 hs
  refine A_aload_n 0 d_Voice_init_103 rfl rfl ?_
  refine A_pc (pc' := 104) rfl ?_
  refine A_sipush d_Voice_init_104 rfl ?_
  refine A_newLv (q := (n + 11)) (N := 300) d_Voice_init_107 ac_long rfl (by decide) (by decide) (by decide) hn (fun h23 eh23 nh23 gh23 => ?_)
  have oh23 := hn
  replace hn := nh23
  replace hs := gh23 _ _ hs
  refine A_putRv T_ok d_Voice_init_109 f_Voice_47 ty_a hs (Or.inr ⟨rfl, fun q hq => by cases hq; rfl⟩) (fun h24 eh24 => ?_)
  replace hn := sn_r eh24 hn
  replace hs := sp_r eh24 hs
  refine A_aload_n 0 d_Voice_init_112 rfl rfl ?_
  refine A_bipush d_Voice_init_113 rfl ?_
  refine A_newIv (q := (n + 12)) (N := 102) d_Voice_init_115 ac_int rfl (by decide) (by decide) (by decide) hn (fun h25 eh25 nh25 gh25 => ?_)
  have oh25 := hn
  replace hn := nh25
  replace hs := gh25 _ _ hs
  refine A_pc (pc' := 117) rfl ?_
  refine A_putRv T_ok d_Voice_init_117 f_Voice_50 ty_a hs (Or.inr ⟨rfl, fun q hq => by cases hq; rfl⟩) (fun h26 eh26 => ?_)
  replace hn := sn_r eh26 hn
  replace hs := sp_r eh26 hs
  exact A_vret d_Voice_init_120 (by decide) rfl ⟨rfl, by rw [eh26, eh25, eh24, eh23, eh22, eh21, eh20, eh19, eh18, eh17, eh16, eh15, eh14, eh13, eh12, eh11, eh10, eh9, eh8, eh7, eh6, eh5, eh4, eh3, eh2, eh1] <;> rfl⟩
def i_Score (h : ah_T) (t n : Nat) : ah_T := (st_r (i_Voice (st_n (st_r (i_Voice (st_n (st_r (i_Voice (st_n (st_r (i_Voice (st_n (st_r (st_n (st_r (st_n (st_r (st_n (st_r (st_n (st_r (st_n (st_i (st_i (st_r (st_n h 3 4) t 0 (some n)) t 2 4) t 3 4) 0 8) t 5 (some (n + 1))) 0 24) t 7 (some (n + 2))) 0 24) t 8 (some (n + 3))) 0 24) t 9 (some (n + 4))) 0 12) t 11 (some (n + 5))) 14 17) (n + 6) (n + 7)) n 0 (some (n + 6))) 14 17) (n + 20) (n + 21)) n 1 (some (n + 20))) 14 17) (n + 34) (n + 35)) n 2 (some (n + 34))) 14 17) (n + 48) (n + 49)) n 3 (some (n + 48)))
set_option maxRecDepth 100000 in
theorem i_Score_sh (h : ah_T) (t n : Nat) : (i_Score h t n).1 = h.1 ++ [(3, 4), (0, 8), (0, 24), (0, 24), (0, 24), (0, 12), (14, 17), (0, 300), (0, 300), (0, 301), (0, 300), (0, 300), (2, 300), (0, 300), (0, 300), (1, 301), (1, 301), (1, 300), (1, 300), (0, 102), (14, 17), (0, 300), (0, 300), (0, 301), (0, 300), (0, 300), (2, 300), (0, 300), (0, 300), (1, 301), (1, 301), (1, 300), (1, 300), (0, 102), (14, 17), (0, 300), (0, 300), (0, 301), (0, 300), (0, 300), (2, 300), (0, 300), (0, 300), (1, 301), (1, 301), (1, 300), (1, 300), (0, 102), (14, 17), (0, 300), (0, 300), (0, 301), (0, 300), (0, 300), (2, 300), (0, 300), (0, 300), (1, 301), (1, 301), (1, 300), (1, 300), (0, 102)] := by
  simp only [i_Score, n1_s, i1_s, l1_s, r1_s, i_Voice_sh, List.append_assoc, List.cons_append, List.nil_append]
theorem i_Score_len {h : ah_T} {t n q : Nat} (hq : h.1.length = q) : (i_Score h t n).1.length = q + 62 := by rw [i_Score_sh, List.length_append, hq]; rfl
theorem i_Score_at {h : ah_T} {t n x : Nat} {y : Nat × Nat} (hx : h.1[x]? = some y) : (i_Score h t n).1[x]? = some y := by rw [i_Score_sh, List.getElem?_append_left (List.getElem?_eq_some_iff.mp hx).1]; exact hx
theorem i_Score_atE {h h' : ah_T} {t n x : Nat} {y : Nat × Nat} (e : h' = i_Score h t n) (hx : h.1[x]? = some y) : h'.1[x]? = some y := by subst e; exact i_Score_at hx
theorem i_Score_lenE {h h' : ah_T} {t n q : Nat} (e : h' = i_Score h t n) (hq : h.1.length = q) : h'.1.length = q + 62 := by subst e; exact i_Score_len hq
set_option maxRecDepth 100000 in
set_option maxHeartbeats 8000000 in
theorem c_Score_init {G : cx_T} (h : ah_T) (t n : Nat) (hn : h.1.length = n) (hs : h.1[t]? = some (6 + 4, 13)) (d : Nat) (hd : d = 2 := by rfl) : con G d 62 14984 m_Score_init [av_R (some t)] h (fun r h' => r = none ∧ h' = i_Score h t n) := by
  subst hd
  have htn : t < n := by rw [← hn]; exact (List.getElem?_eq_some_iff.mp hs).1
  refine con_of (L := [some (av_R (some t)), none]) (by decide +kernel) (Nat.le_of_ble_eq_true rfl) rfl ?_
  refine A_aload_n 0 d_Score_init_0 rfl rfl ?_
  refine A_objInit d_Score_init_1 oi_Score.1 oi_Score.2.1 oi_Score.2.2 (by decide) rfl ?_
  refine A_aload_n 0 d_Score_init_4 rfl rfl ?_
  refine A_iconst d_Score_init_5 rfl ?_
  refine A_newVv (q := n) (N := 4) d_Score_init_6 cl_Score_9 ao_V rfl (by decide) (by decide) (by decide) hn (fun h1 eh1 nh1 gh1 => ?_)
  have oh1 := hn
  replace hn := nh1
  replace hs := gh1 _ _ hs
  refine A_pc (pc' := 9) rfl ?_
  refine A_putRv T_ok d_Score_init_9 f_Score_11 ty_a hs (Or.inr ⟨rfl, fun q hq => by cases hq; rfl⟩) (fun h2 eh2 => ?_)
  replace hn := sn_r eh2 hn
  replace hs := sp_r eh2 hs
  refine A_aload_n 0 d_Score_init_12 rfl rfl ?_
  refine A_iconst d_Score_init_13 rfl ?_
  refine A_putIv T_ok d_Score_init_14 f_Score_17 hs fin_f (fun h3 eh3 => ?_)
  replace hn := sn_i eh3 hn
  replace hs := sp_i eh3 hs
  refine A_aload_n 0 d_Score_init_17 rfl rfl ?_
  refine A_iconst d_Score_init_18 rfl ?_
  refine A_pc (pc' := 19) rfl ?_
  refine A_putIv T_ok d_Score_init_19 f_Score_21 hs fin_f (fun h4 eh4 => ?_)
  replace hn := sn_i eh4 hn
  replace hs := sp_i eh4 hs
  refine A_aload_n 0 d_Score_init_22 rfl rfl ?_
  refine A_bipush d_Score_init_23 rfl ?_
  refine A_newIv (q := (n + 1)) (N := 8) d_Score_init_25 ac_int rfl (by decide) (by decide) (by decide) hn (fun h5 eh5 nh5 gh5 => ?_)
  have oh5 := hn
  replace hn := nh5
  replace hs := gh5 _ _ hs
  refine A_putRv T_ok d_Score_init_27 f_Score_24 ty_a hs (Or.inr ⟨rfl, fun q hq => by cases hq; rfl⟩) (fun h6 eh6 => ?_)
  replace hn := sn_r eh6 hn
  replace hs := sp_r eh6 hs
  refine A_aload_n 0 d_Score_init_30 rfl rfl ?_
  refine A_pc (pc' := 31) rfl ?_
  refine A_bipush d_Score_init_31 rfl ?_
  refine A_newIv (q := (n + 2)) (N := 24) d_Score_init_33 ac_int rfl (by decide) (by decide) (by decide) hn (fun h7 eh7 nh7 gh7 => ?_)
  have oh7 := hn
  replace hn := nh7
  replace hs := gh7 _ _ hs
  refine A_putRv T_ok d_Score_init_35 f_Score_28 ty_a hs (Or.inr ⟨rfl, fun q hq => by cases hq; rfl⟩) (fun h8 eh8 => ?_)
  replace hn := sn_r eh8 hn
  replace hs := sp_r eh8 hs
  refine A_aload_n 0 d_Score_init_38 rfl rfl ?_
  refine A_bipush d_Score_init_39 rfl ?_
  refine A_newIv (q := (n + 3)) (N := 24) d_Score_init_41 ac_int rfl (by decide) (by decide) (by decide) hn (fun h9 eh9 nh9 gh9 => ?_)
  have oh9 := hn
  replace hn := nh9
  replace hs := gh9 _ _ hs
  refine A_pc (pc' := 43) rfl ?_
  refine A_putRv T_ok d_Score_init_43 f_Score_31 ty_a hs (Or.inr ⟨rfl, fun q hq => by cases hq; rfl⟩) (fun h10 eh10 => ?_)
  replace hn := sn_r eh10 hn
  replace hs := sp_r eh10 hs
  refine A_aload_n 0 d_Score_init_46 rfl rfl ?_
  refine A_bipush d_Score_init_47 rfl ?_
  refine A_newIv (q := (n + 4)) (N := 24) d_Score_init_49 ac_int rfl (by decide) (by decide) (by decide) hn (fun h11 eh11 nh11 gh11 => ?_)
  have oh11 := hn
  replace hn := nh11
  replace hs := gh11 _ _ hs
  refine A_putRv T_ok d_Score_init_51 f_Score_34 ty_a hs (Or.inr ⟨rfl, fun q hq => by cases hq; rfl⟩) (fun h12 eh12 => ?_)
  replace hn := sn_r eh12 hn
  replace hs := sp_r eh12 hs
  refine A_aload_n 0 d_Score_init_54 rfl rfl ?_
  refine A_pc (pc' := 55) rfl ?_
  refine A_bipush d_Score_init_55 rfl ?_
  refine A_newIv (q := (n + 5)) (N := 12) d_Score_init_57 ac_int rfl (by decide) (by decide) (by decide) hn (fun h13 eh13 nh13 gh13 => ?_)
  have oh13 := hn
  replace hn := nh13
  replace hs := gh13 _ _ hs
  refine A_putRv T_ok d_Score_init_59 f_Score_37 ty_a hs (Or.inr ⟨rfl, fun q hq => by cases hq; rfl⟩) (fun h14 eh14 => ?_)
  replace hn := sn_r eh14 hn
  replace hs := sp_r eh14 hs
  refine A_iconst d_Score_init_62 rfl ?_
  refine A_istore_n 1 (L' := [some (av_R (some t)), some (av_I 0)]) d_Score_init_63 rfl (Nat.le_of_ble_eq_true rfl) rfl ?_
  refine A_iload_n 1 d_Score_init_64 rfl rfl ?_
  refine A_pc (pc' := 65) rfl ?_
  refine A_aload_n 0 d_Score_init_65 rfl rfl ?_
  refine A_getAv (z := (some n)) T_ok d_Score_init_66 f_Score_11 hs (rr_o eh14 (fun q => absurd q.2 (by decide)) (rr_n eh13 (rr_o eh12 (fun q => absurd q.2 (by decide)) (rr_n eh11 (rr_o eh10 (fun q => absurd q.2 (by decide)) (rr_n eh9 (rr_o eh8 (fun q => absurd q.2 (by decide)) (rr_n eh7 (rr_o eh6 (fun q => absurd q.2 (by decide)) (rr_n eh5 (rr_i eh4 (rr_i eh3 (rr_s eh2))))))))))))) ?_
  refine A_alenN d_Score_init_69 (sp_r eh14 (gh13 _ _ (sp_r eh12 (gh11 _ _ (sp_r eh10 (gh9 _ _ (sp_r eh8 (gh7 _ _ (sp_r eh6 (gh5 _ _ (sp_i eh4 (sp_i eh3 (sp_r eh2 (sx_n eh1 oh1)))))))))))))) (by decide) (by decide) ?_
  refine A_icmp_ge (tgt := 92) d_Score_init_70 (by decide) (fun c15 => absurd c15 (by decide)) (fun c15 => ?_)
  refine A_aload_n 0 d_Score_init_73 rfl rfl ?_
  refine A_getAv (z := (some n)) T_ok d_Score_init_74 f_Score_11 hs (rr_o eh14 (fun q => absurd q.2 (by decide)) (rr_n eh13 (rr_o eh12 (fun q => absurd q.2 (by decide)) (rr_n eh11 (rr_o eh10 (fun q => absurd q.2 (by decide)) (rr_n eh9 (rr_o eh8 (fun q => absurd q.2 (by decide)) (rr_n eh7 (rr_o eh6 (fun q => absurd q.2 (by decide)) (rr_n eh5 (rr_i eh4 (rr_i eh3 (rr_s eh2))))))))))))) ?_
  refine A_iload_n 1 d_Score_init_77 rfl rfl ?_
  refine A_newv (c := 10) (q := (n + 6)) (N := 17) T_ok T_k d_Score_init_78 rfl rfl cl_Score_9 (by decide) (by decide) hn (fun h16 eh16 nh16 gh16 => ?_)
  have oh16 := hn
  replace hn := nh16
  replace hs := gh16 _ _ hs
  refine A_dupR d_Score_init_81 ?_
  refine A_pc (pc' := 82) rfl ?_
  refine A_callI0 m_Voice_init d_Score_init_82 l_Score_40 k_Voice_init (by decide) (by decide) (Nat.le_of_ble_eq_true rfl) (c_Voice_init h16 (n + 6) (n + 7) hn (sx_n eh16 oh16) 1) (fun r h17 hq => ?_)
  obtain ⟨rfl, eh17⟩ := hq
  replace hn := i_Voice_lenE eh17 hn
  replace hs := i_Voice_atE eh17 hs
  refine A_aastorev (j := 0) d_Score_init_85 (i_Voice_atE eh17 (gh16 _ _ (sp_r eh14 (gh13 _ _ (sp_r eh12 (gh11 _ _ (sp_r eh10 (gh9 _ _ (sp_r eh8 (gh7 _ _ (sp_r eh6 (gh5 _ _ (sp_i eh4 (sp_i eh3 (sp_r eh2 (sx_n eh1 oh1)))))))))))))))) (i_Voice_atE eh17 (sx_n eh16 oh16)) (by decide) (by decide) rfl (fun h18 eh18 => ?_)
  replace hn := sn_r eh18 hn
  replace hs := sp_r eh18 hs
  refine A_iincv (z := 1) (L' := [some (av_R (some t)), some (av_I 1)]) d_Score_init_86 rfl (by decide +kernel) rfl ?_
  refine A_goto (tgt := 64) d_Score_init_89 (by decide) ?_
  refine A_iload_n 1 d_Score_init_64 rfl rfl ?_
  refine A_aload_n 0 d_Score_init_65 rfl rfl ?_
  refine A_getAv (z := (some n)) T_ok d_Score_init_66 f_Score_11 hs (rr_o eh18 (fun q => (Nat.ne_of_lt htn) q.1) (i_Voice_roE eh17 (Nat.ne_of_lt (Nat.lt_add_right 6 htn)) (rr_n eh16 (rr_o eh14 (fun q => absurd q.2 (by decide)) (rr_n eh13 (rr_o eh12 (fun q => absurd q.2 (by decide)) (rr_n eh11 (rr_o eh10 (fun q => absurd q.2 (by decide)) (rr_n eh9 (rr_o eh8 (fun q => absurd q.2 (by decide)) (rr_n eh7 (rr_o eh6 (fun q => absurd q.2 (by decide)) (rr_n eh5 (rr_i eh4 (rr_i eh3 (rr_s eh2)))))))))))))))) ?_
  refine A_alenN d_Score_init_69 (sp_r eh18 (i_Voice_atE eh17 (gh16 _ _ (sp_r eh14 (gh13 _ _ (sp_r eh12 (gh11 _ _ (sp_r eh10 (gh9 _ _ (sp_r eh8 (gh7 _ _ (sp_r eh6 (gh5 _ _ (sp_i eh4 (sp_i eh3 (sp_r eh2 (sx_n eh1 oh1))))))))))))))))) (by decide) (by decide) ?_
  refine A_icmp_ge (tgt := 92) d_Score_init_70 (by decide) (fun c19 => absurd c19 (by decide)) (fun c19 => ?_)
  refine A_aload_n 0 d_Score_init_73 rfl rfl ?_
  refine A_getAv (z := (some n)) T_ok d_Score_init_74 f_Score_11 hs (rr_o eh18 (fun q => (Nat.ne_of_lt htn) q.1) (i_Voice_roE eh17 (Nat.ne_of_lt (Nat.lt_add_right 6 htn)) (rr_n eh16 (rr_o eh14 (fun q => absurd q.2 (by decide)) (rr_n eh13 (rr_o eh12 (fun q => absurd q.2 (by decide)) (rr_n eh11 (rr_o eh10 (fun q => absurd q.2 (by decide)) (rr_n eh9 (rr_o eh8 (fun q => absurd q.2 (by decide)) (rr_n eh7 (rr_o eh6 (fun q => absurd q.2 (by decide)) (rr_n eh5 (rr_i eh4 (rr_i eh3 (rr_s eh2)))))))))))))))) ?_
  refine A_iload_n 1 d_Score_init_77 rfl rfl ?_
  refine A_newv (c := 10) (q := (n + 20)) (N := 17) T_ok T_k d_Score_init_78 rfl rfl cl_Score_9 (by decide) (by decide) hn (fun h20 eh20 nh20 gh20 => ?_)
  have oh20 := hn
  replace hn := nh20
  replace hs := gh20 _ _ hs
  refine A_dupR d_Score_init_81 ?_
  refine A_pc (pc' := 82) rfl ?_
  refine A_callI0 m_Voice_init d_Score_init_82 l_Score_40 k_Voice_init (by decide) (by decide) (Nat.le_of_ble_eq_true rfl) (c_Voice_init h20 (n + 20) (n + 21) hn (sx_n eh20 oh20) 1) (fun r h21 hq => ?_)
  obtain ⟨rfl, eh21⟩ := hq
  replace hn := i_Voice_lenE eh21 hn
  replace hs := i_Voice_atE eh21 hs
  refine A_aastorev (j := 1) d_Score_init_85 (i_Voice_atE eh21 (gh20 _ _ (sp_r eh18 (i_Voice_atE eh17 (gh16 _ _ (sp_r eh14 (gh13 _ _ (sp_r eh12 (gh11 _ _ (sp_r eh10 (gh9 _ _ (sp_r eh8 (gh7 _ _ (sp_r eh6 (gh5 _ _ (sp_i eh4 (sp_i eh3 (sp_r eh2 (sx_n eh1 oh1))))))))))))))))))) (i_Voice_atE eh21 (sx_n eh20 oh20)) (by decide) (by decide) rfl (fun h22 eh22 => ?_)
  replace hn := sn_r eh22 hn
  replace hs := sp_r eh22 hs
  refine A_iincv (z := 2) (L' := [some (av_R (some t)), some (av_I 2)]) d_Score_init_86 rfl (by decide +kernel) rfl ?_
  refine A_goto (tgt := 64) d_Score_init_89 (by decide) ?_
  refine A_iload_n 1 d_Score_init_64 rfl rfl ?_
  refine A_aload_n 0 d_Score_init_65 rfl rfl ?_
  refine A_getAv (z := (some n)) T_ok d_Score_init_66 f_Score_11 hs (rr_o eh22 (fun q => (Nat.ne_of_lt htn) q.1) (i_Voice_roE eh21 (Nat.ne_of_lt (Nat.lt_add_right 20 htn)) (rr_n eh20 (rr_o eh18 (fun q => (Nat.ne_of_lt htn) q.1) (i_Voice_roE eh17 (Nat.ne_of_lt (Nat.lt_add_right 6 htn)) (rr_n eh16 (rr_o eh14 (fun q => absurd q.2 (by decide)) (rr_n eh13 (rr_o eh12 (fun q => absurd q.2 (by decide)) (rr_n eh11 (rr_o eh10 (fun q => absurd q.2 (by decide)) (rr_n eh9 (rr_o eh8 (fun q => absurd q.2 (by decide)) (rr_n eh7 (rr_o eh6 (fun q => absurd q.2 (by decide)) (rr_n eh5 (rr_i eh4 (rr_i eh3 (rr_s eh2))))))))))))))))))) ?_
  refine A_alenN d_Score_init_69 (sp_r eh22 (i_Voice_atE eh21 (gh20 _ _ (sp_r eh18 (i_Voice_atE eh17 (gh16 _ _ (sp_r eh14 (gh13 _ _ (sp_r eh12 (gh11 _ _ (sp_r eh10 (gh9 _ _ (sp_r eh8 (gh7 _ _ (sp_r eh6 (gh5 _ _ (sp_i eh4 (sp_i eh3 (sp_r eh2 (sx_n eh1 oh1)))))))))))))))))))) (by decide) (by decide) ?_
  refine A_icmp_ge (tgt := 92) d_Score_init_70 (by decide) (fun c23 => absurd c23 (by decide)) (fun c23 => ?_)
  refine A_aload_n 0 d_Score_init_73 rfl rfl ?_
  refine A_getAv (z := (some n)) T_ok d_Score_init_74 f_Score_11 hs (rr_o eh22 (fun q => (Nat.ne_of_lt htn) q.1) (i_Voice_roE eh21 (Nat.ne_of_lt (Nat.lt_add_right 20 htn)) (rr_n eh20 (rr_o eh18 (fun q => (Nat.ne_of_lt htn) q.1) (i_Voice_roE eh17 (Nat.ne_of_lt (Nat.lt_add_right 6 htn)) (rr_n eh16 (rr_o eh14 (fun q => absurd q.2 (by decide)) (rr_n eh13 (rr_o eh12 (fun q => absurd q.2 (by decide)) (rr_n eh11 (rr_o eh10 (fun q => absurd q.2 (by decide)) (rr_n eh9 (rr_o eh8 (fun q => absurd q.2 (by decide)) (rr_n eh7 (rr_o eh6 (fun q => absurd q.2 (by decide)) (rr_n eh5 (rr_i eh4 (rr_i eh3 (rr_s eh2))))))))))))))))))) ?_
  refine A_iload_n 1 d_Score_init_77 rfl rfl ?_
  refine A_newv (c := 10) (q := (n + 34)) (N := 17) T_ok T_k d_Score_init_78 rfl rfl cl_Score_9 (by decide) (by decide) hn (fun h24 eh24 nh24 gh24 => ?_)
  have oh24 := hn
  replace hn := nh24
  replace hs := gh24 _ _ hs
  refine A_dupR d_Score_init_81 ?_
  refine A_pc (pc' := 82) rfl ?_
  refine A_callI0 m_Voice_init d_Score_init_82 l_Score_40 k_Voice_init (by decide) (by decide) (Nat.le_of_ble_eq_true rfl) (c_Voice_init h24 (n + 34) (n + 35) hn (sx_n eh24 oh24) 1) (fun r h25 hq => ?_)
  obtain ⟨rfl, eh25⟩ := hq
  replace hn := i_Voice_lenE eh25 hn
  replace hs := i_Voice_atE eh25 hs
  refine A_aastorev (j := 2) d_Score_init_85 (i_Voice_atE eh25 (gh24 _ _ (sp_r eh22 (i_Voice_atE eh21 (gh20 _ _ (sp_r eh18 (i_Voice_atE eh17 (gh16 _ _ (sp_r eh14 (gh13 _ _ (sp_r eh12 (gh11 _ _ (sp_r eh10 (gh9 _ _ (sp_r eh8 (gh7 _ _ (sp_r eh6 (gh5 _ _ (sp_i eh4 (sp_i eh3 (sp_r eh2 (sx_n eh1 oh1)))))))))))))))))))))) (i_Voice_atE eh25 (sx_n eh24 oh24)) (by decide) (by decide) rfl (fun h26 eh26 => ?_)
  replace hn := sn_r eh26 hn
  replace hs := sp_r eh26 hs
  refine A_iincv (z := 3) (L' := [some (av_R (some t)), some (av_I 3)]) d_Score_init_86 rfl (by decide +kernel) rfl ?_
  refine A_goto (tgt := 64) d_Score_init_89 (by decide) ?_
  refine A_iload_n 1 d_Score_init_64 rfl rfl ?_
  refine A_aload_n 0 d_Score_init_65 rfl rfl ?_
  refine A_getAv (z := (some n)) T_ok d_Score_init_66 f_Score_11 hs (rr_o eh26 (fun q => (Nat.ne_of_lt htn) q.1) (i_Voice_roE eh25 (Nat.ne_of_lt (Nat.lt_add_right 34 htn)) (rr_n eh24 (rr_o eh22 (fun q => (Nat.ne_of_lt htn) q.1) (i_Voice_roE eh21 (Nat.ne_of_lt (Nat.lt_add_right 20 htn)) (rr_n eh20 (rr_o eh18 (fun q => (Nat.ne_of_lt htn) q.1) (i_Voice_roE eh17 (Nat.ne_of_lt (Nat.lt_add_right 6 htn)) (rr_n eh16 (rr_o eh14 (fun q => absurd q.2 (by decide)) (rr_n eh13 (rr_o eh12 (fun q => absurd q.2 (by decide)) (rr_n eh11 (rr_o eh10 (fun q => absurd q.2 (by decide)) (rr_n eh9 (rr_o eh8 (fun q => absurd q.2 (by decide)) (rr_n eh7 (rr_o eh6 (fun q => absurd q.2 (by decide)) (rr_n eh5 (rr_i eh4 (rr_i eh3 (rr_s eh2)))))))))))))))))))))) ?_
  refine A_alenN d_Score_init_69 (sp_r eh26 (i_Voice_atE eh25 (gh24 _ _ (sp_r eh22 (i_Voice_atE eh21 (gh20 _ _ (sp_r eh18 (i_Voice_atE eh17 (gh16 _ _ (sp_r eh14 (gh13 _ _ (sp_r eh12 (gh11 _ _ (sp_r eh10 (gh9 _ _ (sp_r eh8 (gh7 _ _ (sp_r eh6 (gh5 _ _ (sp_i eh4 (sp_i eh3 (sp_r eh2 (sx_n eh1 oh1))))))))))))))))))))))) (by decide) (by decide) ?_
  refine A_icmp_ge (tgt := 92) d_Score_init_70 (by decide) (fun c27 => absurd c27 (by decide)) (fun c27 => ?_)
  refine A_aload_n 0 d_Score_init_73 rfl rfl ?_
  refine A_getAv (z := (some n)) T_ok d_Score_init_74 f_Score_11 hs (rr_o eh26 (fun q => (Nat.ne_of_lt htn) q.1) (i_Voice_roE eh25 (Nat.ne_of_lt (Nat.lt_add_right 34 htn)) (rr_n eh24 (rr_o eh22 (fun q => (Nat.ne_of_lt htn) q.1) (i_Voice_roE eh21 (Nat.ne_of_lt (Nat.lt_add_right 20 htn)) (rr_n eh20 (rr_o eh18 (fun q => (Nat.ne_of_lt htn) q.1) (i_Voice_roE eh17 (Nat.ne_of_lt (Nat.lt_add_right 6 htn)) (rr_n eh16 (rr_o eh14 (fun q => absurd q.2 (by decide)) (rr_n eh13 (rr_o eh12 (fun q => absurd q.2 (by decide)) (rr_n eh11 (rr_o eh10 (fun q => absurd q.2 (by decide)) (rr_n eh9 (rr_o eh8 (fun q => absurd q.2 (by decide)) (rr_n eh7 (rr_o eh6 (fun q => absurd q.2 (by decide)) (rr_n eh5 (rr_i eh4 (rr_i eh3 (rr_s eh2)))))))))))))))))))))) ?_
  refine A_iload_n 1 d_Score_init_77 rfl rfl ?_
  refine A_newv (c := 10) (q := (n + 48)) (N := 17) T_ok T_k d_Score_init_78 rfl rfl cl_Score_9 (by decide) (by decide) hn (fun h28 eh28 nh28 gh28 => ?_)
  have oh28 := hn
  replace hn := nh28
  replace hs := gh28 _ _ hs
  refine A_dupR d_Score_init_81 ?_
  refine A_pc (pc' := 82) rfl ?_
  refine A_callI0 m_Voice_init d_Score_init_82 l_Score_40 k_Voice_init (by decide) (by decide) (Nat.le_of_ble_eq_true rfl) (c_Voice_init h28 (n + 48) (n + 49) hn (sx_n eh28 oh28) 1) (fun r h29 hq => ?_)
  obtain ⟨rfl, eh29⟩ := hq
  replace hn := i_Voice_lenE eh29 hn
  replace hs := i_Voice_atE eh29 hs
  refine A_aastorev (j := 3) d_Score_init_85 (i_Voice_atE eh29 (gh28 _ _ (sp_r eh26 (i_Voice_atE eh25 (gh24 _ _ (sp_r eh22 (i_Voice_atE eh21 (gh20 _ _ (sp_r eh18 (i_Voice_atE eh17 (gh16 _ _ (sp_r eh14 (gh13 _ _ (sp_r eh12 (gh11 _ _ (sp_r eh10 (gh9 _ _ (sp_r eh8 (gh7 _ _ (sp_r eh6 (gh5 _ _ (sp_i eh4 (sp_i eh3 (sp_r eh2 (sx_n eh1 oh1))))))))))))))))))))))))) (i_Voice_atE eh29 (sx_n eh28 oh28)) (by decide) (by decide) rfl (fun h30 eh30 => ?_)
  replace hn := sn_r eh30 hn
  replace hs := sp_r eh30 hs
  refine A_iincv (z := 4) (L' := [some (av_R (some t)), some (av_I 4)]) d_Score_init_86 rfl (by decide +kernel) rfl ?_
  refine A_goto (tgt := 64) d_Score_init_89 (by decide) ?_
  refine A_iload_n 1 d_Score_init_64 rfl rfl ?_
  refine A_aload_n 0 d_Score_init_65 rfl rfl ?_
  refine A_getAv (z := (some n)) T_ok d_Score_init_66 f_Score_11 hs (rr_o eh30 (fun q => (Nat.ne_of_lt htn) q.1) (i_Voice_roE eh29 (Nat.ne_of_lt (Nat.lt_add_right 48 htn)) (rr_n eh28 (rr_o eh26 (fun q => (Nat.ne_of_lt htn) q.1) (i_Voice_roE eh25 (Nat.ne_of_lt (Nat.lt_add_right 34 htn)) (rr_n eh24 (rr_o eh22 (fun q => (Nat.ne_of_lt htn) q.1) (i_Voice_roE eh21 (Nat.ne_of_lt (Nat.lt_add_right 20 htn)) (rr_n eh20 (rr_o eh18 (fun q => (Nat.ne_of_lt htn) q.1) (i_Voice_roE eh17 (Nat.ne_of_lt (Nat.lt_add_right 6 htn)) (rr_n eh16 (rr_o eh14 (fun q => absurd q.2 (by decide)) (rr_n eh13 (rr_o eh12 (fun q => absurd q.2 (by decide)) (rr_n eh11 (rr_o eh10 (fun q => absurd q.2 (by decide)) (rr_n eh9 (rr_o eh8 (fun q => absurd q.2 (by decide)) (rr_n eh7 (rr_o eh6 (fun q => absurd q.2 (by decide)) (rr_n eh5 (rr_i eh4 (rr_i eh3 (rr_s eh2))))))))))))))))))))))))) ?_
  refine A_alenN d_Score_init_69 (sp_r eh30 (i_Voice_atE eh29 (gh28 _ _ (sp_r eh26 (i_Voice_atE eh25 (gh24 _ _ (sp_r eh22 (i_Voice_atE eh21 (gh20 _ _ (sp_r eh18 (i_Voice_atE eh17 (gh16 _ _ (sp_r eh14 (gh13 _ _ (sp_r eh12 (gh11 _ _ (sp_r eh10 (gh9 _ _ (sp_r eh8 (gh7 _ _ (sp_r eh6 (gh5 _ _ (sp_i eh4 (sp_i eh3 (sp_r eh2 (sx_n eh1 oh1)))))))))))))))))))))))))) (by decide) (by decide) ?_
  refine A_icmp_ge (tgt := 92) d_Score_init_70 (by decide) (fun c31 => ?_) (fun c31 => absurd c31 (by decide))
  exact A_vret d_Score_init_92 (by decide) rfl ⟨rfl, by rw [eh30, eh29, eh28, eh26, eh25, eh24, eh22, eh21, eh20, eh18, eh17, eh16, eh14, eh13, eh12, eh11, eh10, eh9, eh8, eh7, eh6, eh5, eh4, eh3, eh2, eh1] <;> rfl⟩
def i_Tokens (h : ah_T) (t n : Nat) : ah_T := (st_r (st_n (st_r (st_n (st_r (st_n (st_r (st_n (st_r (st_n h 0 2001) t 0 (some n)) 0 2001) t 1 (some (n + 1))) 1 2001) t 2 (some (n + 2))) 0 2001) t 3 (some (n + 3))) 0 0) t 6 (some (n + 4)))
set_option maxRecDepth 100000 in
theorem i_Tokens_sh (h : ah_T) (t n : Nat) : (i_Tokens h t n).1 = h.1 ++ [(0, 2001), (0, 2001), (1, 2001), (0, 2001), (0, 0)] := by
  simp only [i_Tokens, n1_s, i1_s, l1_s, r1_s, List.append_assoc, List.cons_append, List.nil_append]
theorem i_Tokens_len {h : ah_T} {t n q : Nat} (hq : h.1.length = q) : (i_Tokens h t n).1.length = q + 5 := by rw [i_Tokens_sh, List.length_append, hq]; rfl
theorem i_Tokens_at {h : ah_T} {t n x : Nat} {y : Nat × Nat} (hx : h.1[x]? = some y) : (i_Tokens h t n).1[x]? = some y := by rw [i_Tokens_sh, List.getElem?_append_left (List.getElem?_eq_some_iff.mp hx).1]; exact hx
theorem i_Tokens_atE {h h' : ah_T} {t n x : Nat} {y : Nat × Nat} (e : h' = i_Tokens h t n) (hx : h.1[x]? = some y) : h'.1[x]? = some y := by subst e; exact i_Tokens_at hx
theorem i_Tokens_lenE {h h' : ah_T} {t n q : Nat} (e : h' = i_Tokens h t n) (hq : h.1.length = q) : h'.1.length = q + 5 := by subst e; exact i_Tokens_len hq
set_option maxRecDepth 100000 in
set_option maxHeartbeats 8000000 in
theorem c_Tokens_init {G : cx_T} (h : ah_T) (t n : Nat) (hn : h.1.length = n) (hs : h.1[t]? = some (8 + 4, 13)) (d : Nat) (hd : d = 1 := by rfl) : con G d 5 8004 m_Tokens_init [av_R (some t)] h (fun r h' => r = none ∧ h' = i_Tokens h t n) := by
  subst hd
  have htn : t < n := by rw [← hn]; exact (List.getElem?_eq_some_iff.mp hs).1
  refine con_of (L := [some (av_R (some t))]) (by decide +kernel) (Nat.le_of_ble_eq_true rfl) rfl ?_
  refine A_aload_n 0 d_Tokens_init_0 rfl rfl ?_
  refine A_objInit d_Tokens_init_1 oi_Tokens.1 oi_Tokens.2.1 oi_Tokens.2.2 (by decide) rfl ?_
  refine A_aload_n 0 d_Tokens_init_4 rfl rfl ?_
  refine A_sipush d_Tokens_init_5 rfl ?_
  refine A_newIv (q := n) (N := 2001) d_Tokens_init_8 ac_int rfl (by decide) (by decide) (by decide) hn (fun h1 eh1 nh1 gh1 => ?_)
  have oh1 := hn
  replace hn := nh1
  replace hs := gh1 _ _ hs
  refine A_pc (pc' := 10) rfl ?_
  refine A_putRv T_ok d_Tokens_init_10 f_Tokens_9 ty_a hs (Or.inr ⟨rfl, fun q hq => by cases hq; rfl⟩) (fun h2 eh2 => ?_)
  replace hn := sn_r eh2 hn
  replace hs := sp_r eh2 hs
  refine A_aload_n 0 d_Tokens_init_13 rfl rfl ?_
  refine A_sipush d_Tokens_init_14 rfl ?_
  refine A_newIv (q := (n + 1)) (N := 2001) d_Tokens_init_17 ac_int rfl (by decide) (by decide) (by decide) hn (fun h3 eh3 nh3 gh3 => ?_)
  have oh3 := hn
  replace hn := nh3
  replace hs := gh3 _ _ hs
  refine A_putRv T_ok d_Tokens_init_19 f_Tokens_15 ty_a hs (Or.inr ⟨rfl, fun q hq => by cases hq; rfl⟩) (fun h4 eh4 => ?_)
  replace hn := sn_r eh4 hn
  replace hs := sp_r eh4 hs
  refine A_aload_n 0 d_Tokens_init_22 rfl rfl ?_
  refine A_pc (pc' := 23) rfl ?_
  refine A_sipush d_Tokens_init_23 rfl ?_
  refine A_newLv (q := (n + 2)) (N := 2001) d_Tokens_init_26 ac_long rfl (by decide) (by decide) (by decide) hn (fun h5 eh5 nh5 gh5 => ?_)
  have oh5 := hn
  replace hn := nh5
  replace hs := gh5 _ _ hs
  refine A_putRv T_ok d_Tokens_init_28 f_Tokens_18 ty_a hs (Or.inr ⟨rfl, fun q hq => by cases hq; rfl⟩) (fun h6 eh6 => ?_)
  replace hn := sn_r eh6 hn
  replace hs := sp_r eh6 hs
  refine A_aload_n 0 d_Tokens_init_31 rfl rfl ?_
  refine A_sipush d_Tokens_init_32 rfl ?_
  refine A_newIv (q := (n + 3)) (N := 2001) d_Tokens_init_35 ac_int rfl (by decide) (by decide) (by decide) hn (fun h7 eh7 nh7 gh7 => ?_)
  have oh7 := hn
  replace hn := nh7
  replace hs := gh7 _ _ hs
  refine A_pc (pc' := 37) rfl ?_
  refine A_putRv T_ok d_Tokens_init_37 f_Tokens_22 ty_a hs (Or.inr ⟨rfl, fun q hq => by cases hq; rfl⟩) (fun h8 eh8 => ?_)
  replace hn := sn_r eh8 hn
  replace hs := sp_r eh8 hs
  refine A_aload_n 0 d_Tokens_init_40 rfl rfl ?_
  refine A_iconst d_Tokens_init_41 rfl ?_
  refine A_newIv (q := (n + 4)) (N := 0) d_Tokens_init_42 ac_int rfl (by decide) (by decide) (by decide) hn (fun h9 eh9 nh9 gh9 => ?_)
  have oh9 := hn
  replace hn := nh9
  replace hs := gh9 _ _ hs
  refine A_putRv T_ok d_Tokens_init_44 f_Tokens_25 ty_a hs fin_f (fun h10 eh10 => ?_)
  replace hn := sn_r eh10 hn
  replace hs := sp_r eh10 hs
  exact A_vret d_Tokens_init_47 (by decide) rfl ⟨rfl, by rw [eh10, eh9, eh8, eh7, eh6, eh5, eh4, eh3, eh2, eh1] <;> rfl⟩
def i_Parts (h : ah_T) (t n : Nat) : ah_T := (st_r (st_n (st_r (st_n (st_r (st_n (st_r (st_n (st_r (st_n (st_r (st_n h 0 2000) t 0 (some n)) 0 2000) t 1 (some (n + 1))) 0 2000) t 2 (some (n + 2))) 0 2000) t 3 (some (n + 3))) 0 7) t 5 (some (n + 4))) 0 7) t 6 (some (n + 5)))
set_option maxRecDepth 100000 in
theorem i_Parts_sh (h : ah_T) (t n : Nat) : (i_Parts h t n).1 = h.1 ++ [(0, 2000), (0, 2000), (0, 2000), (0, 2000), (0, 7), (0, 7)] := by
  simp only [i_Parts, n1_s, i1_s, l1_s, r1_s, List.append_assoc, List.cons_append, List.nil_append]
theorem i_Parts_len {h : ah_T} {t n q : Nat} (hq : h.1.length = q) : (i_Parts h t n).1.length = q + 6 := by rw [i_Parts_sh, List.length_append, hq]; rfl
theorem i_Parts_at {h : ah_T} {t n x : Nat} {y : Nat × Nat} (hx : h.1[x]? = some y) : (i_Parts h t n).1[x]? = some y := by rw [i_Parts_sh, List.getElem?_append_left (List.getElem?_eq_some_iff.mp hx).1]; exact hx
theorem i_Parts_atE {h h' : ah_T} {t n x : Nat} {y : Nat × Nat} (e : h' = i_Parts h t n) (hx : h.1[x]? = some y) : h'.1[x]? = some y := by subst e; exact i_Parts_at hx
theorem i_Parts_lenE {h h' : ah_T} {t n q : Nat} (e : h' = i_Parts h t n) (hq : h.1.length = q) : h'.1.length = q + 6 := by subst e; exact i_Parts_len hq
set_option maxRecDepth 100000 in
set_option maxHeartbeats 8000000 in
theorem c_Parts_init {G : cx_T} (h : ah_T) (t n : Nat) (hn : h.1.length = n) (hs : h.1[t]? = some (4 + 4, 12)) (d : Nat) (hd : d = 1 := by rfl) : con G d 6 8014 m_Parts_init [av_R (some t)] h (fun r h' => r = none ∧ h' = i_Parts h t n) := by
  subst hd
  have htn : t < n := by rw [← hn]; exact (List.getElem?_eq_some_iff.mp hs).1
  refine con_of (L := [some (av_R (some t))]) (by decide +kernel) (Nat.le_of_ble_eq_true rfl) rfl ?_
  refine A_aload_n 0 d_Parts_init_0 rfl rfl ?_
  refine A_objInit d_Parts_init_1 oi_Parts.1 oi_Parts.2.1 oi_Parts.2.2 (by decide) rfl ?_
  refine A_aload_n 0 d_Parts_init_4 rfl rfl ?_
  refine A_sipush d_Parts_init_5 rfl ?_
  refine A_newIv (q := n) (N := 2000) d_Parts_init_8 ac_int rfl (by decide) (by decide) (by decide) hn (fun h1 eh1 nh1 gh1 => ?_)
  have oh1 := hn
  replace hn := nh1
  replace hs := gh1 _ _ hs
  refine A_pc (pc' := 10) rfl ?_
  refine A_putRv T_ok d_Parts_init_10 f_Parts_9 ty_a hs (Or.inr ⟨rfl, fun q hq => by cases hq; rfl⟩) (fun h2 eh2 => ?_)
  replace hn := sn_r eh2 hn
  replace hs := sp_r eh2 hs
  refine A_aload_n 0 d_Parts_init_13 rfl rfl ?_
  refine A_sipush d_Parts_init_14 rfl ?_
  refine A_newIv (q := (n + 1)) (N := 2000) d_Parts_init_17 ac_int rfl (by decide) (by decide) (by decide) hn (fun h3 eh3 nh3 gh3 => ?_)
  have oh3 := hn
  replace hn := nh3
  replace hs := gh3 _ _ hs
  refine A_putRv T_ok d_Parts_init_19 f_Parts_15 ty_a hs (Or.inr ⟨rfl, fun q hq => by cases hq; rfl⟩) (fun h4 eh4 => ?_)
  replace hn := sn_r eh4 hn
  replace hs := sp_r eh4 hs
  refine A_aload_n 0 d_Parts_init_22 rfl rfl ?_
  refine A_pc (pc' := 23) rfl ?_
  refine A_sipush d_Parts_init_23 rfl ?_
  refine A_newIv (q := (n + 2)) (N := 2000) d_Parts_init_26 ac_int rfl (by decide) (by decide) (by decide) hn (fun h5 eh5 nh5 gh5 => ?_)
  have oh5 := hn
  replace hn := nh5
  replace hs := gh5 _ _ hs
  refine A_putRv T_ok d_Parts_init_28 f_Parts_18 ty_a hs (Or.inr ⟨rfl, fun q hq => by cases hq; rfl⟩) (fun h6 eh6 => ?_)
  replace hn := sn_r eh6 hn
  replace hs := sp_r eh6 hs
  refine A_aload_n 0 d_Parts_init_31 rfl rfl ?_
  refine A_sipush d_Parts_init_32 rfl ?_
  refine A_newIv (q := (n + 3)) (N := 2000) d_Parts_init_35 ac_int rfl (by decide) (by decide) (by decide) hn (fun h7 eh7 nh7 gh7 => ?_)
  have oh7 := hn
  replace hn := nh7
  replace hs := gh7 _ _ hs
  refine A_pc (pc' := 37) rfl ?_
  refine A_putRv T_ok d_Parts_init_37 f_Parts_21 ty_a hs (Or.inr ⟨rfl, fun q hq => by cases hq; rfl⟩) (fun h8 eh8 => ?_)
  replace hn := sn_r eh8 hn
  replace hs := sp_r eh8 hs
  refine A_aload_n 0 d_Parts_init_40 rfl rfl ?_
  refine A_bipush d_Parts_init_41 rfl ?_
  refine A_newIv (q := (n + 4)) (N := 7) d_Parts_init_43 ac_int rfl (by decide) (by decide) (by decide) hn (fun h9 eh9 nh9 gh9 => ?_)
  have oh9 := hn
  replace hn := nh9
  replace hs := gh9 _ _ hs
  refine A_putRv T_ok d_Parts_init_45 f_Parts_24 ty_a hs (Or.inr ⟨rfl, fun q hq => by cases hq; rfl⟩) (fun h10 eh10 => ?_)
  replace hn := sn_r eh10 hn
  replace hs := sp_r eh10 hs
  refine A_aload_n 0 d_Parts_init_48 rfl rfl ?_
  refine A_pc (pc' := 49) rfl ?_
  refine A_bipush d_Parts_init_49 rfl ?_
  refine A_newIv (q := (n + 5)) (N := 7) d_Parts_init_51 ac_int rfl (by decide) (by decide) (by decide) hn (fun h11 eh11 nh11 gh11 => ?_)
  have oh11 := hn
  replace hn := nh11
  replace hs := gh11 _ _ hs
  refine A_putRv T_ok d_Parts_init_53 f_Parts_27 ty_a hs (Or.inr ⟨rfl, fun q hq => by cases hq; rfl⟩) (fun h12 eh12 => ?_)
  replace hn := sn_r eh12 hn
  replace hs := sp_r eh12 hs
  exact A_vret d_Parts_init_56 (by decide) rfl ⟨rfl, by rw [eh12, eh11, eh10, eh9, eh8, eh7, eh6, eh5, eh4, eh3, eh2, eh1] <;> rfl⟩
def i_Reader (h : ah_T) (t n : Nat) : ah_T := (st_r (i_Score (st_n (st_r (st_n (st_r (i_Parts (st_n (st_r (i_Tokens (st_n h 12 13) n (n + 1)) t 0 (some n)) 8 12) (n + 6) (n + 7)) t 1 (some (n + 6))) 1 16) t 2 (some (n + 13))) 10 13) (n + 14) (n + 15)) t 5 (some (n + 14)))
set_option maxRecDepth 100000 in
theorem i_Reader_sh (h : ah_T) (t n : Nat) : (i_Reader h t n).1 = h.1 ++ [(12, 13), (0, 2001), (0, 2001), (1, 2001), (0, 2001), (0, 0), (8, 12), (0, 2000), (0, 2000), (0, 2000), (0, 2000), (0, 7), (0, 7), (1, 16), (10, 13), (3, 4), (0, 8), (0, 24), (0, 24), (0, 24), (0, 12), (14, 17), (0, 300), (0, 300), (0, 301), (0, 300), (0, 300), (2, 300), (0, 300), (0, 300), (1, 301), (1, 301), (1, 300), (1, 300), (0, 102), (14, 17), (0, 300), (0, 300), (0, 301), (0, 300), (0, 300), (2, 300), (0, 300), (0, 300), (1, 301), (1, 301), (1, 300), (1, 300), (0, 102), (14, 17), (0, 300), (0, 300), (0, 301), (0, 300), (0, 300), (2, 300), (0, 300), (0, 300), (1, 301), (1, 301), (1, 300), (1, 300), (0, 102), (14, 17), (0, 300), (0, 300), (0, 301), (0, 300), (0, 300), (2, 300), (0, 300), (0, 300), (1, 301), (1, 301), (1, 300), (1, 300), (0, 102)] := by
  simp only [i_Reader, n1_s, i1_s, l1_s, r1_s, i_Parts_sh, i_Score_sh, i_Tokens_sh, List.append_assoc, List.cons_append, List.nil_append]
theorem i_Reader_len {h : ah_T} {t n q : Nat} (hq : h.1.length = q) : (i_Reader h t n).1.length = q + 77 := by rw [i_Reader_sh, List.length_append, hq]; rfl
theorem i_Reader_at {h : ah_T} {t n x : Nat} {y : Nat × Nat} (hx : h.1[x]? = some y) : (i_Reader h t n).1[x]? = some y := by rw [i_Reader_sh, List.getElem?_append_left (List.getElem?_eq_some_iff.mp hx).1]; exact hx
theorem i_Reader_atE {h h' : ah_T} {t n x : Nat} {y : Nat × Nat} (e : h' = i_Reader h t n) (hx : h.1[x]? = some y) : h'.1[x]? = some y := by subst e; exact i_Reader_at hx
theorem i_Reader_lenE {h h' : ah_T} {t n q : Nat} (e : h' = i_Reader h t n) (hq : h.1.length = q) : h'.1.length = q + 77 := by subst e; exact i_Reader_len hq
set_option maxRecDepth 100000 in
set_option maxHeartbeats 8000000 in
theorem c_Reader_init {G : cx_T} (h : ah_T) (t n : Nat) (hn : h.1.length = n) (hs : h.1[t]? = some (5 + 4, 8)) (d : Nat) (hd : d = 3 := by rfl) : con G d 77 31056 m_Reader_init [av_R (some t)] h (fun r h' => r = none ∧ h' = i_Reader h t n) := by
  subst hd
  have htn : t < n := by rw [← hn]; exact (List.getElem?_eq_some_iff.mp hs).1
  refine con_of (L := [some (av_R (some t))]) (by decide +kernel) (Nat.le_of_ble_eq_true rfl) rfl ?_
  refine A_aload_n 0 d_Reader_init_0 rfl rfl ?_
  refine A_objInit d_Reader_init_1 oi_Reader.1 oi_Reader.2.1 oi_Reader.2.2 (by decide) rfl ?_
  refine A_aload_n 0 d_Reader_init_4 rfl rfl ?_
  refine A_newv (c := 8) (q := n) (N := 13) T_ok T_k d_Reader_init_5 rfl rfl cl_Reader_9 (by decide) (by decide) hn (fun h1 eh1 nh1 gh1 => ?_)
  have oh1 := hn
  replace hn := nh1
  replace hs := gh1 _ _ hs
  refine A_dupR d_Reader_init_8 ?_
  refine A_pc (pc' := 9) rfl ?_
  refine A_callI0 m_Tokens_init d_Reader_init_9 l_Reader_11 k_Tokens_init (by decide) (by decide) (Nat.le_of_ble_eq_true rfl) (c_Tokens_init h1 n (n + 1) hn (sx_n eh1 oh1) 1) (fun r h2 hq => ?_)
  obtain ⟨rfl, eh2⟩ := hq
  replace hn := i_Tokens_lenE eh2 hn
  replace hs := i_Tokens_atE eh2 hs
  refine A_putRv T_ok d_Reader_init_12 f_Reader_12 ty_o hs (Or.inr ⟨rfl, fun q hq => by cases hq; rfl⟩) (fun h3 eh3 => ?_)
  replace hn := sn_r eh3 hn
  replace hs := sp_r eh3 hs
  refine A_aload_n 0 d_Reader_init_15 rfl rfl ?_
  refine A_newv (c := 4) (q := (n + 6)) (N := 12) T_ok T_k d_Reader_init_16 rfl rfl cl_Reader_18 (by decide) (by decide) hn (fun h4 eh4 nh4 gh4 => ?_)
  have oh4 := hn
  replace hn := nh4
  replace hs := gh4 _ _ hs
  refine A_dupR d_Reader_init_19 ?_
  refine A_callI0 m_Parts_init d_Reader_init_20 l_Reader_20 k_Parts_init (by decide) (by decide) (Nat.le_of_ble_eq_true rfl) (c_Parts_init h4 (n + 6) (n + 7) hn (sx_n eh4 oh4) 1) (fun r h5 hq => ?_)
  obtain ⟨rfl, eh5⟩ := hq
  replace hn := i_Parts_lenE eh5 hn
  replace hs := i_Parts_atE eh5 hs
  refine A_pc (pc' := 23) rfl ?_
  refine A_putRv T_ok d_Reader_init_23 f_Reader_21 ty_o hs (Or.inr ⟨rfl, fun q hq => by cases hq; rfl⟩) (fun h6 eh6 => ?_)
  replace hn := sn_r eh6 hn
  replace hs := sp_r eh6 hs
  refine A_aload_n 0 d_Reader_init_26 rfl rfl ?_
  refine A_bipush d_Reader_init_27 rfl ?_
  refine A_newLv (q := (n + 13)) (N := 16) d_Reader_init_29 ac_long rfl (by decide) (by decide) (by decide) hn (fun h7 eh7 nh7 gh7 => ?_)
  have oh7 := hn
  replace hn := nh7
  replace hs := gh7 _ _ hs
  refine A_putRv T_ok d_Reader_init_31 f_Reader_25 ty_a hs (Or.inr ⟨rfl, fun q hq => by cases hq; rfl⟩) (fun h8 eh8 => ?_)
  replace hn := sn_r eh8 hn
  replace hs := sp_r eh8 hs
  refine A_aload_n 0 d_Reader_init_34 rfl rfl ?_
  refine A_pc (pc' := 35) rfl ?_
  refine A_newv (c := 6) (q := (n + 14)) (N := 13) T_ok T_k d_Reader_init_35 rfl rfl cl_Reader_29 (by decide) (by decide) hn (fun h9 eh9 nh9 gh9 => ?_)
  have oh9 := hn
  replace hn := nh9
  replace hs := gh9 _ _ hs
  refine A_dupR d_Reader_init_38 ?_
  refine A_callI0 m_Score_init d_Reader_init_39 l_Reader_31 k_Score_init (by decide) (by decide) (Nat.le_of_ble_eq_true rfl) (c_Score_init h9 (n + 14) (n + 15) hn (sx_n eh9 oh9) 2) (fun r h10 hq => ?_)
  obtain ⟨rfl, eh10⟩ := hq
  replace hn := i_Score_lenE eh10 hn
  replace hs := i_Score_atE eh10 hs
  refine A_putRv T_ok d_Reader_init_42 f_Reader_32 ty_o hs fin_f (fun h11 eh11 => ?_)
  replace hn := sn_r eh11 hn
  replace hs := sp_r eh11 hs
  exact A_vret d_Reader_init_45 (by decide) rfl ⟨rfl, by rw [eh11, eh10, eh9, eh8, eh7, eh6, eh5, eh4, eh3, eh2, eh1] <;> rfl⟩
def i_Judge (h : ah_T) (t n : Nat) : ah_T := (st_r (st_n (st_r (st_n h 0 6404) t 0 (some n)) 0 4) t 2 (some (n + 1)))
set_option maxRecDepth 100000 in
theorem i_Judge_sh (h : ah_T) (t n : Nat) : (i_Judge h t n).1 = h.1 ++ [(0, 6404), (0, 4)] := by
  simp only [i_Judge, n1_s, i1_s, l1_s, r1_s, List.append_assoc, List.cons_append, List.nil_append]
theorem i_Judge_len {h : ah_T} {t n q : Nat} (hq : h.1.length = q) : (i_Judge h t n).1.length = q + 2 := by rw [i_Judge_sh, List.length_append, hq]; rfl
theorem i_Judge_at {h : ah_T} {t n x : Nat} {y : Nat × Nat} (hx : h.1[x]? = some y) : (i_Judge h t n).1[x]? = some y := by rw [i_Judge_sh, List.getElem?_append_left (List.getElem?_eq_some_iff.mp hx).1]; exact hx
theorem i_Judge_atE {h h' : ah_T} {t n x : Nat} {y : Nat × Nat} (e : h' = i_Judge h t n) (hx : h.1[x]? = some y) : h'.1[x]? = some y := by subst e; exact i_Judge_at hx
theorem i_Judge_lenE {h h' : ah_T} {t n q : Nat} (e : h' = i_Judge h t n) (hq : h.1.length = q) : h'.1.length = q + 2 := by subst e; exact i_Judge_len hq
set_option maxRecDepth 100000 in
set_option maxHeartbeats 8000000 in
theorem c_Judge_init {G : cx_T} (h : ah_T) (t n : Nat) (hn : h.1.length = n) (hs : h.1[t]? = some (1 + 4, 3)) (d : Nat) (hd : d = 1 := by rfl) : con G d 2 6408 m_Judge_init [av_R (some t)] h (fun r h' => r = none ∧ h' = i_Judge h t n) := by
  subst hd
  have htn : t < n := by rw [← hn]; exact (List.getElem?_eq_some_iff.mp hs).1
  refine con_of (L := [some (av_R (some t))]) (by decide +kernel) (Nat.le_of_ble_eq_true rfl) rfl ?_
  refine A_aload_n 0 d_Judge_init_0 rfl rfl ?_
  refine A_objInit d_Judge_init_1 oi_Judge.1 oi_Judge.2.1 oi_Judge.2.2 (by decide) rfl ?_
  refine A_aload_n 0 d_Judge_init_4 rfl rfl ?_
  refine A_sipush d_Judge_init_5 rfl ?_
  refine A_newIv (q := n) (N := 6404) d_Judge_init_8 ac_int rfl (by decide) (by decide) (by decide) hn (fun h1 eh1 nh1 gh1 => ?_)
  have oh1 := hn
  replace hn := nh1
  replace hs := gh1 _ _ hs
  refine A_pc (pc' := 10) rfl ?_
  refine A_putRv T_ok d_Judge_init_10 f_Judge_11 ty_a hs (Or.inr ⟨rfl, fun q hq => by cases hq; rfl⟩) (fun h2 eh2 => ?_)
  replace hn := sn_r eh2 hn
  replace hs := sp_r eh2 hs
  refine A_aload_n 0 d_Judge_init_13 rfl rfl ?_
  refine A_iconst d_Judge_init_14 rfl ?_
  refine A_newIv (q := (n + 1)) (N := 4) d_Judge_init_15 ac_int rfl (by decide) (by decide) (by decide) hn (fun h3 eh3 nh3 gh3 => ?_)
  have oh3 := hn
  replace hn := nh3
  replace hs := gh3 _ _ hs
  refine A_putRv T_ok d_Judge_init_17 f_Judge_15 ty_a hs (Or.inr ⟨rfl, fun q hq => by cases hq; rfl⟩) (fun h4 eh4 => ?_)
  replace hn := sn_r eh4 hn
  replace hs := sp_r eh4 hs
  exact A_vret d_Judge_init_20 (by decide) rfl ⟨rfl, by rw [eh4, eh3, eh2, eh1] <;> rfl⟩
def i_Beams (h : ah_T) (t n : Nat) : ah_T := (st_r (st_n (st_r (st_n (st_r (st_n h 0 14) t 0 (some n)) 0 15) t 2 (some (n + 1))) 0 15) t 3 (some (n + 2)))
set_option maxRecDepth 100000 in
theorem i_Beams_sh (h : ah_T) (t n : Nat) : (i_Beams h t n).1 = h.1 ++ [(0, 14), (0, 15), (0, 15)] := by
  simp only [i_Beams, n1_s, i1_s, l1_s, r1_s, List.append_assoc, List.cons_append, List.nil_append]
theorem i_Beams_len {h : ah_T} {t n q : Nat} (hq : h.1.length = q) : (i_Beams h t n).1.length = q + 3 := by rw [i_Beams_sh, List.length_append, hq]; rfl
theorem i_Beams_at {h : ah_T} {t n x : Nat} {y : Nat × Nat} (hx : h.1[x]? = some y) : (i_Beams h t n).1[x]? = some y := by rw [i_Beams_sh, List.getElem?_append_left (List.getElem?_eq_some_iff.mp hx).1]; exact hx
theorem i_Beams_atE {h h' : ah_T} {t n x : Nat} {y : Nat × Nat} (e : h' = i_Beams h t n) (hx : h.1[x]? = some y) : h'.1[x]? = some y := by subst e; exact i_Beams_at hx
theorem i_Beams_lenE {h h' : ah_T} {t n q : Nat} (e : h' = i_Beams h t n) (hq : h.1.length = q) : h'.1.length = q + 3 := by subst e; exact i_Beams_len hq
set_option maxRecDepth 100000 in
set_option maxHeartbeats 8000000 in
theorem c_Beams_init {G : cx_T} (h : ah_T) (t n : Nat) (hn : h.1.length = n) (hs : h.1[t]? = some (0 + 4, 4)) (d : Nat) (hd : d = 1 := by rfl) : con G d 3 44 m_Beams_init [av_R (some t)] h (fun r h' => r = none ∧ h' = i_Beams h t n) := by
  subst hd
  have htn : t < n := by rw [← hn]; exact (List.getElem?_eq_some_iff.mp hs).1
  refine con_of (L := [some (av_R (some t))]) (by decide +kernel) (Nat.le_of_ble_eq_true rfl) rfl ?_
  refine A_aload_n 0 d_Beams_init_0 rfl rfl ?_
  refine A_objInit d_Beams_init_1 oi_Beams.1 oi_Beams.2.1 oi_Beams.2.2 (by decide) rfl ?_
  refine A_aload_n 0 d_Beams_init_4 rfl rfl ?_
  refine A_bipush d_Beams_init_5 rfl ?_
  refine A_newIv (q := n) (N := 14) d_Beams_init_7 ac_int rfl (by decide) (by decide) (by decide) hn (fun h1 eh1 nh1 gh1 => ?_)
  have oh1 := hn
  replace hn := nh1
  replace hs := gh1 _ _ hs
  refine A_pc (pc' := 9) rfl ?_
  refine A_putRv T_ok d_Beams_init_9 f_Beams_11 ty_a hs (Or.inr ⟨rfl, fun q hq => by cases hq; rfl⟩) (fun h2 eh2 => ?_)
  replace hn := sn_r eh2 hn
  replace hs := sp_r eh2 hs
  refine A_aload_n 0 d_Beams_init_12 rfl rfl ?_
  refine A_bipush d_Beams_init_13 rfl ?_
  refine A_newIv (q := (n + 1)) (N := 15) d_Beams_init_15 ac_int rfl (by decide) (by decide) (by decide) hn (fun h3 eh3 nh3 gh3 => ?_)
  have oh3 := hn
  replace hn := nh3
  replace hs := gh3 _ _ hs
  refine A_putRv T_ok d_Beams_init_17 f_Beams_15 ty_a hs (Or.inr ⟨rfl, fun q hq => by cases hq; rfl⟩) (fun h4 eh4 => ?_)
  replace hn := sn_r eh4 hn
  replace hs := sp_r eh4 hs
  refine A_aload_n 0 d_Beams_init_20 rfl rfl ?_
  refine A_pc (pc' := 21) rfl ?_
  refine A_bipush d_Beams_init_21 rfl ?_
  refine A_newIv (q := (n + 2)) (N := 15) d_Beams_init_23 ac_int rfl (by decide) (by decide) (by decide) hn (fun h5 eh5 nh5 gh5 => ?_)
  have oh5 := hn
  replace hn := nh5
  replace hs := gh5 _ _ hs
  refine A_putRv T_ok d_Beams_init_25 f_Beams_18 ty_a hs (Or.inr ⟨rfl, fun q hq => by cases hq; rfl⟩) (fun h6 eh6 => ?_)
  replace hn := sn_r eh6 hn
  replace hs := sp_r eh6 hs
  exact A_vret d_Beams_init_28 (by decide) rfl ⟨rfl, by rw [eh6, eh5, eh4, eh3, eh2, eh1] <;> rfl⟩
def i_Page (h : ah_T) (t n : Nat) : ah_T := (st_r (st_n (st_r (st_n (st_r (st_n (st_r (st_n (st_r (st_n (st_r (st_n (st_r (st_n h 0 14) t 0 (some n)) 0 14) t 2 (some (n + 1))) 1 15) t 3 (some (n + 2))) 0 15) t 4 (some (n + 3))) 0 4) t 5 (some (n + 4))) 1 4) t 6 (some (n + 5))) 1 4) t 7 (some (n + 6)))
set_option maxRecDepth 100000 in
theorem i_Page_sh (h : ah_T) (t n : Nat) : (i_Page h t n).1 = h.1 ++ [(0, 14), (0, 14), (1, 15), (0, 15), (0, 4), (1, 4), (1, 4)] := by
  simp only [i_Page, n1_s, i1_s, l1_s, r1_s, List.append_assoc, List.cons_append, List.nil_append]
theorem i_Page_len {h : ah_T} {t n q : Nat} (hq : h.1.length = q) : (i_Page h t n).1.length = q + 7 := by rw [i_Page_sh, List.length_append, hq]; rfl
theorem i_Page_at {h : ah_T} {t n x : Nat} {y : Nat × Nat} (hx : h.1[x]? = some y) : (i_Page h t n).1[x]? = some y := by rw [i_Page_sh, List.getElem?_append_left (List.getElem?_eq_some_iff.mp hx).1]; exact hx
theorem i_Page_atE {h h' : ah_T} {t n x : Nat} {y : Nat × Nat} (e : h' = i_Page h t n) (hx : h.1[x]? = some y) : h'.1[x]? = some y := by subst e; exact i_Page_at hx
theorem i_Page_lenE {h h' : ah_T} {t n q : Nat} (e : h' = i_Page h t n) (hq : h.1.length = q) : h'.1.length = q + 7 := by subst e; exact i_Page_len hq
set_option maxRecDepth 100000 in
set_option maxHeartbeats 8000000 in
theorem c_Page_init {G : cx_T} (h : ah_T) (t n : Nat) (hn : h.1.length = n) (hs : h.1[t]? = some (2 + 4, 8)) (d : Nat) (hd : d = 1 := by rfl) : con G d 7 70 m_Page_init [av_R (some t)] h (fun r h' => r = none ∧ h' = i_Page h t n) := by
  subst hd
  have htn : t < n := by rw [← hn]; exact (List.getElem?_eq_some_iff.mp hs).1
  refine con_of (L := [some (av_R (some t))]) (by decide +kernel) (Nat.le_of_ble_eq_true rfl) rfl ?_
  refine A_aload_n 0 d_Page_init_0 rfl rfl ?_
  refine A_objInit d_Page_init_1 oi_Page.1 oi_Page.2.1 oi_Page.2.2 (by decide) rfl ?_
  refine A_aload_n 0 d_Page_init_4 rfl rfl ?_
  refine A_bipush d_Page_init_5 rfl ?_
  refine A_newIv (q := n) (N := 14) d_Page_init_7 ac_int rfl (by decide) (by decide) (by decide) hn (fun h1 eh1 nh1 gh1 => ?_)
  have oh1 := hn
  replace hn := nh1
  replace hs := gh1 _ _ hs
  refine A_pc (pc' := 9) rfl ?_
  refine A_putRv T_ok d_Page_init_9 f_Page_11 ty_a hs (Or.inr ⟨rfl, fun q hq => by cases hq; rfl⟩) (fun h2 eh2 => ?_)
  replace hn := sn_r eh2 hn
  replace hs := sp_r eh2 hs
  refine A_aload_n 0 d_Page_init_12 rfl rfl ?_
  refine A_bipush d_Page_init_13 rfl ?_
  refine A_newIv (q := (n + 1)) (N := 14) d_Page_init_15 ac_int rfl (by decide) (by decide) (by decide) hn (fun h3 eh3 nh3 gh3 => ?_)
  have oh3 := hn
  replace hn := nh3
  replace hs := gh3 _ _ hs
  refine A_putRv T_ok d_Page_init_17 f_Page_15 ty_a hs (Or.inr ⟨rfl, fun q hq => by cases hq; rfl⟩) (fun h4 eh4 => ?_)
  replace hn := sn_r eh4 hn
  replace hs := sp_r eh4 hs
  refine A_aload_n 0 d_Page_init_20 rfl rfl ?_
  refine A_pc (pc' := 21) rfl ?_
  refine A_bipush d_Page_init_21 rfl ?_
  refine A_newLv (q := (n + 2)) (N := 15) d_Page_init_23 ac_long rfl (by decide) (by decide) (by decide) hn (fun h5 eh5 nh5 gh5 => ?_)
  have oh5 := hn
  replace hn := nh5
  replace hs := gh5 _ _ hs
  refine A_putRv T_ok d_Page_init_25 f_Page_18 ty_a hs (Or.inr ⟨rfl, fun q hq => by cases hq; rfl⟩) (fun h6 eh6 => ?_)
  replace hn := sn_r eh6 hn
  replace hs := sp_r eh6 hs
  refine A_aload_n 0 d_Page_init_28 rfl rfl ?_
  refine A_bipush d_Page_init_29 rfl ?_
  refine A_newIv (q := (n + 3)) (N := 15) d_Page_init_31 ac_int rfl (by decide) (by decide) (by decide) hn (fun h7 eh7 nh7 gh7 => ?_)
  have oh7 := hn
  replace hn := nh7
  replace hs := gh7 _ _ hs
  refine A_pc (pc' := 33) rfl ?_
  refine A_putRv T_ok d_Page_init_33 f_Page_22 ty_a hs (Or.inr ⟨rfl, fun q hq => by cases hq; rfl⟩) (fun h8 eh8 => ?_)
  replace hn := sn_r eh8 hn
  replace hs := sp_r eh8 hs
  refine A_aload_n 0 d_Page_init_36 rfl rfl ?_
  refine A_iconst d_Page_init_37 rfl ?_
  refine A_newIv (q := (n + 4)) (N := 4) d_Page_init_38 ac_int rfl (by decide) (by decide) (by decide) hn (fun h9 eh9 nh9 gh9 => ?_)
  have oh9 := hn
  replace hn := nh9
  replace hs := gh9 _ _ hs
  refine A_putRv T_ok d_Page_init_40 f_Page_25 ty_a hs (Or.inr ⟨rfl, fun q hq => by cases hq; rfl⟩) (fun h10 eh10 => ?_)
  replace hn := sn_r eh10 hn
  replace hs := sp_r eh10 hs
  refine A_aload_n 0 d_Page_init_43 rfl rfl ?_
  refine A_pc (pc' := 44) rfl ?_
  refine A_iconst d_Page_init_44 rfl ?_
  refine A_newLv (q := (n + 5)) (N := 4) d_Page_init_45 ac_long rfl (by decide) (by decide) (by decide) hn (fun h11 eh11 nh11 gh11 => ?_)
  have oh11 := hn
  replace hn := nh11
  replace hs := gh11 _ _ hs
  refine A_putRv T_ok d_Page_init_47 f_Page_28 ty_a hs (Or.inr ⟨rfl, fun q hq => by cases hq; rfl⟩) (fun h12 eh12 => ?_)
  replace hn := sn_r eh12 hn
  replace hs := sp_r eh12 hs
  refine A_aload_n 0 d_Page_init_50 rfl rfl ?_
  refine A_iconst d_Page_init_51 rfl ?_
  refine A_newLv (q := (n + 6)) (N := 4) d_Page_init_52 ac_long rfl (by decide) (by decide) (by decide) hn (fun h13 eh13 nh13 gh13 => ?_)
  have oh13 := hn
  replace hn := nh13
  replace hs := gh13 _ _ hs
  refine A_pc (pc' := 54) rfl ?_
  refine A_putRv T_ok d_Page_init_54 f_Page_31 ty_a hs (Or.inr ⟨rfl, fun q hq => by cases hq; rfl⟩) (fun h14 eh14 => ?_)
  replace hn := sn_r eh14 hn
  replace hs := sp_r eh14 hs
  exact A_vret d_Page_init_57 (by decide) rfl ⟨rfl, by rw [eh14, eh13, eh12, eh11, eh10, eh9, eh8, eh7, eh6, eh5, eh4, eh3, eh2, eh1] <;> rfl⟩
def i_Seconds (h : ah_T) (t n : Nat) : ah_T := (st_r (st_n (st_r (st_n (st_r (st_n h 1 1563) t 0 (some n)) 0 8) t 6 (some (n + 1))) 0 8) t 7 (some (n + 2)))
set_option maxRecDepth 100000 in
theorem i_Seconds_sh (h : ah_T) (t n : Nat) : (i_Seconds h t n).1 = h.1 ++ [(1, 1563), (0, 8), (0, 8)] := by
  simp only [i_Seconds, n1_s, i1_s, l1_s, r1_s, List.append_assoc, List.cons_append, List.nil_append]
theorem i_Seconds_len {h : ah_T} {t n q : Nat} (hq : h.1.length = q) : (i_Seconds h t n).1.length = q + 3 := by rw [i_Seconds_sh, List.length_append, hq]; rfl
theorem i_Seconds_at {h : ah_T} {t n x : Nat} {y : Nat × Nat} (hx : h.1[x]? = some y) : (i_Seconds h t n).1[x]? = some y := by rw [i_Seconds_sh, List.getElem?_append_left (List.getElem?_eq_some_iff.mp hx).1]; exact hx
theorem i_Seconds_atE {h h' : ah_T} {t n x : Nat} {y : Nat × Nat} (e : h' = i_Seconds h t n) (hx : h.1[x]? = some y) : h'.1[x]? = some y := by subst e; exact i_Seconds_at hx
theorem i_Seconds_lenE {h h' : ah_T} {t n q : Nat} (e : h' = i_Seconds h t n) (hq : h.1.length = q) : h'.1.length = q + 3 := by subst e; exact i_Seconds_len hq
set_option maxRecDepth 100000 in
set_option maxHeartbeats 8000000 in
theorem c_Seconds_init {G : cx_T} (h : ah_T) (t n : Nat) (hn : h.1.length = n) (hs : h.1[t]? = some (7 + 4, 8)) (d : Nat) (hd : d = 1 := by rfl) : con G d 3 1579 m_Seconds_init [av_R (some t)] h (fun r h' => r = none ∧ h' = i_Seconds h t n) := by
  subst hd
  have htn : t < n := by rw [← hn]; exact (List.getElem?_eq_some_iff.mp hs).1
  refine con_of (L := [some (av_R (some t))]) (by decide +kernel) (Nat.le_of_ble_eq_true rfl) rfl ?_
  refine A_aload_n 0 d_Seconds_init_0 rfl rfl ?_
  refine A_objInit d_Seconds_init_1 oi_Seconds.1 oi_Seconds.2.1 oi_Seconds.2.2 (by decide) rfl ?_
  refine A_aload_n 0 d_Seconds_init_4 rfl rfl ?_
  refine A_sipush d_Seconds_init_5 rfl ?_
  refine A_newLv (q := n) (N := 1563) d_Seconds_init_8 ac_long rfl (by decide) (by decide) (by decide) hn (fun h1 eh1 nh1 gh1 => ?_)
  have oh1 := hn
  replace hn := nh1
  replace hs := gh1 _ _ hs
  refine A_pc (pc' := 10) rfl ?_
  refine A_putRv T_ok d_Seconds_init_10 f_Seconds_11 ty_a hs (Or.inr ⟨rfl, fun q hq => by cases hq; rfl⟩) (fun h2 eh2 => ?_)
  replace hn := sn_r eh2 hn
  replace hs := sp_r eh2 hs
  refine A_aload_n 0 d_Seconds_init_13 rfl rfl ?_
  refine A_bipush d_Seconds_init_14 rfl ?_
  refine A_newIv (q := (n + 1)) (N := 8) d_Seconds_init_16 ac_int rfl (by decide) (by decide) (by decide) hn (fun h3 eh3 nh3 gh3 => ?_)
  have oh3 := hn
  replace hn := nh3
  replace hs := gh3 _ _ hs
  refine A_putRv T_ok d_Seconds_init_18 f_Seconds_15 ty_a hs (Or.inr ⟨rfl, fun q hq => by cases hq; rfl⟩) (fun h4 eh4 => ?_)
  replace hn := sn_r eh4 hn
  replace hs := sp_r eh4 hs
  refine A_aload_n 0 d_Seconds_init_21 rfl rfl ?_
  refine A_pc (pc' := 22) rfl ?_
  refine A_bipush d_Seconds_init_22 rfl ?_
  refine A_newIv (q := (n + 2)) (N := 8) d_Seconds_init_24 ac_int rfl (by decide) (by decide) (by decide) hn (fun h5 eh5 nh5 gh5 => ?_)
  have oh5 := hn
  replace hn := nh5
  replace hs := gh5 _ _ hs
  refine A_putRv T_ok d_Seconds_init_26 f_Seconds_19 ty_a hs (Or.inr ⟨rfl, fun q hq => by cases hq; rfl⟩) (fun h6 eh6 => ?_)
  replace hn := sn_r eh6 hn
  replace hs := sp_r eh6 hs
  exact A_vret d_Seconds_init_29 (by decide) rfl ⟨rfl, by rw [eh6, eh5, eh4, eh3, eh2, eh1] <;> rfl⟩
def i_Trees (h : ah_T) (t n : Nat) : ah_T := (st_r (st_n h 0 2704) t 0 (some n))
set_option maxRecDepth 100000 in
theorem i_Trees_sh (h : ah_T) (t n : Nat) : (i_Trees h t n).1 = h.1 ++ [(0, 2704)] := by
  simp only [i_Trees, n1_s, i1_s, l1_s, r1_s, List.append_assoc, List.cons_append, List.nil_append]
theorem i_Trees_len {h : ah_T} {t n q : Nat} (hq : h.1.length = q) : (i_Trees h t n).1.length = q + 1 := by rw [i_Trees_sh, List.length_append, hq]; rfl
theorem i_Trees_at {h : ah_T} {t n x : Nat} {y : Nat × Nat} (hx : h.1[x]? = some y) : (i_Trees h t n).1[x]? = some y := by rw [i_Trees_sh, List.getElem?_append_left (List.getElem?_eq_some_iff.mp hx).1]; exact hx
theorem i_Trees_atE {h h' : ah_T} {t n x : Nat} {y : Nat × Nat} (e : h' = i_Trees h t n) (hx : h.1[x]? = some y) : h'.1[x]? = some y := by subst e; exact i_Trees_at hx
theorem i_Trees_lenE {h h' : ah_T} {t n q : Nat} (e : h' = i_Trees h t n) (hq : h.1.length = q) : h'.1.length = q + 1 := by subst e; exact i_Trees_len hq
set_option maxRecDepth 100000 in
set_option maxHeartbeats 8000000 in
theorem c_Trees_init {G : cx_T} (h : ah_T) (t n : Nat) (hn : h.1.length = n) (hs : h.1[t]? = some (9 + 4, 6)) (d : Nat) (hd : d = 1 := by rfl) : con G d 1 2704 m_Trees_init [av_R (some t)] h (fun r h' => r = none ∧ h' = i_Trees h t n) := by
  subst hd
  have htn : t < n := by rw [← hn]; exact (List.getElem?_eq_some_iff.mp hs).1
  refine con_of (L := [some (av_R (some t))]) (by decide +kernel) (Nat.le_of_ble_eq_true rfl) rfl ?_
  refine A_aload_n 0 d_Trees_init_0 rfl rfl ?_
  refine A_objInit d_Trees_init_1 oi_Trees.1 oi_Trees.2.1 oi_Trees.2.2 (by decide) rfl ?_
  refine A_aload_n 0 d_Trees_init_4 rfl rfl ?_
  refine A_sipush d_Trees_init_5 rfl ?_
  refine A_newIv (q := n) (N := 2704) d_Trees_init_8 ac_int rfl (by decide) (by decide) (by decide) hn (fun h1 eh1 nh1 gh1 => ?_)
  have oh1 := hn
  replace hn := nh1
  replace hs := gh1 _ _ hs
  refine A_pc (pc' := 10) rfl ?_
  refine A_putRv T_ok d_Trees_init_10 f_Trees_11 ty_a hs (Or.inr ⟨rfl, fun q hq => by cases hq; rfl⟩) (fun h2 eh2 => ?_)
  replace hn := sn_r eh2 hn
  replace hs := sp_r eh2 hs
  exact A_vret d_Trees_init_13 (by decide) rfl ⟨rfl, by rw [eh2, eh1] <;> rfl⟩
def i_Pairing (h : ah_T) (t n : Nat) : ah_T := (st_r (st_n (st_r (st_n (st_r (st_n (st_r (st_n (st_r (st_n h 0 80) t 0 (some n)) 0 80) t 1 (some (n + 1))) 0 1681) t 2 (some (n + 2))) 0 1681) t 3 (some (n + 3))) 0 80) t 4 (some (n + 4)))
set_option maxRecDepth 100000 in
theorem i_Pairing_sh (h : ah_T) (t n : Nat) : (i_Pairing h t n).1 = h.1 ++ [(0, 80), (0, 80), (0, 1681), (0, 1681), (0, 80)] := by
  simp only [i_Pairing, n1_s, i1_s, l1_s, r1_s, List.append_assoc, List.cons_append, List.nil_append]
theorem i_Pairing_len {h : ah_T} {t n q : Nat} (hq : h.1.length = q) : (i_Pairing h t n).1.length = q + 5 := by rw [i_Pairing_sh, List.length_append, hq]; rfl
theorem i_Pairing_at {h : ah_T} {t n x : Nat} {y : Nat × Nat} (hx : h.1[x]? = some y) : (i_Pairing h t n).1[x]? = some y := by rw [i_Pairing_sh, List.getElem?_append_left (List.getElem?_eq_some_iff.mp hx).1]; exact hx
theorem i_Pairing_atE {h h' : ah_T} {t n x : Nat} {y : Nat × Nat} (e : h' = i_Pairing h t n) (hx : h.1[x]? = some y) : h'.1[x]? = some y := by subst e; exact i_Pairing_at hx
theorem i_Pairing_lenE {h h' : ah_T} {t n q : Nat} (e : h' = i_Pairing h t n) (hq : h.1.length = q) : h'.1.length = q + 5 := by subst e; exact i_Pairing_len hq
set_option maxRecDepth 100000 in
set_option maxHeartbeats 8000000 in
theorem c_Pairing_init {G : cx_T} (h : ah_T) (t n : Nat) (hn : h.1.length = n) (hs : h.1[t]? = some (3 + 4, 8)) (d : Nat) (hd : d = 1 := by rfl) : con G d 5 3602 m_Pairing_init [av_R (some t)] h (fun r h' => r = none ∧ h' = i_Pairing h t n) := by
  subst hd
  have htn : t < n := by rw [← hn]; exact (List.getElem?_eq_some_iff.mp hs).1
  refine con_of (L := [some (av_R (some t))]) (by decide +kernel) (Nat.le_of_ble_eq_true rfl) rfl ?_
  refine A_aload_n 0 d_Pairing_init_0 rfl rfl ?_
  refine A_objInit d_Pairing_init_1 oi_Pairing.1 oi_Pairing.2.1 oi_Pairing.2.2 (by decide) rfl ?_
  refine A_aload_n 0 d_Pairing_init_4 rfl rfl ?_
  refine A_bipush d_Pairing_init_5 rfl ?_
  refine A_newIv (q := n) (N := 80) d_Pairing_init_7 ac_int rfl (by decide) (by decide) (by decide) hn (fun h1 eh1 nh1 gh1 => ?_)
  have oh1 := hn
  replace hn := nh1
  replace hs := gh1 _ _ hs
  refine A_pc (pc' := 9) rfl ?_
  refine A_putRv T_ok d_Pairing_init_9 f_Pairing_11 ty_a hs (Or.inr ⟨rfl, fun q hq => by cases hq; rfl⟩) (fun h2 eh2 => ?_)
  replace hn := sn_r eh2 hn
  replace hs := sp_r eh2 hs
  refine A_aload_n 0 d_Pairing_init_12 rfl rfl ?_
  refine A_bipush d_Pairing_init_13 rfl ?_
  refine A_newIv (q := (n + 1)) (N := 80) d_Pairing_init_15 ac_int rfl (by decide) (by decide) (by decide) hn (fun h3 eh3 nh3 gh3 => ?_)
  have oh3 := hn
  replace hn := nh3
  replace hs := gh3 _ _ hs
  refine A_putRv T_ok d_Pairing_init_17 f_Pairing_15 ty_a hs (Or.inr ⟨rfl, fun q hq => by cases hq; rfl⟩) (fun h4 eh4 => ?_)
  replace hn := sn_r eh4 hn
  replace hs := sp_r eh4 hs
  refine A_aload_n 0 d_Pairing_init_20 rfl rfl ?_
  refine A_pc (pc' := 21) rfl ?_
  refine A_sipush d_Pairing_init_21 rfl ?_
  refine A_newIv (q := (n + 2)) (N := 1681) d_Pairing_init_24 ac_int rfl (by decide) (by decide) (by decide) hn (fun h5 eh5 nh5 gh5 => ?_)
  have oh5 := hn
  replace hn := nh5
  replace hs := gh5 _ _ hs
  refine A_putRv T_ok d_Pairing_init_26 f_Pairing_18 ty_a hs (Or.inr ⟨rfl, fun q hq => by cases hq; rfl⟩) (fun h6 eh6 => ?_)
  replace hn := sn_r eh6 hn
  replace hs := sp_r eh6 hs
  refine A_aload_n 0 d_Pairing_init_29 rfl rfl ?_
  refine A_sipush d_Pairing_init_30 rfl ?_
  refine A_newIv (q := (n + 3)) (N := 1681) d_Pairing_init_33 ac_int rfl (by decide) (by decide) (by decide) hn (fun h7 eh7 nh7 gh7 => ?_)
  have oh7 := hn
  replace hn := nh7
  replace hs := gh7 _ _ hs
  refine A_pc (pc' := 35) rfl ?_
  refine A_putRv T_ok d_Pairing_init_35 f_Pairing_21 ty_a hs (Or.inr ⟨rfl, fun q hq => by cases hq; rfl⟩) (fun h8 eh8 => ?_)
  replace hn := sn_r eh8 hn
  replace hs := sp_r eh8 hs
  refine A_aload_n 0 d_Pairing_init_38 rfl rfl ?_
  refine A_bipush d_Pairing_init_39 rfl ?_
  refine A_newIv (q := (n + 4)) (N := 80) d_Pairing_init_41 ac_int rfl (by decide) (by decide) (by decide) hn (fun h9 eh9 nh9 gh9 => ?_)
  have oh9 := hn
  replace hn := nh9
  replace hs := gh9 _ _ hs
  refine A_putRv T_ok d_Pairing_init_43 f_Pairing_24 ty_a hs (Or.inr ⟨rfl, fun q hq => by cases hq; rfl⟩) (fun h10 eh10 => ?_)
  replace hn := sn_r eh10 hn
  replace hs := sp_r eh10 hs
  exact A_vret d_Pairing_init_46 (by decide) rfl ⟨rfl, by rw [eh10, eh9, eh8, eh7, eh6, eh5, eh4, eh3, eh2, eh1] <;> rfl⟩

def i_PM (h : ah_T) (t n : Nat) : ah_T := (st_r (i_Pairing (st_n (st_r (i_Trees (st_n (st_r (i_Seconds (st_n (st_r (i_Page (st_n (st_r (i_Beams (st_n (st_r (i_Judge (st_n (st_i (st_r (i_Score (st_n (st_r (i_Reader (st_n (st_i (st_r (st_n h 0 2000) t 0 (some n)) t 1 0) 9 8) (n + 1) (n + 2)) t 2 (some (n + 1))) 10 13) (n + 79) (n + 80)) t 3 (some (n + 79))) t 4 (-2)) 5 3) (n + 142) (n + 143)) t 5 (some (n + 142))) 4 4) (n + 145) (n + 146)) t 6 (some (n + 145))) 6 8) (n + 149) (n + 150)) t 7 (some (n + 149))) 11 8) (n + 157) (n + 158)) t 8 (some (n + 157))) 13 6) (n + 161) (n + 162)) t 9 (some (n + 161))) 7 8) (n + 163) (n + 164)) t 10 (some (n + 163)))
set_option maxRecDepth 100000 in
theorem i_PM_sh (h : ah_T) (t n : Nat) : (i_PM h t n).1 = h.1 ++ [(0, 2000), (9, 8), (12, 13), (0, 2001), (0, 2001), (1, 2001), (0, 2001), (0, 0), (8, 12), (0, 2000), (0, 2000), (0, 2000), (0, 2000), (0, 7), (0, 7), (1, 16), (10, 13), (3, 4), (0, 8), (0, 24), (0, 24), (0, 24), (0, 12), (14, 17), (0, 300), (0, 300), (0, 301), (0, 300), (0, 300), (2, 300), (0, 300), (0, 300), (1, 301), (1, 301), (1, 300), (1, 300), (0, 102), (14, 17), (0, 300), (0, 300), (0, 301), (0, 300), (0, 300), (2, 300), (0, 300), (0, 300), (1, 301), (1, 301), (1, 300), (1, 300), (0, 102), (14, 17), (0, 300), (0, 300), (0, 301), (0, 300), (0, 300), (2, 300), (0, 300), (0, 300), (1, 301), (1, 301), (1, 300), (1, 300), (0, 102), (14, 17), (0, 300), (0, 300), (0, 301), (0, 300), (0, 300), (2, 300), (0, 300), (0, 300), (1, 301), (1, 301), (1, 300), (1, 300), (0, 102), (10, 13), (3, 4), (0, 8), (0, 24), (0, 24), (0, 24), (0, 12), (14, 17), (0, 300), (0, 300), (0, 301), (0, 300), (0, 300), (2, 300), (0, 300), (0, 300), (1, 301), (1, 301), (1, 300), (1, 300), (0, 102), (14, 17), (0, 300), (0, 300), (0, 301), (0, 300), (0, 300), (2, 300), (0, 300), (0, 300), (1, 301), (1, 301), (1, 300), (1, 300), (0, 102), (14, 17), (0, 300), (0, 300), (0, 301), (0, 300), (0, 300), (2, 300), (0, 300), (0, 300), (1, 301), (1, 301), (1, 300), (1, 300), (0, 102), (14, 17), (0, 300), (0, 300), (0, 301), (0, 300), (0, 300), (2, 300), (0, 300), (0, 300), (1, 301), (1, 301), (1, 300), (1, 300), (0, 102), (5, 3), (0, 6404), (0, 4), (4, 4), (0, 14), (0, 15), (0, 15), (6, 8), (0, 14), (0, 14), (1, 15), (0, 15), (0, 4), (1, 4), (1, 4), (11, 8), (1, 1563), (0, 8), (0, 8), (13, 6), (0, 2704), (7, 8), (0, 80), (0, 80), (0, 1681), (0, 1681), (0, 80)] := by
  simp only [i_PM, n1_s, i1_s, l1_s, r1_s, i_Beams_sh, i_Judge_sh, i_Page_sh, i_Pairing_sh, i_Reader_sh, i_Score_sh, i_Seconds_sh, i_Trees_sh, List.append_assoc, List.cons_append, List.nil_append]
theorem i_PM_len {h : ah_T} {t n q : Nat} (hq : h.1.length = q) : (i_PM h t n).1.length = q + 169 := by rw [i_PM_sh, List.length_append, hq]; rfl
theorem i_PM_at {h : ah_T} {t n x : Nat} {y : Nat × Nat} (hx : h.1[x]? = some y) : (i_PM h t n).1[x]? = some y := by rw [i_PM_sh, List.getElem?_append_left (List.getElem?_eq_some_iff.mp hx).1]; exact hx
theorem i_PM_atE {h h' : ah_T} {t n x : Nat} {y : Nat × Nat} (e : h' = i_PM h t n) (hx : h.1[x]? = some y) : h'.1[x]? = some y := by subst e; exact i_PM_at hx
theorem i_PM_lenE {h h' : ah_T} {t n q : Nat} (e : h' = i_PM h t n) (hq : h.1.length = q) : h'.1.length = q + 169 := by subst e; exact i_PM_len hq
set_option maxRecDepth 100000 in
set_option maxHeartbeats 8000000 in
theorem c_PM_init {G : cx_T} (h : ah_T) (t n : Nat) (hn : h.1.length = n) (hs : h.1[t]? = some (11 + 4, 11)) (d : Nat) (hd : d = 4 := by rfl) : con G d 169 62505 m_PM_init [av_R (some t)] h (fun r h' => r = none ∧ h' = i_PM h t n) := by
  subst hd
  have htn : t < n := by rw [← hn]; exact (List.getElem?_eq_some_iff.mp hs).1
  refine con_of (L := [some (av_R (some t))]) (by decide +kernel) (Nat.le_of_ble_eq_true rfl) rfl ?_
  refine A_aload_n 0 d_PM_init_0 rfl rfl ?_
  refine A_objInit d_PM_init_1 oi_PM.1 oi_PM.2.1 oi_PM.2.2 (by decide) rfl ?_
  refine A_aload_n 0 d_PM_init_4 rfl rfl ?_
  refine A_sipush d_PM_init_5 rfl ?_
  refine A_newIv (q := n) (N := 2000) d_PM_init_8 ac_int rfl (by decide) (by decide) (by decide) hn (fun h1 eh1 nh1 gh1 => ?_)
  have oh1 := hn
  replace hn := nh1
  replace hs := gh1 _ _ hs
  refine A_pc (pc' := 10) rfl ?_
  refine A_putRv T_ok d_PM_init_10 f_PM_9 ty_a hs (Or.inr ⟨rfl, fun q hq => by cases hq; rfl⟩) (fun h2 eh2 => ?_)
  replace hn := sn_r eh2 hn
  replace hs := sp_r eh2 hs
  refine A_aload_n 0 d_PM_init_13 rfl rfl ?_
  refine A_iconst d_PM_init_14 rfl ?_
  refine A_putIv T_ok d_PM_init_15 f_PM_13 hs fin_f (fun h3 eh3 => ?_)
  replace hn := sn_i eh3 hn
  replace hs := sp_i eh3 hs
  refine A_aload_n 0 d_PM_init_18 rfl rfl ?_
  refine A_newv (c := 5) (q := (n + 1)) (N := 8) T_ok T_k d_PM_init_19 rfl rfl cl_PM_17 (by decide) (by decide) hn (fun h4 eh4 nh4 gh4 => ?_)
  have oh4 := hn
  replace hn := nh4
  replace hs := gh4 _ _ hs
  refine A_pc (pc' := 22) rfl ?_
  refine A_dupR d_PM_init_22 ?_
  refine A_callI0 m_Reader_init d_PM_init_23 l_PM_19 k_Reader_init (by decide) (by decide) (Nat.le_of_ble_eq_true rfl) (c_Reader_init h4 (n + 1) (n + 2) hn (sx_n eh4 oh4) 3) (fun r h5 hq => ?_)
  obtain ⟨rfl, eh5⟩ := hq
  replace hn := i_Reader_lenE eh5 hn
  replace hs := i_Reader_atE eh5 hs
  refine A_putRv T_ok d_PM_init_26 f_PM_20 ty_o hs (Or.inr ⟨rfl, fun q hq => by cases hq; rfl⟩) (fun h6 eh6 => ?_)
  replace hn := sn_r eh6 hn
  replace hs := sp_r eh6 hs
  refine A_aload_n 0 d_PM_init_29 rfl rfl ?_
  refine A_newv (c := 6) (q := (n + 79)) (N := 13) T_ok T_k d_PM_init_30 rfl rfl cl_PM_24 (by decide) (by decide) hn (fun h7 eh7 nh7 gh7 => ?_)
  have oh7 := hn
  replace hn := nh7
  replace hs := gh7 _ _ hs
  refine A_dupR d_PM_init_33 ?_
  refine A_pc (pc' := 34) rfl ?_
  refine A_callI0 m_Score_init d_PM_init_34 l_PM_26 k_Score_init (by decide) (by decide) (Nat.le_of_ble_eq_true rfl) (c_Score_init h7 (n + 79) (n + 80) hn (sx_n eh7 oh7) 2) (fun r h8 hq => ?_)
  obtain ⟨rfl, eh8⟩ := hq
  replace hn := i_Score_lenE eh8 hn
  replace hs := i_Score_atE eh8 hs
  refine A_putRv T_ok d_PM_init_37 f_PM_27 ty_o hs fin_f (fun h9 eh9 => ?_)
  replace hn := sn_r eh9 hn
  replace hs := sp_r eh9 hs
  refine A_aload_n 0 d_PM_init_40 rfl rfl ?_
  refine A_bipush d_PM_init_41 rfl ?_
  refine A_putIv T_ok d_PM_init_43 f_PM_31 hs fin_f (fun h10 eh10 => ?_)
  replace hn := sn_i eh10 hn
  replace hs := sp_i eh10 hs
  refine A_aload_n 0 d_PM_init_46 rfl rfl ?_
  refine A_pc (pc' := 47) rfl ?_
  refine A_newv (c := 1) (q := (n + 142)) (N := 3) T_ok T_k d_PM_init_47 rfl rfl cl_PM_34 (by decide) (by decide) hn (fun h11 eh11 nh11 gh11 => ?_)
  have oh11 := hn
  replace hn := nh11
  replace hs := gh11 _ _ hs
  refine A_dupR d_PM_init_50 ?_
  refine A_callI0 m_Judge_init d_PM_init_51 l_PM_36 k_Judge_init (by decide) (by decide) (Nat.le_of_ble_eq_true rfl) (c_Judge_init h11 (n + 142) (n + 143) hn (sx_n eh11 oh11) 1) (fun r h12 hq => ?_)
  obtain ⟨rfl, eh12⟩ := hq
  replace hn := i_Judge_lenE eh12 hn
  replace hs := i_Judge_atE eh12 hs
  refine A_putRv T_ok d_PM_init_54 f_PM_37 ty_o hs (Or.inr ⟨rfl, fun q hq => by cases hq; rfl⟩) (fun h13 eh13 => ?_)
  replace hn := sn_r eh13 hn
  replace hs := sp_r eh13 hs
  refine A_aload_n 0 d_PM_init_57 rfl rfl ?_
  refine A_newv (c := 0) (q := (n + 145)) (N := 4) T_ok T_k d_PM_init_58 rfl rfl cl_PM_41 (by decide) (by decide) hn (fun h14 eh14 nh14 gh14 => ?_)
  have oh14 := hn
  replace hn := nh14
  replace hs := gh14 _ _ hs
  refine A_pc (pc' := 61) rfl ?_
  refine A_dupR d_PM_init_61 ?_
  refine A_callI0 m_Beams_init d_PM_init_62 l_PM_43 k_Beams_init (by decide) (by decide) (Nat.le_of_ble_eq_true rfl) (c_Beams_init h14 (n + 145) (n + 146) hn (sx_n eh14 oh14) 1) (fun r h15 hq => ?_)
  obtain ⟨rfl, eh15⟩ := hq
  replace hn := i_Beams_lenE eh15 hn
  replace hs := i_Beams_atE eh15 hs
  refine A_putRv T_ok d_PM_init_65 f_PM_44 ty_o hs (Or.inr ⟨rfl, fun q hq => by cases hq; rfl⟩) (fun h16 eh16 => ?_)
  replace hn := sn_r eh16 hn
  replace hs := sp_r eh16 hs
  refine A_aload_n 0 d_PM_init_68 rfl rfl ?_
  refine A_newv (c := 2) (q := (n + 149)) (N := 8) T_ok T_k d_PM_init_69 rfl rfl cl_PM_48 (by decide) (by decide) hn (fun h17 eh17 nh17 gh17 => ?_)
  have oh17 := hn
  replace hn := nh17
  replace hs := gh17 _ _ hs
  refine A_dupR d_PM_init_72 ?_
  refine A_pc (pc' := 73) rfl ?_
  refine A_callI0 m_Page_init d_PM_init_73 l_PM_50 k_Page_init (by decide) (by decide) (Nat.le_of_ble_eq_true rfl) (c_Page_init h17 (n + 149) (n + 150) hn (sx_n eh17 oh17) 1) (fun r h18 hq => ?_)
  obtain ⟨rfl, eh18⟩ := hq
  replace hn := i_Page_lenE eh18 hn
  replace hs := i_Page_atE eh18 hs
  refine A_putRv T_ok d_PM_init_76 f_PM_51 ty_o hs (Or.inr ⟨rfl, fun q hq => by cases hq; rfl⟩) (fun h19 eh19 => ?_)
  replace hn := sn_r eh19 hn
  replace hs := sp_r eh19 hs
  refine A_aload_n 0 d_PM_init_79 rfl rfl ?_
  refine A_newv (c := 7) (q := (n + 157)) (N := 8) T_ok T_k d_PM_init_80 rfl rfl cl_PM_55 (by decide) (by decide) hn (fun h20 eh20 nh20 gh20 => ?_)
  have oh20 := hn
  replace hn := nh20
  replace hs := gh20 _ _ hs
  refine A_dupR d_PM_init_83 ?_
  refine A_callI0 m_Seconds_init d_PM_init_84 l_PM_57 k_Seconds_init (by decide) (by decide) (Nat.le_of_ble_eq_true rfl) (c_Seconds_init h20 (n + 157) (n + 158) hn (sx_n eh20 oh20) 1) (fun r h21 hq => ?_)
  obtain ⟨rfl, eh21⟩ := hq
  replace hn := i_Seconds_lenE eh21 hn
  replace hs := i_Seconds_atE eh21 hs
  refine A_pc (pc' := 87) rfl ?_
  refine A_putRv T_ok d_PM_init_87 f_PM_58 ty_o hs (Or.inr ⟨rfl, fun q hq => by cases hq; rfl⟩) (fun h22 eh22 => ?_)
  replace hn := sn_r eh22 hn
  replace hs := sp_r eh22 hs
  refine A_aload_n 0 d_PM_init_90 rfl rfl ?_
  refine A_newv (c := 9) (q := (n + 161)) (N := 6) T_ok T_k d_PM_init_91 rfl rfl cl_PM_62 (by decide) (by decide) hn (fun h23 eh23 nh23 gh23 => ?_)
  have oh23 := hn
  replace hn := nh23
  replace hs := gh23 _ _ hs
  refine A_dupR d_PM_init_94 ?_
  refine A_callI0 m_Trees_init d_PM_init_95 l_PM_64 k_Trees_init (by decide) (by decide) (Nat.le_of_ble_eq_true rfl) (c_Trees_init h23 (n + 161) (n + 162) hn (sx_n eh23 oh23) 1) (fun r h24 hq => ?_)
  obtain ⟨rfl, eh24⟩ := hq
  replace hn := i_Trees_lenE eh24 hn
  replace hs := i_Trees_atE eh24 hs
  refine A_putRv T_ok d_PM_init_98 f_PM_65 ty_o hs (Or.inr ⟨rfl, fun q hq => by cases hq; rfl⟩) (fun h25 eh25 => ?_)
  replace hn := sn_r eh25 hn
  replace hs := sp_r eh25 hs
  refine A_pc (pc' := 101) rfl ?_
  refine A_aload_n 0 d_PM_init_101 rfl rfl ?_
  refine A_newv (c := 3) (q := (n + 163)) (N := 8) T_ok T_k d_PM_init_102 rfl rfl cl_PM_69 (by decide) (by decide) hn (fun h26 eh26 nh26 gh26 => ?_)
  have oh26 := hn
  replace hn := nh26
  replace hs := gh26 _ _ hs
  refine A_dupR d_PM_init_105 ?_
  refine A_callI0 m_Pairing_init d_PM_init_106 l_PM_71 k_Pairing_init (by decide) (by decide) (Nat.le_of_ble_eq_true rfl) (c_Pairing_init h26 (n + 163) (n + 164) hn (sx_n eh26 oh26) 1) (fun r h27 hq => ?_)
  obtain ⟨rfl, eh27⟩ := hq
  replace hn := i_Pairing_lenE eh27 hn
  replace hs := i_Pairing_atE eh27 hs
  refine A_putRv T_ok d_PM_init_109 f_PM_72 ty_o hs (Or.inr ⟨rfl, fun q hq => by cases hq; rfl⟩) (fun h28 eh28 => ?_)
  replace hn := sn_r eh28 hn
  replace hs := sp_r eh28 hs
  exact A_vret d_PM_init_112 (by decide) rfl ⟨rfl, by rw [eh28, eh27, eh26, eh25, eh24, eh23, eh22, eh21, eh20, eh19, eh18, eh17, eh16, eh15, eh14, eh13, eh12, eh11, eh10, eh9, eh8, eh7, eh6, eh5, eh4, eh3, eh2, eh1] <;> rfl⟩

def i_MD (h : ah_T) (t n : Nat) : ah_T := (st_r (st_n (st_r (st_n (st_r (st_n (st_r (st_n (st_r (st_n (st_r (st_n (st_r (st_n (st_r (st_n (st_r (st_n (st_r (st_n (st_r (st_n (st_r (st_n (st_r (st_n (st_r (st_n (st_r (st_n (st_r (st_n (st_r (st_n (st_r (st_n (st_r (st_n (st_r (st_n (st_r (st_n (st_r (st_n (st_r (st_n (st_r (st_n (st_r (st_n (st_r (st_n (st_r (st_n (st_r (st_n (st_r (st_n (st_r (st_n (st_r (st_n (st_r (st_n (st_r (st_n (st_r (st_n (st_r (st_n (st_r (st_n (st_r (st_n (st_r (st_n (st_r (st_n (st_r (st_n (st_r (st_n (st_r (st_n (st_r (st_n (st_r (st_n (st_r (st_n (st_r (st_n (st_r (st_n (st_r (st_n (st_r (st_n (st_r (st_n (st_r (st_n (st_r (st_n (st_r (st_n (st_r (st_n (st_r (st_n (st_r (st_n (st_r (st_n (st_r (st_n (st_r (st_n (st_r (st_n (st_r (st_n (st_r (st_n (st_r (st_n (st_r (st_n (st_r (st_n (st_r (st_n (st_r (st_n (st_r (st_n (st_r (st_n (st_i (st_r (st_n h 0 2000) t 0 (some n)) t 13 (-2)) 0 2) t 14 (some (n + 1))) 0 2) t 15 (some (n + 2))) 0 2) t 16 (some (n + 3))) 0 2) t 17 (some (n + 4))) 0 16) t 18 (some (n + 5))) 0 2) t 19 (some (n + 6))) 0 48) t 20 (some (n + 7))) 0 48) t 21 (some (n + 8))) 0 48) t 22 (some (n + 9))) 0 2) t 23 (some (n + 10))) 0 24) t 24 (some (n + 11))) 0 2) t 25 (some (n + 12))) 1 32) t 26 (some (n + 13))) 0 8) t 27 (some (n + 14))) 0 8) t 28 (some (n + 15))) 1 2400) t 29 (some (n + 16))) 1 2400) t 30 (some (n + 17))) 1 2400) t 31 (some (n + 18))) 1 2400) t 32 (some (n + 19))) 0 2400) t 33 (some (n + 20))) 0 9600) t 34 (some (n + 21))) 0 9600) t 35 (some (n + 22))) 0 2400) t 36 (some (n + 23))) 2 2400) t 37 (some (n + 24))) 0 2400) t 38 (some (n + 25))) 0 2400) t 39 (some (n + 26))) 0 2400) t 40 (some (n + 27))) 1 816) t 41 (some (n + 28))) 1 816) t 42 (some (n + 29))) 0 2100) t 44 (some (n + 30))) 0 2100) t 45 (some (n + 31))) 0 2100) t 46 (some (n + 32))) 0 2100) t 47 (some (n + 33))) 0 8400) t 48 (some (n + 34))) 0 8400) t 49 (some (n + 35))) 0 2100) t 50 (some (n + 36))) 2 2100) t 51 (some (n + 37))) 0 2100) t 52 (some (n + 38))) 0 2100) t 53 (some (n + 39))) 0 2100) t 54 (some (n + 40))) 0 2100) t 55 (some (n + 41))) 0 2100) t 56 (some (n + 42))) 0 2100) t 57 (some (n + 43))) 0 8) t 58 (some (n + 44))) 0 8) t 62 (some (n + 45))) 0 10) t 67 (some (n + 46))) 0 10) t 68 (some (n + 47))) 0 10) t 69 (some (n + 48))) 2 10) t 79 (some (n + 49))) 0 8000) t 81 (some (n + 50))) 0 8000) t 82 (some (n + 51))) 0 8000) t 83 (some (n + 52))) 0 8000) t 84 (some (n + 53))) 0 16) t 86 (some (n + 54))) 0 340) t 87 (some (n + 55))) 0 340) t 88 (some (n + 56))) 0 16) t 90 (some (n + 57))) 0 8) t 92 (some (n + 58))) 0 8) t 97 (some (n + 59))) 1 2704) t 99 (some (n + 60))) 0 32) t 100 (some (n + 61))) 0 32) t 101 (some (n + 62))) 0 32) t 102 (some (n + 63))) 1 32) t 103 (some (n + 64))) 0 80) t 106 (some (n + 65))) 0 80) t 107 (some (n + 66))) 0 80) t 108 (some (n + 67))) 0 6561) t 109 (some (n + 68))) 1 6561) t 110 (some (n + 69)))
set_option maxRecDepth 100000 in
theorem i_MD_sh (h : ah_T) (t n : Nat) : (i_MD h t n).1 = h.1 ++ [(0, 2000), (0, 2), (0, 2), (0, 2), (0, 2), (0, 16), (0, 2), (0, 48), (0, 48), (0, 48), (0, 2), (0, 24), (0, 2), (1, 32), (0, 8), (0, 8), (1, 2400), (1, 2400), (1, 2400), (1, 2400), (0, 2400), (0, 9600), (0, 9600), (0, 2400), (2, 2400), (0, 2400), (0, 2400), (0, 2400), (1, 816), (1, 816), (0, 2100), (0, 2100), (0, 2100), (0, 2100), (0, 8400), (0, 8400), (0, 2100), (2, 2100), (0, 2100), (0, 2100), (0, 2100), (0, 2100), (0, 2100), (0, 2100), (0, 8), (0, 8), (0, 10), (0, 10), (0, 10), (2, 10), (0, 8000), (0, 8000), (0, 8000), (0, 8000), (0, 16), (0, 340), (0, 340), (0, 16), (0, 8), (0, 8), (1, 2704), (0, 32), (0, 32), (0, 32), (1, 32), (0, 80), (0, 80), (0, 80), (0, 6561), (1, 6561)] := by
  simp only [i_MD, n1_s, i1_s, l1_s, r1_s, List.append_assoc, List.cons_append, List.nil_append]
theorem i_MD_len {h : ah_T} {t n q : Nat} (hq : h.1.length = q) : (i_MD h t n).1.length = q + 70 := by rw [i_MD_sh, List.length_append, hq]; rfl
theorem i_MD_at {h : ah_T} {t n x : Nat} {y : Nat × Nat} (hx : h.1[x]? = some y) : (i_MD h t n).1[x]? = some y := by rw [i_MD_sh, List.getElem?_append_left (List.getElem?_eq_some_iff.mp hx).1]; exact hx
theorem i_MD_atE {h h' : ah_T} {t n x : Nat} {y : Nat × Nat} (e : h' = i_MD h t n) (hx : h.1[x]? = some y) : h'.1[x]? = some y := by subst e; exact i_MD_at hx
theorem i_MD_lenE {h h' : ah_T} {t n q : Nat} (e : h' = i_MD h t n) (hq : h.1.length = q) : h'.1.length = q + 70 := by subst e; exact i_MD_len hq
set_option maxRecDepth 100000 in
set_option maxHeartbeats 8000000 in
theorem c_MD_init {G : cx_T} (h : ah_T) (t n : Nat) (hn : h.1.length = n) (hs : h.1[t]? = some (12 + 4, 111)) (d : Nat) (hd : d = 1 := by rfl) : con G d 70 138056 m_MD_init [av_R (some t)] h (fun r h' => r = none ∧ h' = i_MD h t n) := by
  subst hd
  have htn : t < n := by rw [← hn]; exact (List.getElem?_eq_some_iff.mp hs).1
  refine con_of (L := [some (av_R (some t))]) (by decide +kernel) (Nat.le_of_ble_eq_true rfl) rfl ?_
  refine A_aload_n 0 d_MD_init_0 rfl rfl ?_
  refine A_objInit d_MD_init_1 oi_MD.1 oi_MD.2.1 oi_MD.2.2 (by decide) rfl ?_
  refine A_aload_n 0 d_MD_init_4 rfl rfl ?_
  refine A_sipush d_MD_init_5 rfl ?_
  refine A_newIv (q := n) (N := 2000) d_MD_init_8 ac_int rfl (by decide) (by decide) (by decide) hn (fun h1 eh1 nh1 gh1 => ?_)
  have oh1 := hn
  replace hn := nh1
  replace hs := gh1 _ _ hs
  refine A_pc (pc' := 10) rfl ?_
  refine A_putRv T_ok d_MD_init_10 f_MD_7 ty_a hs (Or.inr ⟨rfl, fun q hq => by cases hq; rfl⟩) (fun h2 eh2 => ?_)
  replace hn := sn_r eh2 hn
  replace hs := sp_r eh2 hs
  refine A_aload_n 0 d_MD_init_13 rfl rfl ?_
  refine A_bipush d_MD_init_14 rfl ?_
  refine A_putIv T_ok d_MD_init_16 f_MD_13 hs fin_f (fun h3 eh3 => ?_)
  replace hn := sn_i eh3 hn
  replace hs := sp_i eh3 hs
  refine A_aload_n 0 d_MD_init_19 rfl rfl ?_
  refine A_iconst d_MD_init_20 rfl ?_
  refine A_pc (pc' := 21) rfl ?_
  refine A_newIv (q := (n + 1)) (N := 2) d_MD_init_21 ac_int rfl (by decide) (by decide) (by decide) hn (fun h4 eh4 nh4 gh4 => ?_)
  have oh4 := hn
  replace hn := nh4
  replace hs := gh4 _ _ hs
  refine A_putRv T_ok d_MD_init_23 f_MD_17 ty_a hs (Or.inr ⟨rfl, fun q hq => by cases hq; rfl⟩) (fun h5 eh5 => ?_)
  replace hn := sn_r eh5 hn
  replace hs := sp_r eh5 hs
  refine A_aload_n 0 d_MD_init_26 rfl rfl ?_
  refine A_iconst d_MD_init_27 rfl ?_
  refine A_newIv (q := (n + 2)) (N := 2) d_MD_init_28 ac_int rfl (by decide) (by decide) (by decide) hn (fun h6 eh6 nh6 gh6 => ?_)
  have oh6 := hn
  replace hn := nh6
  replace hs := gh6 _ _ hs
  refine A_putRv T_ok d_MD_init_30 f_MD_20 ty_a hs (Or.inr ⟨rfl, fun q hq => by cases hq; rfl⟩) (fun h7 eh7 => ?_)
  replace hn := sn_r eh7 hn
  replace hs := sp_r eh7 hs
  refine A_pc (pc' := 33) rfl ?_
  refine A_aload_n 0 d_MD_init_33 rfl rfl ?_
  refine A_iconst d_MD_init_34 rfl ?_
  refine A_newIv (q := (n + 3)) (N := 2) d_MD_init_35 ac_int rfl (by decide) (by decide) (by decide) hn (fun h8 eh8 nh8 gh8 => ?_)
  have oh8 := hn
  replace hn := nh8
  replace hs := gh8 _ _ hs
  refine A_putRv T_ok d_MD_init_37 f_MD_23 ty_a hs (Or.inr ⟨rfl, fun q hq => by cases hq; rfl⟩) (fun h9 eh9 => ?_)
  replace hn := sn_r eh9 hn
  replace hs := sp_r eh9 hs
  refine A_aload_n 0 d_MD_init_40 rfl rfl ?_
  refine A_iconst d_MD_init_41 rfl ?_
  refine A_pc (pc' := 42) rfl ?_
  refine A_newIv (q := (n + 4)) (N := 2) d_MD_init_42 ac_int rfl (by decide) (by decide) (by decide) hn (fun h10 eh10 nh10 gh10 => ?_)
  have oh10 := hn
  replace hn := nh10
  replace hs := gh10 _ _ hs
  refine A_putRv T_ok d_MD_init_44 f_MD_26 ty_a hs (Or.inr ⟨rfl, fun q hq => by cases hq; rfl⟩) (fun h11 eh11 => ?_)
  replace hn := sn_r eh11 hn
  replace hs := sp_r eh11 hs
  refine A_aload_n 0 d_MD_init_47 rfl rfl ?_
  refine A_bipush d_MD_init_48 rfl ?_
  refine A_newIv (q := (n + 5)) (N := 16) d_MD_init_50 ac_int rfl (by decide) (by decide) (by decide) hn (fun h12 eh12 nh12 gh12 => ?_)
  have oh12 := hn
  replace hn := nh12
  replace hs := gh12 _ _ hs
  refine A_putRv T_ok d_MD_init_52 f_MD_29 ty_a hs (Or.inr ⟨rfl, fun q hq => by cases hq; rfl⟩) (fun h13 eh13 => ?_)
  replace hn := sn_r eh13 hn
  replace hs := sp_r eh13 hs
  refine A_pc (pc' := 55) rfl ?_
  refine A_aload_n 0 d_MD_init_55 rfl rfl ?_
  refine A_iconst d_MD_init_56 rfl ?_
  refine A_newIv (q := (n + 6)) (N := 2) d_MD_init_57 ac_int rfl (by decide) (by decide) (by decide) hn (fun h14 eh14 nh14 gh14 => ?_)
  have oh14 := hn
  replace hn := nh14
  replace hs := gh14 _ _ hs
  refine A_putRv T_ok d_MD_init_59 f_MD_32 ty_a hs (Or.inr ⟨rfl, fun q hq => by cases hq; rfl⟩) (fun h15 eh15 => ?_)
  replace hn := sn_r eh15 hn
  replace hs := sp_r eh15 hs
  refine A_aload_n 0 d_MD_init_62 rfl rfl ?_
  refine A_bipush d_MD_init_63 rfl ?_
  refine A_pc (pc' := 65) rfl ?_
  refine A_newIv (q := (n + 7)) (N := 48) d_MD_init_65 ac_int rfl (by decide) (by decide) (by decide) hn (fun h16 eh16 nh16 gh16 => ?_)
  have oh16 := hn
  replace hn := nh16
  replace hs := gh16 _ _ hs
  refine A_putRv T_ok d_MD_init_67 f_MD_35 ty_a hs (Or.inr ⟨rfl, fun q hq => by cases hq; rfl⟩) (fun h17 eh17 => ?_)
  replace hn := sn_r eh17 hn
  replace hs := sp_r eh17 hs
  refine A_aload_n 0 d_MD_init_70 rfl rfl ?_
  refine A_bipush d_MD_init_71 rfl ?_
  refine A_newIv (q := (n + 8)) (N := 48) d_MD_init_73 ac_int rfl (by decide) (by decide) (by decide) hn (fun h18 eh18 nh18 gh18 => ?_)
  have oh18 := hn
  replace hn := nh18
  replace hs := gh18 _ _ hs
  refine A_putRv T_ok d_MD_init_75 f_MD_38 ty_a hs (Or.inr ⟨rfl, fun q hq => by cases hq; rfl⟩) (fun h19 eh19 => ?_)
  replace hn := sn_r eh19 hn
  replace hs := sp_r eh19 hs
  refine A_pc (pc' := 78) rfl ?_
  refine A_aload_n 0 d_MD_init_78 rfl rfl ?_
  refine A_bipush d_MD_init_79 rfl ?_
  refine A_newIv (q := (n + 9)) (N := 48) d_MD_init_81 ac_int rfl (by decide) (by decide) (by decide) hn (fun h20 eh20 nh20 gh20 => ?_)
  have oh20 := hn
  replace hn := nh20
  replace hs := gh20 _ _ hs
  refine A_putRv T_ok d_MD_init_83 f_MD_41 ty_a hs (Or.inr ⟨rfl, fun q hq => by cases hq; rfl⟩) (fun h21 eh21 => ?_)
  replace hn := sn_r eh21 hn
  replace hs := sp_r eh21 hs
  refine A_aload_n 0 d_MD_init_86 rfl rfl ?_
  refine A_iconst d_MD_init_87 rfl ?_
  refine A_pc (pc' := 88) rfl ?_
  refine A_newIv (q := (n + 10)) (N := 2) d_MD_init_88 ac_int rfl (by decide) (by decide) (by decide) hn (fun h22 eh22 nh22 gh22 => ?_)
  have oh22 := hn
  replace hn := nh22
  replace hs := gh22 _ _ hs
  refine A_putRv T_ok d_MD_init_90 f_MD_44 ty_a hs (Or.inr ⟨rfl, fun q hq => by cases hq; rfl⟩) (fun h23 eh23 => ?_)
  replace hn := sn_r eh23 hn
  replace hs := sp_r eh23 hs
  refine A_aload_n 0 d_MD_init_93 rfl rfl ?_
  refine A_bipush d_MD_init_94 rfl ?_
  refine A_newIv (q := (n + 11)) (N := 24) d_MD_init_96 ac_int rfl (by decide) (by decide) (by decide) hn (fun h24 eh24 nh24 gh24 => ?_)
  have oh24 := hn
  replace hn := nh24
  replace hs := gh24 _ _ hs
  refine A_putRv T_ok d_MD_init_98 f_MD_47 ty_a hs (Or.inr ⟨rfl, fun q hq => by cases hq; rfl⟩) (fun h25 eh25 => ?_)
  replace hn := sn_r eh25 hn
  replace hs := sp_r eh25 hs
  refine A_pc (pc' := 101) rfl ?_
  refine A_aload_n 0 d_MD_init_101 rfl rfl ?_
  refine A_iconst d_MD_init_102 rfl ?_
  refine A_newIv (q := (n + 12)) (N := 2) d_MD_init_103 ac_int rfl (by decide) (by decide) (by decide) hn (fun h26 eh26 nh26 gh26 => ?_)
  have oh26 := hn
  replace hn := nh26
  replace hs := gh26 _ _ hs
  refine A_putRv T_ok d_MD_init_105 f_MD_50 ty_a hs (Or.inr ⟨rfl, fun q hq => by cases hq; rfl⟩) (fun h27 eh27 => ?_)
  replace hn := sn_r eh27 hn
  replace hs := sp_r eh27 hs
  refine A_aload_n 0 d_MD_init_108 rfl rfl ?_
  refine A_bipush d_MD_init_109 rfl ?_
  refine A_pc (pc' := 111) rfl ?_
  refine A_newLv (q := (n + 13)) (N := 32) d_MD_init_111 ac_long rfl (by decide) (by decide) (by decide) hn (fun h28 eh28 nh28 gh28 => ?_)
  have oh28 := hn
  replace hn := nh28
  replace hs := gh28 _ _ hs
  refine A_putRv T_ok d_MD_init_113 f_MD_53 ty_a hs (Or.inr ⟨rfl, fun q hq => by cases hq; rfl⟩) (fun h29 eh29 => ?_)
  replace hn := sn_r eh29 hn
  replace hs := sp_r eh29 hs
  refine A_aload_n 0 d_MD_init_116 rfl rfl ?_
  refine A_bipush d_MD_init_117 rfl ?_
  refine A_newIv (q := (n + 14)) (N := 8) d_MD_init_119 ac_int rfl (by decide) (by decide) (by decide) hn (fun h30 eh30 nh30 gh30 => ?_)
  have oh30 := hn
  replace hn := nh30
  replace hs := gh30 _ _ hs
  refine A_putRv T_ok d_MD_init_121 f_MD_57 ty_a hs (Or.inr ⟨rfl, fun q hq => by cases hq; rfl⟩) (fun h31 eh31 => ?_)
  replace hn := sn_r eh31 hn
  replace hs := sp_r eh31 hs
  refine A_pc (pc' := 124) rfl ?_
  refine A_aload_n 0 d_MD_init_124 rfl rfl ?_
  refine A_bipush d_MD_init_125 rfl ?_
  refine A_newIv (q := (n + 15)) (N := 8) d_MD_init_127 ac_int rfl (by decide) (by decide) (by decide) hn (fun h32 eh32 nh32 gh32 => ?_)
  have oh32 := hn
  replace hn := nh32
  replace hs := gh32 _ _ hs
  refine A_putRv T_ok d_MD_init_129 f_MD_60 ty_a hs (Or.inr ⟨rfl, fun q hq => by cases hq; rfl⟩) (fun h33 eh33 => ?_)
  replace hn := sn_r eh33 hn
  replace hs := sp_r eh33 hs
  refine A_aload_n 0 d_MD_init_132 rfl rfl ?_
  refine A_sipush d_MD_init_133 rfl ?_
  refine A_pc (pc' := 136) rfl ?_
  refine A_newLv (q := (n + 16)) (N := 2400) d_MD_init_136 ac_long rfl (by decide) (by decide) (by decide) hn (fun h34 eh34 nh34 gh34 => ?_)
  have oh34 := hn
  replace hn := nh34
  replace hs := gh34 _ _ hs
  refine A_putRv T_ok d_MD_init_138 f_MD_63 ty_a hs (Or.inr ⟨rfl, fun q hq => by cases hq; rfl⟩) (fun h35 eh35 => ?_)
  replace hn := sn_r eh35 hn
  replace hs := sp_r eh35 hs
  refine A_aload_n 0 d_MD_init_141 rfl rfl ?_
  refine A_sipush d_MD_init_142 rfl ?_
  refine A_newLv (q := (n + 17)) (N := 2400) d_MD_init_145 ac_long rfl (by decide) (by decide) (by decide) hn (fun h36 eh36 nh36 gh36 => ?_)
  have oh36 := hn
  replace hn := nh36
  replace hs := gh36 _ _ hs
  refine A_putRv T_ok d_MD_init_147 f_MD_66 ty_a hs (Or.inr ⟨rfl, fun q hq => by cases hq; rfl⟩) (fun h37 eh37 => ?_)
  replace hn := sn_r eh37 hn
  replace hs := sp_r eh37 hs
  refine A_pc (pc' := 150) rfl ?_
  refine A_aload_n 0 d_MD_init_150 rfl rfl ?_
  refine A_sipush d_MD_init_151 rfl ?_
  refine A_newLv (q := (n + 18)) (N := 2400) d_MD_init_154 ac_long rfl (by decide) (by decide) (by decide) hn (fun h38 eh38 nh38 gh38 => ?_)
  have oh38 := hn
  replace hn := nh38
  replace hs := gh38 _ _ hs
  refine A_putRv T_ok d_MD_init_156 f_MD_69 ty_a hs (Or.inr ⟨rfl, fun q hq => by cases hq; rfl⟩) (fun h39 eh39 => ?_)
  replace hn := sn_r eh39 hn
  replace hs := sp_r eh39 hs
  refine A_aload_n 0 d_MD_init_159 rfl rfl ?_
  refine A_sipush d_MD_init_160 rfl ?_
  refine A_pc (pc' := 163) rfl ?_
  refine A_newLv (q := (n + 19)) (N := 2400) d_MD_init_163 ac_long rfl (by decide) (by decide) (by decide) hn (fun h40 eh40 nh40 gh40 => ?_)
  have oh40 := hn
  replace hn := nh40
  replace hs := gh40 _ _ hs
  refine A_putRv T_ok d_MD_init_165 f_MD_72 ty_a hs (Or.inr ⟨rfl, fun q hq => by cases hq; rfl⟩) (fun h41 eh41 => ?_)
  replace hn := sn_r eh41 hn
  replace hs := sp_r eh41 hs
  refine A_aload_n 0 d_MD_init_168 rfl rfl ?_
  refine A_sipush d_MD_init_169 rfl ?_
  refine A_newIv (q := (n + 20)) (N := 2400) d_MD_init_172 ac_int rfl (by decide) (by decide) (by decide) hn (fun h42 eh42 nh42 gh42 => ?_)
  have oh42 := hn
  replace hn := nh42
  replace hs := gh42 _ _ hs
  refine A_putRv T_ok d_MD_init_174 f_MD_75 ty_a hs (Or.inr ⟨rfl, fun q hq => by cases hq; rfl⟩) (fun h43 eh43 => ?_)
  replace hn := sn_r eh43 hn
  replace hs := sp_r eh43 hs
  refine A_pc (pc' := 177) rfl ?_
  refine A_aload_n 0 d_MD_init_177 rfl rfl ?_
  refine A_sipush d_MD_init_178 rfl ?_
  refine A_newIv (q := (n + 21)) (N := 9600) d_MD_init_181 ac_int rfl (by decide) (by decide) (by decide) hn (fun h44 eh44 nh44 gh44 => ?_)
  have oh44 := hn
  replace hn := nh44
  replace hs := gh44 _ _ hs
  refine A_putRv T_ok d_MD_init_183 f_MD_78 ty_a hs (Or.inr ⟨rfl, fun q hq => by cases hq; rfl⟩) (fun h45 eh45 => ?_)
  replace hn := sn_r eh45 hn
  replace hs := sp_r eh45 hs
  refine A_aload_n 0 d_MD_init_186 rfl rfl ?_
  refine A_sipush d_MD_init_187 rfl ?_
  refine A_pc (pc' := 190) rfl ?_
  refine A_newIv (q := (n + 22)) (N := 9600) d_MD_init_190 ac_int rfl (by decide) (by decide) (by decide) hn (fun h46 eh46 nh46 gh46 => ?_)
  have oh46 := hn
  replace hn := nh46
  replace hs := gh46 _ _ hs
  refine A_putRv T_ok d_MD_init_192 f_MD_81 ty_a hs (Or.inr ⟨rfl, fun q hq => by cases hq; rfl⟩) (fun h47 eh47 => ?_)
  replace hn := sn_r eh47 hn
  replace hs := sp_r eh47 hs
  refine A_aload_n 0 d_MD_init_195 rfl rfl ?_
  refine A_sipush d_MD_init_196 rfl ?_
  refine A_newIv (q := (n + 23)) (N := 2400) d_MD_init_199 ac_int rfl (by decide) (by decide) (by decide) hn (fun h48 eh48 nh48 gh48 => ?_)
  have oh48 := hn
  replace hn := nh48
  replace hs := gh48 _ _ hs
  refine A_putRv T_ok d_MD_init_201 f_MD_84 ty_a hs (Or.inr ⟨rfl, fun q hq => by cases hq; rfl⟩) (fun h49 eh49 => ?_)
  replace hn := sn_r eh49 hn
  replace hs := sp_r eh49 hs
  refine A_pc (pc' := 204) rfl ?_
  refine A_aload_n 0 d_MD_init_204 rfl rfl ?_
  refine A_sipush d_MD_init_205 rfl ?_
  refine A_newZv (q := (n + 24)) (N := 2400) d_MD_init_208 ac_boolean rfl (by decide) (by decide) (by decide) hn (fun h50 eh50 nh50 gh50 => ?_)
  have oh50 := hn
  replace hn := nh50
  replace hs := gh50 _ _ hs
  refine A_putRv T_ok d_MD_init_210 f_MD_87 ty_a hs (Or.inr ⟨rfl, fun q hq => by cases hq; rfl⟩) (fun h51 eh51 => ?_)
  replace hn := sn_r eh51 hn
  replace hs := sp_r eh51 hs
  refine A_aload_n 0 d_MD_init_213 rfl rfl ?_
  refine A_sipush d_MD_init_214 rfl ?_
  refine A_pc (pc' := 217) rfl ?_
  refine A_newIv (q := (n + 25)) (N := 2400) d_MD_init_217 ac_int rfl (by decide) (by decide) (by decide) hn (fun h52 eh52 nh52 gh52 => ?_)
  have oh52 := hn
  replace hn := nh52
  replace hs := gh52 _ _ hs
  refine A_putRv T_ok d_MD_init_219 f_MD_91 ty_a hs (Or.inr ⟨rfl, fun q hq => by cases hq; rfl⟩) (fun h53 eh53 => ?_)
  replace hn := sn_r eh53 hn
  replace hs := sp_r eh53 hs
  refine A_aload_n 0 d_MD_init_222 rfl rfl ?_
  refine A_sipush d_MD_init_223 rfl ?_
  refine A_newIv (q := (n + 26)) (N := 2400) d_MD_init_226 ac_int rfl (by decide) (by decide) (by decide) hn (fun h54 eh54 nh54 gh54 => ?_)
  have oh54 := hn
  replace hn := nh54
  replace hs := gh54 _ _ hs
  refine A_putRv T_ok d_MD_init_228 f_MD_94 ty_a hs (Or.inr ⟨rfl, fun q hq => by cases hq; rfl⟩) (fun h55 eh55 => ?_)
  replace hn := sn_r eh55 hn
  replace hs := sp_r eh55 hs
  refine A_pc (pc' := 231) rfl ?_
  refine A_aload_n 0 d_MD_init_231 rfl rfl ?_
  refine A_sipush d_MD_init_232 rfl ?_
  refine A_newIv (q := (n + 27)) (N := 2400) d_MD_init_235 ac_int rfl (by decide) (by decide) (by decide) hn (fun h56 eh56 nh56 gh56 => ?_)
  have oh56 := hn
  replace hn := nh56
  replace hs := gh56 _ _ hs
  refine A_putRv T_ok d_MD_init_237 f_MD_97 ty_a hs (Or.inr ⟨rfl, fun q hq => by cases hq; rfl⟩) (fun h57 eh57 => ?_)
  replace hn := sn_r eh57 hn
  replace hs := sp_r eh57 hs
  refine A_aload_n 0 d_MD_init_240 rfl rfl ?_
  refine A_sipush d_MD_init_241 rfl ?_
  refine A_pc (pc' := 244) rfl ?_
  refine A_newLv (q := (n + 28)) (N := 816) d_MD_init_244 ac_long rfl (by decide) (by decide) (by decide) hn (fun h58 eh58 nh58 gh58 => ?_)
  have oh58 := hn
  replace hn := nh58
  replace hs := gh58 _ _ hs
  refine A_putRv T_ok d_MD_init_246 f_MD_100 ty_a hs (Or.inr ⟨rfl, fun q hq => by cases hq; rfl⟩) (fun h59 eh59 => ?_)
  replace hn := sn_r eh59 hn
  replace hs := sp_r eh59 hs
  refine A_aload_n 0 d_MD_init_249 rfl rfl ?_
  refine A_sipush d_MD_init_250 rfl ?_
  refine A_newLv (q := (n + 29)) (N := 816) d_MD_init_253 ac_long rfl (by decide) (by decide) (by decide) hn (fun h60 eh60 nh60 gh60 => ?_)
  have oh60 := hn
  replace hn := nh60
  replace hs := gh60 _ _ hs
  refine A_putRv T_ok d_MD_init_255 f_MD_103 ty_a hs (Or.inr ⟨rfl, fun q hq => by cases hq; rfl⟩) (fun h61 eh61 => ?_)
  replace hn := sn_r eh61 hn
  replace hs := sp_r eh61 hs
  refine A_pc (pc' := 258) rfl ?_
  refine A_aload_n 0 d_MD_init_258 rfl rfl ?_
  refine A_sipush d_MD_init_259 rfl ?_
  refine A_newIv (q := (n + 30)) (N := 2100) d_MD_init_262 ac_int rfl (by decide) (by decide) (by decide) hn (fun h62 eh62 nh62 gh62 => ?_)
  have oh62 := hn
  replace hn := nh62
  replace hs := gh62 _ _ hs
  refine A_putRv T_ok d_MD_init_264 f_MD_106 ty_a hs (Or.inr ⟨rfl, fun q hq => by cases hq; rfl⟩) (fun h63 eh63 => ?_)
  replace hn := sn_r eh63 hn
  replace hs := sp_r eh63 hs
  refine A_aload_n 0 d_MD_init_267 rfl rfl ?_
  refine A_sipush d_MD_init_268 rfl ?_
  refine A_pc (pc' := 271) rfl ?_
  refine A_newIv (q := (n + 31)) (N := 2100) d_MD_init_271 ac_int rfl (by decide) (by decide) (by decide) hn (fun h64 eh64 nh64 gh64 => ?_)
  have oh64 := hn
  replace hn := nh64
  replace hs := gh64 _ _ hs
  refine A_putRv T_ok d_MD_init_273 f_MD_109 ty_a hs (Or.inr ⟨rfl, fun q hq => by cases hq; rfl⟩) (fun h65 eh65 => ?_)
  replace hn := sn_r eh65 hn
  replace hs := sp_r eh65 hs
  refine A_aload_n 0 d_MD_init_276 rfl rfl ?_
  refine A_sipush d_MD_init_277 rfl ?_
  refine A_newIv (q := (n + 32)) (N := 2100) d_MD_init_280 ac_int rfl (by decide) (by decide) (by decide) hn (fun h66 eh66 nh66 gh66 => ?_)
  have oh66 := hn
  replace hn := nh66
  replace hs := gh66 _ _ hs
  refine A_putRv T_ok d_MD_init_282 f_MD_112 ty_a hs (Or.inr ⟨rfl, fun q hq => by cases hq; rfl⟩) (fun h67 eh67 => ?_)
  replace hn := sn_r eh67 hn
  replace hs := sp_r eh67 hs
  refine A_pc (pc' := 285) rfl ?_
  refine A_aload_n 0 d_MD_init_285 rfl rfl ?_
  refine A_sipush d_MD_init_286 rfl ?_
  refine A_newIv (q := (n + 33)) (N := 2100) d_MD_init_289 ac_int rfl (by decide) (by decide) (by decide) hn (fun h68 eh68 nh68 gh68 => ?_)
  have oh68 := hn
  replace hn := nh68
  replace hs := gh68 _ _ hs
  refine A_putRv T_ok d_MD_init_291 f_MD_115 ty_a hs (Or.inr ⟨rfl, fun q hq => by cases hq; rfl⟩) (fun h69 eh69 => ?_)
  replace hn := sn_r eh69 hn
  replace hs := sp_r eh69 hs
  refine A_aload_n 0 d_MD_init_294 rfl rfl ?_
  refine A_sipush d_MD_init_295 rfl ?_
  refine A_pc (pc' := 298) rfl ?_
  refine A_newIv (q := (n + 34)) (N := 8400) d_MD_init_298 ac_int rfl (by decide) (by decide) (by decide) hn (fun h70 eh70 nh70 gh70 => ?_)
  have oh70 := hn
  replace hn := nh70
  replace hs := gh70 _ _ hs
  refine A_putRv T_ok d_MD_init_300 f_MD_118 ty_a hs (Or.inr ⟨rfl, fun q hq => by cases hq; rfl⟩) (fun h71 eh71 => ?_)
  replace hn := sn_r eh71 hn
  replace hs := sp_r eh71 hs
  refine A_aload_n 0 d_MD_init_303 rfl rfl ?_
  refine A_sipush d_MD_init_304 rfl ?_
  refine A_newIv (q := (n + 35)) (N := 8400) d_MD_init_307 ac_int rfl (by decide) (by decide) (by decide) hn (fun h72 eh72 nh72 gh72 => ?_)
  have oh72 := hn
  replace hn := nh72
  replace hs := gh72 _ _ hs
  refine A_putRv T_ok d_MD_init_309 f_MD_121 ty_a hs (Or.inr ⟨rfl, fun q hq => by cases hq; rfl⟩) (fun h73 eh73 => ?_)
  replace hn := sn_r eh73 hn
  replace hs := sp_r eh73 hs
  refine A_pc (pc' := 312) rfl ?_
  refine A_aload_n 0 d_MD_init_312 rfl rfl ?_
  refine A_sipush d_MD_init_313 rfl ?_
  refine A_newIv (q := (n + 36)) (N := 2100) d_MD_init_316 ac_int rfl (by decide) (by decide) (by decide) hn (fun h74 eh74 nh74 gh74 => ?_)
  have oh74 := hn
  replace hn := nh74
  replace hs := gh74 _ _ hs
  refine A_putRv T_ok d_MD_init_318 f_MD_124 ty_a hs (Or.inr ⟨rfl, fun q hq => by cases hq; rfl⟩) (fun h75 eh75 => ?_)
  replace hn := sn_r eh75 hn
  replace hs := sp_r eh75 hs
  refine A_aload_n 0 d_MD_init_321 rfl rfl ?_
  refine A_sipush d_MD_init_322 rfl ?_
  refine A_pc (pc' := 325) rfl ?_
  refine A_newZv (q := (n + 37)) (N := 2100) d_MD_init_325 ac_boolean rfl (by decide) (by decide) (by decide) hn (fun h76 eh76 nh76 gh76 => ?_)
  have oh76 := hn
  replace hn := nh76
  replace hs := gh76 _ _ hs
  refine A_putRv T_ok d_MD_init_327 f_MD_127 ty_a hs (Or.inr ⟨rfl, fun q hq => by cases hq; rfl⟩) (fun h77 eh77 => ?_)
  replace hn := sn_r eh77 hn
  replace hs := sp_r eh77 hs
  refine A_aload_n 0 d_MD_init_330 rfl rfl ?_
  refine A_sipush d_MD_init_331 rfl ?_
  refine A_newIv (q := (n + 38)) (N := 2100) d_MD_init_334 ac_int rfl (by decide) (by decide) (by decide) hn (fun h78 eh78 nh78 gh78 => ?_)
  have oh78 := hn
  replace hn := nh78
  replace hs := gh78 _ _ hs
  refine A_putRv T_ok d_MD_init_336 f_MD_130 ty_a hs (Or.inr ⟨rfl, fun q hq => by cases hq; rfl⟩) (fun h79 eh79 => ?_)
  replace hn := sn_r eh79 hn
  replace hs := sp_r eh79 hs
  refine A_pc (pc' := 339) rfl ?_
  refine A_aload_n 0 d_MD_init_339 rfl rfl ?_
  refine A_sipush d_MD_init_340 rfl ?_
  refine A_newIv (q := (n + 39)) (N := 2100) d_MD_init_343 ac_int rfl (by decide) (by decide) (by decide) hn (fun h80 eh80 nh80 gh80 => ?_)
  have oh80 := hn
  replace hn := nh80
  replace hs := gh80 _ _ hs
  refine A_putRv T_ok d_MD_init_345 f_MD_133 ty_a hs (Or.inr ⟨rfl, fun q hq => by cases hq; rfl⟩) (fun h81 eh81 => ?_)
  replace hn := sn_r eh81 hn
  replace hs := sp_r eh81 hs
  refine A_aload_n 0 d_MD_init_348 rfl rfl ?_
  refine A_sipush d_MD_init_349 rfl ?_
  refine A_pc (pc' := 352) rfl ?_
  refine A_newIv (q := (n + 40)) (N := 2100) d_MD_init_352 ac_int rfl (by decide) (by decide) (by decide) hn (fun h82 eh82 nh82 gh82 => ?_)
  have oh82 := hn
  replace hn := nh82
  replace hs := gh82 _ _ hs
  refine A_putRv T_ok d_MD_init_354 f_MD_136 ty_a hs (Or.inr ⟨rfl, fun q hq => by cases hq; rfl⟩) (fun h83 eh83 => ?_)
  replace hn := sn_r eh83 hn
  replace hs := sp_r eh83 hs
  refine A_aload_n 0 d_MD_init_357 rfl rfl ?_
  refine A_sipush d_MD_init_358 rfl ?_
  refine A_newIv (q := (n + 41)) (N := 2100) d_MD_init_361 ac_int rfl (by decide) (by decide) (by decide) hn (fun h84 eh84 nh84 gh84 => ?_)
  have oh84 := hn
  replace hn := nh84
  replace hs := gh84 _ _ hs
  refine A_putRv T_ok d_MD_init_363 f_MD_139 ty_a hs (Or.inr ⟨rfl, fun q hq => by cases hq; rfl⟩) (fun h85 eh85 => ?_)
  replace hn := sn_r eh85 hn
  replace hs := sp_r eh85 hs
  refine A_pc (pc' := 366) rfl ?_
  refine A_aload_n 0 d_MD_init_366 rfl rfl ?_
  refine A_sipush d_MD_init_367 rfl ?_
  refine A_newIv (q := (n + 42)) (N := 2100) d_MD_init_370 ac_int rfl (by decide) (by decide) (by decide) hn (fun h86 eh86 nh86 gh86 => ?_)
  have oh86 := hn
  replace hn := nh86
  replace hs := gh86 _ _ hs
  refine A_putRv T_ok d_MD_init_372 f_MD_142 ty_a hs (Or.inr ⟨rfl, fun q hq => by cases hq; rfl⟩) (fun h87 eh87 => ?_)
  replace hn := sn_r eh87 hn
  replace hs := sp_r eh87 hs
  refine A_aload_n 0 d_MD_init_375 rfl rfl ?_
  refine A_sipush d_MD_init_376 rfl ?_
  refine A_pc (pc' := 379) rfl ?_
  refine A_newIv (q := (n + 43)) (N := 2100) d_MD_init_379 ac_int rfl (by decide) (by decide) (by decide) hn (fun h88 eh88 nh88 gh88 => ?_)
  have oh88 := hn
  replace hn := nh88
  replace hs := gh88 _ _ hs
  refine A_putRv T_ok d_MD_init_381 f_MD_145 ty_a hs (Or.inr ⟨rfl, fun q hq => by cases hq; rfl⟩) (fun h89 eh89 => ?_)
  replace hn := sn_r eh89 hn
  replace hs := sp_r eh89 hs
  refine A_aload_n 0 d_MD_init_384 rfl rfl ?_
  refine A_bipush d_MD_init_385 rfl ?_
  refine A_newIv (q := (n + 44)) (N := 8) d_MD_init_387 ac_int rfl (by decide) (by decide) (by decide) hn (fun h90 eh90 nh90 gh90 => ?_)
  have oh90 := hn
  replace hn := nh90
  replace hs := gh90 _ _ hs
  refine A_putRv T_ok d_MD_init_389 f_MD_148 ty_a hs (Or.inr ⟨rfl, fun q hq => by cases hq; rfl⟩) (fun h91 eh91 => ?_)
  replace hn := sn_r eh91 hn
  replace hs := sp_r eh91 hs
  refine A_pc (pc' := 392) rfl ?_
  refine A_aload_n 0 d_MD_init_392 rfl rfl ?_
  refine A_bipush d_MD_init_393 rfl ?_
  refine A_newIv (q := (n + 45)) (N := 8) d_MD_init_395 ac_int rfl (by decide) (by decide) (by decide) hn (fun h92 eh92 nh92 gh92 => ?_)
  have oh92 := hn
  replace hn := nh92
  replace hs := gh92 _ _ hs
  refine A_putRv T_ok d_MD_init_397 f_MD_151 ty_a hs (Or.inr ⟨rfl, fun q hq => by cases hq; rfl⟩) (fun h93 eh93 => ?_)
  replace hn := sn_r eh93 hn
  replace hs := sp_r eh93 hs
  refine A_aload_n 0 d_MD_init_400 rfl rfl ?_
  refine A_bipush d_MD_init_401 rfl ?_
  refine A_pc (pc' := 403) rfl ?_
  refine A_newIv (q := (n + 46)) (N := 10) d_MD_init_403 ac_int rfl (by decide) (by decide) (by decide) hn (fun h94 eh94 nh94 gh94 => ?_)
  have oh94 := hn
  replace hn := nh94
  replace hs := gh94 _ _ hs
  refine A_putRv T_ok d_MD_init_405 f_MD_154 ty_a hs (Or.inr ⟨rfl, fun q hq => by cases hq; rfl⟩) (fun h95 eh95 => ?_)
  replace hn := sn_r eh95 hn
  replace hs := sp_r eh95 hs
  refine A_aload_n 0 d_MD_init_408 rfl rfl ?_
  refine A_bipush d_MD_init_409 rfl ?_
  refine A_newIv (q := (n + 47)) (N := 10) d_MD_init_411 ac_int rfl (by decide) (by decide) (by decide) hn (fun h96 eh96 nh96 gh96 => ?_)
  have oh96 := hn
  replace hn := nh96
  replace hs := gh96 _ _ hs
  refine A_putRv T_ok d_MD_init_413 f_MD_157 ty_a hs (Or.inr ⟨rfl, fun q hq => by cases hq; rfl⟩) (fun h97 eh97 => ?_)
  replace hn := sn_r eh97 hn
  replace hs := sp_r eh97 hs
  refine A_pc (pc' := 416) rfl ?_
  refine A_aload_n 0 d_MD_init_416 rfl rfl ?_
  refine A_bipush d_MD_init_417 rfl ?_
  refine A_newIv (q := (n + 48)) (N := 10) d_MD_init_419 ac_int rfl (by decide) (by decide) (by decide) hn (fun h98 eh98 nh98 gh98 => ?_)
  have oh98 := hn
  replace hn := nh98
  replace hs := gh98 _ _ hs
  refine A_putRv T_ok d_MD_init_421 f_MD_160 ty_a hs (Or.inr ⟨rfl, fun q hq => by cases hq; rfl⟩) (fun h99 eh99 => ?_)
  replace hn := sn_r eh99 hn
  replace hs := sp_r eh99 hs
  refine A_aload_n 0 d_MD_init_424 rfl rfl ?_
  refine A_bipush d_MD_init_425 rfl ?_
  refine A_pc (pc' := 427) rfl ?_
  refine A_newZv (q := (n + 49)) (N := 10) d_MD_init_427 ac_boolean rfl (by decide) (by decide) (by decide) hn (fun h100 eh100 nh100 gh100 => ?_)
  have oh100 := hn
  replace hn := nh100
  replace hs := gh100 _ _ hs
  refine A_putRv T_ok d_MD_init_429 f_MD_163 ty_a hs (Or.inr ⟨rfl, fun q hq => by cases hq; rfl⟩) (fun h101 eh101 => ?_)
  replace hn := sn_r eh101 hn
  replace hs := sp_r eh101 hs
  refine A_aload_n 0 d_MD_init_432 rfl rfl ?_
  refine A_sipush d_MD_init_433 rfl ?_
  refine A_newIv (q := (n + 50)) (N := 8000) d_MD_init_436 ac_int rfl (by decide) (by decide) (by decide) hn (fun h102 eh102 nh102 gh102 => ?_)
  have oh102 := hn
  replace hn := nh102
  replace hs := gh102 _ _ hs
  refine A_putRv T_ok d_MD_init_438 f_MD_166 ty_a hs (Or.inr ⟨rfl, fun q hq => by cases hq; rfl⟩) (fun h103 eh103 => ?_)
  replace hn := sn_r eh103 hn
  replace hs := sp_r eh103 hs
  refine A_pc (pc' := 441) rfl ?_
  refine A_aload_n 0 d_MD_init_441 rfl rfl ?_
  refine A_sipush d_MD_init_442 rfl ?_
  refine A_newIv (q := (n + 51)) (N := 8000) d_MD_init_445 ac_int rfl (by decide) (by decide) (by decide) hn (fun h104 eh104 nh104 gh104 => ?_)
  have oh104 := hn
  replace hn := nh104
  replace hs := gh104 _ _ hs
  refine A_putRv T_ok d_MD_init_447 f_MD_169 ty_a hs (Or.inr ⟨rfl, fun q hq => by cases hq; rfl⟩) (fun h105 eh105 => ?_)
  replace hn := sn_r eh105 hn
  replace hs := sp_r eh105 hs
  refine A_aload_n 0 d_MD_init_450 rfl rfl ?_
  refine A_sipush d_MD_init_451 rfl ?_
  refine A_pc (pc' := 454) rfl ?_
  refine A_newIv (q := (n + 52)) (N := 8000) d_MD_init_454 ac_int rfl (by decide) (by decide) (by decide) hn (fun h106 eh106 nh106 gh106 => ?_)
  have oh106 := hn
  replace hn := nh106
  replace hs := gh106 _ _ hs
  refine A_putRv T_ok d_MD_init_456 f_MD_172 ty_a hs (Or.inr ⟨rfl, fun q hq => by cases hq; rfl⟩) (fun h107 eh107 => ?_)
  replace hn := sn_r eh107 hn
  replace hs := sp_r eh107 hs
  refine A_aload_n 0 d_MD_init_459 rfl rfl ?_
  refine A_sipush d_MD_init_460 rfl ?_
  refine A_newIv (q := (n + 53)) (N := 8000) d_MD_init_463 ac_int rfl (by decide) (by decide) (by decide) hn (fun h108 eh108 nh108 gh108 => ?_)
  have oh108 := hn
  replace hn := nh108
  replace hs := gh108 _ _ hs
  refine A_putRv T_ok d_MD_init_465 f_MD_175 ty_a hs (Or.inr ⟨rfl, fun q hq => by cases hq; rfl⟩) (fun h109 eh109 => ?_)
  replace hn := sn_r eh109 hn
  replace hs := sp_r eh109 hs
  refine A_pc (pc' := 468) rfl ?_
  refine A_aload_n 0 d_MD_init_468 rfl rfl ?_
  refine A_bipush d_MD_init_469 rfl ?_
  refine A_newIv (q := (n + 54)) (N := 16) d_MD_init_471 ac_int rfl (by decide) (by decide) (by decide) hn (fun h110 eh110 nh110 gh110 => ?_)
  have oh110 := hn
  replace hn := nh110
  replace hs := gh110 _ _ hs
  refine A_putRv T_ok d_MD_init_473 f_MD_178 ty_a hs (Or.inr ⟨rfl, fun q hq => by cases hq; rfl⟩) (fun h111 eh111 => ?_)
  replace hn := sn_r eh111 hn
  replace hs := sp_r eh111 hs
  refine A_aload_n 0 d_MD_init_476 rfl rfl ?_
  refine A_sipush d_MD_init_477 rfl ?_
  refine A_pc (pc' := 480) rfl ?_
  refine A_newIv (q := (n + 55)) (N := 340) d_MD_init_480 ac_int rfl (by decide) (by decide) (by decide) hn (fun h112 eh112 nh112 gh112 => ?_)
  have oh112 := hn
  replace hn := nh112
  replace hs := gh112 _ _ hs
  refine A_putRv T_ok d_MD_init_482 f_MD_181 ty_a hs (Or.inr ⟨rfl, fun q hq => by cases hq; rfl⟩) (fun h113 eh113 => ?_)
  replace hn := sn_r eh113 hn
  replace hs := sp_r eh113 hs
  refine A_aload_n 0 d_MD_init_485 rfl rfl ?_
  refine A_sipush d_MD_init_486 rfl ?_
  refine A_newIv (q := (n + 56)) (N := 340) d_MD_init_489 ac_int rfl (by decide) (by decide) (by decide) hn (fun h114 eh114 nh114 gh114 => ?_)
  have oh114 := hn
  replace hn := nh114
  replace hs := gh114 _ _ hs
  refine A_putRv T_ok d_MD_init_491 f_MD_184 ty_a hs (Or.inr ⟨rfl, fun q hq => by cases hq; rfl⟩) (fun h115 eh115 => ?_)
  replace hn := sn_r eh115 hn
  replace hs := sp_r eh115 hs
  refine A_pc (pc' := 494) rfl ?_
  refine A_aload_n 0 d_MD_init_494 rfl rfl ?_
  refine A_bipush d_MD_init_495 rfl ?_
  refine A_newIv (q := (n + 57)) (N := 16) d_MD_init_497 ac_int rfl (by decide) (by decide) (by decide) hn (fun h116 eh116 nh116 gh116 => ?_)
  have oh116 := hn
  replace hn := nh116
  replace hs := gh116 _ _ hs
  refine A_putRv T_ok d_MD_init_499 f_MD_187 ty_a hs (Or.inr ⟨rfl, fun q hq => by cases hq; rfl⟩) (fun h117 eh117 => ?_)
  replace hn := sn_r eh117 hn
  replace hs := sp_r eh117 hs
  refine A_aload_n 0 d_MD_init_502 rfl rfl ?_
  refine A_bipush d_MD_init_503 rfl ?_
  refine A_pc (pc' := 505) rfl ?_
  refine A_newIv (q := (n + 58)) (N := 8) d_MD_init_505 ac_int rfl (by decide) (by decide) (by decide) hn (fun h118 eh118 nh118 gh118 => ?_)
  have oh118 := hn
  replace hn := nh118
  replace hs := gh118 _ _ hs
  refine A_putRv T_ok d_MD_init_507 f_MD_190 ty_a hs (Or.inr ⟨rfl, fun q hq => by cases hq; rfl⟩) (fun h119 eh119 => ?_)
  replace hn := sn_r eh119 hn
  replace hs := sp_r eh119 hs
  refine A_aload_n 0 d_MD_init_510 rfl rfl ?_
  refine A_bipush d_MD_init_511 rfl ?_
  refine A_newIv (q := (n + 59)) (N := 8) d_MD_init_513 ac_int rfl (by decide) (by decide) (by decide) hn (fun h120 eh120 nh120 gh120 => ?_)
  have oh120 := hn
  replace hn := nh120
  replace hs := gh120 _ _ hs
  refine A_putRv T_ok d_MD_init_515 f_MD_193 ty_a hs (Or.inr ⟨rfl, fun q hq => by cases hq; rfl⟩) (fun h121 eh121 => ?_)
  replace hn := sn_r eh121 hn
  replace hs := sp_r eh121 hs
  refine A_pc (pc' := 518) rfl ?_
  refine A_aload_n 0 d_MD_init_518 rfl rfl ?_
  refine A_sipush d_MD_init_519 rfl ?_
  refine A_newLv (q := (n + 60)) (N := 2704) d_MD_init_522 ac_long rfl (by decide) (by decide) (by decide) hn (fun h122 eh122 nh122 gh122 => ?_)
  have oh122 := hn
  replace hn := nh122
  replace hs := gh122 _ _ hs
  refine A_putRv T_ok d_MD_init_524 f_MD_196 ty_a hs (Or.inr ⟨rfl, fun q hq => by cases hq; rfl⟩) (fun h123 eh123 => ?_)
  replace hn := sn_r eh123 hn
  replace hs := sp_r eh123 hs
  refine A_aload_n 0 d_MD_init_527 rfl rfl ?_
  refine A_bipush d_MD_init_528 rfl ?_
  refine A_pc (pc' := 530) rfl ?_
  refine A_newIv (q := (n + 61)) (N := 32) d_MD_init_530 ac_int rfl (by decide) (by decide) (by decide) hn (fun h124 eh124 nh124 gh124 => ?_)
  have oh124 := hn
  replace hn := nh124
  replace hs := gh124 _ _ hs
  refine A_putRv T_ok d_MD_init_532 f_MD_199 ty_a hs (Or.inr ⟨rfl, fun q hq => by cases hq; rfl⟩) (fun h125 eh125 => ?_)
  replace hn := sn_r eh125 hn
  replace hs := sp_r eh125 hs
  refine A_aload_n 0 d_MD_init_535 rfl rfl ?_
  refine A_bipush d_MD_init_536 rfl ?_
  refine A_newIv (q := (n + 62)) (N := 32) d_MD_init_538 ac_int rfl (by decide) (by decide) (by decide) hn (fun h126 eh126 nh126 gh126 => ?_)
  have oh126 := hn
  replace hn := nh126
  replace hs := gh126 _ _ hs
  refine A_putRv T_ok d_MD_init_540 f_MD_202 ty_a hs (Or.inr ⟨rfl, fun q hq => by cases hq; rfl⟩) (fun h127 eh127 => ?_)
  replace hn := sn_r eh127 hn
  replace hs := sp_r eh127 hs
  refine A_pc (pc' := 543) rfl ?_
  refine A_aload_n 0 d_MD_init_543 rfl rfl ?_
  refine A_bipush d_MD_init_544 rfl ?_
  refine A_newIv (q := (n + 63)) (N := 32) d_MD_init_546 ac_int rfl (by decide) (by decide) (by decide) hn (fun h128 eh128 nh128 gh128 => ?_)
  have oh128 := hn
  replace hn := nh128
  replace hs := gh128 _ _ hs
  refine A_putRv T_ok d_MD_init_548 f_MD_205 ty_a hs (Or.inr ⟨rfl, fun q hq => by cases hq; rfl⟩) (fun h129 eh129 => ?_)
  replace hn := sn_r eh129 hn
  replace hs := sp_r eh129 hs
  refine A_aload_n 0 d_MD_init_551 rfl rfl ?_
  refine A_bipush d_MD_init_552 rfl ?_
  refine A_pc (pc' := 554) rfl ?_
  refine A_newLv (q := (n + 64)) (N := 32) d_MD_init_554 ac_long rfl (by decide) (by decide) (by decide) hn (fun h130 eh130 nh130 gh130 => ?_)
  have oh130 := hn
  replace hn := nh130
  replace hs := gh130 _ _ hs
  refine A_putRv T_ok d_MD_init_556 f_MD_208 ty_a hs (Or.inr ⟨rfl, fun q hq => by cases hq; rfl⟩) (fun h131 eh131 => ?_)
  replace hn := sn_r eh131 hn
  replace hs := sp_r eh131 hs
  refine A_aload_n 0 d_MD_init_559 rfl rfl ?_
  refine A_bipush d_MD_init_560 rfl ?_
  refine A_newIv (q := (n + 65)) (N := 80) d_MD_init_562 ac_int rfl (by decide) (by decide) (by decide) hn (fun h132 eh132 nh132 gh132 => ?_)
  have oh132 := hn
  replace hn := nh132
  replace hs := gh132 _ _ hs
  refine A_putRv T_ok d_MD_init_564 f_MD_211 ty_a hs (Or.inr ⟨rfl, fun q hq => by cases hq; rfl⟩) (fun h133 eh133 => ?_)
  replace hn := sn_r eh133 hn
  replace hs := sp_r eh133 hs
  refine A_pc (pc' := 567) rfl ?_
  refine A_aload_n 0 d_MD_init_567 rfl rfl ?_
  refine A_bipush d_MD_init_568 rfl ?_
  refine A_newIv (q := (n + 66)) (N := 80) d_MD_init_570 ac_int rfl (by decide) (by decide) (by decide) hn (fun h134 eh134 nh134 gh134 => ?_)
  have oh134 := hn
  replace hn := nh134
  replace hs := gh134 _ _ hs
  refine A_putRv T_ok d_MD_init_572 f_MD_214 ty_a hs (Or.inr ⟨rfl, fun q hq => by cases hq; rfl⟩) (fun h135 eh135 => ?_)
  replace hn := sn_r eh135 hn
  replace hs := sp_r eh135 hs
  refine A_aload_n 0 d_MD_init_575 rfl rfl ?_
  refine A_bipush d_MD_init_576 rfl ?_
  refine A_pc (pc' := 578) rfl ?_
  refine A_newIv (q := (n + 67)) (N := 80) d_MD_init_578 ac_int rfl (by decide) (by decide) (by decide) hn (fun h136 eh136 nh136 gh136 => ?_)
  have oh136 := hn
  replace hn := nh136
  replace hs := gh136 _ _ hs
  refine A_putRv T_ok d_MD_init_580 f_MD_217 ty_a hs (Or.inr ⟨rfl, fun q hq => by cases hq; rfl⟩) (fun h137 eh137 => ?_)
  replace hn := sn_r eh137 hn
  replace hs := sp_r eh137 hs
  refine A_aload_n 0 d_MD_init_583 rfl rfl ?_
  refine A_sipush d_MD_init_584 rfl ?_
  refine A_newIv (q := (n + 68)) (N := 6561) d_MD_init_587 ac_int rfl (by decide) (by decide) (by decide) hn (fun h138 eh138 nh138 gh138 => ?_)
  have oh138 := hn
  replace hn := nh138
  replace hs := gh138 _ _ hs
  refine A_putRv T_ok d_MD_init_589 f_MD_220 ty_a hs (Or.inr ⟨rfl, fun q hq => by cases hq; rfl⟩) (fun h139 eh139 => ?_)
  replace hn := sn_r eh139 hn
  replace hs := sp_r eh139 hs
  refine A_pc (pc' := 592) rfl ?_
  refine A_aload_n 0 d_MD_init_592 rfl rfl ?_
  refine A_sipush d_MD_init_593 rfl ?_
  refine A_newLv (q := (n + 69)) (N := 6561) d_MD_init_596 ac_long rfl (by decide) (by decide) (by decide) hn (fun h140 eh140 nh140 gh140 => ?_)
  have oh140 := hn
  replace hn := nh140
  replace hs := gh140 _ _ hs
  refine A_putRv T_ok d_MD_init_598 f_MD_223 ty_a hs (Or.inr ⟨rfl, fun q hq => by cases hq; rfl⟩) (fun h141 eh141 => ?_)
  replace hn := sn_r eh141 hn
  replace hs := sp_r eh141 hs
  exact A_vret d_MD_init_601 (by decide) rfl ⟨rfl, by rw [eh141, eh140, eh139, eh138, eh137, eh136, eh135, eh134, eh133, eh132, eh131, eh130, eh129, eh128, eh127, eh126, eh125, eh124, eh123, eh122, eh121, eh120, eh119, eh118, eh117, eh116, eh115, eh114, eh113, eh112, eh111, eh110, eh109, eh108, eh107, eh106, eh105, eh104, eh103, eh102, eh101, eh100, eh99, eh98, eh97, eh96, eh95, eh94, eh93, eh92, eh91, eh90, eh89, eh88, eh87, eh86, eh85, eh84, eh83, eh82, eh81, eh80, eh79, eh78, eh77, eh76, eh75, eh74, eh73, eh72, eh71, eh70, eh69, eh68, eh67, eh66, eh65, eh64, eh63, eh62, eh61, eh60, eh59, eh58, eh57, eh56, eh55, eh54, eh53, eh52, eh51, eh50, eh49, eh48, eh47, eh46, eh45, eh44, eh43, eh42, eh41, eh40, eh39, eh38, eh37, eh36, eh35, eh34, eh33, eh32, eh31, eh30, eh29, eh28, eh27, eh26, eh25, eh24, eh23, eh22, eh21, eh20, eh19, eh18, eh17, eh16, eh15, eh14, eh13, eh12, eh11, eh10, eh9, eh8, eh7, eh6, eh5, eh4, eh3, eh2, eh1] <;> rfl⟩

/-! ===== the class's invariant ===== -/
def hp_e : ah_T := ([], fun _ _ => 0, fun _ _ => 0, fun _ _ => none)
def hp_0 : ah_T := i_MD (st_n (i_PM (st_n hp_e (11 + 4) 11) 0 1) (12 + 4) 111) 170 171
def sh_L : List (Nat × Nat) := [(15, 11), (0, 2000), (9, 8), (12, 13), (0, 2001), (0, 2001), (1, 2001), (0, 2001), (0, 0), (8, 12), (0, 2000), (0, 2000), (0, 2000), (0, 2000), (0, 7), (0, 7), (1, 16), (10, 13), (3, 4), (0, 8), (0, 24), (0, 24), (0, 24), (0, 12), (14, 17), (0, 300), (0, 300), (0, 301), (0, 300), (0, 300), (2, 300), (0, 300), (0, 300), (1, 301), (1, 301), (1, 300), (1, 300), (0, 102), (14, 17), (0, 300), (0, 300), (0, 301), (0, 300), (0, 300), (2, 300), (0, 300), (0, 300), (1, 301), (1, 301), (1, 300), (1, 300), (0, 102), (14, 17), (0, 300), (0, 300), (0, 301), (0, 300), (0, 300), (2, 300), (0, 300), (0, 300), (1, 301), (1, 301), (1, 300), (1, 300), (0, 102), (14, 17), (0, 300), (0, 300), (0, 301), (0, 300), (0, 300), (2, 300), (0, 300), (0, 300), (1, 301), (1, 301), (1, 300), (1, 300), (0, 102), (10, 13), (3, 4), (0, 8), (0, 24), (0, 24), (0, 24), (0, 12), (14, 17), (0, 300), (0, 300), (0, 301), (0, 300), (0, 300), (2, 300), (0, 300), (0, 300), (1, 301), (1, 301), (1, 300), (1, 300), (0, 102), (14, 17), (0, 300), (0, 300), (0, 301), (0, 300), (0, 300), (2, 300), (0, 300), (0, 300), (1, 301), (1, 301), (1, 300), (1, 300), (0, 102), (14, 17), (0, 300), (0, 300), (0, 301), (0, 300), (0, 300), (2, 300), (0, 300), (0, 300), (1, 301), (1, 301), (1, 300), (1, 300), (0, 102), (14, 17), (0, 300), (0, 300), (0, 301), (0, 300), (0, 300), (2, 300), (0, 300), (0, 300), (1, 301), (1, 301), (1, 300), (1, 300), (0, 102), (5, 3), (0, 6404), (0, 4), (4, 4), (0, 14), (0, 15), (0, 15), (6, 8), (0, 14), (0, 14), (1, 15), (0, 15), (0, 4), (1, 4), (1, 4), (11, 8), (1, 1563), (0, 8), (0, 8), (13, 6), (0, 2704), (7, 8), (0, 80), (0, 80), (0, 1681), (0, 1681), (0, 80), (16, 111), (0, 2000), (0, 2), (0, 2), (0, 2), (0, 2), (0, 16), (0, 2), (0, 48), (0, 48), (0, 48), (0, 2), (0, 24), (0, 2), (1, 32), (0, 8), (0, 8), (1, 2400), (1, 2400), (1, 2400), (1, 2400), (0, 2400), (0, 9600), (0, 9600), (0, 2400), (2, 2400), (0, 2400), (0, 2400), (0, 2400), (1, 816), (1, 816), (0, 2100), (0, 2100), (0, 2100), (0, 2100), (0, 8400), (0, 8400), (0, 2100), (2, 2100), (0, 2100), (0, 2100), (0, 2100), (0, 2100), (0, 2100), (0, 2100), (0, 8), (0, 8), (0, 10), (0, 10), (0, 10), (2, 10), (0, 8000), (0, 8000), (0, 8000), (0, 8000), (0, 16), (0, 340), (0, 340), (0, 16), (0, 8), (0, 8), (1, 2704), (0, 32), (0, 32), (0, 32), (1, 32), (0, 80), (0, 80), (0, 80), (0, 6561), (1, 6561)]
def ra_L : List (Option (Int × Int)) := [none, some (0, 255), none, none, some ((-2147483648), 2147483647), some ((-2147483648), 2147483647), some ((-2147483648), 2147483647), some ((-2147483648), 2147483647), some ((-2147483648), 2147483647), none, some ((-2147483648), 2147483647), some (0, 1999), some (0, 300), some (0, 16), some (0, 1999), some (0, 1999), some ((-2147483648), 2147483647), none, some ((-2147483648), 2147483647), some ((-2147483648), 2147483647), some ((-2147483648), 2147483647), some ((-2147483648), 2147483647), some ((-2147483648), 2147483647), some ((-2147483648), 2147483647), none, some ((-2147483648), 2147483647), some ((-2147483648), 2147483647), some (0, 300), some (0, 64), some (0, 3), some ((-2147483648), 2147483647), some (0, 299), some ((-2147483648), 2147483647), some ((-2147483648), 2147483647), some ((-2147483648), 2147483647), some ((-2147483648), 2147483647), some ((-2147483648), 2147483647), some (0, 300), none, some ((-2147483648), 2147483647), some ((-2147483648), 2147483647), some (0, 300), some (0, 64), some (0, 3), some ((-2147483648), 2147483647), some (0, 299), some ((-2147483648), 2147483647), some ((-2147483648), 2147483647), some ((-2147483648), 2147483647), some ((-2147483648), 2147483647), some ((-2147483648), 2147483647), some (0, 300), none, some ((-2147483648), 2147483647), some ((-2147483648), 2147483647), some (0, 300), some (0, 64), some (0, 3), some ((-2147483648), 2147483647), some (0, 299), some ((-2147483648), 2147483647), some ((-2147483648), 2147483647), some ((-2147483648), 2147483647), some ((-2147483648), 2147483647), some ((-2147483648), 2147483647), some (0, 300), none, some ((-2147483648), 2147483647), some ((-2147483648), 2147483647), some (0, 300), some (0, 64), some (0, 3), some ((-2147483648), 2147483647), some (0, 299), some ((-2147483648), 2147483647), some ((-2147483648), 2147483647), some ((-2147483648), 2147483647), some ((-2147483648), 2147483647), some ((-2147483648), 2147483647), some (0, 300), none, some ((-2147483648), 2147483647), some ((-2147483648), 2147483647), some ((-2147483648), 2147483647), some ((-2147483648), 2147483647), some ((-2147483648), 2147483647), some ((-2147483648), 2147483647), none, some ((-2147483648), 2147483647), some ((-2147483648), 2147483647), some (0, 300), some (0, 64), some (0, 3), some ((-2147483648), 2147483647), some (0, 299), some ((-2147483648), 2147483647), some ((-2147483648), 2147483647), some ((-2147483648), 2147483647), some ((-2147483648), 2147483647), some ((-2147483648), 2147483647), some (0, 300), none, some ((-2147483648), 2147483647), some ((-2147483648), 2147483647), some (0, 300), some (0, 64), some (0, 3), some ((-2147483648), 2147483647), some (0, 299), some ((-2147483648), 2147483647), some ((-2147483648), 2147483647), some ((-2147483648), 2147483647), some ((-2147483648), 2147483647), some ((-2147483648), 2147483647), some (0, 300), none, some ((-2147483648), 2147483647), some ((-2147483648), 2147483647), some (0, 300), some (0, 64), some (0, 3), some ((-2147483648), 2147483647), some (0, 299), some ((-2147483648), 2147483647), some ((-2147483648), 2147483647), some ((-2147483648), 2147483647), some ((-2147483648), 2147483647), some ((-2147483648), 2147483647), some (0, 300), none, some ((-2147483648), 2147483647), some ((-2147483648), 2147483647), some (0, 300), some (0, 64), some (0, 3), some ((-2147483648), 2147483647), some (0, 299), some ((-2147483648), 2147483647), some ((-2147483648), 2147483647), some ((-2147483648), 2147483647), some ((-2147483648), 2147483647), some ((-2147483648), 2147483647), some (0, 300), none, some ((-2147483648), 2147483647), some (0, 300), none, some ((-2147483648), 2147483647), some ((-2147483648), 2147483647), some (0, 6), none, some ((-2147483648), 2147483647), some ((-2147483648), 2147483647), some ((-2147483648), 2147483647), some (0, 14), some (0, 2000), some ((-2147483648), 2147483647), some ((-2147483648), 2147483647), none, some ((-2147483648), 2147483647), some ((-2147483648), 2147483647), some ((-2147483648), 2147483647), none, some ((-2147483648), 2147483647), none, some (0, 299), some (0, 299), some ((-2147483648), 2147483647), some ((-2147483648), 2147483647), some ((-2147483648), 2147483647)]
def ro_L : List (Nat × Nat × Int × Int) := [(0, 1, 0, 2000), (2, 3, 0, 16), (2, 4, 0, 300), (3, 4, 0, 2001), (3, 5, (-1), 2000), (3, 7, 0, 2000), (3, 8, 0, 2000), (9, 4, 0, 2000), (9, 7, 0, 7), (9, 8, 0, 100000), (9, 10, 0, 100000), (17, 1, 0, 4), (17, 6, 0, 8), (17, 10, 0, 24), (17, 12, 0, 12), (24, 2, 0, 300), (24, 7, 0, 300), (24, 14, 0, 300), (24, 16, 0, 101), (38, 2, 0, 300), (38, 7, 0, 300), (38, 14, 0, 300), (38, 16, 0, 101), (52, 2, 0, 300), (52, 7, 0, 300), (52, 14, 0, 300), (52, 16, 0, 101), (66, 2, 0, 300), (66, 7, 0, 300), (66, 14, 0, 300), (66, 16, 0, 101), (80, 1, 0, 4), (80, 6, 0, 8), (80, 10, 0, 24), (80, 12, 0, 12), (87, 2, 0, 300), (87, 7, 0, 300), (87, 14, 0, 300), (87, 16, 0, 101), (101, 2, 0, 300), (101, 7, 0, 300), (101, 14, 0, 300), (101, 16, 0, 101), (115, 2, 0, 300), (115, 7, 0, 300), (115, 14, 0, 300), (115, 16, 0, 101), (129, 2, 0, 300), (129, 7, 0, 300), (129, 14, 0, 300), (129, 16, 0, 101), (143, 1, 0, 6404), (146, 1, 0, 14), (150, 1, 0, 14), (158, 3, 0, 121), (158, 4, 0, 8), (162, 3, 0, 12), (162, 4, 0, 12), (164, 5, 0, 80), (164, 6, 0, 80)]
def rf_L : List (Nat × Nat × Nat) := [(0, 0, 1), (0, 2, 2), (0, 5, 143), (0, 6, 146), (0, 7, 150), (0, 8, 158), (0, 9, 162), (0, 10, 164), (2, 0, 3), (2, 1, 9), (2, 2, 16), (3, 0, 4), (3, 1, 5), (3, 2, 6), (3, 3, 7), (9, 0, 10), (9, 1, 11), (9, 2, 12), (9, 3, 13), (9, 5, 14), (9, 6, 15), (17, 0, 18), (17, 5, 19), (17, 7, 20), (17, 8, 21), (17, 9, 22), (17, 11, 23), (18, 0, 24), (18, 1, 38), (18, 2, 52), (18, 3, 66), (24, 0, 25), (24, 1, 26), (24, 3, 27), (24, 4, 28), (24, 5, 29), (24, 6, 30), (24, 8, 31), (24, 9, 32), (24, 10, 33), (24, 11, 34), (24, 12, 35), (24, 13, 36), (24, 15, 37), (38, 0, 39), (38, 1, 40), (38, 3, 41), (38, 4, 42), (38, 5, 43), (38, 6, 44), (38, 8, 45), (38, 9, 46), (38, 10, 47), (38, 11, 48), (38, 12, 49), (38, 13, 50), (38, 15, 51), (52, 0, 53), (52, 1, 54), (52, 3, 55), (52, 4, 56), (52, 5, 57), (52, 6, 58), (52, 8, 59), (52, 9, 60), (52, 10, 61), (52, 11, 62), (52, 12, 63), (52, 13, 64), (52, 15, 65), (66, 0, 67), (66, 1, 68), (66, 3, 69), (66, 4, 70), (66, 5, 71), (66, 6, 72), (66, 8, 73), (66, 9, 74), (66, 10, 75), (66, 11, 76), (66, 12, 77), (66, 13, 78), (66, 15, 79), (80, 0, 81), (80, 5, 82), (80, 7, 83), (80, 8, 84), (80, 9, 85), (80, 11, 86), (81, 0, 87), (81, 1, 101), (81, 2, 115), (81, 3, 129), (87, 0, 88), (87, 1, 89), (87, 3, 90), (87, 4, 91), (87, 5, 92), (87, 6, 93), (87, 8, 94), (87, 9, 95), (87, 10, 96), (87, 11, 97), (87, 12, 98), (87, 13, 99), (87, 15, 100), (101, 0, 102), (101, 1, 103), (101, 3, 104), (101, 4, 105), (101, 5, 106), (101, 6, 107), (101, 8, 108), (101, 9, 109), (101, 10, 110), (101, 11, 111), (101, 12, 112), (101, 13, 113), (101, 15, 114), (115, 0, 116), (115, 1, 117), (115, 3, 118), (115, 4, 119), (115, 5, 120), (115, 6, 121), (115, 8, 122), (115, 9, 123), (115, 10, 124), (115, 11, 125), (115, 12, 126), (115, 13, 127), (115, 15, 128), (129, 0, 130), (129, 1, 131), (129, 3, 132), (129, 4, 133), (129, 5, 134), (129, 6, 135), (129, 8, 136), (129, 9, 137), (129, 10, 138), (129, 11, 139), (129, 12, 140), (129, 13, 141), (129, 15, 142), (143, 0, 144), (143, 2, 145), (146, 0, 147), (146, 2, 148), (146, 3, 149), (150, 0, 151), (150, 2, 152), (150, 3, 153), (150, 4, 154), (150, 5, 155), (150, 6, 156), (150, 7, 157), (158, 0, 159), (158, 6, 160), (158, 7, 161), (162, 0, 163), (164, 0, 165), (164, 1, 166), (164, 2, 167), (164, 3, 168), (164, 4, 169)]
def rg (a k : Nat) : Int × Int := match ra_L[a]? with
  | some (some q) => q
  | _ => match ro_L.find? (fun q => q.1 == a && q.2.1 == k) with
    | some q => q.2.2
    | none => (-2147483648, 2147483647)
def isS (s : Nat) : Prop := s = 17 ∨ s = 80
def isV (v : Nat) : Prop := v = 24 ∨ v = 38 ∨ v = 52 ∨ v = 66 ∨ v = 87 ∨ v = 101 ∨ v = 115 ∨ v = 129
/-- a voice of the score at s -/
def tV (s v : Nat) : Prop := v = s + 7 ∨ v = s + 21 ∨ v = s + 35 ∨ v = s + 49
theorem tV_V {s v : Nat} (hs : isS s) (hv : tV s v) : isV v := by unfold isS at hs; unfold tV at hv; unfold isV; omega
/-- what is said of the parts that are read, and of the events that are walked -/
def sP (h : ah_T) : Prop := ∀ i : Nat, (i : Int) < h.2.1 9 4 → h.2.1 10 i = 123 → (1 ≤ h.2.1 12 i ∧ h.2.1 12 i ≤ 16) ∧ 1 ≤ h.2.1 13 i ∧ h.2.1 13 i ≤ 16
def sV (h : ah_T) (v : Nat) : Prop := ∀ e : Nat, (e : Int) < h.2.1 v 14 → (1 ≤ h.2.2.1 (v + 11) e ∧ h.2.2.1 (v + 11) e ≤ 1000000000) ∧ 1 ≤ h.2.2.1 (v + 12) e ∧ h.2.2.1 (v + 12) e ≤ 1000000
def sem (h : ah_T) : Prop := sP h ∧ ∀ v, isV v → sV h v
/-- stores that this does not hang on -/
def ns (a k : Nat) : Prop := (a ≠ 10 ∧ a ≠ 12) ∧ a ≠ 13 ∧ (a = 9 → k ≠ 4) ∧ (isV a → k ≠ 14)
def nl (a : Nat) : Prop := ∀ v, isV v → v + 11 ≠ a ∧ v + 12 ≠ a
def nsb (a k : Nat) : Bool := (a != 10 && a != 12) && a != 13 && !(a == 9 && k == 4) && !([24, 38, 52, 66, 87, 101, 115, 129].contains a && k == 14)
def nlb (a : Nat) : Bool := !([35, 36, 49, 50, 63, 64, 77, 78, 98, 99, 112, 113, 126, 127, 140, 141].contains a)
theorem ns_b {a k : Nat} (h : nsb a k = true) : ns a k := by
  simp only [nsb, Bool.and_eq_true, bne_iff_ne, Bool.not_eq_true', Bool.and_eq_false_iff, beq_eq_false_iff_ne] at h
  refine ⟨⟨h.1.1.1.1, h.1.1.1.2⟩, h.1.1.2, fun e => h.1.2.elim (fun q => absurd e q) id, fun e => h.2.elim (fun q => ?_) id⟩
  unfold isV at e
  rcases e with rfl | rfl | rfl | rfl | rfl | rfl | rfl | rfl <;> simp at q
theorem nl_b {a : Nat} (h : nlb a = true) : nl a := by
  intro v hv
  unfold isV at hv
  constructor
  · intro q; subst q; rcases hv with rfl | rfl | rfl | rfl | rfl | rfl | rfl | rfl <;> simp [nlb] at h
  · intro q; subst q; rcases hv with rfl | rfl | rfl | rfl | rfl | rfl | rfl | rfl <;> simp [nlb] at h
theorem ns_V {v k : Nat} (hv : isV v) (hk : k ≠ 14) : ns v k := by unfold isV at hv; exact ⟨⟨by omega, by omega⟩, by omega, fun _ => by omega, fun _ => hk⟩
theorem ns_Vo {v k : Nat} (hv : isV v) (o : Nat) (h1 : 1 ≤ o) (h2 : o ≤ 13) : ns (v + o) k := by
  refine ⟨⟨by unfold isV at hv; omega, by unfold isV at hv; omega⟩, by unfold isV at hv; omega, fun _ => by unfold isV at hv; omega, fun q => ?_⟩
  unfold isV at hv q
  omega
theorem ns_S {v k : Nat} (hv : isS v) : ns v k := by
  refine ⟨⟨by unfold isS at hv; omega, by unfold isS at hv; omega⟩, by unfold isS at hv; omega, fun _ => by unfold isS at hv; omega, fun q => ?_⟩
  unfold isS at hv; unfold isV at q
  omega
theorem ns_So {v k : Nat} (hv : isS v) (o : Nat) (h1 : 1 ≤ o) (h2 : o ≤ 6) : ns (v + o) k := by
  refine ⟨⟨by unfold isS at hv; omega, by unfold isS at hv; omega⟩, by unfold isS at hv; omega, fun _ => by unfold isS at hv; omega, fun q => ?_⟩
  unfold isS at hv; unfold isV at q
  omega
theorem nl_Vo {v : Nat} (hv : isV v) (o : Nat) (h1 : 1 ≤ o) (h2 : o ≤ 10) : nl (v + o) := by
  intro w hw
  unfold isV at hv hw
  omega
theorem sem_i {h : ah_T} {a k : Nat} {z : Int} (hs : sem h) (hn : ns a k) : sem (st_i h a k z) := by
  obtain ⟨⟨n1, n5⟩, n2, n3, n4⟩ := hn
  refine ⟨fun i h1 h2 => ?_, fun v hv e he => ?_⟩
  · have e1 : (st_i h a k z).2.1 9 4 = h.2.1 9 4 := up2_o (fun q => n3 q.1.symm q.2.symm)
    have e2 : (st_i h a k z).2.1 10 i = h.2.1 10 i := up2_o (fun q => n1 q.1.symm)
    have e3 : (st_i h a k z).2.1 13 i = h.2.1 13 i := up2_o (fun q => n2 q.1.symm)
    have e4 : (st_i h a k z).2.1 12 i = h.2.1 12 i := up2_o (fun q => n5 q.1.symm)
    rw [e1] at h1; rw [e2] at h2; rw [e3, e4]
    exact hs.1 i h1 h2
  · have e1 : (st_i h a k z).2.1 v 14 = h.2.1 v 14 := up2_o (fun q => n4 (q.1 ▸ hv) q.2.symm)
    rw [e1] at he
    exact hs.2 v hv e he
theorem sem_l {h : ah_T} {a k : Nat} {z : Int} (hs : sem h) (hn : nl a) : sem (st_l h a k z) := by
  refine ⟨hs.1, fun v hv e he => ?_⟩
  have e1 : (st_l h a k z).2.2.1 (v + 11) e = h.2.2.1 (v + 11) e := up2_o (fun q => (hn v hv).1 q.1)
  have e2 : (st_l h a k z).2.2.1 (v + 12) e = h.2.2.1 (v + 12) e := up2_o (fun q => (hn v hv).2 q.1)
  rw [e1, e2]
  exact hs.2 v hv e he
/-- a store behind the events -/
theorem sem_le {h : ah_T} {v o k : Nat} {z : Int} (hs : sem h) (hv : isV v) (ho : o = 11 ∨ o = 12) (hk : h.2.1 v 14 ≤ (k : Int)) : sem (st_l h (v + o) k z) := by
  refine ⟨hs.1, fun w hw e he => ?_⟩
  have he2 : (e : Int) < h.2.1 w 14 := he
  have key : ∀ p, p = 11 ∨ p = 12 → ¬ (w + p = v + o ∧ e = k) := by
    intro p hp ⟨q1, q2⟩
    have : w = v := by unfold isV at hv hw; omega
    subst this; subst q2; omega
  have e1 : (st_l h (v + o) k z).2.2.1 (w + 11) e = h.2.2.1 (w + 11) e := up2_o (key 11 (Or.inl rfl))
  have e2 : (st_l h (v + o) k z).2.2.1 (w + 12) e = h.2.2.1 (w + 12) e := up2_o (key 12 (Or.inr rfl))
  rw [e1, e2]
  exact hs.2 w hw e he
/-- one event more -/
theorem sem_ev {h : ah_T} {v : Nat} {x z : Int} (hs : sem h) (hv : isV v) (hx : x = h.2.1 v 14) (h0 : 0 ≤ x) (hz : z ≤ x + 1) (h1 : 1 ≤ h.2.2.1 (v + 11) x.toNat ∧ h.2.2.1 (v + 11) x.toNat ≤ 1000000000) (h2 : 1 ≤ h.2.2.1 (v + 12) x.toNat ∧ h.2.2.1 (v + 12) x.toNat ≤ 1000000) : sem (st_i h v 14 z) := by
  have hn : ∀ y k, y ≠ v → (st_i h v 14 z).2.1 y k = h.2.1 y k := fun y k q => up2_o (fun w => q w.1)
  refine ⟨fun i q1 q2 => ?_, fun w hw e he => ?_⟩
  · have d1 : (9 : Nat) ≠ v := by unfold isV at hv; omega
    have d2 : (10 : Nat) ≠ v := by unfold isV at hv; omega
    have d3 : (13 : Nat) ≠ v := by unfold isV at hv; omega
    have d4 : (12 : Nat) ≠ v := by unfold isV at hv; omega
    rw [hn 9 4 d1] at q1; rw [hn 10 i d2] at q2; rw [hn 13 i d3, hn 12 i d4]
    exact hs.1 i q1 q2
  · by_cases hwv : w = v
    · subst hwv
      have e1 : (st_i h w 14 z).2.1 w 14 = z := up2_at
      rw [e1] at he
      show (1 ≤ h.2.2.1 (w + 11) e ∧ h.2.2.1 (w + 11) e ≤ 1000000000) ∧ 1 ≤ h.2.2.1 (w + 12) e ∧ h.2.2.1 (w + 12) e ≤ 1000000
      by_cases hex : (e : Int) = x
      · have : e = x.toNat := by omega
        subst this; exact ⟨h1, h2⟩
      · exact hs.2 w hw e (by omega)
    · rw [hn w 14 hwv] at he
      exact hs.2 w hw e he
theorem sem_e0 {h : ah_T} {v : Nat} {z : Int} (hs : sem h) (hv : isV v) (hz : z ≤ 0) : sem (st_i h v 14 z) := by
  have hn : ∀ y k, y ≠ v → (st_i h v 14 z).2.1 y k = h.2.1 y k := fun y k q => up2_o (fun w => q w.1)
  refine ⟨fun i q1 q2 => ?_, fun w hw e he => ?_⟩
  · have d1 : (9 : Nat) ≠ v := by unfold isV at hv; omega
    have d2 : (10 : Nat) ≠ v := by unfold isV at hv; omega
    have d3 : (13 : Nat) ≠ v := by unfold isV at hv; omega
    have d4 : (12 : Nat) ≠ v := by unfold isV at hv; omega
    rw [hn 9 4 d1] at q1; rw [hn 10 i d2] at q2; rw [hn 13 i d3, hn 12 i d4]
    exact hs.1 i q1 q2
  · by_cases hwv : w = v
    · subst hwv
      have e1 : (st_i h w 14 z).2.1 w 14 = z := up2_at
      rw [e1] at he
      omega
    · rw [hn w 14 hwv] at he
      exact hs.2 w hw e he
theorem sem_V {h : ah_T} {a k : Nat} {z : Int} (hs : sem h) (hp : sP (st_i h a k z)) (hn : ¬ isV a) : sem (st_i h a k z) :=
  ⟨hp, fun v hv e he => by
    have e1 : (st_i h a k z).2.1 v 14 = h.2.1 v 14 := up2_o (fun q => hn (q.1 ▸ hv))
    rw [e1] at he
    exact hs.2 v hv e he⟩
theorem nV_p {a : Nat} (h : a < 17) : ¬ isV a := by unfold isV; omega
theorem sP_0 {h : ah_T} {z : Int} (hz : z ≤ 0) : sP (st_i h 9 4 z) := by
  intro i q1
  have e1 : (st_i h 9 4 z).2.1 9 4 = z := ste_i.2.1
  omega
theorem le_tn {x y : Int} (h : x = y) : x ≤ (y.toNat : Int) := by omega
theorem sP_k {h : ah_T} {a k : Nat} {z : Int} (hs : sP h) (ha : a = 10 ∨ a = 12 ∨ a = 13) (hk : h.2.1 9 4 ≤ (k : Int)) : sP (st_i h a k z) := by
  intro i q1 q2
  have e1 : (st_i h a k z).2.1 9 4 = h.2.1 9 4 := up2_o (fun q => by omega)
  rw [e1] at q1
  have key : ∀ b, (st_i h a k z).2.1 b i = h.2.1 b i := fun b => up2_o (fun q => by omega)
  rw [key 10] at q2
  rw [key 12, key 13]
  exact hs i q1 q2
theorem sP_s {h : ah_T} {x z kd vl ot : Int} (hs : sP h) (hx : h.2.1 9 4 = x) (h0 : 0 ≤ x) (hz : z = x + 1) (h1 : h.2.1 10 x.toNat = kd) (h2 : h.2.1 12 x.toNat = vl) (h3 : h.2.1 13 x.toNat = ot) (hk : kd = 123 → (1 ≤ vl ∧ vl ≤ 16) ∧ 1 ≤ ot ∧ ot ≤ 16) : sP (st_i h 9 4 z) := by
  intro i q1 q2
  have e1 : (st_i h 9 4 z).2.1 9 4 = z := ste_i.2.1
  rw [e1] at q1
  have key : ∀ b, b ≠ 9 → (st_i h 9 4 z).2.1 b i = h.2.1 b i := fun b hb => up2_o (fun q => hb q.1)
  rw [key 10 (by decide)] at q2
  rw [key 12 (by decide), key 13 (by decide)]
  by_cases hi : (i : Int) = x
  · have : i = x.toNat := by omega
    subst this
    rw [h1] at q2; rw [h2, h3]
    exact hk q2
  · exact hs i (by omega) q2
theorem sP_at {h : ah_T} {i x z : Int} (hs : sP h) (hz : z = h.2.1 10 i.toNat) (h0 : 0 ≤ i) (hx : h.2.1 9 4 = x) (hi : i < x) (hk : z = 123) : (1 ≤ h.2.1 12 i.toNat ∧ h.2.1 12 i.toNat ≤ 16) ∧ 1 ≤ h.2.1 13 i.toNat ∧ h.2.1 13 i.toNat ≤ 16 := hs _ (by omega) (by omega)
/-- s: the score that is read into; the other one is the current one -/
def xi (s : Nat) (h : ah_T) : Prop :=
  h.1 = sh_L ∧ isS s ∧ h.2.2.2 0 3 = some (97 - s) ∧ h.2.2.2 2 5 = some s ∧ (h.2.2.2 3 6 = some 8 ∨ h.2.2.2 3 6 = some 1) ∧ (∀ q ∈ rf_L, h.2.2.2 q.1 q.2.1 = some q.2.2) ∧ (∀ a k, a < 170 → (rg a k).1 ≤ h.2.1 a k ∧ h.2.1 a k ≤ (rg a k).2) ∧ sem h
def same3 (h0 h : ah_T) (a : Nat) : Prop := h.2.1 a = h0.2.1 a ∧ h.2.2.1 a = h0.2.2.1 a ∧ h.2.2.2 a = h0.2.2.2 a
def kF (F : Nat → Prop) (s : Nat) (h0 h : ah_T) : Prop := xi s h ∧ ∀ a, F a → same3 h0 h a
abbrev FA : Nat → Prop := fun a => (17 ≤ a ∧ a < 143) ∨ 170 ≤ a
abbrev FC : Nat → Prop := fun a => a < 143 ∨ 170 ≤ a
abbrev FB (s : Nat) : Nat → Prop := fun a => (97 - s ≤ a ∧ a ≤ 159 - s) ∨ 170 ≤ a
theorem kF_0 {F : Nat → Prop} {s : Nat} {h : ah_T} (hx : xi s h) : kF F s h h := ⟨hx, fun _ _ => ⟨rfl, rfl, rfl⟩⟩
theorem kF_is {F : Nat → Prop} {s a k : Nat} {z : Int} {h0 h : ah_T} (hk : kF F s h0 h) (ha : ¬ F a) (hn : sem (st_i h a k z)) {q : Int × Int} (hq : rg a k = q) (hz : q.1 ≤ z ∧ z ≤ q.2) : kF F s h0 (st_i h a k z) := by
  obtain ⟨⟨x1, x2, x3, x4, x5, x6, x7, x8⟩, hf⟩ := hk
  refine ⟨⟨x1, x2, x3, x4, x5, x6, fun x y hx => ?_, hn⟩, fun x hx => ⟨(up2_n (fun (e : x = a) => ha (e ▸ hx))).trans (hf x hx).1, (hf x hx).2⟩⟩
  show (rg x y).1 ≤ up2 h.2.1 a k z x y ∧ up2 h.2.1 a k z x y ≤ (rg x y).2
  by_cases hc : x = a ∧ y = k
  · obtain ⟨rfl, rfl⟩ := hc
    rw [up2_at, hq]
    exact hz
  · rw [up2_o hc]
    exact x7 x y hx
theorem kF_i {F : Nat → Prop} {s a k : Nat} {z : Int} {h0 h : ah_T} (hk : kF F s h0 h) (ha : ¬ F a) (hn : ns a k) {q : Int × Int} (hq : rg a k = q) (hz : q.1 ≤ z ∧ z ≤ q.2) : kF F s h0 (st_i h a k z) := kF_is hk ha (sem_i hk.1.2.2.2.2.2.2.2 hn) hq hz
theorem kF_ls {F : Nat → Prop} {s a k : Nat} {z : Int} {h0 h : ah_T} (hk : kF F s h0 h) (ha : ¬ F a) (hn : sem (st_l h a k z)) : kF F s h0 (st_l h a k z) := by
  obtain ⟨⟨x1, x2, x3, x4, x5, x6, x7, x8⟩, hf⟩ := hk
  exact ⟨⟨x1, x2, x3, x4, x5, x6, x7, hn⟩, fun x hx => ⟨(hf x hx).1, (up2_n (fun (e : x = a) => ha (e ▸ hx))).trans (hf x hx).2.1, (hf x hx).2.2⟩⟩
theorem kF_l {F : Nat → Prop} {s a k : Nat} {z : Int} {h0 h : ah_T} (hk : kF F s h0 h) (ha : ¬ F a) (hn : nl a) : kF F s h0 (st_l h a k z) := kF_ls hk ha (sem_l hk.1.2.2.2.2.2.2.2 hn)
theorem kF_sem {F : Nat → Prop} {s : Nat} {h0 h : ah_T} (hk : kF F s h0 h) : sem h := hk.1.2.2.2.2.2.2.2
theorem xi_sem {s : Nat} {h : ah_T} (hx : xi s h) : sem h := hx.2.2.2.2.2.2.2
theorem kF_t {F F' : Nat → Prop} {s : Nat} {h0 h h' : ah_T} (hk : kF F s h0 h) (hk' : kF F' s h h') (hF : ∀ a, F a → F' a) : kF F s h0 h' :=
  ⟨hk'.1, fun x hx => ⟨(hk'.2 x (hF x hx)).1.trans (hk.2 x hx).1, (hk'.2 x (hF x hx)).2.1.trans (hk.2 x hx).2.1, (hk'.2 x (hF x hx)).2.2.trans (hk.2 x hx).2.2⟩⟩
theorem kF_r36 {F : Nat → Prop} {s : Nat} {h0 h : ah_T} (hk : kF F s h0 h) (ha : ¬ F 3) : kF F s h0 (st_r h 3 6 (some 1)) := by
  obtain ⟨⟨x1, x2, x3, x4, x5, x6, x7, x8⟩, hf⟩ := hk
  have key : ∀ a k, ¬ (a = 3 ∧ k = 6) → (st_r h 3 6 (some 1)).2.2.2 a k = h.2.2.2 a k := fun a k q => up2_o q
  refine ⟨⟨x1, x2, (key 0 3 (by decide)).trans x3, (key 2 5 (by decide)).trans x4, Or.inr (by simp [st_r, up2]), fun q hq => ?_, x7, x8⟩, fun x hx => ⟨(hf x hx).1, (hf x hx).2.1, ?_⟩⟩
  · have h9 : ∀ q ∈ rf_L, ¬ (q.1 = 3 ∧ q.2.1 = 6) := by decide +kernel
    rw [key _ _ (h9 q hq)]
    exact x6 q hq
  · funext k
    rw [key x k (fun q => ha (q.1 ▸ hx))]
    exact congrFun (hf x hx).2.2 k
theorem FC_B {s : Nat} (hs : isS s) : ∀ a, FB s a → FC a := by unfold isS at hs; intro a ha; omega
theorem FB_A {s : Nat} (hs : isS s) : ∀ a, FB s a → FA a := by unfold isS at hs; intro a ha; omega
theorem xi_s {s : Nat} {h : ah_T} (hx : xi s h) {a : Nat} {v : Nat × Nat} (hv : sh_L[a]? = some v) : h.1[a]? = some v := by rw [hx.1]; exact hv
theorem xi_r {s : Nat} {h : ah_T} (hx : xi s h) {a k b : Nat} (hm : (a, k, b) ∈ rf_L) : h.2.2.2 a k = some b := hx.2.2.2.2.2.1 _ hm
theorem xi_g {s : Nat} {h : ah_T} (hx : xi s h) {a k : Nat} (ha : a < 170) {lo hi : Int} (hr : rg a k = (lo, hi)) : lo ≤ h.2.1 a k ∧ h.2.1 a k ≤ hi := by
  have h1 := hx.2.2.2.2.2.2.1 a k ha
  rw [hr] at h1
  exact h1

theorem xs_V {s v : Nat} {h : ah_T} (hx : xi s h) (hv : isV v) : h.1[v]? = some (10 + 4, 17) := by
  refine xi_s hx ?_
  rcases hv with rfl | rfl | rfl | rfl | rfl | rfl | rfl | rfl <;> rfl
theorem xs_V_0 {s v : Nat} {h : ah_T} (hx : xi s h) (hv : isV v) : h.1[v + 1]? = some (0, 300) := by
  refine xi_s hx ?_
  rcases hv with rfl | rfl | rfl | rfl | rfl | rfl | rfl | rfl <;> rfl
theorem xr_V_0 {s v : Nat} {h : ah_T} (hx : xi s h) (hv : isV v) : h.2.2.2 v 0 = some (v + 1) := by
  rcases hv with rfl | rfl | rfl | rfl | rfl | rfl | rfl | rfl <;> exact xi_r hx (by decide)
theorem rg_V_0 {v : Nat} (hv : isV v) (k : Nat) : rg (v + 1) k = ((-2147483648), 2147483647) := by
  rcases hv with rfl | rfl | rfl | rfl | rfl | rfl | rfl | rfl <;> rfl
theorem xs_V_1 {s v : Nat} {h : ah_T} (hx : xi s h) (hv : isV v) : h.1[v + 2]? = some (0, 300) := by
  refine xi_s hx ?_
  rcases hv with rfl | rfl | rfl | rfl | rfl | rfl | rfl | rfl <;> rfl
theorem xr_V_1 {s v : Nat} {h : ah_T} (hx : xi s h) (hv : isV v) : h.2.2.2 v 1 = some (v + 2) := by
  rcases hv with rfl | rfl | rfl | rfl | rfl | rfl | rfl | rfl <;> exact xi_r hx (by decide)
theorem rg_V_1 {v : Nat} (hv : isV v) (k : Nat) : rg (v + 2) k = ((-2147483648), 2147483647) := by
  rcases hv with rfl | rfl | rfl | rfl | rfl | rfl | rfl | rfl <;> rfl
theorem rg_V_2 {v : Nat} (hv : isV v) : rg v 2 = (0, 300) := by
  rcases hv with rfl | rfl | rfl | rfl | rfl | rfl | rfl | rfl <;> rfl
theorem xs_V_3 {s v : Nat} {h : ah_T} (hx : xi s h) (hv : isV v) : h.1[v + 3]? = some (0, 301) := by
  refine xi_s hx ?_
  rcases hv with rfl | rfl | rfl | rfl | rfl | rfl | rfl | rfl <;> rfl
theorem xr_V_3 {s v : Nat} {h : ah_T} (hx : xi s h) (hv : isV v) : h.2.2.2 v 3 = some (v + 3) := by
  rcases hv with rfl | rfl | rfl | rfl | rfl | rfl | rfl | rfl <;> exact xi_r hx (by decide)
theorem rg_V_3 {v : Nat} (hv : isV v) (k : Nat) : rg (v + 3) k = (0, 300) := by
  rcases hv with rfl | rfl | rfl | rfl | rfl | rfl | rfl | rfl <;> rfl
theorem xs_V_4 {s v : Nat} {h : ah_T} (hx : xi s h) (hv : isV v) : h.1[v + 4]? = some (0, 300) := by
  refine xi_s hx ?_
  rcases hv with rfl | rfl | rfl | rfl | rfl | rfl | rfl | rfl <;> rfl
theorem xr_V_4 {s v : Nat} {h : ah_T} (hx : xi s h) (hv : isV v) : h.2.2.2 v 4 = some (v + 4) := by
  rcases hv with rfl | rfl | rfl | rfl | rfl | rfl | rfl | rfl <;> exact xi_r hx (by decide)
theorem rg_V_4 {v : Nat} (hv : isV v) (k : Nat) : rg (v + 4) k = (0, 64) := by
  rcases hv with rfl | rfl | rfl | rfl | rfl | rfl | rfl | rfl <;> rfl
theorem xs_V_5 {s v : Nat} {h : ah_T} (hx : xi s h) (hv : isV v) : h.1[v + 5]? = some (0, 300) := by
  refine xi_s hx ?_
  rcases hv with rfl | rfl | rfl | rfl | rfl | rfl | rfl | rfl <;> rfl
theorem xr_V_5 {s v : Nat} {h : ah_T} (hx : xi s h) (hv : isV v) : h.2.2.2 v 5 = some (v + 5) := by
  rcases hv with rfl | rfl | rfl | rfl | rfl | rfl | rfl | rfl <;> exact xi_r hx (by decide)
theorem rg_V_5 {v : Nat} (hv : isV v) (k : Nat) : rg (v + 5) k = (0, 3) := by
  rcases hv with rfl | rfl | rfl | rfl | rfl | rfl | rfl | rfl <;> rfl
theorem xs_V_6 {s v : Nat} {h : ah_T} (hx : xi s h) (hv : isV v) : h.1[v + 6]? = some (2, 300) := by
  refine xi_s hx ?_
  rcases hv with rfl | rfl | rfl | rfl | rfl | rfl | rfl | rfl <;> rfl
theorem xr_V_6 {s v : Nat} {h : ah_T} (hx : xi s h) (hv : isV v) : h.2.2.2 v 6 = some (v + 6) := by
  rcases hv with rfl | rfl | rfl | rfl | rfl | rfl | rfl | rfl <;> exact xi_r hx (by decide)
theorem rg_V_6 {v : Nat} (hv : isV v) (k : Nat) : rg (v + 6) k = ((-2147483648), 2147483647) := by
  rcases hv with rfl | rfl | rfl | rfl | rfl | rfl | rfl | rfl <;> rfl
theorem rg_V_7 {v : Nat} (hv : isV v) : rg v 7 = (0, 300) := by
  rcases hv with rfl | rfl | rfl | rfl | rfl | rfl | rfl | rfl <;> rfl
theorem xs_V_8 {s v : Nat} {h : ah_T} (hx : xi s h) (hv : isV v) : h.1[v + 7]? = some (0, 300) := by
  refine xi_s hx ?_
  rcases hv with rfl | rfl | rfl | rfl | rfl | rfl | rfl | rfl <;> rfl
theorem xr_V_8 {s v : Nat} {h : ah_T} (hx : xi s h) (hv : isV v) : h.2.2.2 v 8 = some (v + 7) := by
  rcases hv with rfl | rfl | rfl | rfl | rfl | rfl | rfl | rfl <;> exact xi_r hx (by decide)
theorem rg_V_8 {v : Nat} (hv : isV v) (k : Nat) : rg (v + 7) k = (0, 299) := by
  rcases hv with rfl | rfl | rfl | rfl | rfl | rfl | rfl | rfl <;> rfl
theorem xs_V_9 {s v : Nat} {h : ah_T} (hx : xi s h) (hv : isV v) : h.1[v + 8]? = some (0, 300) := by
  refine xi_s hx ?_
  rcases hv with rfl | rfl | rfl | rfl | rfl | rfl | rfl | rfl <;> rfl
theorem xr_V_9 {s v : Nat} {h : ah_T} (hx : xi s h) (hv : isV v) : h.2.2.2 v 9 = some (v + 8) := by
  rcases hv with rfl | rfl | rfl | rfl | rfl | rfl | rfl | rfl <;> exact xi_r hx (by decide)
theorem rg_V_9 {v : Nat} (hv : isV v) (k : Nat) : rg (v + 8) k = ((-2147483648), 2147483647) := by
  rcases hv with rfl | rfl | rfl | rfl | rfl | rfl | rfl | rfl <;> rfl
theorem xs_V_10 {s v : Nat} {h : ah_T} (hx : xi s h) (hv : isV v) : h.1[v + 9]? = some (1, 301) := by
  refine xi_s hx ?_
  rcases hv with rfl | rfl | rfl | rfl | rfl | rfl | rfl | rfl <;> rfl
theorem xr_V_10 {s v : Nat} {h : ah_T} (hx : xi s h) (hv : isV v) : h.2.2.2 v 10 = some (v + 9) := by
  rcases hv with rfl | rfl | rfl | rfl | rfl | rfl | rfl | rfl <;> exact xi_r hx (by decide)
theorem xs_V_11 {s v : Nat} {h : ah_T} (hx : xi s h) (hv : isV v) : h.1[v + 10]? = some (1, 301) := by
  refine xi_s hx ?_
  rcases hv with rfl | rfl | rfl | rfl | rfl | rfl | rfl | rfl <;> rfl
theorem xr_V_11 {s v : Nat} {h : ah_T} (hx : xi s h) (hv : isV v) : h.2.2.2 v 11 = some (v + 10) := by
  rcases hv with rfl | rfl | rfl | rfl | rfl | rfl | rfl | rfl <;> exact xi_r hx (by decide)
theorem xs_V_12 {s v : Nat} {h : ah_T} (hx : xi s h) (hv : isV v) : h.1[v + 11]? = some (1, 300) := by
  refine xi_s hx ?_
  rcases hv with rfl | rfl | rfl | rfl | rfl | rfl | rfl | rfl <;> rfl
theorem xr_V_12 {s v : Nat} {h : ah_T} (hx : xi s h) (hv : isV v) : h.2.2.2 v 12 = some (v + 11) := by
  rcases hv with rfl | rfl | rfl | rfl | rfl | rfl | rfl | rfl <;> exact xi_r hx (by decide)
theorem xs_V_13 {s v : Nat} {h : ah_T} (hx : xi s h) (hv : isV v) : h.1[v + 12]? = some (1, 300) := by
  refine xi_s hx ?_
  rcases hv with rfl | rfl | rfl | rfl | rfl | rfl | rfl | rfl <;> rfl
theorem xr_V_13 {s v : Nat} {h : ah_T} (hx : xi s h) (hv : isV v) : h.2.2.2 v 13 = some (v + 12) := by
  rcases hv with rfl | rfl | rfl | rfl | rfl | rfl | rfl | rfl <;> exact xi_r hx (by decide)
theorem rg_V_14 {v : Nat} (hv : isV v) : rg v 14 = (0, 300) := by
  rcases hv with rfl | rfl | rfl | rfl | rfl | rfl | rfl | rfl <;> rfl
theorem xs_V_15 {s v : Nat} {h : ah_T} (hx : xi s h) (hv : isV v) : h.1[v + 13]? = some (0, 102) := by
  refine xi_s hx ?_
  rcases hv with rfl | rfl | rfl | rfl | rfl | rfl | rfl | rfl <;> rfl
theorem xr_V_15 {s v : Nat} {h : ah_T} (hx : xi s h) (hv : isV v) : h.2.2.2 v 15 = some (v + 13) := by
  rcases hv with rfl | rfl | rfl | rfl | rfl | rfl | rfl | rfl <;> exact xi_r hx (by decide)
theorem rg_V_15 {v : Nat} (hv : isV v) (k : Nat) : rg (v + 13) k = (0, 300) := by
  rcases hv with rfl | rfl | rfl | rfl | rfl | rfl | rfl | rfl <;> rfl
theorem rg_V_16 {v : Nat} (hv : isV v) : rg v 16 = (0, 101) := by
  rcases hv with rfl | rfl | rfl | rfl | rfl | rfl | rfl | rfl <;> rfl
theorem lt_V {v : Nat} (hv : isV v) : v < 130 ∧ 17 ≤ v := by unfold isV at hv; omega
theorem xs_S {s v : Nat} {h : ah_T} (hx : xi s h) (hv : isS v) : h.1[v]? = some (6 + 4, 13) := by
  refine xi_s hx ?_
  rcases hv with rfl | rfl <;> rfl
theorem xs_S_0 {s v : Nat} {h : ah_T} (hx : xi s h) (hv : isS v) : h.1[v + 1]? = some (3, 4) := by
  refine xi_s hx ?_
  rcases hv with rfl | rfl <;> rfl
theorem xr_S_0 {s v : Nat} {h : ah_T} (hx : xi s h) (hv : isS v) : h.2.2.2 v 0 = some (v + 1) := by
  rcases hv with rfl | rfl <;> exact xi_r hx (by decide)
theorem rg_S_1 {v : Nat} (hv : isS v) : rg v 1 = (0, 4) := by
  rcases hv with rfl | rfl <;> rfl
theorem rg_S_2 {v : Nat} (hv : isS v) : rg v 2 = ((-2147483648), 2147483647) := by
  rcases hv with rfl | rfl <;> rfl
theorem rg_S_3 {v : Nat} (hv : isS v) : rg v 3 = ((-2147483648), 2147483647) := by
  rcases hv with rfl | rfl <;> rfl
theorem rg_S_4 {v : Nat} (hv : isS v) : rg v 4 = ((-2147483648), 2147483647) := by
  rcases hv with rfl | rfl <;> rfl
theorem xs_S_5 {s v : Nat} {h : ah_T} (hx : xi s h) (hv : isS v) : h.1[v + 2]? = some (0, 8) := by
  refine xi_s hx ?_
  rcases hv with rfl | rfl <;> rfl
theorem xr_S_5 {s v : Nat} {h : ah_T} (hx : xi s h) (hv : isS v) : h.2.2.2 v 5 = some (v + 2) := by
  rcases hv with rfl | rfl <;> exact xi_r hx (by decide)
theorem rg_S_5 {v : Nat} (hv : isS v) (k : Nat) : rg (v + 2) k = ((-2147483648), 2147483647) := by
  rcases hv with rfl | rfl <;> rfl
theorem rg_S_6 {v : Nat} (hv : isS v) : rg v 6 = (0, 8) := by
  rcases hv with rfl | rfl <;> rfl
theorem xs_S_7 {s v : Nat} {h : ah_T} (hx : xi s h) (hv : isS v) : h.1[v + 3]? = some (0, 24) := by
  refine xi_s hx ?_
  rcases hv with rfl | rfl <;> rfl
theorem xr_S_7 {s v : Nat} {h : ah_T} (hx : xi s h) (hv : isS v) : h.2.2.2 v 7 = some (v + 3) := by
  rcases hv with rfl | rfl <;> exact xi_r hx (by decide)
theorem rg_S_7 {v : Nat} (hv : isS v) (k : Nat) : rg (v + 3) k = ((-2147483648), 2147483647) := by
  rcases hv with rfl | rfl <;> rfl
theorem xs_S_8 {s v : Nat} {h : ah_T} (hx : xi s h) (hv : isS v) : h.1[v + 4]? = some (0, 24) := by
  refine xi_s hx ?_
  rcases hv with rfl | rfl <;> rfl
theorem xr_S_8 {s v : Nat} {h : ah_T} (hx : xi s h) (hv : isS v) : h.2.2.2 v 8 = some (v + 4) := by
  rcases hv with rfl | rfl <;> exact xi_r hx (by decide)
theorem rg_S_8 {v : Nat} (hv : isS v) (k : Nat) : rg (v + 4) k = ((-2147483648), 2147483647) := by
  rcases hv with rfl | rfl <;> rfl
theorem xs_S_9 {s v : Nat} {h : ah_T} (hx : xi s h) (hv : isS v) : h.1[v + 5]? = some (0, 24) := by
  refine xi_s hx ?_
  rcases hv with rfl | rfl <;> rfl
theorem xr_S_9 {s v : Nat} {h : ah_T} (hx : xi s h) (hv : isS v) : h.2.2.2 v 9 = some (v + 5) := by
  rcases hv with rfl | rfl <;> exact xi_r hx (by decide)
theorem rg_S_9 {v : Nat} (hv : isS v) (k : Nat) : rg (v + 5) k = ((-2147483648), 2147483647) := by
  rcases hv with rfl | rfl <;> rfl
theorem rg_S_10 {v : Nat} (hv : isS v) : rg v 10 = (0, 24) := by
  rcases hv with rfl | rfl <;> rfl
theorem xs_S_11 {s v : Nat} {h : ah_T} (hx : xi s h) (hv : isS v) : h.1[v + 6]? = some (0, 12) := by
  refine xi_s hx ?_
  rcases hv with rfl | rfl <;> rfl
theorem xr_S_11 {s v : Nat} {h : ah_T} (hx : xi s h) (hv : isS v) : h.2.2.2 v 11 = some (v + 6) := by
  rcases hv with rfl | rfl <;> exact xi_r hx (by decide)
theorem rg_S_11 {v : Nat} (hv : isS v) (k : Nat) : rg (v + 6) k = ((-2147483648), 2147483647) := by
  rcases hv with rfl | rfl <;> rfl
theorem rg_S_12 {v : Nat} (hv : isS v) : rg v 12 = (0, 12) := by
  rcases hv with rfl | rfl <;> rfl
theorem lt_S {v : Nat} (hv : isS v) : v < 130 ∧ 17 ≤ v := by unfold isS at hv; omega
theorem xr_Sv {s t : Nat} {h : ah_T} (hx : xi s h) (ht : isS t) {i : Int} (h0 : 0 ≤ i) (h1 : i < 4) : ∃ v, h.2.2.2 (t + 1) i.toNat = some v ∧ tV t v := by
  have hi : i = 0 ∨ i = 1 ∨ i = 2 ∨ i = 3 := by omega
  rcases ht with rfl | rfl <;> rcases hi with rfl | rfl | rfl | rfl
  · exact ⟨24, xi_r hx (by decide), by unfold tV; omega⟩
  · exact ⟨38, xi_r hx (by decide), by unfold tV; omega⟩
  · exact ⟨52, xi_r hx (by decide), by unfold tV; omega⟩
  · exact ⟨66, xi_r hx (by decide), by unfold tV; omega⟩
  · exact ⟨87, xi_r hx (by decide), by unfold tV; omega⟩
  · exact ⟨101, xi_r hx (by decide), by unfold tV; omega⟩
  · exact ⟨115, xi_r hx (by decide), by unfold tV; omega⟩
  · exact ⟨129, xi_r hx (by decide), by unfold tV; omega⟩

theorem up_F {a k : Nat} : True := trivial
def pt_I (h hc : ah_T) (i : Int) : Prop := (∀ k : Nat, k < 4 → (k : Int) < i → hc.2.1 155 k ≤ h.2.1 155 k + 1) ∧ ∀ k : Nat, k < 4 → i ≤ (k : Int) → hc.2.1 155 k = h.2.1 155 k
theorem pt_0 {h : ah_T} : pt_I h h 0 := ⟨fun k _ q => by omega, fun k _ _ => rfl⟩
theorem pt_n {h hc : ah_T} {i : Int} (H : pt_I h hc i) (h0 : 0 ≤ i) : pt_I h hc (i + 1) :=
  ⟨fun k hk q => by
    by_cases hi : (k : Int) < i
    · exact H.1 k hk hi
    · have := H.2 k hk (by omega); omega, fun k hk q => H.2 k hk (by omega)⟩
theorem pt_1 {h hc h1 h2 : ah_T} {i x : Int} (H : pt_I h hc i) (h0 : 0 ≤ i ∧ i < 4) (ex : x = hc.2.1 155 i.toNat) (fr : ∀ a' k', (a' = 155 → k' ≠ i.toNat) → h1.2.1 a' k' = hc.2.1 a' k') (ev : h1.2.1 155 i.toNat = x + 1) (e2 : h2.2.1 155 = h1.2.1 155) : pt_I h h2 (i + 1) := by
  refine ⟨fun k hk q => ?_, fun k hk q => ?_⟩
  · rw [e2]
    by_cases hi : k = i.toNat
    · subst hi; rw [ev, ex, H.2 _ hk (by omega)]; omega
    · rw [fr 155 k (fun _ => hi)]; exact H.1 k hk (by omega)
  · rw [e2, fr 155 k (fun _ => by omega)]; exact H.2 k hk (by omega)
theorem pt_e {h hc : ah_T} {i : Int} (H : pt_I h hc i) (h0 : 4 ≤ i) : ∀ k : Nat, k < 4 → hc.2.1 155 k ≤ h.2.1 155 k + 1 := fun k hk => H.1 k hk (by omega)
def ti_I (hc : ah_T) (i : Int) : Prop := ∀ k : Nat, k < 4 → (k : Int) < i → hc.2.1 155 k ≤ 300
theorem ti_0 {h : ah_T} : ti_I h 0 := fun k _ q => by omega
theorem ti_1 {hc h1 h2 : ah_T} {i x : Int} (H : ti_I hc i) (h0 : 0 ≤ i) (fr : ∀ a' k', (a' = 155 → k' ≠ i.toNat) → h1.2.1 a' k' = hc.2.1 a' k') (ev : h1.2.1 155 i.toNat = x) (hx : x ≤ 300) (e2 : h2.2.1 155 = h1.2.1 155) : ti_I h2 (i + 1) := by
  intro k hk q
  rw [e2]
  by_cases hi : k = i.toNat
  · subst hi; rw [ev]; exact hx
  · rw [fr 155 k (fun _ => hi)]; exact H k hk (by omega)
/-! ===== small facts for the walks ===== -/
theorem isS_o {s : Nat} (h : isS s) : isS (97 - s) := by unfold isS at *; omega
theorem lt1_V {v : Nat} (hv : isV v) : v < 170 := by unfold isV at hv; omega
theorem lt1_S {v : Nat} (hv : isS v) : v < 170 := by unfold isS at hv; omega
theorem lt2_V {v k : Nat} (hv : isV v) (hk : k < 40) : v + k < 170 := by unfold isV at hv; omega
theorem lt2_S {v k : Nat} (hv : isS v) (hk : k < 40) : v + k < 170 := by unfold isS at hv; omega
theorem kF_j {F : Nat → Prop} {s a k : Nat} {z lo hi : Int} {h0 h : ah_T} (hk : kF F s h0 h) (ha : ¬ F a) (hn : ns a k) (hq : rg a k = (lo, hi)) (h1 : lo ≤ z) (h2 : z ≤ hi) : kF F s h0 (st_i h a k z) := kF_i hk ha hn hq ⟨h1, h2⟩
theorem kF_js {F : Nat → Prop} {s a k : Nat} {z lo hi : Int} {h0 h : ah_T} (hk : kF F s h0 h) (ha : ¬ F a) (hn : sem (st_i h a k z)) (hq : rg a k = (lo, hi)) (h1 : lo ≤ z) (h2 : z ≤ hi) : kF F s h0 (st_i h a k z) := kF_is hk ha hn hq ⟨h1, h2⟩
