/-! ===== the class's methods, 22b ===== -/
def m_Score_clear : mr_T := (⟨"PlainMusic$Score", "clear", "()V"⟩, prog_8_method_2_code, 1, none)
theorem d_Score_clear_0 : decode prog_8_method_2_code 0 = .ok (.aload_n 0, 1) := by decide +kernel
theorem d_Score_clear_1 : decode prog_8_method_2_code 1 = .ok (.iconst 0, 1) := by decide +kernel
theorem d_Score_clear_2 : decode prog_8_method_2_code 2 = .ok (.putfield 41, 3) := by decide +kernel
theorem f_Score_41 : fl_OK "PlainMusic$Score" 41 6 1 .int false := ⟨_, rfl, by decide, (gw_in 351 (by decide +kernel) (by decide +kernel)), rfl, rfl⟩
theorem d_Score_clear_5 : decode prog_8_method_2_code 5 = .ok (.aload_n 0, 1) := by decide +kernel
theorem d_Score_clear_6 : decode prog_8_method_2_code 6 = .ok (.iconst 4, 1) := by decide +kernel
theorem d_Score_clear_7 : decode prog_8_method_2_code 7 = .ok (.putfield 17, 3) := by decide +kernel
theorem d_Score_clear_10 : decode prog_8_method_2_code 10 = .ok (.aload_n 0, 1) := by decide +kernel
theorem d_Score_clear_11 : decode prog_8_method_2_code 11 = .ok (.iconst 4, 1) := by decide +kernel
theorem d_Score_clear_12 : decode prog_8_method_2_code 12 = .ok (.putfield 21, 3) := by decide +kernel
theorem d_Score_clear_15 : decode prog_8_method_2_code 15 = .ok (.aload_n 0, 1) := by decide +kernel
theorem d_Score_clear_16 : decode prog_8_method_2_code 16 = .ok (.iconst 0, 1) := by decide +kernel
theorem d_Score_clear_17 : decode prog_8_method_2_code 17 = .ok (.putfield 44, 3) := by decide +kernel
theorem f_Score_44 : fl_OK "PlainMusic$Score" 44 6 4 .boolean false := ⟨_, rfl, by decide, (gw_in 361 (by decide +kernel) (by decide +kernel)), rfl, rfl⟩
theorem d_Score_clear_20 : decode prog_8_method_2_code 20 = .ok (.aload_n 0, 1) := by decide +kernel
theorem d_Score_clear_21 : decode prog_8_method_2_code 21 = .ok (.iconst 0, 1) := by decide +kernel
theorem d_Score_clear_22 : decode prog_8_method_2_code 22 = .ok (.putfield 48, 3) := by decide +kernel
theorem f_Score_48 : fl_OK "PlainMusic$Score" 48 6 6 .int false := ⟨_, rfl, by decide, (gw_in 365 (by decide +kernel) (by decide +kernel)), rfl, rfl⟩
theorem d_Score_clear_25 : decode prog_8_method_2_code 25 = .ok (.aload_n 0, 1) := by decide +kernel
theorem d_Score_clear_26 : decode prog_8_method_2_code 26 = .ok (.iconst 0, 1) := by decide +kernel
theorem d_Score_clear_27 : decode prog_8_method_2_code 27 = .ok (.putfield 51, 3) := by decide +kernel
theorem f_Score_51 : fl_OK "PlainMusic$Score" 51 6 10 .int false := ⟨_, rfl, by decide, (gw_in 375 (by decide +kernel) (by decide +kernel)), rfl, rfl⟩
theorem d_Score_clear_30 : decode prog_8_method_2_code 30 = .ok (.aload_n 0, 1) := by decide +kernel
theorem d_Score_clear_31 : decode prog_8_method_2_code 31 = .ok (.iconst 0, 1) := by decide +kernel
theorem d_Score_clear_32 : decode prog_8_method_2_code 32 = .ok (.putfield 54, 3) := by decide +kernel
theorem f_Score_54 : fl_OK "PlainMusic$Score" 54 6 12 .int false := ⟨_, rfl, by decide, (gw_in 381 (by decide +kernel) (by decide +kernel)), rfl, rfl⟩
theorem d_Score_clear_35 : decode prog_8_method_2_code 35 = .ok (.return_, 1) := by decide +kernel
def m_Score_setTime : mr_T := (⟨"PlainMusic$Score", "setTime", "(II)V"⟩, prog_8_method_3_code, 3, none)
theorem d_Score_setTime_0 : decode prog_8_method_3_code 0 = .ok (.aload_n 0, 1) := by decide +kernel
theorem d_Score_setTime_1 : decode prog_8_method_3_code 1 = .ok (.iconst 1, 1) := by decide +kernel
theorem d_Score_setTime_2 : decode prog_8_method_3_code 2 = .ok (.putfield 44, 3) := by decide +kernel
theorem d_Score_setTime_5 : decode prog_8_method_3_code 5 = .ok (.aload_n 0, 1) := by decide +kernel
theorem d_Score_setTime_6 : decode prog_8_method_3_code 6 = .ok (.iload_n 1, 1) := by decide +kernel
theorem d_Score_setTime_7 : decode prog_8_method_3_code 7 = .ok (.putfield 17, 3) := by decide +kernel
theorem d_Score_setTime_10 : decode prog_8_method_3_code 10 = .ok (.aload_n 0, 1) := by decide +kernel
theorem d_Score_setTime_11 : decode prog_8_method_3_code 11 = .ok (.iload_n 2, 1) := by decide +kernel
theorem d_Score_setTime_12 : decode prog_8_method_3_code 12 = .ok (.putfield 21, 3) := by decide +kernel
theorem d_Score_setTime_15 : decode prog_8_method_3_code 15 = .ok (.return_, 1) := by decide +kernel
def m_Score_voiceAt : mr_T := (⟨"PlainMusic$Score", "voiceAt", "(I)LPlainMusic$Voice;"⟩, prog_8_method_5_code, 2, some (.object "PlainMusic$Voice"))
theorem d_Score_voiceAt_0 : decode prog_8_method_5_code 0 = .ok (.iload_n 1, 1) := by decide +kernel
theorem d_Score_voiceAt_1 : decode prog_8_method_5_code 1 = .ok (.ifCond .lt 29, 3) := by decide +kernel
theorem d_Score_voiceAt_30 : decode prog_8_method_5_code 30 = .ok (.aconst_null, 1) := by decide +kernel
theorem d_Score_voiceAt_31 : decode prog_8_method_5_code 31 = .ok (.areturn, 1) := by decide +kernel
theorem d_Score_voiceAt_4 : decode prog_8_method_5_code 4 = .ok (.iload_n 1, 1) := by decide +kernel
theorem d_Score_voiceAt_5 : decode prog_8_method_5_code 5 = .ok (.aload_n 0, 1) := by decide +kernel
theorem d_Score_voiceAt_6 : decode prog_8_method_5_code 6 = .ok (.getfield 41, 3) := by decide +kernel
theorem d_Score_voiceAt_9 : decode prog_8_method_5_code 9 = .ok (.if_icmp .ge 21, 3) := by decide +kernel
theorem d_Score_voiceAt_12 : decode prog_8_method_5_code 12 = .ok (.iload_n 1, 1) := by decide +kernel
theorem d_Score_voiceAt_13 : decode prog_8_method_5_code 13 = .ok (.aload_n 0, 1) := by decide +kernel
theorem d_Score_voiceAt_14 : decode prog_8_method_5_code 14 = .ok (.getfield 11, 3) := by decide +kernel
theorem d_Score_voiceAt_17 : decode prog_8_method_5_code 17 = .ok (.arraylength, 1) := by decide +kernel
theorem d_Score_voiceAt_18 : decode prog_8_method_5_code 18 = .ok (.if_icmp .ge 12, 3) := by decide +kernel
theorem d_Score_voiceAt_21 : decode prog_8_method_5_code 21 = .ok (.aload_n 0, 1) := by decide +kernel
theorem d_Score_voiceAt_22 : decode prog_8_method_5_code 22 = .ok (.getfield 11, 3) := by decide +kernel
theorem d_Score_voiceAt_25 : decode prog_8_method_5_code 25 = .ok (.iload_n 1, 1) := by decide +kernel
theorem d_Score_voiceAt_26 : decode prog_8_method_5_code 26 = .ok (.aaload, 1) := by decide +kernel
theorem d_Score_voiceAt_27 : decode prog_8_method_5_code 27 = .ok (.goto 4, 3) := by decide +kernel
def m_Score_newVoice : mr_T := (⟨"PlainMusic$Score", "newVoice", "()LPlainMusic$Voice;"⟩, prog_8_method_4_code, 2, some (.object "PlainMusic$Voice"))
theorem d_Score_newVoice_0 : decode prog_8_method_4_code 0 = .ok (.aload_n 0, 1) := by decide +kernel
theorem d_Score_newVoice_1 : decode prog_8_method_4_code 1 = .ok (.getfield 41, 3) := by decide +kernel
theorem d_Score_newVoice_4 : decode prog_8_method_4_code 4 = .ok (.aload_n 0, 1) := by decide +kernel
theorem d_Score_newVoice_5 : decode prog_8_method_4_code 5 = .ok (.getfield 11, 3) := by decide +kernel
theorem d_Score_newVoice_8 : decode prog_8_method_4_code 8 = .ok (.arraylength, 1) := by decide +kernel
theorem d_Score_newVoice_9 : decode prog_8_method_4_code 9 = .ok (.if_icmp .lt 5, 3) := by decide +kernel
theorem d_Score_newVoice_14 : decode prog_8_method_4_code 14 = .ok (.aload_n 0, 1) := by decide +kernel
theorem d_Score_newVoice_15 : decode prog_8_method_4_code 15 = .ok (.dup, 1) := by decide +kernel
theorem d_Score_newVoice_16 : decode prog_8_method_4_code 16 = .ok (.getfield 41, 3) := by decide +kernel
theorem d_Score_newVoice_19 : decode prog_8_method_4_code 19 = .ok (.iconst 1, 1) := by decide +kernel
theorem d_Score_newVoice_20 : decode prog_8_method_4_code 20 = .ok (.iadd, 1) := by decide +kernel
theorem d_Score_newVoice_21 : decode prog_8_method_4_code 21 = .ok (.putfield 41, 3) := by decide +kernel
theorem d_Score_newVoice_24 : decode prog_8_method_4_code 24 = .ok (.aload_n 0, 1) := by decide +kernel
theorem d_Score_newVoice_25 : decode prog_8_method_4_code 25 = .ok (.getfield 11, 3) := by decide +kernel
theorem d_Score_newVoice_28 : decode prog_8_method_4_code 28 = .ok (.aload_n 0, 1) := by decide +kernel
theorem d_Score_newVoice_29 : decode prog_8_method_4_code 29 = .ok (.getfield 41, 3) := by decide +kernel
theorem d_Score_newVoice_32 : decode prog_8_method_4_code 32 = .ok (.iconst 1, 1) := by decide +kernel
theorem d_Score_newVoice_33 : decode prog_8_method_4_code 33 = .ok (.isub, 1) := by decide +kernel
theorem d_Score_newVoice_34 : decode prog_8_method_4_code 34 = .ok (.aaload, 1) := by decide +kernel
theorem d_Score_newVoice_35 : decode prog_8_method_4_code 35 = .ok (.astore_n 1, 1) := by decide +kernel
theorem d_Score_newVoice_36 : decode prog_8_method_4_code 36 = .ok (.aload_n 1, 1) := by decide +kernel
theorem d_Score_newVoice_37 : decode prog_8_method_4_code 37 = .ok (.ifnull 7, 3) := by decide +kernel
theorem d_Score_newVoice_40 : decode prog_8_method_4_code 40 = .ok (.aload_n 1, 1) := by decide +kernel
theorem d_Score_newVoice_41 : decode prog_8_method_4_code 41 = .ok (.invokevirtual 57, 3) := by decide +kernel
theorem k_Voice_clear : mt_OK m_Voice_clear 0 1 := ⟨(gw_in 858 (by decide +kernel) (by decide +kernel)), (gw_in 139 (by decide +kernel) (by decide +kernel)), ⟨by decide +kernel, by decide +kernel, by decide +kernel⟩, fun h => absurd h (by decide), fun _ => ⟨(gw_in 856 (by decide +kernel) (by decide +kernel)), (gw_in 857 (by decide +kernel) (by decide +kernel))⟩, fun h => absurd h (by decide)⟩
theorem l_Score_57 : ml_OK "PlainMusic$Score" 57 ⟨"PlainMusic$Voice", "clear", "()V"⟩ := Or.inl (gw_in 855 (by decide +kernel) (by decide +kernel))
theorem d_Score_newVoice_44 : decode prog_8_method_4_code 44 = .ok (.aload_n 1, 1) := by decide +kernel
theorem d_Score_newVoice_45 : decode prog_8_method_4_code 45 = .ok (.areturn, 1) := by decide +kernel
theorem d_Score_newVoice_12 : decode prog_8_method_4_code 12 = .ok (.aconst_null, 1) := by decide +kernel
theorem d_Score_newVoice_13 : decode prog_8_method_4_code 13 = .ok (.areturn, 1) := by decide +kernel
def m_Score_addToLine : mr_T := (⟨"PlainMusic$Score", "addToLine", "(I)Z"⟩, prog_8_method_6_code, 2, some .boolean)
theorem d_Score_addToLine_0 : decode prog_8_method_6_code 0 = .ok (.aload_n 0, 1) := by decide +kernel
theorem d_Score_addToLine_1 : decode prog_8_method_6_code 1 = .ok (.getfield 48, 3) := by decide +kernel
theorem d_Score_addToLine_4 : decode prog_8_method_6_code 4 = .ok (.aload_n 0, 1) := by decide +kernel
theorem d_Score_addToLine_5 : decode prog_8_method_6_code 5 = .ok (.getfield 24, 3) := by decide +kernel
theorem d_Score_addToLine_8 : decode prog_8_method_6_code 8 = .ok (.arraylength, 1) := by decide +kernel
theorem d_Score_addToLine_9 : decode prog_8_method_6_code 9 = .ok (.if_icmp .lt 5, 3) := by decide +kernel
theorem d_Score_addToLine_14 : decode prog_8_method_6_code 14 = .ok (.aload_n 0, 1) := by decide +kernel
theorem d_Score_addToLine_15 : decode prog_8_method_6_code 15 = .ok (.getfield 24, 3) := by decide +kernel
theorem d_Score_addToLine_18 : decode prog_8_method_6_code 18 = .ok (.aload_n 0, 1) := by decide +kernel
theorem d_Score_addToLine_19 : decode prog_8_method_6_code 19 = .ok (.getfield 48, 3) := by decide +kernel
theorem d_Score_addToLine_22 : decode prog_8_method_6_code 22 = .ok (.iload_n 1, 1) := by decide +kernel
theorem d_Score_addToLine_23 : decode prog_8_method_6_code 23 = .ok (.iastore, 1) := by decide +kernel
theorem d_Score_addToLine_24 : decode prog_8_method_6_code 24 = .ok (.aload_n 0, 1) := by decide +kernel
theorem d_Score_addToLine_25 : decode prog_8_method_6_code 25 = .ok (.dup, 1) := by decide +kernel
theorem d_Score_addToLine_26 : decode prog_8_method_6_code 26 = .ok (.getfield 48, 3) := by decide +kernel
theorem d_Score_addToLine_29 : decode prog_8_method_6_code 29 = .ok (.iconst 1, 1) := by decide +kernel
theorem d_Score_addToLine_30 : decode prog_8_method_6_code 30 = .ok (.iadd, 1) := by decide +kernel
theorem d_Score_addToLine_31 : decode prog_8_method_6_code 31 = .ok (.putfield 48, 3) := by decide +kernel
theorem d_Score_addToLine_34 : decode prog_8_method_6_code 34 = .ok (.iconst 1, 1) := by decide +kernel
theorem d_Score_addToLine_35 : decode prog_8_method_6_code 35 = .ok (.ireturn, 1) := by decide +kernel
theorem d_Score_addToLine_12 : decode prog_8_method_6_code 12 = .ok (.iconst 0, 1) := by decide +kernel
theorem d_Score_addToLine_13 : decode prog_8_method_6_code 13 = .ok (.ireturn, 1) := by decide +kernel
def m_Score_addRule : mr_T := (⟨"PlainMusic$Score", "addRule", "(III)V"⟩, prog_8_method_7_code, 4, none)
theorem d_Score_addRule_0 : decode prog_8_method_7_code 0 = .ok (.aload_n 0, 1) := by decide +kernel
theorem d_Score_addRule_1 : decode prog_8_method_7_code 1 = .ok (.getfield 51, 3) := by decide +kernel
theorem d_Score_addRule_4 : decode prog_8_method_7_code 4 = .ok (.aload_n 0, 1) := by decide +kernel
theorem d_Score_addRule_5 : decode prog_8_method_7_code 5 = .ok (.getfield 28, 3) := by decide +kernel
theorem d_Score_addRule_8 : decode prog_8_method_7_code 8 = .ok (.arraylength, 1) := by decide +kernel
theorem d_Score_addRule_9 : decode prog_8_method_7_code 9 = .ok (.if_icmp .ge 43, 3) := by decide +kernel
theorem d_Score_addRule_52 : decode prog_8_method_7_code 52 = .ok (.return_, 1) := by decide +kernel
theorem d_Score_addRule_12 : decode prog_8_method_7_code 12 = .ok (.aload_n 0, 1) := by decide +kernel
theorem d_Score_addRule_13 : decode prog_8_method_7_code 13 = .ok (.getfield 28, 3) := by decide +kernel
theorem d_Score_addRule_16 : decode prog_8_method_7_code 16 = .ok (.aload_n 0, 1) := by decide +kernel
theorem d_Score_addRule_17 : decode prog_8_method_7_code 17 = .ok (.getfield 51, 3) := by decide +kernel
theorem d_Score_addRule_20 : decode prog_8_method_7_code 20 = .ok (.iload_n 1, 1) := by decide +kernel
theorem d_Score_addRule_21 : decode prog_8_method_7_code 21 = .ok (.iastore, 1) := by decide +kernel
theorem d_Score_addRule_22 : decode prog_8_method_7_code 22 = .ok (.aload_n 0, 1) := by decide +kernel
theorem d_Score_addRule_23 : decode prog_8_method_7_code 23 = .ok (.getfield 31, 3) := by decide +kernel
theorem d_Score_addRule_26 : decode prog_8_method_7_code 26 = .ok (.aload_n 0, 1) := by decide +kernel
theorem d_Score_addRule_27 : decode prog_8_method_7_code 27 = .ok (.getfield 51, 3) := by decide +kernel
theorem d_Score_addRule_30 : decode prog_8_method_7_code 30 = .ok (.iload_n 2, 1) := by decide +kernel
theorem d_Score_addRule_31 : decode prog_8_method_7_code 31 = .ok (.iastore, 1) := by decide +kernel
theorem d_Score_addRule_32 : decode prog_8_method_7_code 32 = .ok (.aload_n 0, 1) := by decide +kernel
theorem d_Score_addRule_33 : decode prog_8_method_7_code 33 = .ok (.getfield 34, 3) := by decide +kernel
theorem d_Score_addRule_36 : decode prog_8_method_7_code 36 = .ok (.aload_n 0, 1) := by decide +kernel
theorem d_Score_addRule_37 : decode prog_8_method_7_code 37 = .ok (.getfield 51, 3) := by decide +kernel
theorem d_Score_addRule_40 : decode prog_8_method_7_code 40 = .ok (.iload_n 3, 1) := by decide +kernel
theorem d_Score_addRule_41 : decode prog_8_method_7_code 41 = .ok (.iastore, 1) := by decide +kernel
theorem d_Score_addRule_42 : decode prog_8_method_7_code 42 = .ok (.aload_n 0, 1) := by decide +kernel
theorem d_Score_addRule_43 : decode prog_8_method_7_code 43 = .ok (.dup, 1) := by decide +kernel
theorem d_Score_addRule_44 : decode prog_8_method_7_code 44 = .ok (.getfield 51, 3) := by decide +kernel
theorem d_Score_addRule_47 : decode prog_8_method_7_code 47 = .ok (.iconst 1, 1) := by decide +kernel
theorem d_Score_addRule_48 : decode prog_8_method_7_code 48 = .ok (.iadd, 1) := by decide +kernel
theorem d_Score_addRule_49 : decode prog_8_method_7_code 49 = .ok (.putfield 51, 3) := by decide +kernel
def m_Score_addToRow : mr_T := (⟨"PlainMusic$Score", "addToRow", "(I)V"⟩, prog_8_method_8_code, 2, none)
theorem d_Score_addToRow_0 : decode prog_8_method_8_code 0 = .ok (.aload_n 0, 1) := by decide +kernel
theorem d_Score_addToRow_1 : decode prog_8_method_8_code 1 = .ok (.getfield 54, 3) := by decide +kernel
theorem d_Score_addToRow_4 : decode prog_8_method_8_code 4 = .ok (.aload_n 0, 1) := by decide +kernel
theorem d_Score_addToRow_5 : decode prog_8_method_8_code 5 = .ok (.getfield 37, 3) := by decide +kernel
theorem d_Score_addToRow_8 : decode prog_8_method_8_code 8 = .ok (.arraylength, 1) := by decide +kernel
theorem d_Score_addToRow_9 : decode prog_8_method_8_code 9 = .ok (.if_icmp .ge 23, 3) := by decide +kernel
theorem d_Score_addToRow_32 : decode prog_8_method_8_code 32 = .ok (.return_, 1) := by decide +kernel
theorem d_Score_addToRow_12 : decode prog_8_method_8_code 12 = .ok (.aload_n 0, 1) := by decide +kernel
theorem d_Score_addToRow_13 : decode prog_8_method_8_code 13 = .ok (.getfield 37, 3) := by decide +kernel
theorem d_Score_addToRow_16 : decode prog_8_method_8_code 16 = .ok (.aload_n 0, 1) := by decide +kernel
theorem d_Score_addToRow_17 : decode prog_8_method_8_code 17 = .ok (.getfield 54, 3) := by decide +kernel
theorem d_Score_addToRow_20 : decode prog_8_method_8_code 20 = .ok (.iload_n 1, 1) := by decide +kernel
theorem d_Score_addToRow_21 : decode prog_8_method_8_code 21 = .ok (.iastore, 1) := by decide +kernel
theorem d_Score_addToRow_22 : decode prog_8_method_8_code 22 = .ok (.aload_n 0, 1) := by decide +kernel
theorem d_Score_addToRow_23 : decode prog_8_method_8_code 23 = .ok (.dup, 1) := by decide +kernel
theorem d_Score_addToRow_24 : decode prog_8_method_8_code 24 = .ok (.getfield 54, 3) := by decide +kernel
theorem d_Score_addToRow_27 : decode prog_8_method_8_code 27 = .ok (.iconst 1, 1) := by decide +kernel
theorem d_Score_addToRow_28 : decode prog_8_method_8_code 28 = .ok (.iadd, 1) := by decide +kernel
theorem d_Score_addToRow_29 : decode prog_8_method_8_code 29 = .ok (.putfield 54, 3) := by decide +kernel
def m_Score_allEvents : mr_T := (⟨"PlainMusic$Score", "allEvents", "()I"⟩, prog_8_method_9_code, 4, some .int)
theorem d_Score_allEvents_0 : decode prog_8_method_9_code 0 = .ok (.iconst 0, 1) := by decide +kernel
theorem d_Score_allEvents_1 : decode prog_8_method_9_code 1 = .ok (.istore_n 1, 1) := by decide +kernel
theorem d_Score_allEvents_2 : decode prog_8_method_9_code 2 = .ok (.iconst 0, 1) := by decide +kernel
theorem d_Score_allEvents_3 : decode prog_8_method_9_code 3 = .ok (.istore_n 2, 1) := by decide +kernel
theorem d_Score_allEvents_4 : decode prog_8_method_9_code 4 = .ok (.iload_n 2, 1) := by decide +kernel
theorem d_Score_allEvents_5 : decode prog_8_method_9_code 5 = .ok (.aload_n 0, 1) := by decide +kernel
theorem d_Score_allEvents_6 : decode prog_8_method_9_code 6 = .ok (.getfield 41, 3) := by decide +kernel
theorem d_Score_allEvents_9 : decode prog_8_method_9_code 9 = .ok (.if_icmp .ge 30, 3) := by decide +kernel
theorem d_Score_allEvents_39 : decode prog_8_method_9_code 39 = .ok (.iload_n 1, 1) := by decide +kernel
theorem d_Score_allEvents_40 : decode prog_8_method_9_code 40 = .ok (.ireturn, 1) := by decide +kernel
theorem d_Score_allEvents_12 : decode prog_8_method_9_code 12 = .ok (.aload_n 0, 1) := by decide +kernel
theorem d_Score_allEvents_13 : decode prog_8_method_9_code 13 = .ok (.iload_n 2, 1) := by decide +kernel
theorem d_Score_allEvents_14 : decode prog_8_method_9_code 14 = .ok (.invokevirtual 60, 3) := by decide +kernel
theorem k_Score_voiceAt : mt_OK m_Score_voiceAt 1 1 := ⟨(gw_in 1018 (by decide +kernel) (by decide +kernel)), (gw_in 138 (by decide +kernel) (by decide +kernel)), ⟨by decide +kernel, by decide +kernel, by decide +kernel⟩, fun h => absurd h (by decide), fun _ => ⟨(gw_in 1016 (by decide +kernel) (by decide +kernel)), (gw_in 1017 (by decide +kernel) (by decide +kernel))⟩, fun h => absurd h (by decide)⟩
theorem l_Score_60 : ml_OK "PlainMusic$Score" 60 ⟨"PlainMusic$Score", "voiceAt", "(I)LPlainMusic$Voice;"⟩ := Or.inl (gw_in 1015 (by decide +kernel) (by decide +kernel))
theorem d_Score_allEvents_17 : decode prog_8_method_9_code 17 = .ok (.astore_n 3, 1) := by decide +kernel
theorem d_Score_allEvents_18 : decode prog_8_method_9_code 18 = .ok (.iload_n 1, 1) := by decide +kernel
theorem d_Score_allEvents_19 : decode prog_8_method_9_code 19 = .ok (.aload_n 3, 1) := by decide +kernel
theorem d_Score_allEvents_20 : decode prog_8_method_9_code 20 = .ok (.ifnonnull 7, 3) := by decide +kernel
theorem d_Score_allEvents_23 : decode prog_8_method_9_code 23 = .ok (.iconst 0, 1) := by decide +kernel
theorem d_Score_allEvents_24 : decode prog_8_method_9_code 24 = .ok (.goto 7, 3) := by decide +kernel
theorem d_Score_allEvents_31 : decode prog_8_method_9_code 31 = .ok (.iadd, 1) := by decide +kernel
theorem d_Score_allEvents_32 : decode prog_8_method_9_code 32 = .ok (.istore_n 1, 1) := by decide +kernel
theorem d_Score_allEvents_33 : decode prog_8_method_9_code 33 = .ok (.iinc 2 1, 3) := by decide +kernel
theorem d_Score_allEvents_36 : decode prog_8_method_9_code 36 = .ok (.goto (-32), 3) := by decide +kernel
theorem d_Score_allEvents_27 : decode prog_8_method_9_code 27 = .ok (.aload_n 3, 1) := by decide +kernel
theorem d_Score_allEvents_28 : decode prog_8_method_9_code 28 = .ok (.getfield 64, 3) := by decide +kernel
theorem f_Score_64 : fl_OK "PlainMusic$Score" 64 10 14 .int false := ⟨_, rfl, by decide, (gw_in 304 (by decide +kernel) (by decide +kernel)), rfl, rfl⟩
def m_Score_mostBars : mr_T := (⟨"PlainMusic$Score", "mostBars", "()I"⟩, prog_8_method_10_code, 4, some .int)
theorem d_Score_mostBars_0 : decode prog_8_method_10_code 0 = .ok (.iconst 0, 1) := by decide +kernel
theorem d_Score_mostBars_1 : decode prog_8_method_10_code 1 = .ok (.istore_n 1, 1) := by decide +kernel
theorem d_Score_mostBars_2 : decode prog_8_method_10_code 2 = .ok (.iconst 0, 1) := by decide +kernel
theorem d_Score_mostBars_3 : decode prog_8_method_10_code 3 = .ok (.istore_n 2, 1) := by decide +kernel
theorem d_Score_mostBars_4 : decode prog_8_method_10_code 4 = .ok (.iload_n 2, 1) := by decide +kernel
theorem d_Score_mostBars_5 : decode prog_8_method_10_code 5 = .ok (.aload_n 0, 1) := by decide +kernel
theorem d_Score_mostBars_6 : decode prog_8_method_10_code 6 = .ok (.getfield 41, 3) := by decide +kernel
theorem d_Score_mostBars_9 : decode prog_8_method_10_code 9 = .ok (.if_icmp .ge 32, 3) := by decide +kernel
theorem d_Score_mostBars_41 : decode prog_8_method_10_code 41 = .ok (.iload_n 1, 1) := by decide +kernel
theorem d_Score_mostBars_42 : decode prog_8_method_10_code 42 = .ok (.ireturn, 1) := by decide +kernel
theorem d_Score_mostBars_12 : decode prog_8_method_10_code 12 = .ok (.aload_n 0, 1) := by decide +kernel
theorem d_Score_mostBars_13 : decode prog_8_method_10_code 13 = .ok (.iload_n 2, 1) := by decide +kernel
theorem d_Score_mostBars_14 : decode prog_8_method_10_code 14 = .ok (.invokevirtual 60, 3) := by decide +kernel
theorem d_Score_mostBars_17 : decode prog_8_method_10_code 17 = .ok (.astore_n 3, 1) := by decide +kernel
theorem d_Score_mostBars_18 : decode prog_8_method_10_code 18 = .ok (.iload_n 1, 1) := by decide +kernel
theorem d_Score_mostBars_19 : decode prog_8_method_10_code 19 = .ok (.aload_n 3, 1) := by decide +kernel
theorem d_Score_mostBars_20 : decode prog_8_method_10_code 20 = .ok (.ifnonnull 7, 3) := by decide +kernel
theorem d_Score_mostBars_23 : decode prog_8_method_10_code 23 = .ok (.iconst 0, 1) := by decide +kernel
theorem d_Score_mostBars_24 : decode prog_8_method_10_code 24 = .ok (.goto 7, 3) := by decide +kernel
theorem d_Score_mostBars_31 : decode prog_8_method_10_code 31 = .ok (.invokestatic 70, 3) := by decide +kernel
theorem lm_Score_70 : Cond.methodLink "PlainMusic$Score" 70 Lib.Math.max.name ∈ gw := (gw_in 1032 (by decide +kernel) (by decide +kernel))
theorem d_Score_mostBars_34 : decode prog_8_method_10_code 34 = .ok (.istore_n 1, 1) := by decide +kernel
theorem d_Score_mostBars_35 : decode prog_8_method_10_code 35 = .ok (.iinc 2 1, 3) := by decide +kernel
theorem d_Score_mostBars_38 : decode prog_8_method_10_code 38 = .ok (.goto (-34), 3) := by decide +kernel
theorem d_Score_mostBars_27 : decode prog_8_method_10_code 27 = .ok (.aload_n 3, 1) := by decide +kernel
theorem d_Score_mostBars_28 : decode prog_8_method_10_code 28 = .ok (.getfield 67, 3) := by decide +kernel
theorem f_Score_67 : fl_OK "PlainMusic$Score" 67 10 16 .int false := ⟨_, rfl, by decide, (gw_in 313 (by decide +kernel) (by decide +kernel)), rfl, rfl⟩
theorem s_Score_clear {G : cx_T} {s : Nat} {h : ah_T} (hx : xi s h)   : con G 0 0 0 m_Score_clear [av_R (some s)] h (fun r h' => r = none ∧ kF (FB s) s h h') := by
  refine con_of (L := [some (av_R (some s))]) (by decide +kernel) (Nat.le_of_ble_eq_true rfl) rfl ?_
  have hS : isS s := hx.2.1
  have hs0 : s = 17 ∨ s = 80 := hS
  have k0 : kF (FB s) s h h := kF_0 hx
  refine A_aload_n 0 d_Score_clear_0 rfl rfl ?_
  refine A_iconst d_Score_clear_1 rfl ?_
  refine A_putIk (KR := kF (FB s) s h) T_ok d_Score_clear_2 f_Score_41 (xs_S k0.1 hS) fin_f (kF_j k0 (by omega) (ns_S hS) (rg_S_1 hS) (by omega) (by omega)) (fun h1 k2 eh1 => ?_)
  refine A_aload_n 0 d_Score_clear_5 rfl rfl ?_
  refine A_iconst d_Score_clear_6 rfl ?_
  refine A_pc (pc' := 7) rfl ?_
  refine A_putIk (KR := kF (FB s) s h) T_ok d_Score_clear_7 f_Score_17 (xs_S k2.1 hS) fin_f (kF_j k2 (by omega) (ns_S hS) (rg_S_2 hS) (by omega) (by omega)) (fun h3 k4 eh3 => ?_)
  refine A_aload_n 0 d_Score_clear_10 rfl rfl ?_
  refine A_iconst d_Score_clear_11 rfl ?_
  refine A_putIk (KR := kF (FB s) s h) T_ok d_Score_clear_12 f_Score_21 (xs_S k4.1 hS) fin_f (kF_j k4 (by omega) (ns_S hS) (rg_S_3 hS) (by omega) (by omega)) (fun h5 k6 eh5 => ?_)
  refine A_aload_n 0 d_Score_clear_15 rfl rfl ?_
  refine A_iconst d_Score_clear_16 rfl ?_
  refine A_pc (pc' := 17) rfl ?_
  refine A_putZk (KR := kF (FB s) s h) T_ok d_Score_clear_17 f_Score_44 (xs_S k6.1 hS) fin_f (by omega) (kF_j k6 (by omega) (ns_S hS) (rg_S_4 hS) (by omega) (by omega)) (fun h7 k8 eh7 => ?_)
  refine A_aload_n 0 d_Score_clear_20 rfl rfl ?_
  refine A_iconst d_Score_clear_21 rfl ?_
  refine A_putIk (KR := kF (FB s) s h) T_ok d_Score_clear_22 f_Score_48 (xs_S k8.1 hS) fin_f (kF_j k8 (by omega) (ns_S hS) (rg_S_6 hS) (by omega) (by omega)) (fun h9 k10 eh9 => ?_)
  refine A_aload_n 0 d_Score_clear_25 rfl rfl ?_
  refine A_iconst d_Score_clear_26 rfl ?_
  refine A_pc (pc' := 27) rfl ?_
  refine A_putIk (KR := kF (FB s) s h) T_ok d_Score_clear_27 f_Score_51 (xs_S k10.1 hS) fin_f (kF_j k10 (by omega) (ns_S hS) (rg_S_10 hS) (by omega) (by omega)) (fun h11 k12 eh11 => ?_)
  refine A_aload_n 0 d_Score_clear_30 rfl rfl ?_
  refine A_iconst d_Score_clear_31 rfl ?_
  refine A_putIk (KR := kF (FB s) s h) T_ok d_Score_clear_32 f_Score_54 (xs_S k12.1 hS) fin_f (kF_j k12 (by omega) (ns_S hS) (rg_S_12 hS) (by omega) (by omega)) (fun h13 k14 eh13 => ?_)
  exact A_vret d_Score_clear_35 (by decide) rfl ⟨rfl, k14⟩
theorem s_Score_setTime {G : cx_T} {s : Nat} {h : ah_T} (hx : xi s h) {a1 : Int} {a2 : Int}  : con G 0 0 0 m_Score_setTime [av_R (some s), av_I a1, av_I a2] h (fun r h' => r = none ∧ kF (FB s) s h h') := by
  refine con_of (L := [some (av_R (some s)), some (av_I a1), some (av_I a2)]) (by decide +kernel) (Nat.le_of_ble_eq_true rfl) rfl ?_
  have hS : isS s := hx.2.1
  have hs0 : s = 17 ∨ s = 80 := hS
  have k0 : kF (FB s) s h h := kF_0 hx
  refine A_locI 1 rfl (fun ra => ?_)
  obtain ⟨_, _⟩ := ra
  refine A_locI 2 rfl (fun ra => ?_)
  obtain ⟨_, _⟩ := ra
  refine A_aload_n 0 d_Score_setTime_0 rfl rfl ?_
  refine A_iconst d_Score_setTime_1 rfl ?_
  refine A_putZk (KR := kF (FB s) s h) T_ok d_Score_setTime_2 f_Score_44 (xs_S k0.1 hS) fin_f (by omega) (kF_j k0 (by omega) (ns_S hS) (rg_S_4 hS) (by omega) (by omega)) (fun h1 k2 eh1 => ?_)
  refine A_aload_n 0 d_Score_setTime_5 rfl rfl ?_
  refine A_iload_n 1 d_Score_setTime_6 rfl rfl ?_
  refine A_pc (pc' := 7) rfl ?_
  refine A_putIk (KR := kF (FB s) s h) T_ok d_Score_setTime_7 f_Score_17 (xs_S k2.1 hS) fin_f (kF_j k2 (by omega) (ns_S hS) (rg_S_2 hS) (by omega) (by omega)) (fun h3 k4 eh3 => ?_)
  refine A_aload_n 0 d_Score_setTime_10 rfl rfl ?_
  refine A_iload_n 2 d_Score_setTime_11 rfl rfl ?_
  refine A_putIk (KR := kF (FB s) s h) T_ok d_Score_setTime_12 f_Score_21 (xs_S k4.1 hS) fin_f (kF_j k4 (by omega) (ns_S hS) (rg_S_3 hS) (by omega) (by omega)) (fun h5 k6 eh5 => ?_)
  exact A_vret d_Score_setTime_15 (by decide) rfl ⟨rfl, k6⟩
theorem s_Score_voiceAt {G : cx_T} {s : Nat} {h : ah_T} (hx : xi s h) {a0 : Nat} {a1 : Int} (ha0 : isS a0) : con G 0 0 0 m_Score_voiceAt [av_R (some a0), av_I a1] h (fun r h' => ∃ o, r = some (av_R o) ∧ (o = none ∨ ∃ v, o = some v ∧ tV a0 v) ∧ h = h') := by
  refine con_of (L := [some (av_R (some a0)), some (av_I a1)]) (by decide +kernel) (Nat.le_of_ble_eq_true rfl) rfl ?_
  have hS : isS s := hx.2.1
  have hs0 : s = 17 ∨ s = 80 := hS
  refine A_locI 1 rfl (fun ra => ?_)
  obtain ⟨_, _⟩ := ra
  refine A_iload_n 1 d_Score_voiceAt_0 rfl rfl ?_
  refine A_if_lt (tgt := 30) d_Score_voiceAt_1 (by decide) (fun c1 => ?_) (fun c1 => ?_)
  · refine A_null d_Score_voiceAt_30 ?_
    exact A_aret d_Score_voiceAt_31 (by decide) rfl ty_o ⟨_, rfl, Or.inl rfl, rfl⟩
  · refine A_iload_n 1 d_Score_voiceAt_4 rfl rfl ?_
    refine A_aload_n 0 d_Score_voiceAt_5 rfl rfl ?_
    refine A_getIn (lo := 0) (hi := 4) T_ok d_Score_voiceAt_6 f_Score_41 (xs_S hx ha0) (xi_g hx (lt1_S ha0) (rg_S_1 ha0)) (fun x2 ex2 _ _ => ?_)
    refine A_icmp_ge (tgt := 30) d_Score_voiceAt_9 (by decide) (fun c3 => ?_) (fun c3 => ?_)
    · refine A_null d_Score_voiceAt_30 ?_
      exact A_aret d_Score_voiceAt_31 (by decide) rfl ty_o ⟨_, rfl, Or.inl rfl, rfl⟩
    · refine A_iload_n 1 d_Score_voiceAt_12 rfl rfl ?_
      refine A_aload_n 0 d_Score_voiceAt_13 rfl rfl ?_
      refine A_getAv (z := some (a0 + 1)) T_ok d_Score_voiceAt_14 f_Score_11 (xs_S hx ha0) (xr_S_0 hx ha0) ?_
      refine A_alenN d_Score_voiceAt_17 (xs_S_0 hx ha0) (by decide) (by decide) ?_
      refine A_icmp_ge (tgt := 30) d_Score_voiceAt_18 (by decide) (fun c => False.elim (by omega)) (fun c5 => ?_)
      refine A_aload_n 0 d_Score_voiceAt_21 rfl rfl ?_
      refine A_getAv (z := some (a0 + 1)) T_ok d_Score_voiceAt_22 f_Score_11 (xs_S hx ha0) (xr_S_0 hx ha0) ?_
      refine A_iload_n 1 d_Score_voiceAt_25 rfl rfl ?_
      refine A_aaloadn (S := fun o => ∃ v, o = some v ∧ tV a0 v) d_Score_voiceAt_26 (xs_S_0 hx ha0) (by omega) (by omega) (xr_Sv hx ha0 (by omega) (by omega)) (fun ox7 qx7 => ?_)
      obtain ⟨x7, rfl, tx7⟩ := qx7
      refine A_goto (tgt := 31) d_Score_voiceAt_27 (by decide) ?_
      exact A_aret d_Score_voiceAt_31 (by decide) rfl ty_o ⟨_, rfl, Or.inr ⟨_, rfl, tx7⟩, rfl⟩
theorem s_Score_newVoice {G : cx_T} {s : Nat} {h : ah_T} (hx : xi s h)   : con G 1 0 0 m_Score_newVoice [av_R (some s)] h (fun r h' => ∃ o, r = some (av_R o) ∧ (o = none ∨ ∃ v, o = some v ∧ tV s v) ∧ kF (FB s) s h h') := by
  refine con_of (L := [some (av_R (some s)), none]) (by decide +kernel) (Nat.le_of_ble_eq_true rfl) rfl ?_
  have hS : isS s := hx.2.1
  have hs0 : s = 17 ∨ s = 80 := hS
  have k0 : kF (FB s) s h h := kF_0 hx
  refine A_aload_n 0 d_Score_newVoice_0 rfl rfl ?_
  refine A_getIn (lo := 0) (hi := 4) T_ok d_Score_newVoice_1 f_Score_41 (xs_S k0.1 hS) (xi_g k0.1 (lt1_S hS) (rg_S_1 hS)) (fun x1 ex1 _ _ => ?_)
  refine A_aload_n 0 d_Score_newVoice_4 rfl rfl ?_
  refine A_getAv (z := some (s + 1)) T_ok d_Score_newVoice_5 f_Score_11 (xs_S k0.1 hS) (xr_S_0 k0.1 hS) ?_
  refine A_alenN d_Score_newVoice_8 (xs_S_0 k0.1 hS) (by decide) (by decide) ?_
  refine A_pc (pc' := 9) rfl ?_
  refine A_icmp_lt (tgt := 14) d_Score_newVoice_9 (by decide) (fun c3 => ?_) (fun c3 => ?_)
  · refine A_aload_n 0 d_Score_newVoice_14 rfl rfl ?_
    refine A_dupR d_Score_newVoice_15 ?_
    refine A_getIv (z := x1) T_ok d_Score_newVoice_16 f_Score_41 (xs_S k0.1 hS) ex1.symm ?_
    refine A_iconst d_Score_newVoice_19 rfl ?_
    refine A_iaddv (z := (x1 + 1)) d_Score_newVoice_20 (w32_to (by omega) (by unfold i32; omega)) ?_
    refine A_pc (pc' := 21) rfl ?_
    refine A_putIk (KR := kF (FB s) s h) T_ok d_Score_newVoice_21 f_Score_41 (xs_S k0.1 hS) fin_f (kF_j k0 (by omega) (ns_S hS) (rg_S_1 hS) (by omega) (by omega)) (fun h5 k6 eh5 => ?_)
    refine A_aload_n 0 d_Score_newVoice_24 rfl rfl ?_
    refine A_getAv (z := some (s + 1)) T_ok d_Score_newVoice_25 f_Score_11 (xs_S k6.1 hS) (xr_S_0 k6.1 hS) ?_
    refine A_aload_n 0 d_Score_newVoice_28 rfl rfl ?_
    refine A_getIv (z := (x1 + 1)) T_ok d_Score_newVoice_29 f_Score_41 (xs_S k6.1 hS) eh5.2.1 ?_
    refine A_iconst d_Score_newVoice_32 rfl ?_
    refine A_pc (pc' := 33) rfl ?_
    refine A_isubv (z := x1) d_Score_newVoice_33 (w32_to (by omega) (by unfold i32; omega)) ?_
    refine A_aaloadn (S := fun o => ∃ v, o = some v ∧ tV s v) d_Score_newVoice_34 (xs_S_0 k6.1 hS) (by omega) (by omega) (xr_Sv k6.1 hS (by omega) (by omega)) (fun ox9 qx9 => ?_)
    obtain ⟨x9, rfl, tx9⟩ := qx9
    refine A_astore_n 1 (L' := [some (av_R (some s)), some (av_R (some x9))]) d_Score_newVoice_35 rfl (Nat.le_of_ble_eq_true rfl) rfl ?_
    refine A_aload_n 1 d_Score_newVoice_36 rfl rfl ?_
    refine A_ifnull (tgt := 44) d_Score_newVoice_37 (by decide) (fun q => by cases q) (fun _ _ => ?_)
    refine A_aload_n 1 d_Score_newVoice_40 rfl rfl ?_
    refine A_callV0 m_Voice_clear T_ok d_Score_newVoice_41 l_Score_57 k_Voice_clear (xs_V k6.1 (tV_V hS tx9)) rfl (by decide +kernel) (by decide) (Nat.le_of_ble_eq_true rfl) (s_Voice_clear k6.1 tx9) (fun r h10 hq => ?_)
    obtain ⟨rfl, k11⟩ := hq
    have k12 := kF_t k6 k11 (fun _ q => q)
    refine A_aload_n 1 d_Score_newVoice_44 rfl rfl ?_
    exact A_aret d_Score_newVoice_45 (by decide) rfl ty_o ⟨_, rfl, Or.inr ⟨_, rfl, tx9⟩, k12⟩
  · refine A_null d_Score_newVoice_12 ?_
    exact A_aret d_Score_newVoice_13 (by decide) rfl ty_o ⟨_, rfl, Or.inl rfl, k0⟩
theorem s_Score_addToLine {G : cx_T} {s : Nat} {h : ah_T} (hx : xi s h) {a1 : Int}  : con G 0 0 0 m_Score_addToLine [av_R (some s), av_I a1] h (fun r h' => ∃ z, r = some (av_I z) ∧ (z = 0 ∨ z = 1) ∧ kF (FB s) s h h') := by
  refine con_of (L := [some (av_R (some s)), some (av_I a1)]) (by decide +kernel) (Nat.le_of_ble_eq_true rfl) rfl ?_
  have hS : isS s := hx.2.1
  have hs0 : s = 17 ∨ s = 80 := hS
  have k0 : kF (FB s) s h h := kF_0 hx
  refine A_locI 1 rfl (fun ra => ?_)
  obtain ⟨_, _⟩ := ra
  refine A_aload_n 0 d_Score_addToLine_0 rfl rfl ?_
  refine A_getIn (lo := 0) (hi := 8) T_ok d_Score_addToLine_1 f_Score_48 (xs_S k0.1 hS) (xi_g k0.1 (lt1_S hS) (rg_S_6 hS)) (fun x1 ex1 _ _ => ?_)
  refine A_aload_n 0 d_Score_addToLine_4 rfl rfl ?_
  refine A_getAv (z := some (s + 2)) T_ok d_Score_addToLine_5 f_Score_24 (xs_S k0.1 hS) (xr_S_5 k0.1 hS) ?_
  refine A_alenN d_Score_addToLine_8 (xs_S_5 k0.1 hS) (by decide) (by decide) ?_
  refine A_pc (pc' := 9) rfl ?_
  refine A_icmp_lt (tgt := 14) d_Score_addToLine_9 (by decide) (fun c3 => ?_) (fun c3 => ?_)
  · refine A_aload_n 0 d_Score_addToLine_14 rfl rfl ?_
    refine A_getAv (z := some (s + 2)) T_ok d_Score_addToLine_15 f_Score_24 (xs_S k0.1 hS) (xr_S_5 k0.1 hS) ?_
    refine A_aload_n 0 d_Score_addToLine_18 rfl rfl ?_
    refine A_getIv (z := x1) T_ok d_Score_addToLine_19 f_Score_48 (xs_S k0.1 hS) ex1.symm ?_
    refine A_iload_n 1 d_Score_addToLine_22 rfl rfl ?_
    refine A_pc (pc' := 23) rfl ?_
    refine A_iastorek (KR := kF (FB s) s h) d_Score_addToLine_23 (xs_S_5 k0.1 hS) (by omega) (by omega) (kF_j k0 (by omega) (ns_So hS 2 (by decide) (by decide)) (rg_S_5 hS _) (by omega) (by omega)) (fun h6 k7 eh6 => ?_)
    refine A_aload_n 0 d_Score_addToLine_24 rfl rfl ?_
    refine A_dupR d_Score_addToLine_25 ?_
    refine A_getIv (z := x1) T_ok d_Score_addToLine_26 f_Score_48 (xs_S k7.1 hS) ((eh6.1 _ _ (fun q => by omega)).trans ex1.symm) ?_
    refine A_iconst d_Score_addToLine_29 rfl ?_
    refine A_iaddv (z := (x1 + 1)) d_Score_addToLine_30 (w32_to (by omega) (by unfold i32; omega)) ?_
    refine A_pc (pc' := 31) rfl ?_
    refine A_putIk (KR := kF (FB s) s h) T_ok d_Score_addToLine_31 f_Score_48 (xs_S k7.1 hS) fin_f (kF_j k7 (by omega) (ns_S hS) (rg_S_6 hS) (by omega) (by omega)) (fun h9 k10 eh9 => ?_)
    refine A_iconst d_Score_addToLine_34 rfl ?_
    exact A_zret d_Score_addToLine_35 (by decide) rfl (by omega) ⟨_, rfl, by omega, k10⟩
  · refine A_iconst d_Score_addToLine_12 rfl ?_
    exact A_zret d_Score_addToLine_13 (by decide) rfl (by omega) ⟨_, rfl, by omega, k0⟩
theorem s_Score_addRule {G : cx_T} {s : Nat} {h : ah_T} (hx : xi s h) {a1 : Int} {a2 : Int} {a3 : Int}  : con G 0 0 0 m_Score_addRule [av_R (some s), av_I a1, av_I a2, av_I a3] h (fun r h' => r = none ∧ kF (FB s) s h h') := by
  refine con_of (L := [some (av_R (some s)), some (av_I a1), some (av_I a2), some (av_I a3)]) (by decide +kernel) (Nat.le_of_ble_eq_true rfl) rfl ?_
  have hS : isS s := hx.2.1
  have hs0 : s = 17 ∨ s = 80 := hS
  have k0 : kF (FB s) s h h := kF_0 hx
  refine A_locI 1 rfl (fun ra => ?_)
  obtain ⟨_, _⟩ := ra
  refine A_locI 2 rfl (fun ra => ?_)
  obtain ⟨_, _⟩ := ra
  refine A_locI 3 rfl (fun ra => ?_)
  obtain ⟨_, _⟩ := ra
  refine A_aload_n 0 d_Score_addRule_0 rfl rfl ?_
  refine A_getIn (lo := 0) (hi := 24) T_ok d_Score_addRule_1 f_Score_51 (xs_S k0.1 hS) (xi_g k0.1 (lt1_S hS) (rg_S_10 hS)) (fun x1 ex1 _ _ => ?_)
  refine A_aload_n 0 d_Score_addRule_4 rfl rfl ?_
  refine A_getAv (z := some (s + 3)) T_ok d_Score_addRule_5 f_Score_28 (xs_S k0.1 hS) (xr_S_7 k0.1 hS) ?_
  refine A_alenN d_Score_addRule_8 (xs_S_7 k0.1 hS) (by decide) (by decide) ?_
  refine A_pc (pc' := 9) rfl ?_
  refine A_icmp_ge (tgt := 52) d_Score_addRule_9 (by decide) (fun c3 => ?_) (fun c3 => ?_)
  · exact A_vret d_Score_addRule_52 (by decide) rfl ⟨rfl, k0⟩
  · refine A_aload_n 0 d_Score_addRule_12 rfl rfl ?_
    refine A_getAv (z := some (s + 3)) T_ok d_Score_addRule_13 f_Score_28 (xs_S k0.1 hS) (xr_S_7 k0.1 hS) ?_
    refine A_aload_n 0 d_Score_addRule_16 rfl rfl ?_
    refine A_getIv (z := x1) T_ok d_Score_addRule_17 f_Score_51 (xs_S k0.1 hS) ex1.symm ?_
    refine A_iload_n 1 d_Score_addRule_20 rfl rfl ?_
    refine A_pc (pc' := 21) rfl ?_
    refine A_iastorek (KR := kF (FB s) s h) d_Score_addRule_21 (xs_S_7 k0.1 hS) (by omega) (by omega) (kF_j k0 (by omega) (ns_So hS 3 (by decide) (by decide)) (rg_S_7 hS _) (by omega) (by omega)) (fun h6 k7 eh6 => ?_)
    refine A_aload_n 0 d_Score_addRule_22 rfl rfl ?_
    refine A_getAv (z := some (s + 4)) T_ok d_Score_addRule_23 f_Score_31 (xs_S k7.1 hS) (xr_S_8 k7.1 hS) ?_
    refine A_aload_n 0 d_Score_addRule_26 rfl rfl ?_
    refine A_getIv (z := x1) T_ok d_Score_addRule_27 f_Score_51 (xs_S k7.1 hS) ((eh6.1 _ _ (fun q => by omega)).trans ex1.symm) ?_
    refine A_iload_n 2 d_Score_addRule_30 rfl rfl ?_
    refine A_pc (pc' := 31) rfl ?_
    refine A_iastorek (KR := kF (FB s) s h) d_Score_addRule_31 (xs_S_8 k7.1 hS) (by omega) (by omega) (kF_j k7 (by omega) (ns_So hS 4 (by decide) (by decide)) (rg_S_8 hS _) (by omega) (by omega)) (fun h10 k11 eh10 => ?_)
    refine A_aload_n 0 d_Score_addRule_32 rfl rfl ?_
    refine A_getAv (z := some (s + 5)) T_ok d_Score_addRule_33 f_Score_34 (xs_S k11.1 hS) (xr_S_9 k11.1 hS) ?_
    refine A_aload_n 0 d_Score_addRule_36 rfl rfl ?_
    refine A_getIv (z := x1) T_ok d_Score_addRule_37 f_Score_51 (xs_S k11.1 hS) ((eh10.1 _ _ (fun q => by omega)).trans ((eh6.1 _ _ (fun q => by omega)).trans ex1.symm)) ?_
    refine A_iload_n 3 d_Score_addRule_40 rfl rfl ?_
    refine A_pc (pc' := 41) rfl ?_
    refine A_iastorek (KR := kF (FB s) s h) d_Score_addRule_41 (xs_S_9 k11.1 hS) (by omega) (by omega) (kF_j k11 (by omega) (ns_So hS 5 (by decide) (by decide)) (rg_S_9 hS _) (by omega) (by omega)) (fun h14 k15 eh14 => ?_)
    refine A_aload_n 0 d_Score_addRule_42 rfl rfl ?_
    refine A_dupR d_Score_addRule_43 ?_
    refine A_getIv (z := x1) T_ok d_Score_addRule_44 f_Score_51 (xs_S k15.1 hS) ((eh14.1 _ _ (fun q => by omega)).trans ((eh10.1 _ _ (fun q => by omega)).trans ((eh6.1 _ _ (fun q => by omega)).trans ex1.symm))) ?_
    refine A_iconst d_Score_addRule_47 rfl ?_
    refine A_iaddv (z := (x1 + 1)) d_Score_addRule_48 (w32_to (by omega) (by unfold i32; omega)) ?_
    refine A_pc (pc' := 49) rfl ?_
    refine A_putIk (KR := kF (FB s) s h) T_ok d_Score_addRule_49 f_Score_51 (xs_S k15.1 hS) fin_f (kF_j k15 (by omega) (ns_S hS) (rg_S_10 hS) (by omega) (by omega)) (fun h17 k18 eh17 => ?_)
    exact A_vret d_Score_addRule_52 (by decide) rfl ⟨rfl, k18⟩
theorem s_Score_addToRow {G : cx_T} {s : Nat} {h : ah_T} (hx : xi s h) {a1 : Int}  : con G 0 0 0 m_Score_addToRow [av_R (some s), av_I a1] h (fun r h' => r = none ∧ kF (FB s) s h h') := by
  refine con_of (L := [some (av_R (some s)), some (av_I a1)]) (by decide +kernel) (Nat.le_of_ble_eq_true rfl) rfl ?_
  have hS : isS s := hx.2.1
  have hs0 : s = 17 ∨ s = 80 := hS
  have k0 : kF (FB s) s h h := kF_0 hx
  refine A_locI 1 rfl (fun ra => ?_)
  obtain ⟨_, _⟩ := ra
  refine A_aload_n 0 d_Score_addToRow_0 rfl rfl ?_
  refine A_getIn (lo := 0) (hi := 12) T_ok d_Score_addToRow_1 f_Score_54 (xs_S k0.1 hS) (xi_g k0.1 (lt1_S hS) (rg_S_12 hS)) (fun x1 ex1 _ _ => ?_)
  refine A_aload_n 0 d_Score_addToRow_4 rfl rfl ?_
  refine A_getAv (z := some (s + 6)) T_ok d_Score_addToRow_5 f_Score_37 (xs_S k0.1 hS) (xr_S_11 k0.1 hS) ?_
  refine A_alenN d_Score_addToRow_8 (xs_S_11 k0.1 hS) (by decide) (by decide) ?_
  refine A_pc (pc' := 9) rfl ?_
  refine A_icmp_ge (tgt := 32) d_Score_addToRow_9 (by decide) (fun c3 => ?_) (fun c3 => ?_)
  · exact A_vret d_Score_addToRow_32 (by decide) rfl ⟨rfl, k0⟩
  · refine A_aload_n 0 d_Score_addToRow_12 rfl rfl ?_
    refine A_getAv (z := some (s + 6)) T_ok d_Score_addToRow_13 f_Score_37 (xs_S k0.1 hS) (xr_S_11 k0.1 hS) ?_
    refine A_aload_n 0 d_Score_addToRow_16 rfl rfl ?_
    refine A_getIv (z := x1) T_ok d_Score_addToRow_17 f_Score_54 (xs_S k0.1 hS) ex1.symm ?_
    refine A_iload_n 1 d_Score_addToRow_20 rfl rfl ?_
    refine A_pc (pc' := 21) rfl ?_
    refine A_iastorek (KR := kF (FB s) s h) d_Score_addToRow_21 (xs_S_11 k0.1 hS) (by omega) (by omega) (kF_j k0 (by omega) (ns_So hS 6 (by decide) (by decide)) (rg_S_11 hS _) (by omega) (by omega)) (fun h6 k7 eh6 => ?_)
    refine A_aload_n 0 d_Score_addToRow_22 rfl rfl ?_
    refine A_dupR d_Score_addToRow_23 ?_
    refine A_getIv (z := x1) T_ok d_Score_addToRow_24 f_Score_54 (xs_S k7.1 hS) ((eh6.1 _ _ (fun q => by omega)).trans ex1.symm) ?_
    refine A_iconst d_Score_addToRow_27 rfl ?_
    refine A_iaddv (z := (x1 + 1)) d_Score_addToRow_28 (w32_to (by omega) (by unfold i32; omega)) ?_
    refine A_pc (pc' := 29) rfl ?_
    refine A_putIk (KR := kF (FB s) s h) T_ok d_Score_addToRow_29 f_Score_54 (xs_S k7.1 hS) fin_f (kF_j k7 (by omega) (ns_S hS) (rg_S_12 hS) (by omega) (by omega)) (fun h9 k10 eh9 => ?_)
    exact A_vret d_Score_addToRow_32 (by decide) rfl ⟨rfl, k10⟩
theorem s_Score_allEvents {G : cx_T} {s : Nat} {h : ah_T} (hx : xi s h) {a0 : Nat} (ha0 : isS a0) : con G 1 0 0 m_Score_allEvents [av_R (some a0)] h (fun r h' => ∃ z, r = some (av_I z) ∧ ((-2147483648) ≤ z ∧ z ≤ 2147483647) ∧ h = h') := by
  refine con_of (L := [some (av_R (some a0)), none, none, none]) (by decide +kernel) (Nat.le_of_ble_eq_true rfl) rfl ?_
  have hS : isS s := hx.2.1
  have hs0 : s = 17 ∨ s = 80 := hS
  refine A_iconst d_Score_allEvents_0 rfl ?_
  refine A_istore_n 1 (L' := [some (av_R (some a0)), some (av_I 0), none, none]) d_Score_allEvents_1 rfl (Nat.le_of_ble_eq_true rfl) rfl ?_
  refine A_iconst d_Score_allEvents_2 rfl ?_
  refine A_istore_n 2 (L' := [some (av_R (some a0)), some (av_I 0), some (av_I 0), none]) d_Score_allEvents_3 rfl (Nat.le_of_ble_eq_true rfl) rfl ?_
  have lp4 : ∀ (n : Nat) (i1 i2 : Int) , (-2147483648) ≤ i1 → i1 ≤ 2147483647 → 0 ≤ i2 → i2 ≤ 4 → (5 - i2).toNat < n → aw G (rm_R 1 0 0) m_Score_allEvents 0 0 4 [some (av_R (some a0)), some (av_I i1), some (av_I i2), none] [] h (fun r h' => ∃ z, r = some (av_I z) ∧ ((-2147483648) ≤ z ∧ z ≤ 2147483647) ∧ h = h') := by
    intro n
    induction n with
    | zero => intro i1 i2 _ _ _ _ hm; omega
    | succ n ih4 =>
      intro i1 i2 hl0 hl1 hl2 hl3 hm
      refine A_iload_n 2 d_Score_allEvents_4 rfl rfl ?_
      refine A_aload_n 0 d_Score_allEvents_5 rfl rfl ?_
      refine A_getIn (lo := 0) (hi := 4) T_ok d_Score_allEvents_6 f_Score_41 (xs_S hx ha0) (xi_g hx (lt1_S ha0) (rg_S_1 ha0)) (fun x3 ex3 _ _ => ?_)
      refine A_icmp_ge (tgt := 39) d_Score_allEvents_9 (by decide) (fun c4 => ?_) (fun c4 => ?_)
      · refine A_iload_n 1 d_Score_allEvents_39 rfl rfl ?_
        exact A_iret d_Score_allEvents_40 (by decide) rfl ⟨_, rfl, ⟨by omega, by omega⟩, rfl⟩
      · refine A_aload_n 0 d_Score_allEvents_12 rfl rfl ?_
        refine A_iload_n 2 d_Score_allEvents_13 rfl rfl ?_
        refine A_callV1 m_Score_voiceAt T_ok d_Score_allEvents_14 l_Score_60 k_Score_voiceAt (xs_S hx ha0) rfl (by decide +kernel) (by decide) (Nat.le_of_ble_eq_true rfl) (s_Score_voiceAt hx ha0) (fun r h5 hq => ?_)
        obtain ⟨ox7, rfl, qx7, rfl⟩ := hq
        rcases qx7 with rfl | ⟨x7, rfl, tx7⟩
        · refine A_astore_n 3 (L' := [some (av_R (some a0)), some (av_I i1), some (av_I i2), some (av_R none)]) d_Score_allEvents_17 rfl (Nat.le_of_ble_eq_true rfl) rfl ?_
          refine A_iload_n 1 d_Score_allEvents_18 rfl rfl ?_
          refine A_aload_n 3 d_Score_allEvents_19 rfl rfl ?_
          refine A_ifnonnull (tgt := 27) d_Score_allEvents_20 (by decide) (fun a q => by cases q) (fun _ => ?_)
          refine A_iconst d_Score_allEvents_23 rfl ?_
          refine A_goto (tgt := 31) d_Score_allEvents_24 (by decide) ?_
          refine A_iaddv (z := i1) d_Score_allEvents_31 (w32_to (by omega) (by unfold i32; omega)) ?_
          refine A_istore_n 1 (L' := [some (av_R (some a0)), some (av_I i1), some (av_I i2), some (av_R none)]) d_Score_allEvents_32 rfl (Nat.le_of_ble_eq_true rfl) rfl ?_
          refine A_iincv (z := (i2 + 1)) (L' := [some (av_R (some a0)), some (av_I i1), some (av_I (i2 + 1)), some (av_R none)]) d_Score_allEvents_33 rfl (w32_to (by omega) (by unfold i32; omega)) rfl ?_
          refine A_goto (tgt := 4) d_Score_allEvents_36 (by decide) ?_
          refine A_free (L' := [some (av_R (some a0)), some (av_I i1), some (av_I (i2 + 1)), none]) (And.intro rfl (And.intro rfl (And.intro rfl trivial))) ?_
          exact ih4 i1 (i2 + 1) (by omega) (by omega) (by omega) (by omega) (by omega)
        · refine A_astore_n 3 (L' := [some (av_R (some a0)), some (av_I i1), some (av_I i2), some (av_R (some x7))]) d_Score_allEvents_17 rfl (Nat.le_of_ble_eq_true rfl) rfl ?_
          refine A_iload_n 1 d_Score_allEvents_18 rfl rfl ?_
          refine A_aload_n 3 d_Score_allEvents_19 rfl rfl ?_
          refine A_ifnonnull (tgt := 27) d_Score_allEvents_20 (by decide) (fun _ _ => ?_) (fun q => by cases q)
          refine A_aload_n 3 d_Score_allEvents_27 rfl rfl ?_
          refine A_getIn (lo := 0) (hi := 300) T_ok d_Score_allEvents_28 f_Score_64 (xs_V hx (tV_V ha0 tx7)) (xi_g hx (lt1_V (tV_V ha0 tx7)) (rg_V_14 (tV_V ha0 tx7))) (fun x8 ex8 _ _ => ?_)
          refine A_iaddw d_Score_allEvents_31 (fun x9 _ _ _ => ?_)
          refine A_istore_n 1 (L' := [some (av_R (some a0)), some (av_I x9), some (av_I i2), some (av_R (some x7))]) d_Score_allEvents_32 rfl (Nat.le_of_ble_eq_true rfl) rfl ?_
          refine A_iincv (z := (i2 + 1)) (L' := [some (av_R (some a0)), some (av_I x9), some (av_I (i2 + 1)), some (av_R (some x7))]) d_Score_allEvents_33 rfl (w32_to (by omega) (by unfold i32; omega)) rfl ?_
          refine A_pc (pc' := 36) rfl ?_
          refine A_goto (tgt := 4) d_Score_allEvents_36 (by decide) ?_
          refine A_free (L' := [some (av_R (some a0)), some (av_I x9), some (av_I (i2 + 1)), none]) (And.intro rfl (And.intro rfl (And.intro rfl trivial))) ?_
          exact ih4 x9 (i2 + 1) (by omega) (by omega) (by omega) (by omega) (by omega)
  exact lp4 _ 0 0 (by omega) (by omega) (by omega) (by omega) (Nat.lt_succ_self _)
theorem s_Score_mostBars {G : cx_T} {s : Nat} {h : ah_T} (hx : xi s h) {a0 : Nat} (ha0 : isS a0) : con G 1 0 0 m_Score_mostBars [av_R (some a0)] h (fun r h' => ∃ z, r = some (av_I z) ∧ (0 ≤ z ∧ z ≤ 101) ∧ h = h') := by
  refine con_of (L := [some (av_R (some a0)), none, none, none]) (by decide +kernel) (Nat.le_of_ble_eq_true rfl) rfl ?_
  have hS : isS s := hx.2.1
  have hs0 : s = 17 ∨ s = 80 := hS
  refine A_iconst d_Score_mostBars_0 rfl ?_
  refine A_istore_n 1 (L' := [some (av_R (some a0)), some (av_I 0), none, none]) d_Score_mostBars_1 rfl (Nat.le_of_ble_eq_true rfl) rfl ?_
  refine A_iconst d_Score_mostBars_2 rfl ?_
  refine A_istore_n 2 (L' := [some (av_R (some a0)), some (av_I 0), some (av_I 0), none]) d_Score_mostBars_3 rfl (Nat.le_of_ble_eq_true rfl) rfl ?_
  have lp4 : ∀ (n : Nat) (i1 i2 : Int) , 0 ≤ i1 → i1 ≤ 101 → 0 ≤ i2 → i2 ≤ 4 → (5 - i2).toNat < n → aw G (rm_R 1 0 0) m_Score_mostBars 0 0 4 [some (av_R (some a0)), some (av_I i1), some (av_I i2), none] [] h (fun r h' => ∃ z, r = some (av_I z) ∧ (0 ≤ z ∧ z ≤ 101) ∧ h = h') := by
    intro n
    induction n with
    | zero => intro i1 i2 _ _ _ _ hm; omega
    | succ n ih4 =>
      intro i1 i2 hl0 hl1 hl2 hl3 hm
      refine A_iload_n 2 d_Score_mostBars_4 rfl rfl ?_
      refine A_aload_n 0 d_Score_mostBars_5 rfl rfl ?_
      refine A_getIn (lo := 0) (hi := 4) T_ok d_Score_mostBars_6 f_Score_41 (xs_S hx ha0) (xi_g hx (lt1_S ha0) (rg_S_1 ha0)) (fun x3 ex3 _ _ => ?_)
      refine A_icmp_ge (tgt := 41) d_Score_mostBars_9 (by decide) (fun c4 => ?_) (fun c4 => ?_)
      · refine A_iload_n 1 d_Score_mostBars_41 rfl rfl ?_
        exact A_iret d_Score_mostBars_42 (by decide) rfl ⟨_, rfl, ⟨by omega, by omega⟩, rfl⟩
      · refine A_aload_n 0 d_Score_mostBars_12 rfl rfl ?_
        refine A_iload_n 2 d_Score_mostBars_13 rfl rfl ?_
        refine A_callV1 m_Score_voiceAt T_ok d_Score_mostBars_14 l_Score_60 k_Score_voiceAt (xs_S hx ha0) rfl (by decide +kernel) (by decide) (Nat.le_of_ble_eq_true rfl) (s_Score_voiceAt hx ha0) (fun r h5 hq => ?_)
        obtain ⟨ox7, rfl, qx7, rfl⟩ := hq
        rcases qx7 with rfl | ⟨x7, rfl, tx7⟩
        · refine A_astore_n 3 (L' := [some (av_R (some a0)), some (av_I i1), some (av_I i2), some (av_R none)]) d_Score_mostBars_17 rfl (Nat.le_of_ble_eq_true rfl) rfl ?_
          refine A_iload_n 1 d_Score_mostBars_18 rfl rfl ?_
          refine A_aload_n 3 d_Score_mostBars_19 rfl rfl ?_
          refine A_ifnonnull (tgt := 27) d_Score_mostBars_20 (by decide) (fun a q => by cases q) (fun _ => ?_)
          refine A_iconst d_Score_mostBars_23 rfl ?_
          refine A_goto (tgt := 31) d_Score_mostBars_24 (by decide) ?_
          refine A_mmax d_Score_mostBars_31 lm_Score_70 ma_max (by decide) (by decide) (Nat.le_of_ble_eq_true rfl) rfl ?_
          refine A_nrI (fun x8 ex8 _ _ => ?_)
          have bx8 := mmax_r ex8
          refine A_istore_n 1 (L' := [some (av_R (some a0)), some (av_I x8), some (av_I i2), some (av_R none)]) d_Score_mostBars_34 rfl (Nat.le_of_ble_eq_true rfl) rfl ?_
          refine A_iincv (z := (i2 + 1)) (L' := [some (av_R (some a0)), some (av_I x8), some (av_I (i2 + 1)), some (av_R none)]) d_Score_mostBars_35 rfl (w32_to (by omega) (by unfold i32; omega)) rfl ?_
          refine A_goto (tgt := 4) d_Score_mostBars_38 (by decide) ?_
          refine A_free (L' := [some (av_R (some a0)), some (av_I x8), some (av_I (i2 + 1)), none]) (And.intro rfl (And.intro rfl (And.intro rfl trivial))) ?_
          exact ih4 x8 (i2 + 1) (by omega) (by omega) (by omega) (by omega) (by omega)
        · refine A_astore_n 3 (L' := [some (av_R (some a0)), some (av_I i1), some (av_I i2), some (av_R (some x7))]) d_Score_mostBars_17 rfl (Nat.le_of_ble_eq_true rfl) rfl ?_
          refine A_iload_n 1 d_Score_mostBars_18 rfl rfl ?_
          refine A_aload_n 3 d_Score_mostBars_19 rfl rfl ?_
          refine A_ifnonnull (tgt := 27) d_Score_mostBars_20 (by decide) (fun _ _ => ?_) (fun q => by cases q)
          refine A_aload_n 3 d_Score_mostBars_27 rfl rfl ?_
          refine A_getIn (lo := 0) (hi := 101) T_ok d_Score_mostBars_28 f_Score_67 (xs_V hx (tV_V ha0 tx7)) (xi_g hx (lt1_V (tV_V ha0 tx7)) (rg_V_16 (tV_V ha0 tx7))) (fun x9 ex9 _ _ => ?_)
          refine A_mmax d_Score_mostBars_31 lm_Score_70 ma_max (by decide) (by decide) (Nat.le_of_ble_eq_true rfl) rfl ?_
          refine A_nrI (fun x10 ex10 _ _ => ?_)
          have bx10 := mmax_r ex10
          refine A_istore_n 1 (L' := [some (av_R (some a0)), some (av_I x10), some (av_I i2), some (av_R (some x7))]) d_Score_mostBars_34 rfl (Nat.le_of_ble_eq_true rfl) rfl ?_
          refine A_iincv (z := (i2 + 1)) (L' := [some (av_R (some a0)), some (av_I x10), some (av_I (i2 + 1)), some (av_R (some x7))]) d_Score_mostBars_35 rfl (w32_to (by omega) (by unfold i32; omega)) rfl ?_
          refine A_pc (pc' := 38) rfl ?_
          refine A_goto (tgt := 4) d_Score_mostBars_38 (by decide) ?_
          refine A_free (L' := [some (av_R (some a0)), some (av_I x10), some (av_I (i2 + 1)), none]) (And.intro rfl (And.intro rfl (And.intro rfl trivial))) ?_
          exact ih4 x10 (i2 + 1) (by omega) (by omega) (by omega) (by omega) (by omega)
  exact lp4 _ 0 0 (by omega) (by omega) (by omega) (by omega) (Nat.lt_succ_self _)
