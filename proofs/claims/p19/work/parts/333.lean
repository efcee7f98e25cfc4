/-! ===== the reference's methods, 333 ===== -/
def m_MD_parse : mr_T := (⟨"PlainMusicModel", "parse", "()Z"⟩, prog_14_method_19_code, 2, some .boolean)
theorem d_MD_parse_0 : decode prog_14_method_19_code 0 = .ok (.aload_n 0, 1) := by decide +kernel
theorem d_MD_parse_1 : decode prog_14_method_19_code 1 = .ok (.getfield 17, 3) := by decide +kernel
theorem d_MD_parse_4 : decode prog_14_method_19_code 4 = .ok (.iconst 1, 1) := by decide +kernel
theorem d_MD_parse_5 : decode prog_14_method_19_code 5 = .ok (.iconst 0, 1) := by decide +kernel
theorem d_MD_parse_6 : decode prog_14_method_19_code 6 = .ok (.iastore, 1) := by decide +kernel
theorem d_MD_parse_7 : decode prog_14_method_19_code 7 = .ok (.aload_n 0, 1) := by decide +kernel
theorem d_MD_parse_8 : decode prog_14_method_19_code 8 = .ok (.getfield 20, 3) := by decide +kernel
theorem d_MD_parse_11 : decode prog_14_method_19_code 11 = .ok (.iconst 1, 1) := by decide +kernel
theorem d_MD_parse_12 : decode prog_14_method_19_code 12 = .ok (.iconst 4, 1) := by decide +kernel
theorem d_MD_parse_13 : decode prog_14_method_19_code 13 = .ok (.iastore, 1) := by decide +kernel
theorem d_MD_parse_14 : decode prog_14_method_19_code 14 = .ok (.aload_n 0, 1) := by decide +kernel
theorem d_MD_parse_15 : decode prog_14_method_19_code 15 = .ok (.getfield 23, 3) := by decide +kernel
theorem d_MD_parse_18 : decode prog_14_method_19_code 18 = .ok (.iconst 1, 1) := by decide +kernel
theorem d_MD_parse_19 : decode prog_14_method_19_code 19 = .ok (.iconst 4, 1) := by decide +kernel
theorem d_MD_parse_20 : decode prog_14_method_19_code 20 = .ok (.iastore, 1) := by decide +kernel
theorem d_MD_parse_21 : decode prog_14_method_19_code 21 = .ok (.aload_n 0, 1) := by decide +kernel
theorem d_MD_parse_22 : decode prog_14_method_19_code 22 = .ok (.getfield 26, 3) := by decide +kernel
theorem d_MD_parse_25 : decode prog_14_method_19_code 25 = .ok (.iconst 1, 1) := by decide +kernel
theorem d_MD_parse_26 : decode prog_14_method_19_code 26 = .ok (.iconst 0, 1) := by decide +kernel
theorem d_MD_parse_27 : decode prog_14_method_19_code 27 = .ok (.iastore, 1) := by decide +kernel
theorem d_MD_parse_28 : decode prog_14_method_19_code 28 = .ok (.aload_n 0, 1) := by decide +kernel
theorem d_MD_parse_29 : decode prog_14_method_19_code 29 = .ok (.getfield 32, 3) := by decide +kernel
theorem d_MD_parse_32 : decode prog_14_method_19_code 32 = .ok (.iconst 1, 1) := by decide +kernel
theorem d_MD_parse_33 : decode prog_14_method_19_code 33 = .ok (.iconst 0, 1) := by decide +kernel
theorem d_MD_parse_34 : decode prog_14_method_19_code 34 = .ok (.iastore, 1) := by decide +kernel
theorem d_MD_parse_35 : decode prog_14_method_19_code 35 = .ok (.aload_n 0, 1) := by decide +kernel
theorem d_MD_parse_36 : decode prog_14_method_19_code 36 = .ok (.getfield 44, 3) := by decide +kernel
theorem d_MD_parse_39 : decode prog_14_method_19_code 39 = .ok (.iconst 1, 1) := by decide +kernel
theorem d_MD_parse_40 : decode prog_14_method_19_code 40 = .ok (.iconst 0, 1) := by decide +kernel
theorem d_MD_parse_41 : decode prog_14_method_19_code 41 = .ok (.iastore, 1) := by decide +kernel
theorem d_MD_parse_42 : decode prog_14_method_19_code 42 = .ok (.aload_n 0, 1) := by decide +kernel
theorem d_MD_parse_43 : decode prog_14_method_19_code 43 = .ok (.getfield 50, 3) := by decide +kernel
theorem d_MD_parse_46 : decode prog_14_method_19_code 46 = .ok (.iconst 1, 1) := by decide +kernel
theorem d_MD_parse_47 : decode prog_14_method_19_code 47 = .ok (.iconst 0, 1) := by decide +kernel
theorem d_MD_parse_48 : decode prog_14_method_19_code 48 = .ok (.iastore, 1) := by decide +kernel
theorem d_MD_parse_49 : decode prog_14_method_19_code 49 = .ok (.aload_n 0, 1) := by decide +kernel
theorem d_MD_parse_50 : decode prog_14_method_19_code 50 = .ok (.iconst 0, 1) := by decide +kernel
theorem d_MD_parse_51 : decode prog_14_method_19_code 51 = .ok (.putfield 316, 3) := by decide +kernel
theorem d_MD_parse_54 : decode prog_14_method_19_code 54 = .ok (.aload_n 0, 1) := by decide +kernel
theorem d_MD_parse_55 : decode prog_14_method_19_code 55 = .ok (.iconst 0, 1) := by decide +kernel
theorem d_MD_parse_56 : decode prog_14_method_19_code 56 = .ok (.putfield 320, 3) := by decide +kernel
theorem d_MD_parse_59 : decode prog_14_method_19_code 59 = .ok (.aload_n 0, 1) := by decide +kernel
theorem d_MD_parse_60 : decode prog_14_method_19_code 60 = .ok (.iconst 0, 1) := by decide +kernel
theorem d_MD_parse_61 : decode prog_14_method_19_code 61 = .ok (.putfield 323, 3) := by decide +kernel
theorem d_MD_parse_64 : decode prog_14_method_19_code 64 = .ok (.aload_n 0, 1) := by decide +kernel
theorem d_MD_parse_65 : decode prog_14_method_19_code 65 = .ok (.invokevirtual 309, 3) := by decide +kernel
theorem d_MD_parse_68 : decode prog_14_method_19_code 68 = .ok (.pop, 1) := by decide +kernel
theorem d_MD_parse_69 : decode prog_14_method_19_code 69 = .ok (.aload_n 0, 1) := by decide +kernel
theorem d_MD_parse_70 : decode prog_14_method_19_code 70 = .ok (.getfield 239, 3) := by decide +kernel
theorem d_MD_parse_73 : decode prog_14_method_19_code 73 = .ok (.ifCond .eq 97, 3) := by decide +kernel
theorem d_MD_parse_170 : decode prog_14_method_19_code 170 = .ok (.iconst 1, 1) := by decide +kernel
theorem d_MD_parse_171 : decode prog_14_method_19_code 171 = .ok (.ireturn, 1) := by decide +kernel
theorem d_MD_parse_76 : decode prog_14_method_19_code 76 = .ok (.aload_n 0, 1) := by decide +kernel
theorem d_MD_parse_77 : decode prog_14_method_19_code 77 = .ok (.iconst 0, 1) := by decide +kernel
theorem d_MD_parse_78 : decode prog_14_method_19_code 78 = .ok (.invokevirtual 326, 3) := by decide +kernel
theorem d_MD_parse_81 : decode prog_14_method_19_code 81 = .ok (.ifCond .eq 11, 3) := by decide +kernel
theorem d_MD_parse_92 : decode prog_14_method_19_code 92 = .ok (.aload_n 0, 1) := by decide +kernel
theorem d_MD_parse_93 : decode prog_14_method_19_code 93 = .ok (.iconst 1, 1) := by decide +kernel
theorem d_MD_parse_94 : decode prog_14_method_19_code 94 = .ok (.invokevirtual 326, 3) := by decide +kernel
theorem d_MD_parse_97 : decode prog_14_method_19_code 97 = .ok (.ifCond .eq 11, 3) := by decide +kernel
theorem d_MD_parse_108 : decode prog_14_method_19_code 108 = .ok (.aload_n 0, 1) := by decide +kernel
theorem d_MD_parse_109 : decode prog_14_method_19_code 109 = .ok (.iconst 2, 1) := by decide +kernel
theorem d_MD_parse_110 : decode prog_14_method_19_code 110 = .ok (.invokevirtual 326, 3) := by decide +kernel
theorem d_MD_parse_113 : decode prog_14_method_19_code 113 = .ok (.ifCond .eq 11, 3) := by decide +kernel
theorem d_MD_parse_124 : decode prog_14_method_19_code 124 = .ok (.aload_n 0, 1) := by decide +kernel
theorem d_MD_parse_125 : decode prog_14_method_19_code 125 = .ok (.iconst 3, 1) := by decide +kernel
theorem d_MD_parse_126 : decode prog_14_method_19_code 126 = .ok (.invokevirtual 326, 3) := by decide +kernel
theorem d_MD_parse_129 : decode prog_14_method_19_code 129 = .ok (.ifCond .eq 11, 3) := by decide +kernel
theorem d_MD_parse_140 : decode prog_14_method_19_code 140 = .ok (.aload_n 0, 1) := by decide +kernel
theorem d_MD_parse_141 : decode prog_14_method_19_code 141 = .ok (.iconst 4, 1) := by decide +kernel
theorem d_MD_parse_142 : decode prog_14_method_19_code 142 = .ok (.invokevirtual 326, 3) := by decide +kernel
theorem d_MD_parse_145 : decode prog_14_method_19_code 145 = .ok (.ifCond .eq 11, 3) := by decide +kernel
theorem d_MD_parse_156 : decode prog_14_method_19_code 156 = .ok (.aload_n 0, 1) := by decide +kernel
theorem d_MD_parse_157 : decode prog_14_method_19_code 157 = .ok (.invokevirtual 313, 3) := by decide +kernel
theorem d_MD_parse_160 : decode prog_14_method_19_code 160 = .ok (.istore_n 1, 1) := by decide +kernel
theorem d_MD_parse_161 : decode prog_14_method_19_code 161 = .ok (.iload_n 1, 1) := by decide +kernel
theorem d_MD_parse_162 : decode prog_14_method_19_code 162 = .ok (.ifCond .ne 5, 3) := by decide +kernel
theorem d_MD_parse_165 : decode prog_14_method_19_code 165 = .ok (.iconst 0, 1) := by decide +kernel
theorem d_MD_parse_166 : decode prog_14_method_19_code 166 = .ok (.ireturn, 1) := by decide +kernel
theorem d_MD_parse_148 : decode prog_14_method_19_code 148 = .ok (.aload_n 0, 1) := by decide +kernel
theorem d_MD_parse_149 : decode prog_14_method_19_code 149 = .ok (.invokevirtual 341, 3) := by decide +kernel
theorem k_MD_rowItem : mt_OK m_MD_rowItem 0 1 := ⟨gwi_1996, gwi_146, ⟨by decide +kernel, by decide +kernel, by decide +kernel⟩, fun h => absurd h (by decide), fun _ => ⟨gwi_1995, gwi_98⟩, fun h => absurd h (by decide)⟩
theorem l_MD_341 : ml_OK "PlainMusicModel" 341 ⟨"PlainMusicModel", "rowItem", "()Z"⟩ := Or.inl gwi_1993
theorem d_MD_parse_152 : decode prog_14_method_19_code 152 = .ok (.istore_n 1, 1) := by decide +kernel
theorem d_MD_parse_153 : decode prog_14_method_19_code 153 = .ok (.goto 8, 3) := by decide +kernel
theorem d_MD_parse_167 : decode prog_14_method_19_code 167 = .ok (.goto (-98), 3) := by decide +kernel
theorem d_MD_parse_132 : decode prog_14_method_19_code 132 = .ok (.aload_n 0, 1) := by decide +kernel
theorem d_MD_parse_133 : decode prog_14_method_19_code 133 = .ok (.invokevirtual 338, 3) := by decide +kernel
theorem k_MD_ruleItem : mt_OK m_MD_ruleItem 0 1 := ⟨gwi_1988, gwi_146, ⟨by decide +kernel, by decide +kernel, by decide +kernel⟩, fun h => absurd h (by decide), fun _ => ⟨gwi_1987, gwi_96⟩, fun h => absurd h (by decide)⟩
theorem l_MD_338 : ml_OK "PlainMusicModel" 338 ⟨"PlainMusicModel", "ruleItem", "()Z"⟩ := Or.inl gwi_1985
theorem d_MD_parse_136 : decode prog_14_method_19_code 136 = .ok (.istore_n 1, 1) := by decide +kernel
theorem d_MD_parse_137 : decode prog_14_method_19_code 137 = .ok (.goto 24, 3) := by decide +kernel
theorem d_MD_parse_116 : decode prog_14_method_19_code 116 = .ok (.aload_n 0, 1) := by decide +kernel
theorem d_MD_parse_117 : decode prog_14_method_19_code 117 = .ok (.invokevirtual 335, 3) := by decide +kernel
theorem k_MD_lineItem : mt_OK m_MD_lineItem 0 1 := ⟨gwi_1984, gwi_146, ⟨by decide +kernel, by decide +kernel, by decide +kernel⟩, fun h => absurd h (by decide), fun _ => ⟨gwi_1983, gwi_95⟩, fun h => absurd h (by decide)⟩
theorem l_MD_335 : ml_OK "PlainMusicModel" 335 ⟨"PlainMusicModel", "lineItem", "()Z"⟩ := Or.inl gwi_1981
theorem d_MD_parse_120 : decode prog_14_method_19_code 120 = .ok (.istore_n 1, 1) := by decide +kernel
theorem d_MD_parse_121 : decode prog_14_method_19_code 121 = .ok (.goto 40, 3) := by decide +kernel
theorem d_MD_parse_100 : decode prog_14_method_19_code 100 = .ok (.aload_n 0, 1) := by decide +kernel
theorem d_MD_parse_101 : decode prog_14_method_19_code 101 = .ok (.invokevirtual 332, 3) := by decide +kernel
theorem k_MD_voiceItem : mt_OK m_MD_voiceItem 0 1 := ⟨gwi_1905, gwi_146, ⟨by decide +kernel, by decide +kernel, by decide +kernel⟩, fun h => absurd h (by decide), fun _ => ⟨gwi_1904, gwi_76⟩, fun h => absurd h (by decide)⟩
theorem l_MD_332 : ml_OK "PlainMusicModel" 332 ⟨"PlainMusicModel", "voiceItem", "()Z"⟩ := Or.inl gwi_1902
theorem d_MD_parse_104 : decode prog_14_method_19_code 104 = .ok (.istore_n 1, 1) := by decide +kernel
theorem d_MD_parse_105 : decode prog_14_method_19_code 105 = .ok (.goto 56, 3) := by decide +kernel
theorem d_MD_parse_84 : decode prog_14_method_19_code 84 = .ok (.aload_n 0, 1) := by decide +kernel
theorem d_MD_parse_85 : decode prog_14_method_19_code 85 = .ok (.invokevirtual 329, 3) := by decide +kernel
theorem k_MD_timeItem : mt_OK m_MD_timeItem 0 1 := ⟨gwi_1881, gwi_146, ⟨by decide +kernel, by decide +kernel, by decide +kernel⟩, fun h => absurd h (by decide), fun _ => ⟨gwi_1880, gwi_70⟩, fun h => absurd h (by decide)⟩
theorem l_MD_329 : ml_OK "PlainMusicModel" 329 ⟨"PlainMusicModel", "timeItem", "()Z"⟩ := Or.inl gwi_1878
theorem d_MD_parse_88 : decode prog_14_method_19_code 88 = .ok (.istore_n 1, 1) := by decide +kernel
theorem d_MD_parse_89 : decode prog_14_method_19_code 89 = .ok (.goto 72, 3) := by decide +kernel
theorem s_MD_parse {G : cx_T} {h : ah_T} (hx : mi h)  (hse : h.2.1 170 3 ≤ h.2.1 170 2) : con G 7 0 0 m_MD_parse [av_R (some 170)] h (fun r h' => ∃ z, r = some (av_I z) ∧ (z = 0 ∨ z = 1) ∧ (PP h h' ∧ (z = 1 → PV h')) ∧ kM (pm [3, 4, 5, 6, 7, 8, 9, 10, 11, 12, 43, 59, 60, 61, 63, 64, 65, 66, 70, 71, 72, 73, 74, 75, 76, 77, 78] [172, 173, 174, 175, 176, 177, 178, 179, 180, 181, 182, 183, 184, 185, 186, 187, 188, 189, 190, 191, 192, 193, 194, 195, 196, 197, 198, 199, 200, 201, 202, 203, 204, 205, 206, 207, 208, 209, 210, 211, 212, 213, 214, 215, 216, 217, 218, 219, 220]) h h') := by
  refine con_of (L := [some (av_R (some 170)), none]) (by decide +kernel) (Nat.le_of_ble_eq_true rfl) rfl ?_
  have k0 : kM (pm [3, 4, 5, 6, 7, 8, 9, 10, 11, 12, 43, 59, 60, 61, 63, 64, 65, 66, 70, 71, 72, 73, 74, 75, 76, 77, 78] [172, 173, 174, 175, 176, 177, 178, 179, 180, 181, 182, 183, 184, 185, 186, 187, 188, 189, 190, 191, 192, 193, 194, 195, 196, 197, 198, 199, 200, 201, 202, 203, 204, 205, 206, 207, 208, 209, 210, 211, 212, 213, 214, 215, 216, 217, 218, 219, 220]) h h := kM_0 hx
  obtain ⟨sd1, esd1⟩ : ∃ x, x = h.2.1 170 3 := ⟨_, rfl⟩
  have rsd1 : 0 ≤ sd1 ∧ sd1 ≤ 2000 := (by rw [esd1]; exact mi_g k0.1 (by decide) mr_170_3)
  obtain ⟨sd2, esd2⟩ : ∃ x, x = h.2.1 170 2 := ⟨_, rfl⟩
  have rsd2 : 0 ≤ sd2 ∧ sd2 ≤ 2000 := (by rw [esd2]; exact mi_g k0.1 (by decide) mr_170_2)
  obtain ⟨sd3, esd3⟩ : ∃ x, x = h.2.1 170 4 := ⟨_, rfl⟩
  have rsd3 : 0 ≤ sd3 ∧ sd3 ≤ 6 := (by rw [esd3]; exact mi_g k0.1 (by decide) mr_170_4)
  refine A_aload_n 0 d_MD_parse_0 rfl rfl ?_
  refine A_getAv (z := some 172) T_ok d_MD_parse_1 f_MD_17 (mi_s k0.1 sf_170) (mi_r k0.1 rfm_14) ?_
  refine A_iconst d_MD_parse_4 rfl ?_
  refine A_iconst d_MD_parse_5 rfl ?_
  refine A_iastorek (KR := kM (pm [3, 4, 5, 6, 7, 8, 9, 10, 11, 12, 43, 59, 60, 61, 63, 64, 65, 66, 70, 71, 72, 73, 74, 75, 76, 77, 78] [172, 173, 174, 175, 176, 177, 178, 179, 180, 181, 182, 183, 184, 185, 186, 187, 188, 189, 190, 191, 192, 193, 194, 195, 196, 197, 198, 199, 200, 201, 202, 203, 204, 205, 206, 207, 208, 209, 210, 211, 212, 213, 214, 215, 216, 217, 218, 219, 220]) h) d_MD_parse_6 (mi_s k0.1 sf_172) (by decide) (by decide) (kM_i k0 (by decide) rfl (mr_172 _) (by omega) (by omega)) (fun h5 k6 eh5 => ?_)
  refine A_pc (pc' := 7) rfl ?_
  refine A_aload_n 0 d_MD_parse_7 rfl rfl ?_
  refine A_getAv (z := some 173) T_ok d_MD_parse_8 f_MD_20 (mi_s k6.1 sf_170) (mi_r k6.1 rfm_15) ?_
  refine A_iconst d_MD_parse_11 rfl ?_
  refine A_iconst d_MD_parse_12 rfl ?_
  refine A_iastorek (KR := kM (pm [3, 4, 5, 6, 7, 8, 9, 10, 11, 12, 43, 59, 60, 61, 63, 64, 65, 66, 70, 71, 72, 73, 74, 75, 76, 77, 78] [172, 173, 174, 175, 176, 177, 178, 179, 180, 181, 182, 183, 184, 185, 186, 187, 188, 189, 190, 191, 192, 193, 194, 195, 196, 197, 198, 199, 200, 201, 202, 203, 204, 205, 206, 207, 208, 209, 210, 211, 212, 213, 214, 215, 216, 217, 218, 219, 220]) h) d_MD_parse_13 (mi_s k6.1 sf_173) (by decide) (by decide) (kM_i k6 (by decide) rfl (mr_173 _) (by omega) (by omega)) (fun h8 k9 eh8 => ?_)
  refine A_aload_n 0 d_MD_parse_14 rfl rfl ?_
  refine A_pc (pc' := 15) rfl ?_
  refine A_getAv (z := some 174) T_ok d_MD_parse_15 f_MD_23 (mi_s k9.1 sf_170) (mi_r k9.1 rfm_16) ?_
  refine A_iconst d_MD_parse_18 rfl ?_
  refine A_iconst d_MD_parse_19 rfl ?_
  refine A_iastorek (KR := kM (pm [3, 4, 5, 6, 7, 8, 9, 10, 11, 12, 43, 59, 60, 61, 63, 64, 65, 66, 70, 71, 72, 73, 74, 75, 76, 77, 78] [172, 173, 174, 175, 176, 177, 178, 179, 180, 181, 182, 183, 184, 185, 186, 187, 188, 189, 190, 191, 192, 193, 194, 195, 196, 197, 198, 199, 200, 201, 202, 203, 204, 205, 206, 207, 208, 209, 210, 211, 212, 213, 214, 215, 216, 217, 218, 219, 220]) h) d_MD_parse_20 (mi_s k9.1 sf_174) (by decide) (by decide) (kM_i k9 (by decide) rfl (mr_174 _) (by omega) (by omega)) (fun h11 k12 eh11 => ?_)
  refine A_aload_n 0 d_MD_parse_21 rfl rfl ?_
  refine A_getAv (z := some 175) T_ok d_MD_parse_22 f_MD_26 (mi_s k12.1 sf_170) (mi_r k12.1 rfm_17) ?_
  refine A_pc (pc' := 25) rfl ?_
  refine A_iconst d_MD_parse_25 rfl ?_
  refine A_iconst d_MD_parse_26 rfl ?_
  refine A_iastorek (KR := kM (pm [3, 4, 5, 6, 7, 8, 9, 10, 11, 12, 43, 59, 60, 61, 63, 64, 65, 66, 70, 71, 72, 73, 74, 75, 76, 77, 78] [172, 173, 174, 175, 176, 177, 178, 179, 180, 181, 182, 183, 184, 185, 186, 187, 188, 189, 190, 191, 192, 193, 194, 195, 196, 197, 198, 199, 200, 201, 202, 203, 204, 205, 206, 207, 208, 209, 210, 211, 212, 213, 214, 215, 216, 217, 218, 219, 220]) h) d_MD_parse_27 (mi_s k12.1 sf_175) (by decide) (by decide) (kM_i k12 (by decide) rfl (mr_175 _) (by omega) (by omega)) (fun h14 k15 eh14 => ?_)
  refine A_aload_n 0 d_MD_parse_28 rfl rfl ?_
  refine A_getAv (z := some 177) T_ok d_MD_parse_29 f_MD_32 (mi_s k15.1 sf_170) (mi_r k15.1 rfm_19) ?_
  refine A_iconst d_MD_parse_32 rfl ?_
  refine A_pc (pc' := 33) rfl ?_
  refine A_iconst d_MD_parse_33 rfl ?_
  refine A_iastorek (KR := kM (pm [3, 4, 5, 6, 7, 8, 9, 10, 11, 12, 43, 59, 60, 61, 63, 64, 65, 66, 70, 71, 72, 73, 74, 75, 76, 77, 78] [172, 173, 174, 175, 176, 177, 178, 179, 180, 181, 182, 183, 184, 185, 186, 187, 188, 189, 190, 191, 192, 193, 194, 195, 196, 197, 198, 199, 200, 201, 202, 203, 204, 205, 206, 207, 208, 209, 210, 211, 212, 213, 214, 215, 216, 217, 218, 219, 220]) h) d_MD_parse_34 (mi_s k15.1 sf_177) (by decide) (by decide) (kM_i k15 (by decide) rfl (mr_177 _) (by omega) (by omega)) (fun h17 k18 eh17 => ?_)
  refine A_aload_n 0 d_MD_parse_35 rfl rfl ?_
  refine A_getAv (z := some 181) T_ok d_MD_parse_36 f_MD_44 (mi_s k18.1 sf_170) (mi_r k18.1 rfm_23) ?_
  refine A_iconst d_MD_parse_39 rfl ?_
  refine A_iconst d_MD_parse_40 rfl ?_
  refine A_pc (pc' := 41) rfl ?_
  refine A_iastorek (KR := kM (pm [3, 4, 5, 6, 7, 8, 9, 10, 11, 12, 43, 59, 60, 61, 63, 64, 65, 66, 70, 71, 72, 73, 74, 75, 76, 77, 78] [172, 173, 174, 175, 176, 177, 178, 179, 180, 181, 182, 183, 184, 185, 186, 187, 188, 189, 190, 191, 192, 193, 194, 195, 196, 197, 198, 199, 200, 201, 202, 203, 204, 205, 206, 207, 208, 209, 210, 211, 212, 213, 214, 215, 216, 217, 218, 219, 220]) h) d_MD_parse_41 (mi_s k18.1 sf_181) (by decide) (by decide) (kM_i k18 (by decide) rfl (mr_181 _) (by omega) (by omega)) (fun h20 k21 eh20 => ?_)
  refine A_aload_n 0 d_MD_parse_42 rfl rfl ?_
  refine A_getAv (z := some 183) T_ok d_MD_parse_43 f_MD_50 (mi_s k21.1 sf_170) (mi_r k21.1 rfm_25) ?_
  refine A_iconst d_MD_parse_46 rfl ?_
  refine A_iconst d_MD_parse_47 rfl ?_
  refine A_iastorek (KR := kM (pm [3, 4, 5, 6, 7, 8, 9, 10, 11, 12, 43, 59, 60, 61, 63, 64, 65, 66, 70, 71, 72, 73, 74, 75, 76, 77, 78] [172, 173, 174, 175, 176, 177, 178, 179, 180, 181, 182, 183, 184, 185, 186, 187, 188, 189, 190, 191, 192, 193, 194, 195, 196, 197, 198, 199, 200, 201, 202, 203, 204, 205, 206, 207, 208, 209, 210, 211, 212, 213, 214, 215, 216, 217, 218, 219, 220]) h) d_MD_parse_48 (mi_s k21.1 sf_183) (by decide) (by decide) (kM_i k21 (by decide) rfl (mr_183 _) (by omega) (by omega)) (fun h23 k24 eh23 => ?_)
  refine A_pc (pc' := 49) rfl ?_
  refine A_aload_n 0 d_MD_parse_49 rfl rfl ?_
  refine A_iconst d_MD_parse_50 rfl ?_
  refine A_putZk (KR := kM (pm [3, 4, 5, 6, 7, 8, 9, 10, 11, 12, 43, 59, 60, 61, 63, 64, 65, 66, 70, 71, 72, 73, 74, 75, 76, 77, 78] [172, 173, 174, 175, 176, 177, 178, 179, 180, 181, 182, 183, 184, 185, 186, 187, 188, 189, 190, 191, 192, 193, 194, 195, 196, 197, 198, 199, 200, 201, 202, 203, 204, 205, 206, 207, 208, 209, 210, 211, 212, 213, 214, 215, 216, 217, 218, 219, 220]) h) T_ok d_MD_parse_51 f_MD_316 (mi_s k24.1 sf_170) fin_f (by omega) (kM_i k24 (by decide) (by decide) mr_170_59 (by omega) (by omega)) (fun h25 k26 eh25 => ?_)
  refine A_aload_n 0 d_MD_parse_54 rfl rfl ?_
  refine A_iconst d_MD_parse_55 rfl ?_
  refine A_putZk (KR := kM (pm [3, 4, 5, 6, 7, 8, 9, 10, 11, 12, 43, 59, 60, 61, 63, 64, 65, 66, 70, 71, 72, 73, 74, 75, 76, 77, 78] [172, 173, 174, 175, 176, 177, 178, 179, 180, 181, 182, 183, 184, 185, 186, 187, 188, 189, 190, 191, 192, 193, 194, 195, 196, 197, 198, 199, 200, 201, 202, 203, 204, 205, 206, 207, 208, 209, 210, 211, 212, 213, 214, 215, 216, 217, 218, 219, 220]) h) T_ok d_MD_parse_56 f_MD_320 (mi_s k26.1 sf_170) fin_f (by omega) (kM_i k26 (by decide) (by decide) mr_170_60 (by omega) (by omega)) (fun h27 k28 eh27 => ?_)
  refine A_pc (pc' := 59) rfl ?_
  refine A_aload_n 0 d_MD_parse_59 rfl rfl ?_
  refine A_iconst d_MD_parse_60 rfl ?_
  refine A_putZk (KR := kM (pm [3, 4, 5, 6, 7, 8, 9, 10, 11, 12, 43, 59, 60, 61, 63, 64, 65, 66, 70, 71, 72, 73, 74, 75, 76, 77, 78] [172, 173, 174, 175, 176, 177, 178, 179, 180, 181, 182, 183, 184, 185, 186, 187, 188, 189, 190, 191, 192, 193, 194, 195, 196, 197, 198, 199, 200, 201, 202, 203, 204, 205, 206, 207, 208, 209, 210, 211, 212, 213, 214, 215, 216, 217, 218, 219, 220]) h) T_ok d_MD_parse_61 f_MD_323 (mi_s k28.1 sf_170) fin_f (by omega) (kM_i k28 (by decide) (by decide) mr_170_61 (by omega) (by omega)) (fun h29 k30 eh29 => ?_)
  refine A_aload_n 0 d_MD_parse_64 rfl rfl ?_
  have zf32 := ((eh29.1 _ _ (fun _ => by decide)).trans ((eh27.1 _ _ (fun _ => by decide)).trans ((eh25.1 _ _ (fun _ => by decide)).trans ((eh23.1 _ _ (fun q => absurd q (by decide))).trans ((eh20.1 _ _ (fun q => absurd q (by decide))).trans ((eh17.1 _ _ (fun q => absurd q (by decide))).trans ((eh14.1 _ _ (fun q => absurd q (by decide))).trans ((eh11.1 _ _ (fun q => absurd q (by decide))).trans ((eh8.1 _ _ (fun q => absurd q (by decide))).trans ((eh5.1 _ _ (fun q => absurd q (by decide))).trans esd1.symm))))))))))
  have zf33 := ((eh29.1 _ _ (fun _ => by decide)).trans ((eh27.1 _ _ (fun _ => by decide)).trans ((eh25.1 _ _ (fun _ => by decide)).trans ((eh23.1 _ _ (fun q => absurd q (by decide))).trans ((eh20.1 _ _ (fun q => absurd q (by decide))).trans ((eh17.1 _ _ (fun q => absurd q (by decide))).trans ((eh14.1 _ _ (fun q => absurd q (by decide))).trans ((eh11.1 _ _ (fun q => absurd q (by decide))).trans ((eh8.1 _ _ (fun q => absurd q (by decide))).trans ((eh5.1 _ _ (fun q => absurd q (by decide))).trans esd2.symm))))))))))
  have zf34 := ((eh29.1 _ _ (fun _ => by decide)).trans ((eh27.1 _ _ (fun _ => by decide)).trans ((eh25.1 _ _ (fun _ => by decide)).trans ((eh23.1 _ _ (fun q => absurd q (by decide))).trans ((eh20.1 _ _ (fun q => absurd q (by decide))).trans ((eh17.1 _ _ (fun q => absurd q (by decide))).trans ((eh14.1 _ _ (fun q => absurd q (by decide))).trans ((eh11.1 _ _ (fun q => absurd q (by decide))).trans ((eh8.1 _ _ (fun q => absurd q (by decide))).trans ((eh5.1 _ _ (fun q => absurd q (by decide))).trans esd3.symm))))))))))
  refine A_callV0 m_MD_next T_ok d_MD_parse_65 l_MD_309 k_MD_next (mi_s k30.1 sf_170) rfl (by decide +kernel) (by decide) (Nat.le_of_ble_eq_true rfl) (s_MD_next k30.1 (by have qq0 := ((eh29.1 _ _ (fun _ => by decide)).trans ((eh27.1 _ _ (fun _ => by decide)).trans ((eh25.1 _ _ (fun _ => by decide)).trans ((eh23.1 _ _ (fun q => absurd q (by decide))).trans ((eh20.1 _ _ (fun q => absurd q (by decide))).trans ((eh17.1 _ _ (fun q => absurd q (by decide))).trans ((eh14.1 _ _ (fun q => absurd q (by decide))).trans ((eh11.1 _ _ (fun q => absurd q (by decide))).trans ((eh8.1 _ _ (fun q => absurd q (by decide))).trans ((eh5.1 _ _ (fun q => absurd q (by decide))).trans esd1.symm)))))))))); have qq1 := ((eh29.1 _ _ (fun _ => by decide)).trans ((eh27.1 _ _ (fun _ => by decide)).trans ((eh25.1 _ _ (fun _ => by decide)).trans ((eh23.1 _ _ (fun q => absurd q (by decide))).trans ((eh20.1 _ _ (fun q => absurd q (by decide))).trans ((eh17.1 _ _ (fun q => absurd q (by decide))).trans ((eh14.1 _ _ (fun q => absurd q (by decide))).trans ((eh11.1 _ _ (fun q => absurd q (by decide))).trans ((eh8.1 _ _ (fun q => absurd q (by decide))).trans ((eh5.1 _ _ (fun q => absurd q (by decide))).trans esd2.symm)))))))))); omega)) (fun r h31 hq => ?_)
  obtain ⟨x36, rfl, ⟨_, _⟩, xx36, k35⟩ := hq
  have k37 := kM_t k30 k35 (pm_s (by decide) (by decide))
  obtain ⟨sd38, esd38⟩ : ∃ x, x = h31.2.1 170 3 := ⟨_, rfl⟩
  have rsd38 : 0 ≤ sd38 ∧ sd38 ≤ 2000 := (by rw [esd38]; exact mi_g k37.1 (by decide) mr_170_3)
  obtain ⟨sd39, esd39⟩ : ∃ x, x = h31.2.1 170 4 := ⟨_, rfl⟩
  have rsd39 : 0 ≤ sd39 ∧ sd39 ≤ 6 := (by rw [esd39]; exact mi_g k37.1 (by decide) mr_170_4)
  refine A_popI d_MD_parse_68 ?_
  have lp69 : ∀ (n : Nat) (h40 : ah_T) , (h40.2.1 170 3 ≤ h40.2.1 170 2 ∧ PP h h40 ∧ PV h40) → kM (pm [3, 4, 5, 6, 7, 8, 9, 10, 11, 12, 43, 59, 60, 61, 63, 64, 65, 66, 70, 71, 72, 73, 74, 75, 76, 77, 78] [172, 173, 174, 175, 176, 177, 178, 179, 180, 181, 182, 183, 184, 185, 186, 187, 188, 189, 190, 191, 192, 193, 194, 195, 196, 197, 198, 199, 200, 201, 202, 203, 204, 205, 206, 207, 208, 209, 210, 211, 212, 213, 214, 215, 216, 217, 218, 219, 220]) h h40 → (mu h40).toNat < n → aw G (rm_R 7 0 0) m_MD_parse 0 0 69 [some (av_R (some 170)), none] [] h40 (fun r h' => ∃ z, r = some (av_I z) ∧ (z = 0 ∨ z = 1) ∧ (PP h h' ∧ (z = 1 → PV h')) ∧ kM (pm [3, 4, 5, 6, 7, 8, 9, 10, 11, 12, 43, 59, 60, 61, 63, 64, 65, 66, 70, 71, 72, 73, 74, 75, 76, 77, 78] [172, 173, 174, 175, 176, 177, 178, 179, 180, 181, 182, 183, 184, 185, 186, 187, 188, 189, 190, 191, 192, 193, 194, 195, 196, 197, 198, 199, 200, 201, 202, 203, 204, 205, 206, 207, 208, 209, 210, 211, 212, 213, 214, 215, 216, 217, 218, 219, 220]) h h') := by
    intro n
    induction n with
    | zero => intro h40 _ _ hm; omega
    | succ n ih69 =>
      intro h40  hinv k41 hm
      obtain ⟨sd42, esd42⟩ : ∃ x, x = h40.2.1 170 3 := ⟨_, rfl⟩
      have rsd42 : 0 ≤ sd42 ∧ sd42 ≤ 2000 := (by rw [esd42]; exact mi_g k41.1 (by decide) mr_170_3)
      obtain ⟨sd43, esd43⟩ : ∃ x, x = h40.2.1 170 4 := ⟨_, rfl⟩
      have rsd43 : 0 ≤ sd43 ∧ sd43 ≤ 6 := (by rw [esd43]; exact mi_g k41.1 (by decide) mr_170_4)
      refine A_aload_n 0 d_MD_parse_69 rfl rfl ?_
      refine A_getIv (z := sd43) T_ok d_MD_parse_70 f_MD_239 (mi_s k41.1 sf_170) esd43.symm ?_
      refine A_if_eq (tgt := 170) d_MD_parse_73 (by decide) (fun c45 => ?_) (fun c45 => ?_)
      · refine A_iconst d_MD_parse_170 rfl ?_
        exact A_zret d_MD_parse_171 (by decide) rfl (by omega) ⟨_, rfl, by omega, ⟨hinv.2.1, fun _ => hinv.2.2⟩, k41⟩
      · refine A_aload_n 0 d_MD_parse_76 rfl rfl ?_
        refine A_iconst d_MD_parse_77 rfl ?_
        have zf47 := esd42.symm
        have zf48 := ((k41.2.2.1 _ _ rfl).trans esd2.symm)
        have zf49 := esd43.symm
        refine A_callV1 m_MD_isWord T_ok d_MD_parse_78 l_MD_326 k_MD_isWord (mi_s k41.1 sf_170) rfl (by decide +kernel) (by decide) (Nat.le_of_ble_eq_true rfl) (s_MD_isWord k41.1 ) (fun r h46 hq => ?_)
        obtain ⟨x51, rfl, bx51, xx51, rfl⟩ := hq
        refine A_if_eq (tgt := 92) d_MD_parse_81 (by decide) (fun c52 => ?_) (fun c52 => ?_)
        · refine A_aload_n 0 d_MD_parse_92 rfl rfl ?_
          refine A_iconst d_MD_parse_93 rfl ?_
          have zf54 := esd42.symm
          have zf55 := ((k41.2.2.1 _ _ rfl).trans esd2.symm)
          have zf56 := esd43.symm
          refine A_callV1 m_MD_isWord T_ok d_MD_parse_94 l_MD_326 k_MD_isWord (mi_s k41.1 sf_170) rfl (by decide +kernel) (by decide) (Nat.le_of_ble_eq_true rfl) (s_MD_isWord k41.1 ) (fun r h53 hq => ?_)
          obtain ⟨x58, rfl, bx58, xx58, rfl⟩ := hq
          refine A_if_eq (tgt := 108) d_MD_parse_97 (by decide) (fun c59 => ?_) (fun c59 => ?_)
          · refine A_aload_n 0 d_MD_parse_108 rfl rfl ?_
            refine A_iconst d_MD_parse_109 rfl ?_
            have zf61 := esd42.symm
            have zf62 := ((k41.2.2.1 _ _ rfl).trans esd2.symm)
            have zf63 := esd43.symm
            refine A_callV1 m_MD_isWord T_ok d_MD_parse_110 l_MD_326 k_MD_isWord (mi_s k41.1 sf_170) rfl (by decide +kernel) (by decide) (Nat.le_of_ble_eq_true rfl) (s_MD_isWord k41.1 ) (fun r h60 hq => ?_)
            obtain ⟨x65, rfl, bx65, xx65, rfl⟩ := hq
            refine A_if_eq (tgt := 124) d_MD_parse_113 (by decide) (fun c66 => ?_) (fun c66 => ?_)
            · refine A_aload_n 0 d_MD_parse_124 rfl rfl ?_
              refine A_iconst d_MD_parse_125 rfl ?_
              have zf68 := esd42.symm
              have zf69 := ((k41.2.2.1 _ _ rfl).trans esd2.symm)
              have zf70 := esd43.symm
              refine A_callV1 m_MD_isWord T_ok d_MD_parse_126 l_MD_326 k_MD_isWord (mi_s k41.1 sf_170) rfl (by decide +kernel) (by decide) (Nat.le_of_ble_eq_true rfl) (s_MD_isWord k41.1 ) (fun r h67 hq => ?_)
              obtain ⟨x72, rfl, bx72, xx72, rfl⟩ := hq
              refine A_if_eq (tgt := 140) d_MD_parse_129 (by decide) (fun c73 => ?_) (fun c73 => ?_)
              · refine A_aload_n 0 d_MD_parse_140 rfl rfl ?_
                refine A_iconst d_MD_parse_141 rfl ?_
                have zf75 := esd42.symm
                have zf76 := ((k41.2.2.1 _ _ rfl).trans esd2.symm)
                have zf77 := esd43.symm
                refine A_callV1 m_MD_isWord T_ok d_MD_parse_142 l_MD_326 k_MD_isWord (mi_s k41.1 sf_170) rfl (by decide +kernel) (by decide) (Nat.le_of_ble_eq_true rfl) (s_MD_isWord k41.1 ) (fun r h74 hq => ?_)
                obtain ⟨x79, rfl, bx79, xx79, rfl⟩ := hq
                refine A_if_eq (tgt := 156) d_MD_parse_145 (by decide) (fun c80 => ?_) (fun c80 => ?_)
                · refine A_aload_n 0 d_MD_parse_156 rfl rfl ?_
                  have zf82 := esd42.symm
                  have zf83 := ((k41.2.2.1 _ _ rfl).trans esd2.symm)
                  have zf84 := esd43.symm
                  refine A_callV0 m_MD_cant T_ok d_MD_parse_157 l_MD_313 k_MD_cant (mi_s k41.1 sf_170) rfl (by decide +kernel) (by decide) (Nat.le_of_ble_eq_true rfl) (s_MD_cant k41.1 ) (fun r h81 hq => ?_)
                  obtain ⟨x86, rfl, ⟨_, _⟩, k85⟩ := hq
                  have k87 := kM_t k41 k85 (pm_s (by decide) (by decide))
                  obtain rfl : x86 = 0 := by omega
                  obtain ⟨yP, yV0⟩ := PI_k k41.1 hinv.2.1 hinv.2.2 k85 (fun _ => ⟨⟨rfl, rfl, rfl, rfl, rfl, rfl⟩, rfl, rfl, rfl⟩) (by intro a ha j; simp only [List.mem_cons, List.not_mem_nil, or_false] at ha; rcases ha with rfl | rfl | rfl | rfl | rfl | rfl | rfl <;> rfl)
                  have yV : 0 = 1 → PV h81 := fun _ => yV0
                  refine A_istore_n 1 (L' := [some (av_R (some 170)), some (av_I 0)]) d_MD_parse_160 rfl (Nat.le_of_ble_eq_true rfl) rfl ?_
                  refine A_iload_n 1 d_MD_parse_161 rfl rfl ?_
                  refine A_if_ne (tgt := 167) d_MD_parse_162 (by decide) (fun c => absurd c (by decide)) (fun _ => ?_)
                  refine A_iconst d_MD_parse_165 rfl ?_
                  exact A_zret d_MD_parse_166 (by decide) rfl (by omega) ⟨_, rfl, by omega, ⟨yP, fun q => absurd q (by decide)⟩, k87⟩
                · refine A_aload_n 0 d_MD_parse_148 rfl rfl ?_
                  have zf90 := esd42.symm
                  have zf91 := ((k41.2.2.1 _ _ rfl).trans esd2.symm)
                  have zf92 := esd43.symm
                  refine A_callV0 m_MD_rowItem T_ok d_MD_parse_149 l_MD_341 k_MD_rowItem (mi_s k41.1 sf_170) rfl (by decide +kernel) (by decide) (Nat.le_of_ble_eq_true rfl) (s_MD_rowItem k41.1 (by have qq0 := esd42.symm; have qq1 := ((k41.2.2.1 _ _ rfl).trans esd2.symm); omega)) (fun r h89 hq => ?_)
                  obtain ⟨x94, rfl, bx94, xx94, k93⟩ := hq
                  have k95 := kM_t k41 k93 (pm_s (by decide) (by decide))
                  obtain ⟨sd96, esd96⟩ : ∃ x, x = h89.2.1 170 3 := ⟨_, rfl⟩
                  have rsd96 : 0 ≤ sd96 ∧ sd96 ≤ 2000 := (by rw [esd96]; exact mi_g k95.1 (by decide) mr_170_3)
                  obtain ⟨sd97, esd97⟩ : ∃ x, x = h89.2.1 170 4 := ⟨_, rfl⟩
                  have rsd97 : 0 ≤ sd97 ∧ sd97 ≤ 6 := (by rw [esd97]; exact mi_g k95.1 (by decide) mr_170_4)
                  obtain ⟨yP, yV0⟩ := PI_row k41.1 hinv.2.1 hinv.2.2 k93 (fun _ => ⟨⟨rfl, rfl, rfl, rfl, rfl, rfl⟩, rfl, rfl, rfl⟩) (by intro a ha j; simp only [List.mem_cons, List.not_mem_nil, or_false] at ha; rcases ha with rfl | rfl | rfl | rfl | rfl <;> rfl) xx94.2.1 xx94.2.2
                  have yV : x94 = 1 → PV h89 := fun _ => yV0
                  refine A_istore_n 1 (L' := [some (av_R (some 170)), some (av_I x94)]) d_MD_parse_152 rfl (Nat.le_of_ble_eq_true rfl) rfl ?_
                  refine A_goto (tgt := 161) d_MD_parse_153 (by decide) ?_
                  refine A_iload_n 1 d_MD_parse_161 rfl rfl ?_
                  refine A_if_ne (tgt := 167) d_MD_parse_162 (by decide) (fun c98 => ?_) (fun c98 => ?_)
                  · refine A_goto (tgt := 69) d_MD_parse_167 (by decide) ?_
                    refine A_free (L' := [some (av_R (some 170)), none]) (And.intro rfl trivial) ?_
                    exact ih69 h89 ⟨(by have qq0 := esd96.symm; have qq1 := ((k93.2.2.1 _ _ rfl).trans ((k41.2.2.1 _ _ rfl).trans esd2.symm)); have qq2 := esd97.symm; omega), yP, yV (by omega)⟩ k95 (by have qq0 := esd96.symm; have qq1 := esd97.symm; have qh0 := ((k41.2.2.1 _ _ rfl).trans esd2.symm); have qh1 := esd42.symm; have qe0 := ((k93.2.2.1 _ _ rfl).trans ((k41.2.2.1 _ _ rfl).trans esd2.symm)); first | exact mu_dec (h0 := h40) (h1 := h89) hm (by omega) (by omega) (by omega) (by omega) (by omega) (fun _ _ => by omega) | (have mm0 := mu_f h40; have mm1 := mu_f h89; omega))
                  · refine A_iconst d_MD_parse_165 rfl ?_
                    exact A_zret d_MD_parse_166 (by decide) rfl (by omega) ⟨_, rfl, by omega, ⟨yP, fun q => absurd q (by decide)⟩, k95⟩
              · refine A_aload_n 0 d_MD_parse_132 rfl rfl ?_
                have zf100 := esd42.symm
                have zf101 := ((k41.2.2.1 _ _ rfl).trans esd2.symm)
                have zf102 := esd43.symm
                refine A_callV0 m_MD_ruleItem T_ok d_MD_parse_133 l_MD_338 k_MD_ruleItem (mi_s k41.1 sf_170) rfl (by decide +kernel) (by decide) (Nat.le_of_ble_eq_true rfl) (s_MD_ruleItem k41.1 (by have qq0 := esd42.symm; have qq1 := ((k41.2.2.1 _ _ rfl).trans esd2.symm); omega)) (fun r h99 hq => ?_)
                obtain ⟨x104, rfl, bx104, xx104, k103⟩ := hq
                have k105 := kM_t k41 k103 (pm_s (by decide) (by decide))
                obtain ⟨sd106, esd106⟩ : ∃ x, x = h99.2.1 170 3 := ⟨_, rfl⟩
                have rsd106 : 0 ≤ sd106 ∧ sd106 ≤ 2000 := (by rw [esd106]; exact mi_g k105.1 (by decide) mr_170_3)
                obtain ⟨sd107, esd107⟩ : ∃ x, x = h99.2.1 170 4 := ⟨_, rfl⟩
                have rsd107 : 0 ≤ sd107 ∧ sd107 ≤ 6 := (by rw [esd107]; exact mi_g k105.1 (by decide) mr_170_4)
                obtain ⟨yP, yV⟩ := PI_rule k41.1 hinv.2.1 hinv.2.2 k103 (fun _ => ⟨⟨rfl, rfl, rfl, rfl, rfl, rfl⟩, rfl, rfl, rfl⟩) (by intro a ha j; simp only [List.mem_cons, List.not_mem_nil, or_false] at ha; rcases ha with rfl | rfl | rfl <;> rfl) xx104.2
                refine A_istore_n 1 (L' := [some (av_R (some 170)), some (av_I x104)]) d_MD_parse_136 rfl (Nat.le_of_ble_eq_true rfl) rfl ?_
                refine A_goto (tgt := 161) d_MD_parse_137 (by decide) ?_
                refine A_iload_n 1 d_MD_parse_161 rfl rfl ?_
                refine A_if_ne (tgt := 167) d_MD_parse_162 (by decide) (fun c108 => ?_) (fun c108 => ?_)
                · refine A_goto (tgt := 69) d_MD_parse_167 (by decide) ?_
                  refine A_free (L' := [some (av_R (some 170)), none]) (And.intro rfl trivial) ?_
                  exact ih69 h99 ⟨(by have qq0 := esd106.symm; have qq1 := ((k103.2.2.1 _ _ rfl).trans ((k41.2.2.1 _ _ rfl).trans esd2.symm)); have qq2 := esd107.symm; omega), yP, yV (by omega)⟩ k105 (by have qq0 := esd106.symm; have qq1 := esd107.symm; have qh0 := ((k41.2.2.1 _ _ rfl).trans esd2.symm); have qh1 := esd42.symm; have qe0 := ((k103.2.2.1 _ _ rfl).trans ((k41.2.2.1 _ _ rfl).trans esd2.symm)); first | exact mu_dec (h0 := h40) (h1 := h99) hm (by omega) (by omega) (by omega) (by omega) (by omega) (fun _ _ => by omega) | (have mm0 := mu_f h40; have mm1 := mu_f h99; omega))
                · refine A_iconst d_MD_parse_165 rfl ?_
                  exact A_zret d_MD_parse_166 (by decide) rfl (by omega) ⟨_, rfl, by omega, ⟨yP, fun q => absurd q (by decide)⟩, k105⟩
            · refine A_aload_n 0 d_MD_parse_116 rfl rfl ?_
              have zf110 := esd42.symm
              have zf111 := ((k41.2.2.1 _ _ rfl).trans esd2.symm)
              have zf112 := esd43.symm
              refine A_callV0 m_MD_lineItem T_ok d_MD_parse_117 l_MD_335 k_MD_lineItem (mi_s k41.1 sf_170) rfl (by decide +kernel) (by decide) (Nat.le_of_ble_eq_true rfl) (s_MD_lineItem k41.1 (by have qq0 := esd42.symm; have qq1 := ((k41.2.2.1 _ _ rfl).trans esd2.symm); omega)) (fun r h109 hq => ?_)
              obtain ⟨x114, rfl, bx114, xx114, k113⟩ := hq
              have k115 := kM_t k41 k113 (pm_s (by decide) (by decide))
              obtain ⟨sd116, esd116⟩ : ∃ x, x = h109.2.1 170 3 := ⟨_, rfl⟩
              have rsd116 : 0 ≤ sd116 ∧ sd116 ≤ 2000 := (by rw [esd116]; exact mi_g k115.1 (by decide) mr_170_3)
              obtain ⟨sd117, esd117⟩ : ∃ x, x = h109.2.1 170 4 := ⟨_, rfl⟩
              have rsd117 : 0 ≤ sd117 ∧ sd117 ≤ 6 := (by rw [esd117]; exact mi_g k115.1 (by decide) mr_170_4)
              obtain ⟨yP, yV0⟩ := PI_k k41.1 hinv.2.1 hinv.2.2 k113 (fun _ => ⟨⟨rfl, rfl, rfl, rfl, rfl, rfl⟩, rfl, rfl, rfl⟩) (by intro a ha j; simp only [List.mem_cons, List.not_mem_nil, or_false] at ha; rcases ha with rfl | rfl | rfl | rfl | rfl | rfl | rfl <;> rfl)
              have yV : x114 = 1 → PV h109 := fun _ => yV0
              refine A_istore_n 1 (L' := [some (av_R (some 170)), some (av_I x114)]) d_MD_parse_120 rfl (Nat.le_of_ble_eq_true rfl) rfl ?_
              refine A_goto (tgt := 161) d_MD_parse_121 (by decide) ?_
              refine A_iload_n 1 d_MD_parse_161 rfl rfl ?_
              refine A_if_ne (tgt := 167) d_MD_parse_162 (by decide) (fun c118 => ?_) (fun c118 => ?_)
              · refine A_goto (tgt := 69) d_MD_parse_167 (by decide) ?_
                refine A_free (L' := [some (av_R (some 170)), none]) (And.intro rfl trivial) ?_
                exact ih69 h109 ⟨(by have qq0 := esd116.symm; have qq1 := ((k113.2.2.1 _ _ rfl).trans ((k41.2.2.1 _ _ rfl).trans esd2.symm)); have qq2 := esd117.symm; omega), yP, yV (by omega)⟩ k115 (by have qq0 := esd116.symm; have qq1 := esd117.symm; have qh0 := ((k41.2.2.1 _ _ rfl).trans esd2.symm); have qh1 := esd42.symm; have qe0 := ((k113.2.2.1 _ _ rfl).trans ((k41.2.2.1 _ _ rfl).trans esd2.symm)); first | exact mu_dec (h0 := h40) (h1 := h109) hm (by omega) (by omega) (by omega) (by omega) (by omega) (fun _ _ => by omega) | (have mm0 := mu_f h40; have mm1 := mu_f h109; omega))
              · refine A_iconst d_MD_parse_165 rfl ?_
                exact A_zret d_MD_parse_166 (by decide) rfl (by omega) ⟨_, rfl, by omega, ⟨yP, fun q => absurd q (by decide)⟩, k115⟩
          · refine A_aload_n 0 d_MD_parse_100 rfl rfl ?_
            have zf120 := esd42.symm
            have zf121 := ((k41.2.2.1 _ _ rfl).trans esd2.symm)
            have zf122 := esd43.symm
            refine A_callV0 m_MD_voiceItem T_ok d_MD_parse_101 l_MD_332 k_MD_voiceItem (mi_s k41.1 sf_170) rfl (by decide +kernel) (by decide) (Nat.le_of_ble_eq_true rfl) (s_MD_voiceItem k41.1 (by have qq0 := esd42.symm; have qq1 := ((k41.2.2.1 _ _ rfl).trans esd2.symm); omega)) (fun r h119 hq => ?_)
            obtain ⟨x124, rfl, bx124, xx124, k123⟩ := hq
            have k125 := kM_t k41 k123 (pm_s (by decide) (by decide))
            obtain ⟨sd126, esd126⟩ : ∃ x, x = h119.2.1 170 3 := ⟨_, rfl⟩
            have rsd126 : 0 ≤ sd126 ∧ sd126 ≤ 2000 := (by rw [esd126]; exact mi_g k125.1 (by decide) mr_170_3)
            obtain ⟨sd127, esd127⟩ : ∃ x, x = h119.2.1 170 4 := ⟨_, rfl⟩
            have rsd127 : 0 ≤ sd127 ∧ sd127 ≤ 6 := (by rw [esd127]; exact mi_g k125.1 (by decide) mr_170_4)
            obtain ⟨yP, yV⟩ := PI_voice k41.1 hinv.2.1 hinv.2.2 k123 (by intro a ha j; simp only [List.mem_cons, List.not_mem_nil, or_false] at ha; rcases ha with rfl | rfl | rfl | rfl | rfl | rfl <;> rfl) xx124
            have yR := (xx124 _ rfl).2.2
            refine A_istore_n 1 (L' := [some (av_R (some 170)), some (av_I x124)]) d_MD_parse_104 rfl (Nat.le_of_ble_eq_true rfl) rfl ?_
            refine A_goto (tgt := 161) d_MD_parse_105 (by decide) ?_
            refine A_iload_n 1 d_MD_parse_161 rfl rfl ?_
            refine A_if_ne (tgt := 167) d_MD_parse_162 (by decide) (fun c128 => ?_) (fun c128 => ?_)
            · refine A_goto (tgt := 69) d_MD_parse_167 (by decide) ?_
              refine A_free (L' := [some (av_R (some 170)), none]) (And.intro rfl trivial) ?_
              exact ih69 h119 ⟨(by have qq0 := esd126.symm; have qq1 := ((k123.2.2.1 _ _ rfl).trans ((k41.2.2.1 _ _ rfl).trans esd2.symm)); have qq2 := esd127.symm; omega), yP, yV (by omega)⟩ k125 (by have qq0 := esd126.symm; have qq1 := esd127.symm; have qh0 := ((k41.2.2.1 _ _ rfl).trans esd2.symm); have qh1 := esd42.symm; have qe0 := ((k123.2.2.1 _ _ rfl).trans ((k41.2.2.1 _ _ rfl).trans esd2.symm)); first | exact mu_dec (h0 := h40) (h1 := h119) hm (by omega) (by omega) (by omega) (by omega) (by omega) (fun _ _ => by omega) | (have mm0 := mu_f h40; have mm1 := mu_f h119; omega))
            · refine A_iconst d_MD_parse_165 rfl ?_
              exact A_zret d_MD_parse_166 (by decide) rfl (by omega) ⟨_, rfl, by omega, ⟨yP, fun q => absurd q (by decide)⟩, k125⟩
        · refine A_aload_n 0 d_MD_parse_84 rfl rfl ?_
          have zf130 := esd42.symm
          have zf131 := ((k41.2.2.1 _ _ rfl).trans esd2.symm)
          have zf132 := esd43.symm
          refine A_callV0 m_MD_timeItem T_ok d_MD_parse_85 l_MD_329 k_MD_timeItem (mi_s k41.1 sf_170) rfl (by decide +kernel) (by decide) (Nat.le_of_ble_eq_true rfl) (s_MD_timeItem k41.1 (by have qq0 := esd42.symm; have qq1 := ((k41.2.2.1 _ _ rfl).trans esd2.symm); omega)) (fun r h129 hq => ?_)
          obtain ⟨x134, rfl, bx134, xx134, k133⟩ := hq
          have k135 := kM_t k41 k133 (pm_s (by decide) (by decide))
          obtain ⟨sd136, esd136⟩ : ∃ x, x = h129.2.1 170 3 := ⟨_, rfl⟩
          have rsd136 : 0 ≤ sd136 ∧ sd136 ≤ 2000 := (by rw [esd136]; exact mi_g k135.1 (by decide) mr_170_3)
          obtain ⟨sd137, esd137⟩ : ∃ x, x = h129.2.1 170 4 := ⟨_, rfl⟩
          have rsd137 : 0 ≤ sd137 ∧ sd137 ≤ 6 := (by rw [esd137]; exact mi_g k135.1 (by decide) mr_170_4)
          obtain ⟨yP, yV0⟩ := PI_k k41.1 hinv.2.1 hinv.2.2 k133 (fun _ => ⟨⟨rfl, rfl, rfl, rfl, rfl, rfl⟩, rfl, rfl, rfl⟩) (by intro a ha j; simp only [List.mem_cons, List.not_mem_nil, or_false] at ha; rcases ha with rfl | rfl | rfl | rfl | rfl | rfl | rfl <;> rfl)
          have yV : x134 = 1 → PV h129 := fun _ => yV0
          refine A_istore_n 1 (L' := [some (av_R (some 170)), some (av_I x134)]) d_MD_parse_88 rfl (Nat.le_of_ble_eq_true rfl) rfl ?_
          refine A_goto (tgt := 161) d_MD_parse_89 (by decide) ?_
          refine A_iload_n 1 d_MD_parse_161 rfl rfl ?_
          refine A_if_ne (tgt := 167) d_MD_parse_162 (by decide) (fun c138 => ?_) (fun c138 => ?_)
          · refine A_goto (tgt := 69) d_MD_parse_167 (by decide) ?_
            refine A_free (L' := [some (av_R (some 170)), none]) (And.intro rfl trivial) ?_
            exact ih69 h129 ⟨(by have qq0 := esd136.symm; have qq1 := ((k133.2.2.1 _ _ rfl).trans ((k41.2.2.1 _ _ rfl).trans esd2.symm)); have qq2 := esd137.symm; omega), yP, yV (by omega)⟩ k135 (by have qq0 := esd136.symm; have qq1 := esd137.symm; have qh0 := ((k41.2.2.1 _ _ rfl).trans esd2.symm); have qh1 := esd42.symm; have qe0 := ((k133.2.2.1 _ _ rfl).trans ((k41.2.2.1 _ _ rfl).trans esd2.symm)); first | exact mu_dec (h0 := h40) (h1 := h129) hm (by omega) (by omega) (by omega) (by omega) (by omega) (fun _ _ => by omega) | (have mm0 := mu_f h40; have mm1 := mu_f h129; omega))
          · refine A_iconst d_MD_parse_165 rfl ?_
            exact A_zret d_MD_parse_166 (by decide) rfl (by omega) ⟨_, rfl, by omega, ⟨yP, fun q => absurd q (by decide)⟩, k135⟩
  exact lp69 _ h31 ⟨(by have qq0 := esd38.symm; have qq1 := ((k35.2.2.1 _ _ rfl).trans ((eh29.1 _ _ (fun _ => by decide)).trans ((eh27.1 _ _ (fun _ => by decide)).trans ((eh25.1 _ _ (fun _ => by decide)).trans ((eh23.1 _ _ (fun q => absurd q (by decide))).trans ((eh20.1 _ _ (fun q => absurd q (by decide))).trans ((eh17.1 _ _ (fun q => absurd q (by decide))).trans ((eh14.1 _ _ (fun q => absurd q (by decide))).trans ((eh11.1 _ _ (fun q => absurd q (by decide))).trans ((eh8.1 _ _ (fun q => absurd q (by decide))).trans ((eh5.1 _ _ (fun q => absurd q (by decide))).trans esd2.symm))))))))))); have qq2 := esd39.symm; omega), ⟨LF_a ⟨(by intro a ha; simp only [List.mem_cons, List.not_mem_nil, or_false] at ha; rcases ha with rfl | rfl | rfl | rfl | rfl | rfl ; exact (funext (fun k => ((k35.2.2.2 187 k rfl).trans ((congrFun (congrFun eh29.2.2 187) k).trans ((congrFun (congrFun eh27.2.2 187) k).trans ((congrFun (congrFun eh25.2.2 187) k).trans ((congrFun (congrFun eh23.2.2 187) k).trans ((congrFun (congrFun eh20.2.2 187) k).trans ((congrFun (congrFun eh17.2.2 187) k).trans ((congrFun (congrFun eh14.2.2 187) k).trans ((congrFun (congrFun eh11.2.2 187) k).trans ((congrFun (congrFun eh8.2.2 187) k).trans (congrFun (congrFun eh5.2.2 187) k))))))))))))) ; exact (funext (fun k => ((k35.2.2.2 188 k rfl).trans ((congrFun (congrFun eh29.2.2 188) k).trans ((congrFun (congrFun eh27.2.2 188) k).trans ((congrFun (congrFun eh25.2.2 188) k).trans ((congrFun (congrFun eh23.2.2 188) k).trans ((congrFun (congrFun eh20.2.2 188) k).trans ((congrFun (congrFun eh17.2.2 188) k).trans ((congrFun (congrFun eh14.2.2 188) k).trans ((congrFun (congrFun eh11.2.2 188) k).trans ((congrFun (congrFun eh8.2.2 188) k).trans (congrFun (congrFun eh5.2.2 188) k))))))))))))) ; exact (funext (fun k => ((k35.2.2.2 189 k rfl).trans ((congrFun (congrFun eh29.2.2 189) k).trans ((congrFun (congrFun eh27.2.2 189) k).trans ((congrFun (congrFun eh25.2.2 189) k).trans ((congrFun (congrFun eh23.2.2 189) k).trans ((congrFun (congrFun eh20.2.2 189) k).trans ((congrFun (congrFun eh17.2.2 189) k).trans ((congrFun (congrFun eh14.2.2 189) k).trans ((congrFun (congrFun eh11.2.2 189) k).trans ((congrFun (congrFun eh8.2.2 189) k).trans (congrFun (congrFun eh5.2.2 189) k))))))))))))) ; exact (funext (fun k => ((k35.2.2.2 190 k rfl).trans ((congrFun (congrFun eh29.2.2 190) k).trans ((congrFun (congrFun eh27.2.2 190) k).trans ((congrFun (congrFun eh25.2.2 190) k).trans ((congrFun (congrFun eh23.2.2 190) k).trans ((congrFun (congrFun eh20.2.2 190) k).trans ((congrFun (congrFun eh17.2.2 190) k).trans ((congrFun (congrFun eh14.2.2 190) k).trans ((congrFun (congrFun eh11.2.2 190) k).trans ((congrFun (congrFun eh8.2.2 190) k).trans (congrFun (congrFun eh5.2.2 190) k))))))))))))) ; exact (funext (fun k => ((k35.2.2.2 199 k rfl).trans ((congrFun (congrFun eh29.2.2 199) k).trans ((congrFun (congrFun eh27.2.2 199) k).trans ((congrFun (congrFun eh25.2.2 199) k).trans ((congrFun (congrFun eh23.2.2 199) k).trans ((congrFun (congrFun eh20.2.2 199) k).trans ((congrFun (congrFun eh17.2.2 199) k).trans ((congrFun (congrFun eh14.2.2 199) k).trans ((congrFun (congrFun eh11.2.2 199) k).trans ((congrFun (congrFun eh8.2.2 199) k).trans (congrFun (congrFun eh5.2.2 199) k))))))))))))) ; exact (funext (fun k => ((k35.2.2.2 200 k rfl).trans ((congrFun (congrFun eh29.2.2 200) k).trans ((congrFun (congrFun eh27.2.2 200) k).trans ((congrFun (congrFun eh25.2.2 200) k).trans ((congrFun (congrFun eh23.2.2 200) k).trans ((congrFun (congrFun eh20.2.2 200) k).trans ((congrFun (congrFun eh17.2.2 200) k).trans ((congrFun (congrFun eh14.2.2 200) k).trans ((congrFun (congrFun eh11.2.2 200) k).trans ((congrFun (congrFun eh8.2.2 200) k).trans (congrFun (congrFun eh5.2.2 200) k)))))))))))))), (by intro a ha; simp only [List.mem_cons, List.not_mem_nil, or_false] at ha; rcases ha with rfl | rfl | rfl ; exact (funext (fun k => ((k35.2.2.1 185 k rfl).trans ((eh29.1 185 k (fun q => absurd q (by decide))).trans ((eh27.1 185 k (fun q => absurd q (by decide))).trans ((eh25.1 185 k (fun q => absurd q (by decide))).trans ((eh23.1 185 k (fun q => absurd q (by decide))).trans ((eh20.1 185 k (fun q => absurd q (by decide))).trans ((eh17.1 185 k (fun q => absurd q (by decide))).trans ((eh14.1 185 k (fun q => absurd q (by decide))).trans ((eh11.1 185 k (fun q => absurd q (by decide))).trans ((eh8.1 185 k (fun q => absurd q (by decide))).trans (eh5.1 185 k (fun q => absurd q (by decide))))))))))))))) ; exact (funext (fun k => ((k35.2.2.1 186 k rfl).trans ((eh29.1 186 k (fun q => absurd q (by decide))).trans ((eh27.1 186 k (fun q => absurd q (by decide))).trans ((eh25.1 186 k (fun q => absurd q (by decide))).trans ((eh23.1 186 k (fun q => absurd q (by decide))).trans ((eh20.1 186 k (fun q => absurd q (by decide))).trans ((eh17.1 186 k (fun q => absurd q (by decide))).trans ((eh14.1 186 k (fun q => absurd q (by decide))).trans ((eh11.1 186 k (fun q => absurd q (by decide))).trans ((eh8.1 186 k (fun q => absurd q (by decide))).trans (eh5.1 186 k (fun q => absurd q (by decide))))))))))))))) ; exact (funext (fun k => ((k35.2.2.1 196 k rfl).trans ((eh29.1 196 k (fun q => absurd q (by decide))).trans ((eh27.1 196 k (fun q => absurd q (by decide))).trans ((eh25.1 196 k (fun q => absurd q (by decide))).trans ((eh23.1 196 k (fun q => absurd q (by decide))).trans ((eh20.1 196 k (fun q => absurd q (by decide))).trans ((eh17.1 196 k (fun q => absurd q (by decide))).trans ((eh14.1 196 k (fun q => absurd q (by decide))).trans ((eh11.1 196 k (fun q => absurd q (by decide))).trans ((eh8.1 196 k (fun q => absurd q (by decide))).trans (eh5.1 196 k (fun q => absurd q (by decide))))))))))))))))⟩, ((k35.2.2.1 172 0 rfl).trans ((eh29.1 172 0 (fun q => absurd q (by decide))).trans ((eh27.1 172 0 (fun q => absurd q (by decide))).trans ((eh25.1 172 0 (fun q => absurd q (by decide))).trans ((eh23.1 172 0 (fun q => absurd q (by decide))).trans ((eh20.1 172 0 (fun q => absurd q (by decide))).trans ((eh17.1 172 0 (fun q => absurd q (by decide))).trans ((eh14.1 172 0 (fun q => absurd q (by decide))).trans ((eh11.1 172 0 (fun q => absurd q (by decide))).trans ((eh8.1 172 0 (fun q => absurd q (by decide))).trans (eh5.1 172 0 (fun _ => (by decide))))))))))))), fun k _ => ⟨((k35.2.2.1 178 k rfl).trans ((eh29.1 178 k (fun q => absurd q (by decide))).trans ((eh27.1 178 k (fun q => absurd q (by decide))).trans ((eh25.1 178 k (fun q => absurd q (by decide))).trans ((eh23.1 178 k (fun q => absurd q (by decide))).trans ((eh20.1 178 k (fun q => absurd q (by decide))).trans ((eh17.1 178 k (fun q => absurd q (by decide))).trans ((eh14.1 178 k (fun q => absurd q (by decide))).trans ((eh11.1 178 k (fun q => absurd q (by decide))).trans ((eh8.1 178 k (fun q => absurd q (by decide))).trans (eh5.1 178 k (fun q => absurd q (by decide))))))))))))), ((k35.2.2.1 179 k rfl).trans ((eh29.1 179 k (fun q => absurd q (by decide))).trans ((eh27.1 179 k (fun q => absurd q (by decide))).trans ((eh25.1 179 k (fun q => absurd q (by decide))).trans ((eh23.1 179 k (fun q => absurd q (by decide))).trans ((eh20.1 179 k (fun q => absurd q (by decide))).trans ((eh17.1 179 k (fun q => absurd q (by decide))).trans ((eh14.1 179 k (fun q => absurd q (by decide))).trans ((eh11.1 179 k (fun q => absurd q (by decide))).trans ((eh8.1 179 k (fun q => absurd q (by decide))).trans (eh5.1 179 k (fun q => absurd q (by decide))))))))))))), ((k35.2.2.1 180 k rfl).trans ((eh29.1 180 k (fun q => absurd q (by decide))).trans ((eh27.1 180 k (fun q => absurd q (by decide))).trans ((eh25.1 180 k (fun q => absurd q (by decide))).trans ((eh23.1 180 k (fun q => absurd q (by decide))).trans ((eh20.1 180 k (fun q => absurd q (by decide))).trans ((eh17.1 180 k (fun q => absurd q (by decide))).trans ((eh14.1 180 k (fun q => absurd q (by decide))).trans ((eh11.1 180 k (fun q => absurd q (by decide))).trans ((eh8.1 180 k (fun q => absurd q (by decide))).trans (eh5.1 180 k (fun q => absurd q (by decide)))))))))))))⟩, ((k35.2.2.1 177 0 rfl).trans ((eh29.1 177 0 (fun q => absurd q (by decide))).trans ((eh27.1 177 0 (fun q => absurd q (by decide))).trans ((eh25.1 177 0 (fun q => absurd q (by decide))).trans ((eh23.1 177 0 (fun q => absurd q (by decide))).trans ((eh20.1 177 0 (fun q => absurd q (by decide))).trans ((eh17.1 177 0 (fun _ => (by decide))).trans ((eh14.1 177 0 (fun q => absurd q (by decide))).trans ((eh11.1 177 0 (fun q => absurd q (by decide))).trans ((eh8.1 177 0 (fun q => absurd q (by decide))).trans (eh5.1 177 0 (fun q => absurd q (by decide))))))))))))), fun k _ => ((k35.2.2.1 182 k rfl).trans ((eh29.1 182 k (fun q => absurd q (by decide))).trans ((eh27.1 182 k (fun q => absurd q (by decide))).trans ((eh25.1 182 k (fun q => absurd q (by decide))).trans ((eh23.1 182 k (fun q => absurd q (by decide))).trans ((eh20.1 182 k (fun q => absurd q (by decide))).trans ((eh17.1 182 k (fun q => absurd q (by decide))).trans ((eh14.1 182 k (fun q => absurd q (by decide))).trans ((eh11.1 182 k (fun q => absurd q (by decide))).trans ((eh8.1 182 k (fun q => absurd q (by decide))).trans (eh5.1 182 k (fun q => absurd q (by decide))))))))))))), ((k35.2.2.1 181 0 rfl).trans ((eh29.1 181 0 (fun q => absurd q (by decide))).trans ((eh27.1 181 0 (fun q => absurd q (by decide))).trans ((eh25.1 181 0 (fun q => absurd q (by decide))).trans ((eh23.1 181 0 (fun q => absurd q (by decide))).trans ((eh20.1 181 0 (fun _ => (by decide))).trans ((eh17.1 181 0 (fun q => absurd q (by decide))).trans ((eh14.1 181 0 (fun q => absurd q (by decide))).trans ((eh11.1 181 0 (fun q => absurd q (by decide))).trans ((eh8.1 181 0 (fun q => absurd q (by decide))).trans (eh5.1 181 0 (fun q => absurd q (by decide)))))))))))))⟩, ⟨fun w h1 h2 => False.elim (by have q1 := (((k35.2.2.1 _ _ rfl).trans ((eh29.1 _ _ (fun q => absurd q (by decide))).trans ((eh27.1 _ _ (fun q => absurd q (by decide))).trans ((eh25.1 _ _ (fun q => absurd q (by decide))).trans ((eh23.1 _ _ (fun q => absurd q (by decide))).trans ((eh20.1 _ _ (fun q => absurd q (by decide))).trans ((eh17.1 _ _ (fun q => absurd q (by decide))).trans ((eh14.1 _ _ (fun q => absurd q (by decide))).trans ((eh11.1 _ _ (fun q => absurd q (by decide))).trans ((eh8.1 _ _ (fun q => absurd q (by decide))).trans eh5.2.1)))))))))) : h31.2.1 172 1 = 0); omega), fun r h1 => False.elim (by have q1 := (((k35.2.2.1 _ _ rfl).trans ((eh29.1 _ _ (fun q => absurd q (by decide))).trans ((eh27.1 _ _ (fun q => absurd q (by decide))).trans ((eh25.1 _ _ (fun q => absurd q (by decide))).trans ((eh23.1 _ _ (fun q => absurd q (by decide))).trans ((eh20.1 _ _ (fun q => absurd q (by decide))).trans eh17.2.1)))))) : h31.2.1 177 1 = 0); omega)⟩⟩ k37 (Nat.lt_succ_self _)
