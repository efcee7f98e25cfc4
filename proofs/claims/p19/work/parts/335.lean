/-! ===== the reference's methods, 335 ===== -/
def m_MD_score : mr_T := (⟨"PlainMusicModel", "score", "()I"⟩, prog_14_method_47_code, 3, some .int)
theorem d_MD_score_0 : decode prog_14_method_47_code 0 = .ok (.aload_n 0, 1) := by decide +kernel
theorem d_MD_score_1 : decode prog_14_method_47_code 1 = .ok (.aload_n 0, 1) := by decide +kernel
theorem d_MD_score_2 : decode prog_14_method_47_code 2 = .ok (.getfield 226, 3) := by decide +kernel
theorem d_MD_score_5 : decode prog_14_method_47_code 5 = .ok (.putfield 249, 3) := by decide +kernel
theorem d_MD_score_8 : decode prog_14_method_47_code 8 = .ok (.aload_n 0, 1) := by decide +kernel
theorem d_MD_score_9 : decode prog_14_method_47_code 9 = .ok (.iconst 0, 1) := by decide +kernel
theorem d_MD_score_10 : decode prog_14_method_47_code 10 = .ok (.putfield 226, 3) := by decide +kernel
theorem d_MD_score_13 : decode prog_14_method_47_code 13 = .ok (.aload_n 0, 1) := by decide +kernel
theorem d_MD_score_14 : decode prog_14_method_47_code 14 = .ok (.iconst 0, 1) := by decide +kernel
theorem d_MD_score_15 : decode prog_14_method_47_code 15 = .ok (.putfield 252, 3) := by decide +kernel
theorem d_MD_score_18 : decode prog_14_method_47_code 18 = .ok (.aload_n 0, 1) := by decide +kernel
theorem d_MD_score_19 : decode prog_14_method_47_code 19 = .ok (.iconst 0, 1) := by decide +kernel
theorem d_MD_score_20 : decode prog_14_method_47_code 20 = .ok (.putfield 233, 3) := by decide +kernel
theorem d_MD_score_23 : decode prog_14_method_47_code 23 = .ok (.aload_n 0, 1) := by decide +kernel
theorem d_MD_score_24 : decode prog_14_method_47_code 24 = .ok (.bipush (-2), 2) := by decide +kernel
theorem d_MD_score_26 : decode prog_14_method_47_code 26 = .ok (.putfield 13, 3) := by decide +kernel
theorem mr_170_13 : mr 170 13 = ((-2), 2000) := by decide +kernel
theorem d_MD_score_29 : decode prog_14_method_47_code 29 = .ok (.aload_n 0, 1) := by decide +kernel
theorem d_MD_score_30 : decode prog_14_method_47_code 30 = .ok (.invokevirtual 465, 3) := by decide +kernel
theorem k_MD_parse : mt_OK m_MD_parse 0 1 := ⟨gwi_1835, gwi_146, ⟨by decide +kernel, by decide +kernel, by decide +kernel⟩, fun h => absurd h (by decide), fun _ => ⟨gwi_1834, gwi_60⟩, fun h => absurd h (by decide)⟩
theorem l_MD_465 : ml_OK "PlainMusicModel" 465 ⟨"PlainMusicModel", "parse", "()Z"⟩ := Or.inl gwi_1832
theorem d_MD_score_33 : decode prog_14_method_47_code 33 = .ok (.ifCond .ne 19, 3) := by decide +kernel
theorem d_MD_score_52 : decode prog_14_method_47_code 52 = .ok (.aload_n 0, 1) := by decide +kernel
theorem d_MD_score_53 : decode prog_14_method_47_code 53 = .ok (.invokevirtual 468, 3) := by decide +kernel
theorem k_MD_keep : mt_OK m_MD_keep 0 1 := ⟨gwi_2000, gwi_146, ⟨by decide +kernel, by decide +kernel, by decide +kernel⟩, fun h => absurd h (by decide), fun _ => ⟨gwi_1999, gwi_99⟩, fun h => absurd h (by decide)⟩
theorem l_MD_468 : ml_OK "PlainMusicModel" 468 ⟨"PlainMusicModel", "keep", "()V"⟩ := Or.inl gwi_1997
theorem d_MD_score_56 : decode prog_14_method_47_code 56 = .ok (.aload_n 0, 1) := by decide +kernel
theorem d_MD_score_57 : decode prog_14_method_47_code 57 = .ok (.iconst 0, 1) := by decide +kernel
theorem d_MD_score_58 : decode prog_14_method_47_code 58 = .ok (.putfield 471, 3) := by decide +kernel
theorem d_MD_score_61 : decode prog_14_method_47_code 61 = .ok (.aload_n 0, 1) := by decide +kernel
theorem d_MD_score_62 : decode prog_14_method_47_code 62 = .ok (.iconst 0, 1) := by decide +kernel
theorem d_MD_score_63 : decode prog_14_method_47_code 63 = .ok (.putfield 474, 3) := by decide +kernel
theorem f_MD_474 : fl_OK "PlainMusicModel" 474 12 85 .int false := ⟨_, rfl, by decide, gwi_1567, rfl, rfl⟩
theorem mr_170_85 : mr 170 85 = (0, 16) := by decide +kernel
theorem d_MD_score_66 : decode prog_14_method_47_code 66 = .ok (.aload_n 0, 1) := by decide +kernel
theorem d_MD_score_67 : decode prog_14_method_47_code 67 = .ok (.iconst 0, 1) := by decide +kernel
theorem d_MD_score_68 : decode prog_14_method_47_code 68 = .ok (.putfield 477, 3) := by decide +kernel
theorem f_MD_477 : fl_OK "PlainMusicModel" 477 12 89 .int false := ⟨_, rfl, by decide, gwi_1571, rfl, rfl⟩
theorem mr_170_89 : mr 170 89 = (0, 16) := by decide +kernel
theorem d_MD_score_71 : decode prog_14_method_47_code 71 = .ok (.aload_n 0, 1) := by decide +kernel
theorem d_MD_score_72 : decode prog_14_method_47_code 72 = .ok (.iconst 0, 1) := by decide +kernel
theorem d_MD_score_73 : decode prog_14_method_47_code 73 = .ok (.putfield 480, 3) := by decide +kernel
theorem f_MD_480 : fl_OK "PlainMusicModel" 480 12 91 .int false := ⟨_, rfl, by decide, gwi_1573, rfl, rfl⟩
theorem mr_170_91 : mr 170 91 = ((-2147483648), 2147483647) := by decide +kernel
theorem d_MD_score_76 : decode prog_14_method_47_code 76 = .ok (.aload_n 0, 1) := by decide +kernel
theorem d_MD_score_77 : decode prog_14_method_47_code 77 = .ok (.iconst 0, 1) := by decide +kernel
theorem d_MD_score_78 : decode prog_14_method_47_code 78 = .ok (.putfield 483, 3) := by decide +kernel
theorem f_MD_483 : fl_OK "PlainMusicModel" 483 12 98 .int false := ⟨_, rfl, by decide, gwi_1580, rfl, rfl⟩
theorem mr_170_98 : mr 170 98 = (0, 1000000) := by decide +kernel
theorem d_MD_score_81 : decode prog_14_method_47_code 81 = .ok (.aload_n 0, 1) := by decide +kernel
theorem d_MD_score_82 : decode prog_14_method_47_code 82 = .ok (.iconst 0, 1) := by decide +kernel
theorem d_MD_score_83 : decode prog_14_method_47_code 83 = .ok (.putfield 486, 3) := by decide +kernel
theorem f_MD_486 : fl_OK "PlainMusicModel" 486 12 104 .int false := ⟨_, rfl, by decide, gwi_1586, rfl, rfl⟩
theorem mr_170_104 : mr 170 104 = (0, 80) := by decide +kernel
theorem d_MD_score_86 : decode prog_14_method_47_code 86 = .ok (.aload_n 0, 1) := by decide +kernel
theorem d_MD_score_87 : decode prog_14_method_47_code 87 = .ok (.iconst 0, 1) := by decide +kernel
theorem d_MD_score_88 : decode prog_14_method_47_code 88 = .ok (.putfield 489, 3) := by decide +kernel
theorem f_MD_489 : fl_OK "PlainMusicModel" 489 12 105 .int false := ⟨_, rfl, by decide, gwi_1587, rfl, rfl⟩
theorem mr_170_105 : mr 170 105 = ((-2147483648), 2147483647) := by decide +kernel
theorem d_MD_score_91 : decode prog_14_method_47_code 91 = .ok (.iconst 0, 1) := by decide +kernel
theorem d_MD_score_92 : decode prog_14_method_47_code 92 = .ok (.istore_n 1, 1) := by decide +kernel
theorem d_MD_score_93 : decode prog_14_method_47_code 93 = .ok (.iconst 0, 1) := by decide +kernel
theorem d_MD_score_94 : decode prog_14_method_47_code 94 = .ok (.istore_n 2, 1) := by decide +kernel
theorem d_MD_score_95 : decode prog_14_method_47_code 95 = .ok (.iload_n 2, 1) := by decide +kernel
theorem d_MD_score_96 : decode prog_14_method_47_code 96 = .ok (.aload_n 0, 1) := by decide +kernel
theorem d_MD_score_97 : decode prog_14_method_47_code 97 = .ok (.getfield 17, 3) := by decide +kernel
theorem d_MD_score_100 : decode prog_14_method_47_code 100 = .ok (.iconst 0, 1) := by decide +kernel
theorem d_MD_score_101 : decode prog_14_method_47_code 101 = .ok (.iaload, 1) := by decide +kernel
theorem d_MD_score_102 : decode prog_14_method_47_code 102 = .ok (.if_icmp .ge 18, 3) := by decide +kernel
theorem d_MD_score_120 : decode prog_14_method_47_code 120 = .ok (.iload_n 1, 1) := by decide +kernel
theorem d_MD_score_121 : decode prog_14_method_47_code 121 = .ok (.ireturn, 1) := by decide +kernel
theorem d_MD_score_105 : decode prog_14_method_47_code 105 = .ok (.iload_n 1, 1) := by decide +kernel
theorem d_MD_score_106 : decode prog_14_method_47_code 106 = .ok (.aload_n 0, 1) := by decide +kernel
theorem d_MD_score_107 : decode prog_14_method_47_code 107 = .ok (.getfield 57, 3) := by decide +kernel
theorem d_MD_score_110 : decode prog_14_method_47_code 110 = .ok (.iload_n 2, 1) := by decide +kernel
theorem d_MD_score_111 : decode prog_14_method_47_code 111 = .ok (.iaload, 1) := by decide +kernel
theorem d_MD_score_112 : decode prog_14_method_47_code 112 = .ok (.iadd, 1) := by decide +kernel
theorem d_MD_score_113 : decode prog_14_method_47_code 113 = .ok (.istore_n 1, 1) := by decide +kernel
theorem d_MD_score_114 : decode prog_14_method_47_code 114 = .ok (.iinc 2 1, 3) := by decide +kernel
theorem d_MD_score_117 : decode prog_14_method_47_code 117 = .ok (.goto (-22), 3) := by decide +kernel
theorem d_MD_score_36 : decode prog_14_method_47_code 36 = .ok (.aload_n 0, 1) := by decide +kernel
theorem d_MD_score_37 : decode prog_14_method_47_code 37 = .ok (.aload_n 0, 1) := by decide +kernel
theorem d_MD_score_38 : decode prog_14_method_47_code 38 = .ok (.getfield 236, 3) := by decide +kernel
theorem d_MD_score_41 : decode prog_14_method_47_code 41 = .ok (.putfield 13, 3) := by decide +kernel
theorem d_MD_score_44 : decode prog_14_method_47_code 44 = .ok (.bipush (-10), 2) := by decide +kernel
theorem d_MD_score_46 : decode prog_14_method_47_code 46 = .ok (.aload_n 0, 1) := by decide +kernel
theorem d_MD_score_47 : decode prog_14_method_47_code 47 = .ok (.getfield 233, 3) := by decide +kernel
theorem d_MD_score_50 : decode prog_14_method_47_code 50 = .ok (.isub, 1) := by decide +kernel
theorem d_MD_score_51 : decode prog_14_method_47_code 51 = .ok (.ireturn, 1) := by decide +kernel
theorem s_MD_score {G : cx_T} {h : ah_T} (hx : mi h)  (hpx : PX h) : con G 8 0 0 m_MD_score [av_R (some 170)] h (fun r h' => ∃ z, r = some (av_I z) ∧ ((-2147483648) ≤ z ∧ z ≤ 2147483647) ∧ (h'.2.1 170 1 = 0 ∧ PX h') ∧ kM (pm [1, 2, 3, 4, 5, 6, 7, 8, 9, 10, 11, 12, 13, 43, 59, 60, 61, 63, 64, 65, 66, 70, 71, 72, 73, 74, 75, 76, 77, 78, 80, 85, 89, 91, 98, 104, 105] [172, 173, 174, 175, 176, 177, 178, 179, 180, 181, 182, 183, 184, 185, 186, 187, 188, 189, 190, 191, 192, 193, 194, 195, 196, 197, 198, 199, 200, 201, 202, 203, 204, 205, 206, 207, 208, 209, 210, 211, 212, 213, 214, 215, 216, 217, 218, 219, 220]) h h') := by
  refine con_of (L := [some (av_R (some 170)), none, none]) (by decide +kernel) (Nat.le_of_ble_eq_true rfl) rfl ?_
  have k0 : kM (pm [1, 2, 3, 4, 5, 6, 7, 8, 9, 10, 11, 12, 13, 43, 59, 60, 61, 63, 64, 65, 66, 70, 71, 72, 73, 74, 75, 76, 77, 78, 80, 85, 89, 91, 98, 104, 105] [172, 173, 174, 175, 176, 177, 178, 179, 180, 181, 182, 183, 184, 185, 186, 187, 188, 189, 190, 191, 192, 193, 194, 195, 196, 197, 198, 199, 200, 201, 202, 203, 204, 205, 206, 207, 208, 209, 210, 211, 212, 213, 214, 215, 216, 217, 218, 219, 220]) h h := kM_0 hx
  obtain ⟨sd1, esd1⟩ : ∃ x, x = h.2.1 170 1 := ⟨_, rfl⟩
  have rsd1 : 0 ≤ sd1 ∧ sd1 ≤ 2000 := (by rw [esd1]; exact mi_g k0.1 (by decide) mr_170_1)
  obtain ⟨sd2, esd2⟩ : ∃ x, x = h.2.1 170 2 := ⟨_, rfl⟩
  have rsd2 : 0 ≤ sd2 ∧ sd2 ≤ 2000 := (by rw [esd2]; exact mi_g k0.1 (by decide) mr_170_2)
  obtain ⟨sd3, esd3⟩ : ∃ x, x = h.2.1 170 3 := ⟨_, rfl⟩
  have rsd3 : 0 ≤ sd3 ∧ sd3 ≤ 2000 := (by rw [esd3]; exact mi_g k0.1 (by decide) mr_170_3)
  refine A_aload_n 0 d_MD_score_0 rfl rfl ?_
  refine A_aload_n 0 d_MD_score_1 rfl rfl ?_
  refine A_getIv (z := sd1) T_ok d_MD_score_2 f_MD_226 (mi_s k0.1 sf_170) esd1.symm ?_
  refine A_putIk (KR := kM (pm [1, 2, 3, 4, 5, 6, 7, 8, 9, 10, 11, 12, 13, 43, 59, 60, 61, 63, 64, 65, 66, 70, 71, 72, 73, 74, 75, 76, 77, 78, 80, 85, 89, 91, 98, 104, 105] [172, 173, 174, 175, 176, 177, 178, 179, 180, 181, 182, 183, 184, 185, 186, 187, 188, 189, 190, 191, 192, 193, 194, 195, 196, 197, 198, 199, 200, 201, 202, 203, 204, 205, 206, 207, 208, 209, 210, 211, 212, 213, 214, 215, 216, 217, 218, 219, 220]) h) T_ok d_MD_score_5 f_MD_249 (mi_s k0.1 sf_170) fin_f (kM_i k0 (by decide) (by decide) mr_170_2 (by omega) (by omega)) (fun h5 k6 eh5 => ?_)
  refine A_aload_n 0 d_MD_score_8 rfl rfl ?_
  refine A_pc (pc' := 9) rfl ?_
  refine A_iconst d_MD_score_9 rfl ?_
  refine A_putIk (KR := kM (pm [1, 2, 3, 4, 5, 6, 7, 8, 9, 10, 11, 12, 13, 43, 59, 60, 61, 63, 64, 65, 66, 70, 71, 72, 73, 74, 75, 76, 77, 78, 80, 85, 89, 91, 98, 104, 105] [172, 173, 174, 175, 176, 177, 178, 179, 180, 181, 182, 183, 184, 185, 186, 187, 188, 189, 190, 191, 192, 193, 194, 195, 196, 197, 198, 199, 200, 201, 202, 203, 204, 205, 206, 207, 208, 209, 210, 211, 212, 213, 214, 215, 216, 217, 218, 219, 220]) h) T_ok d_MD_score_10 f_MD_226 (mi_s k6.1 sf_170) fin_f (kM_i k6 (by decide) (by decide) mr_170_1 (by omega) (by omega)) (fun h7 k8 eh7 => ?_)
  refine A_aload_n 0 d_MD_score_13 rfl rfl ?_
  refine A_iconst d_MD_score_14 rfl ?_
  refine A_putIk (KR := kM (pm [1, 2, 3, 4, 5, 6, 7, 8, 9, 10, 11, 12, 13, 43, 59, 60, 61, 63, 64, 65, 66, 70, 71, 72, 73, 74, 75, 76, 77, 78, 80, 85, 89, 91, 98, 104, 105] [172, 173, 174, 175, 176, 177, 178, 179, 180, 181, 182, 183, 184, 185, 186, 187, 188, 189, 190, 191, 192, 193, 194, 195, 196, 197, 198, 199, 200, 201, 202, 203, 204, 205, 206, 207, 208, 209, 210, 211, 212, 213, 214, 215, 216, 217, 218, 219, 220]) h) T_ok d_MD_score_15 f_MD_252 (mi_s k8.1 sf_170) fin_f (kM_i k8 (by decide) (by decide) mr_170_3 (by omega) (by omega)) (fun h9 k10 eh9 => ?_)
  refine A_aload_n 0 d_MD_score_18 rfl rfl ?_
  refine A_pc (pc' := 19) rfl ?_
  refine A_iconst d_MD_score_19 rfl ?_
  refine A_putIk (KR := kM (pm [1, 2, 3, 4, 5, 6, 7, 8, 9, 10, 11, 12, 13, 43, 59, 60, 61, 63, 64, 65, 66, 70, 71, 72, 73, 74, 75, 76, 77, 78, 80, 85, 89, 91, 98, 104, 105] [172, 173, 174, 175, 176, 177, 178, 179, 180, 181, 182, 183, 184, 185, 186, 187, 188, 189, 190, 191, 192, 193, 194, 195, 196, 197, 198, 199, 200, 201, 202, 203, 204, 205, 206, 207, 208, 209, 210, 211, 212, 213, 214, 215, 216, 217, 218, 219, 220]) h) T_ok d_MD_score_20 f_MD_233 (mi_s k10.1 sf_170) fin_f (kM_i k10 (by decide) (by decide) mr_170_11 (by omega) (by omega)) (fun h11 k12 eh11 => ?_)
  refine A_aload_n 0 d_MD_score_23 rfl rfl ?_
  refine A_bipush d_MD_score_24 rfl ?_
  refine A_putIk (KR := kM (pm [1, 2, 3, 4, 5, 6, 7, 8, 9, 10, 11, 12, 13, 43, 59, 60, 61, 63, 64, 65, 66, 70, 71, 72, 73, 74, 75, 76, 77, 78, 80, 85, 89, 91, 98, 104, 105] [172, 173, 174, 175, 176, 177, 178, 179, 180, 181, 182, 183, 184, 185, 186, 187, 188, 189, 190, 191, 192, 193, 194, 195, 196, 197, 198, 199, 200, 201, 202, 203, 204, 205, 206, 207, 208, 209, 210, 211, 212, 213, 214, 215, 216, 217, 218, 219, 220]) h) T_ok d_MD_score_26 f_MD_13 (mi_s k12.1 sf_170) fin_f (kM_i k12 (by decide) (by decide) mr_170_13 (by omega) (by omega)) (fun h13 k14 eh13 => ?_)
  have ya : PP h h13 := ⟨LF_a ⟨(by intro a ha; simp only [List.mem_cons, List.not_mem_nil, or_false] at ha; rcases ha with rfl | rfl | rfl | rfl | rfl | rfl ; exact (funext (fun k => ((congrFun (congrFun eh13.2.2 187) k).trans ((congrFun (congrFun eh11.2.2 187) k).trans ((congrFun (congrFun eh9.2.2 187) k).trans ((congrFun (congrFun eh7.2.2 187) k).trans (congrFun (congrFun eh5.2.2 187) k))))))) ; exact (funext (fun k => ((congrFun (congrFun eh13.2.2 188) k).trans ((congrFun (congrFun eh11.2.2 188) k).trans ((congrFun (congrFun eh9.2.2 188) k).trans ((congrFun (congrFun eh7.2.2 188) k).trans (congrFun (congrFun eh5.2.2 188) k))))))) ; exact (funext (fun k => ((congrFun (congrFun eh13.2.2 189) k).trans ((congrFun (congrFun eh11.2.2 189) k).trans ((congrFun (congrFun eh9.2.2 189) k).trans ((congrFun (congrFun eh7.2.2 189) k).trans (congrFun (congrFun eh5.2.2 189) k))))))) ; exact (funext (fun k => ((congrFun (congrFun eh13.2.2 190) k).trans ((congrFun (congrFun eh11.2.2 190) k).trans ((congrFun (congrFun eh9.2.2 190) k).trans ((congrFun (congrFun eh7.2.2 190) k).trans (congrFun (congrFun eh5.2.2 190) k))))))) ; exact (funext (fun k => ((congrFun (congrFun eh13.2.2 199) k).trans ((congrFun (congrFun eh11.2.2 199) k).trans ((congrFun (congrFun eh9.2.2 199) k).trans ((congrFun (congrFun eh7.2.2 199) k).trans (congrFun (congrFun eh5.2.2 199) k))))))) ; exact (funext (fun k => ((congrFun (congrFun eh13.2.2 200) k).trans ((congrFun (congrFun eh11.2.2 200) k).trans ((congrFun (congrFun eh9.2.2 200) k).trans ((congrFun (congrFun eh7.2.2 200) k).trans (congrFun (congrFun eh5.2.2 200) k)))))))), (by intro a ha; simp only [List.mem_cons, List.not_mem_nil, or_false] at ha; rcases ha with rfl | rfl | rfl ; exact (funext (fun k => ((eh13.1 185 k (fun q => absurd q (by decide))).trans ((eh11.1 185 k (fun q => absurd q (by decide))).trans ((eh9.1 185 k (fun q => absurd q (by decide))).trans ((eh7.1 185 k (fun q => absurd q (by decide))).trans (eh5.1 185 k (fun q => absurd q (by decide))))))))) ; exact (funext (fun k => ((eh13.1 186 k (fun q => absurd q (by decide))).trans ((eh11.1 186 k (fun q => absurd q (by decide))).trans ((eh9.1 186 k (fun q => absurd q (by decide))).trans ((eh7.1 186 k (fun q => absurd q (by decide))).trans (eh5.1 186 k (fun q => absurd q (by decide))))))))) ; exact (funext (fun k => ((eh13.1 196 k (fun q => absurd q (by decide))).trans ((eh11.1 196 k (fun q => absurd q (by decide))).trans ((eh9.1 196 k (fun q => absurd q (by decide))).trans ((eh7.1 196 k (fun q => absurd q (by decide))).trans (eh5.1 196 k (fun q => absurd q (by decide))))))))))⟩, ((eh13.1 172 0 (fun q => absurd q (by decide))).trans ((eh11.1 172 0 (fun q => absurd q (by decide))).trans ((eh9.1 172 0 (fun q => absurd q (by decide))).trans ((eh7.1 172 0 (fun q => absurd q (by decide))).trans (eh5.1 172 0 (fun q => absurd q (by decide))))))), fun k _ => ⟨((eh13.1 178 k (fun q => absurd q (by decide))).trans ((eh11.1 178 k (fun q => absurd q (by decide))).trans ((eh9.1 178 k (fun q => absurd q (by decide))).trans ((eh7.1 178 k (fun q => absurd q (by decide))).trans (eh5.1 178 k (fun q => absurd q (by decide))))))), ((eh13.1 179 k (fun q => absurd q (by decide))).trans ((eh11.1 179 k (fun q => absurd q (by decide))).trans ((eh9.1 179 k (fun q => absurd q (by decide))).trans ((eh7.1 179 k (fun q => absurd q (by decide))).trans (eh5.1 179 k (fun q => absurd q (by decide))))))), ((eh13.1 180 k (fun q => absurd q (by decide))).trans ((eh11.1 180 k (fun q => absurd q (by decide))).trans ((eh9.1 180 k (fun q => absurd q (by decide))).trans ((eh7.1 180 k (fun q => absurd q (by decide))).trans (eh5.1 180 k (fun q => absurd q (by decide)))))))⟩, ((eh13.1 177 0 (fun q => absurd q (by decide))).trans ((eh11.1 177 0 (fun q => absurd q (by decide))).trans ((eh9.1 177 0 (fun q => absurd q (by decide))).trans ((eh7.1 177 0 (fun q => absurd q (by decide))).trans (eh5.1 177 0 (fun q => absurd q (by decide))))))), fun k _ => ((eh13.1 182 k (fun q => absurd q (by decide))).trans ((eh11.1 182 k (fun q => absurd q (by decide))).trans ((eh9.1 182 k (fun q => absurd q (by decide))).trans ((eh7.1 182 k (fun q => absurd q (by decide))).trans (eh5.1 182 k (fun q => absurd q (by decide))))))), ((eh13.1 181 0 (fun q => absurd q (by decide))).trans ((eh11.1 181 0 (fun q => absurd q (by decide))).trans ((eh9.1 181 0 (fun q => absurd q (by decide))).trans ((eh7.1 181 0 (fun q => absurd q (by decide))).trans (eh5.1 181 0 (fun q => absurd q (by decide)))))))⟩
  refine A_aload_n 0 d_MD_score_29 rfl rfl ?_
  refine A_pc (pc' := 30) rfl ?_
  have zf16 := ((eh13.1 _ _ (fun _ => by decide)).trans ((eh11.1 _ _ (fun _ => by decide)).trans ((eh9.1 _ _ (fun _ => by decide)).trans eh7.2.1)))
  have zf17 := ((eh13.1 _ _ (fun _ => by decide)).trans ((eh11.1 _ _ (fun _ => by decide)).trans ((eh9.1 _ _ (fun _ => by decide)).trans ((eh7.1 _ _ (fun _ => by decide)).trans eh5.2.1))))
  have zf18 := ((eh13.1 _ _ (fun _ => by decide)).trans ((eh11.1 _ _ (fun _ => by decide)).trans eh9.2.1))
  refine A_callV0 m_MD_parse T_ok d_MD_score_30 l_MD_465 k_MD_parse (mi_s k14.1 sf_170) rfl (by decide +kernel) (by decide) (Nat.le_of_ble_eq_true rfl) (s_MD_parse k14.1 (by have qq0 := ((eh13.1 _ _ (fun _ => by decide)).trans ((eh11.1 _ _ (fun _ => by decide)).trans eh9.2.1)); have qq1 := ((eh13.1 _ _ (fun _ => by decide)).trans ((eh11.1 _ _ (fun _ => by decide)).trans ((eh9.1 _ _ (fun _ => by decide)).trans ((eh7.1 _ _ (fun _ => by decide)).trans eh5.2.1)))); omega)) (fun r h15 hq => ?_)
  obtain ⟨x20, rfl, bx20, xx20, k19⟩ := hq
  have k21 := kM_t k14 k19 (pm_s (by decide) (by decide))
  obtain ⟨sd22, esd22⟩ : ∃ x, x = h15.2.1 170 3 := ⟨_, rfl⟩
  have rsd22 : 0 ≤ sd22 ∧ sd22 ≤ 2000 := (by rw [esd22]; exact mi_g k21.1 (by decide) mr_170_3)
  have yb : PP h h15 := PP_t ya xx20.1
  refine A_if_ne (tgt := 52) d_MD_score_33 (by decide) (fun c23 => ?_) (fun c23 => ?_)
  · refine A_aload_n 0 d_MD_score_52 rfl rfl ?_
    have zf25 := ((k19.2.2.1 _ _ rfl).trans ((eh13.1 _ _ (fun _ => by decide)).trans ((eh11.1 _ _ (fun _ => by decide)).trans ((eh9.1 _ _ (fun _ => by decide)).trans eh7.2.1))))
    have zf26 := ((k19.2.2.1 _ _ rfl).trans ((eh13.1 _ _ (fun _ => by decide)).trans ((eh11.1 _ _ (fun _ => by decide)).trans ((eh9.1 _ _ (fun _ => by decide)).trans ((eh7.1 _ _ (fun _ => by decide)).trans eh5.2.1)))))
    have zf27 := esd22.symm
    refine A_callV0 m_MD_keep T_ok d_MD_score_53 l_MD_468 k_MD_keep (mi_s k21.1 sf_170) rfl (by decide +kernel) (by decide) (Nat.le_of_ble_eq_true rfl) (s_MD_keep k21.1 (xx20.2 (by omega))) (fun r h24 hq => ?_)
    obtain ⟨rfl, xk28, k28⟩ := hq
    have k29 := kM_t k21 k28 (pm_s (by decide) (by decide))
    refine A_aload_n 0 d_MD_score_56 rfl rfl ?_
    refine A_iconst d_MD_score_57 rfl ?_
    refine A_putIk (KR := kM (pm [1, 2, 3, 4, 5, 6, 7, 8, 9, 10, 11, 12, 13, 43, 59, 60, 61, 63, 64, 65, 66, 70, 71, 72, 73, 74, 75, 76, 77, 78, 80, 85, 89, 91, 98, 104, 105] [172, 173, 174, 175, 176, 177, 178, 179, 180, 181, 182, 183, 184, 185, 186, 187, 188, 189, 190, 191, 192, 193, 194, 195, 196, 197, 198, 199, 200, 201, 202, 203, 204, 205, 206, 207, 208, 209, 210, 211, 212, 213, 214, 215, 216, 217, 218, 219, 220]) h) T_ok d_MD_score_58 f_MD_471 (mi_s k29.1 sf_170) fin_f (kM_i k29 (by decide) (by decide) mr_170_80 (by omega) (by omega)) (fun h30 k31 eh30 => ?_)
    refine A_aload_n 0 d_MD_score_61 rfl rfl ?_
    refine A_iconst d_MD_score_62 rfl ?_
    refine A_pc (pc' := 63) rfl ?_
    refine A_putIk (KR := kM (pm [1, 2, 3, 4, 5, 6, 7, 8, 9, 10, 11, 12, 13, 43, 59, 60, 61, 63, 64, 65, 66, 70, 71, 72, 73, 74, 75, 76, 77, 78, 80, 85, 89, 91, 98, 104, 105] [172, 173, 174, 175, 176, 177, 178, 179, 180, 181, 182, 183, 184, 185, 186, 187, 188, 189, 190, 191, 192, 193, 194, 195, 196, 197, 198, 199, 200, 201, 202, 203, 204, 205, 206, 207, 208, 209, 210, 211, 212, 213, 214, 215, 216, 217, 218, 219, 220]) h) T_ok d_MD_score_63 f_MD_474 (mi_s k31.1 sf_170) fin_f (kM_i k31 (by decide) (by decide) mr_170_85 (by omega) (by omega)) (fun h32 k33 eh32 => ?_)
    refine A_aload_n 0 d_MD_score_66 rfl rfl ?_
    refine A_iconst d_MD_score_67 rfl ?_
    refine A_putIk (KR := kM (pm [1, 2, 3, 4, 5, 6, 7, 8, 9, 10, 11, 12, 13, 43, 59, 60, 61, 63, 64, 65, 66, 70, 71, 72, 73, 74, 75, 76, 77, 78, 80, 85, 89, 91, 98, 104, 105] [172, 173, 174, 175, 176, 177, 178, 179, 180, 181, 182, 183, 184, 185, 186, 187, 188, 189, 190, 191, 192, 193, 194, 195, 196, 197, 198, 199, 200, 201, 202, 203, 204, 205, 206, 207, 208, 209, 210, 211, 212, 213, 214, 215, 216, 217, 218, 219, 220]) h) T_ok d_MD_score_68 f_MD_477 (mi_s k33.1 sf_170) fin_f (kM_i k33 (by decide) (by decide) mr_170_89 (by omega) (by omega)) (fun h34 k35 eh34 => ?_)
    refine A_aload_n 0 d_MD_score_71 rfl rfl ?_
    refine A_iconst d_MD_score_72 rfl ?_
    refine A_pc (pc' := 73) rfl ?_
    refine A_putIk (KR := kM (pm [1, 2, 3, 4, 5, 6, 7, 8, 9, 10, 11, 12, 13, 43, 59, 60, 61, 63, 64, 65, 66, 70, 71, 72, 73, 74, 75, 76, 77, 78, 80, 85, 89, 91, 98, 104, 105] [172, 173, 174, 175, 176, 177, 178, 179, 180, 181, 182, 183, 184, 185, 186, 187, 188, 189, 190, 191, 192, 193, 194, 195, 196, 197, 198, 199, 200, 201, 202, 203, 204, 205, 206, 207, 208, 209, 210, 211, 212, 213, 214, 215, 216, 217, 218, 219, 220]) h) T_ok d_MD_score_73 f_MD_480 (mi_s k35.1 sf_170) fin_f (kM_i k35 (by decide) (by decide) mr_170_91 (by omega) (by omega)) (fun h36 k37 eh36 => ?_)
    refine A_aload_n 0 d_MD_score_76 rfl rfl ?_
    refine A_iconst d_MD_score_77 rfl ?_
    refine A_putIk (KR := kM (pm [1, 2, 3, 4, 5, 6, 7, 8, 9, 10, 11, 12, 13, 43, 59, 60, 61, 63, 64, 65, 66, 70, 71, 72, 73, 74, 75, 76, 77, 78, 80, 85, 89, 91, 98, 104, 105] [172, 173, 174, 175, 176, 177, 178, 179, 180, 181, 182, 183, 184, 185, 186, 187, 188, 189, 190, 191, 192, 193, 194, 195, 196, 197, 198, 199, 200, 201, 202, 203, 204, 205, 206, 207, 208, 209, 210, 211, 212, 213, 214, 215, 216, 217, 218, 219, 220]) h) T_ok d_MD_score_78 f_MD_483 (mi_s k37.1 sf_170) fin_f (kM_i k37 (by decide) (by decide) mr_170_98 (by omega) (by omega)) (fun h38 k39 eh38 => ?_)
    refine A_aload_n 0 d_MD_score_81 rfl rfl ?_
    refine A_iconst d_MD_score_82 rfl ?_
    refine A_pc (pc' := 83) rfl ?_
    refine A_putIk (KR := kM (pm [1, 2, 3, 4, 5, 6, 7, 8, 9, 10, 11, 12, 13, 43, 59, 60, 61, 63, 64, 65, 66, 70, 71, 72, 73, 74, 75, 76, 77, 78, 80, 85, 89, 91, 98, 104, 105] [172, 173, 174, 175, 176, 177, 178, 179, 180, 181, 182, 183, 184, 185, 186, 187, 188, 189, 190, 191, 192, 193, 194, 195, 196, 197, 198, 199, 200, 201, 202, 203, 204, 205, 206, 207, 208, 209, 210, 211, 212, 213, 214, 215, 216, 217, 218, 219, 220]) h) T_ok d_MD_score_83 f_MD_486 (mi_s k39.1 sf_170) fin_f (kM_i k39 (by decide) (by decide) mr_170_104 (by omega) (by omega)) (fun h40 k41 eh40 => ?_)
    refine A_aload_n 0 d_MD_score_86 rfl rfl ?_
    refine A_iconst d_MD_score_87 rfl ?_
    refine A_putIk (KR := kM (pm [1, 2, 3, 4, 5, 6, 7, 8, 9, 10, 11, 12, 13, 43, 59, 60, 61, 63, 64, 65, 66, 70, 71, 72, 73, 74, 75, 76, 77, 78, 80, 85, 89, 91, 98, 104, 105] [172, 173, 174, 175, 176, 177, 178, 179, 180, 181, 182, 183, 184, 185, 186, 187, 188, 189, 190, 191, 192, 193, 194, 195, 196, 197, 198, 199, 200, 201, 202, 203, 204, 205, 206, 207, 208, 209, 210, 211, 212, 213, 214, 215, 216, 217, 218, 219, 220]) h) T_ok d_MD_score_88 f_MD_489 (mi_s k41.1 sf_170) fin_f (kM_i k41 (by decide) (by decide) mr_170_105 (by omega) (by omega)) (fun h42 k43 eh42 => ?_)
    refine A_iconst d_MD_score_91 rfl ?_
    refine A_istore_n 1 (L' := [some (av_R (some 170)), some (av_I 0), none]) d_MD_score_92 rfl (Nat.le_of_ble_eq_true rfl) rfl ?_
    refine A_pc (pc' := 93) rfl ?_
    refine A_iconst d_MD_score_93 rfl ?_
    refine A_istore_n 2 (L' := [some (av_R (some 170)), some (av_I 0), some (av_I 0)]) d_MD_score_94 rfl (Nat.le_of_ble_eq_true rfl) rfl ?_
    have lp95 : ∀ (n : Nat) (i44 i45 : Int) , (-2147483648) ≤ i44 → i44 ≤ 2147483647 → 0 ≤ i45 → i45 ≤ 4 → (5 - i45).toNat < n → aw G (rm_R 8 0 0) m_MD_score 0 0 95 [some (av_R (some 170)), some (av_I i44), some (av_I i45)] [] h42 (fun r h' => ∃ z, r = some (av_I z) ∧ ((-2147483648) ≤ z ∧ z ≤ 2147483647) ∧ (h'.2.1 170 1 = 0 ∧ PX h') ∧ kM (pm [1, 2, 3, 4, 5, 6, 7, 8, 9, 10, 11, 12, 13, 43, 59, 60, 61, 63, 64, 65, 66, 70, 71, 72, 73, 74, 75, 76, 77, 78, 80, 85, 89, 91, 98, 104, 105] [172, 173, 174, 175, 176, 177, 178, 179, 180, 181, 182, 183, 184, 185, 186, 187, 188, 189, 190, 191, 192, 193, 194, 195, 196, 197, 198, 199, 200, 201, 202, 203, 204, 205, 206, 207, 208, 209, 210, 211, 212, 213, 214, 215, 216, 217, 218, 219, 220]) h h') := by
      intro n
      induction n with
      | zero => intro i44 i45 _ _ _ _ hm; omega
      | succ n ih95 =>
        intro i44 i45 hl0 hl1 hl2 hl3 hm
        refine A_iload_n 2 d_MD_score_95 rfl rfl ?_
        refine A_aload_n 0 d_MD_score_96 rfl rfl ?_
        refine A_getAv (z := some 172) T_ok d_MD_score_97 f_MD_17 (mi_s k43.1 sf_170) (mi_r k43.1 rfm_14) ?_
        refine A_iconst d_MD_score_100 rfl ?_
        refine A_ialoadn (lo := 0) (hi := 4) d_MD_score_101 (mi_s k43.1 sf_172) (by decide) (by decide) (mi_g k43.1 (by decide) (mr_172 _)) (fun x47 ex47 _ _ => ?_)
        replace ex47 : x47 = h42.2.1 172 0 := ex47
        refine A_pc (pc' := 102) rfl ?_
        refine A_icmp_ge (tgt := 120) d_MD_score_102 (by decide) (fun c48 => ?_) (fun c48 => ?_)
        · refine A_iload_n 1 d_MD_score_120 rfl rfl ?_
          exact A_iret d_MD_score_121 (by decide) rfl ⟨_, rfl, ⟨by omega, by omega⟩, ⟨((eh42.1 _ _ (fun _ => by decide)).trans ((eh40.1 _ _ (fun _ => by decide)).trans ((eh38.1 _ _ (fun _ => by decide)).trans ((eh36.1 _ _ (fun _ => by decide)).trans ((eh34.1 _ _ (fun _ => by decide)).trans ((eh32.1 _ _ (fun _ => by decide)).trans ((eh30.1 _ _ (fun _ => by decide)).trans ((k28.2.2.1 _ _ rfl).trans ((k19.2.2.1 _ _ rfl).trans ((eh13.1 _ _ (fun _ => by decide)).trans ((eh11.1 _ _ (fun _ => by decide)).trans ((eh9.1 _ _ (fun _ => by decide)).trans eh7.2.1)))))))))))), PX_z (PP_K k29.1 ⟨LF_a ⟨(by intro a ha; simp only [List.mem_cons, List.not_mem_nil, or_false] at ha; rcases ha with rfl | rfl | rfl | rfl | rfl | rfl ; exact (funext (fun k => ((congrFun (congrFun eh42.2.2 187) k).trans ((congrFun (congrFun eh40.2.2 187) k).trans ((congrFun (congrFun eh38.2.2 187) k).trans ((congrFun (congrFun eh36.2.2 187) k).trans ((congrFun (congrFun eh34.2.2 187) k).trans ((congrFun (congrFun eh32.2.2 187) k).trans (congrFun (congrFun eh30.2.2 187) k))))))))) ; exact (funext (fun k => ((congrFun (congrFun eh42.2.2 188) k).trans ((congrFun (congrFun eh40.2.2 188) k).trans ((congrFun (congrFun eh38.2.2 188) k).trans ((congrFun (congrFun eh36.2.2 188) k).trans ((congrFun (congrFun eh34.2.2 188) k).trans ((congrFun (congrFun eh32.2.2 188) k).trans (congrFun (congrFun eh30.2.2 188) k))))))))) ; exact (funext (fun k => ((congrFun (congrFun eh42.2.2 189) k).trans ((congrFun (congrFun eh40.2.2 189) k).trans ((congrFun (congrFun eh38.2.2 189) k).trans ((congrFun (congrFun eh36.2.2 189) k).trans ((congrFun (congrFun eh34.2.2 189) k).trans ((congrFun (congrFun eh32.2.2 189) k).trans (congrFun (congrFun eh30.2.2 189) k))))))))) ; exact (funext (fun k => ((congrFun (congrFun eh42.2.2 190) k).trans ((congrFun (congrFun eh40.2.2 190) k).trans ((congrFun (congrFun eh38.2.2 190) k).trans ((congrFun (congrFun eh36.2.2 190) k).trans ((congrFun (congrFun eh34.2.2 190) k).trans ((congrFun (congrFun eh32.2.2 190) k).trans (congrFun (congrFun eh30.2.2 190) k))))))))) ; exact (funext (fun k => ((congrFun (congrFun eh42.2.2 199) k).trans ((congrFun (congrFun eh40.2.2 199) k).trans ((congrFun (congrFun eh38.2.2 199) k).trans ((congrFun (congrFun eh36.2.2 199) k).trans ((congrFun (congrFun eh34.2.2 199) k).trans ((congrFun (congrFun eh32.2.2 199) k).trans (congrFun (congrFun eh30.2.2 199) k))))))))) ; exact (funext (fun k => ((congrFun (congrFun eh42.2.2 200) k).trans ((congrFun (congrFun eh40.2.2 200) k).trans ((congrFun (congrFun eh38.2.2 200) k).trans ((congrFun (congrFun eh36.2.2 200) k).trans ((congrFun (congrFun eh34.2.2 200) k).trans ((congrFun (congrFun eh32.2.2 200) k).trans (congrFun (congrFun eh30.2.2 200) k)))))))))), (by intro a ha; simp only [List.mem_cons, List.not_mem_nil, or_false] at ha; rcases ha with rfl | rfl | rfl ; exact (funext (fun k => ((eh42.1 185 k (fun q => absurd q (by decide))).trans ((eh40.1 185 k (fun q => absurd q (by decide))).trans ((eh38.1 185 k (fun q => absurd q (by decide))).trans ((eh36.1 185 k (fun q => absurd q (by decide))).trans ((eh34.1 185 k (fun q => absurd q (by decide))).trans ((eh32.1 185 k (fun q => absurd q (by decide))).trans (eh30.1 185 k (fun q => absurd q (by decide))))))))))) ; exact (funext (fun k => ((eh42.1 186 k (fun q => absurd q (by decide))).trans ((eh40.1 186 k (fun q => absurd q (by decide))).trans ((eh38.1 186 k (fun q => absurd q (by decide))).trans ((eh36.1 186 k (fun q => absurd q (by decide))).trans ((eh34.1 186 k (fun q => absurd q (by decide))).trans ((eh32.1 186 k (fun q => absurd q (by decide))).trans (eh30.1 186 k (fun q => absurd q (by decide))))))))))) ; exact (funext (fun k => ((eh42.1 196 k (fun q => absurd q (by decide))).trans ((eh40.1 196 k (fun q => absurd q (by decide))).trans ((eh38.1 196 k (fun q => absurd q (by decide))).trans ((eh36.1 196 k (fun q => absurd q (by decide))).trans ((eh34.1 196 k (fun q => absurd q (by decide))).trans ((eh32.1 196 k (fun q => absurd q (by decide))).trans (eh30.1 196 k (fun q => absurd q (by decide))))))))))))⟩, ((eh42.1 172 0 (fun q => absurd q (by decide))).trans ((eh40.1 172 0 (fun q => absurd q (by decide))).trans ((eh38.1 172 0 (fun q => absurd q (by decide))).trans ((eh36.1 172 0 (fun q => absurd q (by decide))).trans ((eh34.1 172 0 (fun q => absurd q (by decide))).trans ((eh32.1 172 0 (fun q => absurd q (by decide))).trans (eh30.1 172 0 (fun q => absurd q (by decide))))))))), fun k _ => ⟨((eh42.1 178 k (fun q => absurd q (by decide))).trans ((eh40.1 178 k (fun q => absurd q (by decide))).trans ((eh38.1 178 k (fun q => absurd q (by decide))).trans ((eh36.1 178 k (fun q => absurd q (by decide))).trans ((eh34.1 178 k (fun q => absurd q (by decide))).trans ((eh32.1 178 k (fun q => absurd q (by decide))).trans (eh30.1 178 k (fun q => absurd q (by decide))))))))), ((eh42.1 179 k (fun q => absurd q (by decide))).trans ((eh40.1 179 k (fun q => absurd q (by decide))).trans ((eh38.1 179 k (fun q => absurd q (by decide))).trans ((eh36.1 179 k (fun q => absurd q (by decide))).trans ((eh34.1 179 k (fun q => absurd q (by decide))).trans ((eh32.1 179 k (fun q => absurd q (by decide))).trans (eh30.1 179 k (fun q => absurd q (by decide))))))))), ((eh42.1 180 k (fun q => absurd q (by decide))).trans ((eh40.1 180 k (fun q => absurd q (by decide))).trans ((eh38.1 180 k (fun q => absurd q (by decide))).trans ((eh36.1 180 k (fun q => absurd q (by decide))).trans ((eh34.1 180 k (fun q => absurd q (by decide))).trans ((eh32.1 180 k (fun q => absurd q (by decide))).trans (eh30.1 180 k (fun q => absurd q (by decide)))))))))⟩, ((eh42.1 177 0 (fun q => absurd q (by decide))).trans ((eh40.1 177 0 (fun q => absurd q (by decide))).trans ((eh38.1 177 0 (fun q => absurd q (by decide))).trans ((eh36.1 177 0 (fun q => absurd q (by decide))).trans ((eh34.1 177 0 (fun q => absurd q (by decide))).trans ((eh32.1 177 0 (fun q => absurd q (by decide))).trans (eh30.1 177 0 (fun q => absurd q (by decide))))))))), fun k _ => ((eh42.1 182 k (fun q => absurd q (by decide))).trans ((eh40.1 182 k (fun q => absurd q (by decide))).trans ((eh38.1 182 k (fun q => absurd q (by decide))).trans ((eh36.1 182 k (fun q => absurd q (by decide))).trans ((eh34.1 182 k (fun q => absurd q (by decide))).trans ((eh32.1 182 k (fun q => absurd q (by decide))).trans (eh30.1 182 k (fun q => absurd q (by decide))))))))), ((eh42.1 181 0 (fun q => absurd q (by decide))).trans ((eh40.1 181 0 (fun q => absurd q (by decide))).trans ((eh38.1 181 0 (fun q => absurd q (by decide))).trans ((eh36.1 181 0 (fun q => absurd q (by decide))).trans ((eh34.1 181 0 (fun q => absurd q (by decide))).trans ((eh32.1 181 0 (fun q => absurd q (by decide))).trans (eh30.1 181 0 (fun q => absurd q (by decide)))))))))⟩ xk28.1 xk28.2.1 xk28.2.2) ((eh42.1 _ _ (fun _ => by decide)).trans ((eh40.1 _ _ (fun _ => by decide)).trans eh38.2.1)) (by have q1 := ((eh42.1 _ _ (fun _ => by decide)).trans ((eh40.1 _ _ (fun _ => by decide)).trans ((eh38.1 _ _ (fun _ => by decide)).trans ((eh36.1 _ _ (fun _ => by decide)).trans ((eh34.1 _ _ (fun _ => by decide)).trans ((eh32.1 _ _ (fun _ => by decide)).trans eh30.2.1)))))); omega)⟩, k43⟩
        · refine A_iload_n 1 d_MD_score_105 rfl rfl ?_
          refine A_aload_n 0 d_MD_score_106 rfl rfl ?_
          refine A_getAv (z := some 185) T_ok d_MD_score_107 f_MD_57 (mi_s k43.1 sf_170) (mi_r k43.1 rfm_27) ?_
          refine A_iload_n 2 d_MD_score_110 rfl rfl ?_
          refine A_ialoadn (lo := 0) (hi := 300) d_MD_score_111 (mi_s k43.1 sf_185) (by omega) (by omega) (mi_g k43.1 (by decide) (mr_185 _)) (fun x50 ex50 _ _ => ?_)
          refine A_pc (pc' := 112) rfl ?_
          refine A_iaddw d_MD_score_112 (fun x51 _ _ _ => ?_)
          refine A_istore_n 1 (L' := [some (av_R (some 170)), some (av_I x51), some (av_I i45)]) d_MD_score_113 rfl (Nat.le_of_ble_eq_true rfl) rfl ?_
          refine A_iincv (z := (i45 + 1)) (L' := [some (av_R (some 170)), some (av_I x51), some (av_I (i45 + 1))]) d_MD_score_114 rfl (w32_to (by omega) (by unfold i32; omega)) rfl ?_
          refine A_goto (tgt := 95) d_MD_score_117 (by decide) ?_
          exact ih95 x51 (i45 + 1) (by omega) (by omega) (by omega) (by omega) (by omega)
    exact lp95 _ 0 0 (by omega) (by omega) (by omega) (by omega) (Nat.lt_succ_self _)
  · refine A_aload_n 0 d_MD_score_36 rfl rfl ?_
    refine A_aload_n 0 d_MD_score_37 rfl rfl ?_
    refine A_getIn (lo := 0) (hi := 2000) T_ok d_MD_score_38 f_MD_236 (mi_s k21.1 sf_170) (mi_g k21.1 (by decide) mr_170_12) (fun x52 ex52 _ _ => ?_)
    refine A_putIk (KR := kM (pm [1, 2, 3, 4, 5, 6, 7, 8, 9, 10, 11, 12, 13, 43, 59, 60, 61, 63, 64, 65, 66, 70, 71, 72, 73, 74, 75, 76, 77, 78, 80, 85, 89, 91, 98, 104, 105] [172, 173, 174, 175, 176, 177, 178, 179, 180, 181, 182, 183, 184, 185, 186, 187, 188, 189, 190, 191, 192, 193, 194, 195, 196, 197, 198, 199, 200, 201, 202, 203, 204, 205, 206, 207, 208, 209, 210, 211, 212, 213, 214, 215, 216, 217, 218, 219, 220]) h) T_ok d_MD_score_41 f_MD_13 (mi_s k21.1 sf_170) fin_f (kM_i k21 (by decide) (by decide) mr_170_13 (by omega) (by omega)) (fun h53 k54 eh53 => ?_)
    refine A_bipush d_MD_score_44 rfl ?_
    refine A_pc (pc' := 46) rfl ?_
    refine A_aload_n 0 d_MD_score_46 rfl rfl ?_
    refine A_getIn (lo := 0) (hi := 7) T_ok d_MD_score_47 f_MD_233 (mi_s k54.1 sf_170) (mi_g k54.1 (by decide) mr_170_11) (fun x55 ex55 _ _ => ?_)
    refine A_isubv (z := (-x55 - 10)) d_MD_score_50 (w32_to (by omega) (by unfold i32; omega)) ?_
    exact A_iret d_MD_score_51 (by decide) rfl ⟨_, rfl, ⟨by omega, by omega⟩, ⟨((eh53.1 _ _ (fun _ => by decide)).trans ((k19.2.2.1 _ _ rfl).trans ((eh13.1 _ _ (fun _ => by decide)).trans ((eh11.1 _ _ (fun _ => by decide)).trans ((eh9.1 _ _ (fun _ => by decide)).trans eh7.2.1))))), PX_p hx hpx (PP_t yb ⟨LF_a ⟨(by intro a ha; simp only [List.mem_cons, List.not_mem_nil, or_false] at ha; rcases ha with rfl | rfl | rfl | rfl | rfl | rfl ; exact (funext (fun k => (congrFun (congrFun eh53.2.2 187) k))) ; exact (funext (fun k => (congrFun (congrFun eh53.2.2 188) k))) ; exact (funext (fun k => (congrFun (congrFun eh53.2.2 189) k))) ; exact (funext (fun k => (congrFun (congrFun eh53.2.2 190) k))) ; exact (funext (fun k => (congrFun (congrFun eh53.2.2 199) k))) ; exact (funext (fun k => (congrFun (congrFun eh53.2.2 200) k)))), (by intro a ha; simp only [List.mem_cons, List.not_mem_nil, or_false] at ha; rcases ha with rfl | rfl | rfl ; exact (funext (fun k => (eh53.1 185 k (fun q => absurd q (by decide))))) ; exact (funext (fun k => (eh53.1 186 k (fun q => absurd q (by decide))))) ; exact (funext (fun k => (eh53.1 196 k (fun q => absurd q (by decide))))))⟩, (eh53.1 172 0 (fun q => absurd q (by decide))), fun k _ => ⟨(eh53.1 178 k (fun q => absurd q (by decide))), (eh53.1 179 k (fun q => absurd q (by decide))), (eh53.1 180 k (fun q => absurd q (by decide)))⟩, (eh53.1 177 0 (fun q => absurd q (by decide))), fun k _ => (eh53.1 182 k (fun q => absurd q (by decide))), (eh53.1 181 0 (fun q => absurd q (by decide)))⟩) (funext (fun k => ((congrFun (congrFun eh53.2.2 231) k).trans ((k19.2.2.2 231 k rfl).trans ((congrFun (congrFun eh13.2.2 231) k).trans ((congrFun (congrFun eh11.2.2 231) k).trans ((congrFun (congrFun eh9.2.2 231) k).trans ((congrFun (congrFun eh7.2.2 231) k).trans (congrFun (congrFun eh5.2.2 231) k))))))))) ((eh53.1 170 98 (fun _ => (by decide))).trans ((k19.2.2.1 170 98 rfl).trans ((eh13.1 170 98 (fun _ => (by decide))).trans ((eh11.1 170 98 (fun _ => (by decide))).trans ((eh9.1 170 98 (fun _ => (by decide))).trans ((eh7.1 170 98 (fun _ => (by decide))).trans (eh5.1 170 98 (fun _ => (by decide))))))))) ((eh53.1 170 80 (fun _ => (by decide))).trans ((k19.2.2.1 170 80 rfl).trans ((eh13.1 170 80 (fun _ => (by decide))).trans ((eh11.1 170 80 (fun _ => (by decide))).trans ((eh9.1 170 80 (fun _ => (by decide))).trans ((eh7.1 170 80 (fun _ => (by decide))).trans (eh5.1 170 80 (fun _ => (by decide)))))))))⟩, k54⟩
