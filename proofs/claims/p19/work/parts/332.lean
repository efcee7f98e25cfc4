/-! ===== the reference's methods, 332 ===== -/
def m_MD_voiceItem : mr_T := (⟨"PlainMusicModel", "voiceItem", "()Z"⟩, prog_14_method_25_code, 2, some .boolean)
theorem d_MD_voiceItem_0 : decode prog_14_method_25_code 0 = .ok (.aload_n 0, 1) := by decide +kernel
theorem d_MD_voiceItem_1 : decode prog_14_method_25_code 1 = .ok (.getfield 242, 3) := by decide +kernel
theorem d_MD_voiceItem_4 : decode prog_14_method_25_code 4 = .ok (.istore_n 1, 1) := by decide +kernel
theorem d_MD_voiceItem_5 : decode prog_14_method_25_code 5 = .ok (.aload_n 0, 1) := by decide +kernel
theorem d_MD_voiceItem_6 : decode prog_14_method_25_code 6 = .ok (.getfield 17, 3) := by decide +kernel
theorem d_MD_voiceItem_9 : decode prog_14_method_25_code 9 = .ok (.iconst 1, 1) := by decide +kernel
theorem d_MD_voiceItem_10 : decode prog_14_method_25_code 10 = .ok (.iaload, 1) := by decide +kernel
theorem d_MD_voiceItem_11 : decode prog_14_method_25_code 11 = .ok (.iconst 4, 1) := by decide +kernel
theorem d_MD_voiceItem_12 : decode prog_14_method_25_code 12 = .ok (.if_icmp .ne 13, 3) := by decide +kernel
theorem d_MD_voiceItem_25 : decode prog_14_method_25_code 25 = .ok (.aload_n 0, 1) := by decide +kernel
theorem d_MD_voiceItem_26 : decode prog_14_method_25_code 26 = .ok (.invokevirtual 309, 3) := by decide +kernel
theorem d_MD_voiceItem_29 : decode prog_14_method_25_code 29 = .ok (.pop, 1) := by decide +kernel
theorem d_MD_voiceItem_30 : decode prog_14_method_25_code 30 = .ok (.aload_n 0, 1) := by decide +kernel
theorem d_MD_voiceItem_31 : decode prog_14_method_25_code 31 = .ok (.iconst 0, 1) := by decide +kernel
theorem d_MD_voiceItem_32 : decode prog_14_method_25_code 32 = .ok (.putfield 354, 3) := by decide +kernel
theorem d_MD_voiceItem_35 : decode prog_14_method_25_code 35 = .ok (.aload_n 0, 1) := by decide +kernel
theorem d_MD_voiceItem_36 : decode prog_14_method_25_code 36 = .ok (.iconst 0, 1) := by decide +kernel
theorem d_MD_voiceItem_37 : decode prog_14_method_25_code 37 = .ok (.putfield 357, 3) := by decide +kernel
theorem d_MD_voiceItem_40 : decode prog_14_method_25_code 40 = .ok (.aload_n 0, 1) := by decide +kernel
theorem d_MD_voiceItem_41 : decode prog_14_method_25_code 41 = .ok (.iconst 0, 1) := by decide +kernel
theorem d_MD_voiceItem_42 : decode prog_14_method_25_code 42 = .ok (.putfield 360, 3) := by decide +kernel
theorem d_MD_voiceItem_45 : decode prog_14_method_25_code 45 = .ok (.aload_n 0, 1) := by decide +kernel
theorem d_MD_voiceItem_46 : decode prog_14_method_25_code 46 = .ok (.getfield 357, 3) := by decide +kernel
theorem d_MD_voiceItem_49 : decode prog_14_method_25_code 49 = .ok (.ifCond .gt 12, 3) := by decide +kernel
theorem d_MD_voiceItem_61 : decode prog_14_method_25_code 61 = .ok (.aload_n 0, 1) := by decide +kernel
theorem d_MD_voiceItem_62 : decode prog_14_method_25_code 62 = .ok (.invokevirtual 363, 3) := by decide +kernel
theorem k_MD_voicePart : mt_OK m_MD_voicePart 0 1 := ⟨gwi_1909, gwi_146, ⟨by decide +kernel, by decide +kernel, by decide +kernel⟩, fun h => absurd h (by decide), fun _ => ⟨gwi_1908, gwi_77⟩, fun h => absurd h (by decide)⟩
theorem l_MD_363 : ml_OK "PlainMusicModel" 363 ⟨"PlainMusicModel", "voicePart", "()Z"⟩ := Or.inl gwi_1906
theorem d_MD_voiceItem_65 : decode prog_14_method_25_code 65 = .ok (.ifCond .ne (-20), 3) := by decide +kernel
theorem d_MD_voiceItem_68 : decode prog_14_method_25_code 68 = .ok (.iconst 0, 1) := by decide +kernel
theorem d_MD_voiceItem_69 : decode prog_14_method_25_code 69 = .ok (.ireturn, 1) := by decide +kernel
theorem d_MD_voiceItem_52 : decode prog_14_method_25_code 52 = .ok (.aload_n 0, 1) := by decide +kernel
theorem d_MD_voiceItem_53 : decode prog_14_method_25_code 53 = .ok (.bipush 59, 2) := by decide +kernel
theorem d_MD_voiceItem_55 : decode prog_14_method_25_code 55 = .ok (.invokevirtual 306, 3) := by decide +kernel
theorem d_MD_voiceItem_58 : decode prog_14_method_25_code 58 = .ok (.ifCond .ne 12, 3) := by decide +kernel
theorem d_MD_voiceItem_70 : decode prog_14_method_25_code 70 = .ok (.aload_n 0, 1) := by decide +kernel
theorem d_MD_voiceItem_71 : decode prog_14_method_25_code 71 = .ok (.iload_n 1, 1) := by decide +kernel
theorem d_MD_voiceItem_72 : decode prog_14_method_25_code 72 = .ok (.invokevirtual 366, 3) := by decide +kernel
theorem k_MD_walk : mt_OK m_MD_walk 1 1 := ⟨gwi_1929, gwi_146, ⟨by decide +kernel, by decide +kernel, by decide +kernel⟩, fun h => absurd h (by decide), fun _ => ⟨gwi_1928, gwi_82⟩, fun h => absurd h (by decide)⟩
theorem l_MD_366 : ml_OK "PlainMusicModel" 366 ⟨"PlainMusicModel", "walk", "(I)Z"⟩ := Or.inl gwi_1926
theorem d_MD_voiceItem_75 : decode prog_14_method_25_code 75 = .ok (.ifCond .ne 5, 3) := by decide +kernel
theorem d_MD_voiceItem_80 : decode prog_14_method_25_code 80 = .ok (.aload_n 0, 1) := by decide +kernel
theorem d_MD_voiceItem_81 : decode prog_14_method_25_code 81 = .ok (.getfield 17, 3) := by decide +kernel
theorem d_MD_voiceItem_84 : decode prog_14_method_25_code 84 = .ok (.iconst 1, 1) := by decide +kernel
theorem d_MD_voiceItem_85 : decode prog_14_method_25_code 85 = .ok (.dup2, 1) := by decide +kernel
theorem d_MD_voiceItem_86 : decode prog_14_method_25_code 86 = .ok (.iaload, 1) := by decide +kernel
theorem d_MD_voiceItem_87 : decode prog_14_method_25_code 87 = .ok (.iconst 1, 1) := by decide +kernel
theorem d_MD_voiceItem_88 : decode prog_14_method_25_code 88 = .ok (.iadd, 1) := by decide +kernel
theorem d_MD_voiceItem_89 : decode prog_14_method_25_code 89 = .ok (.iastore, 1) := by decide +kernel
theorem d_MD_voiceItem_90 : decode prog_14_method_25_code 90 = .ok (.aload_n 0, 1) := by decide +kernel
theorem d_MD_voiceItem_91 : decode prog_14_method_25_code 91 = .ok (.invokevirtual 309, 3) := by decide +kernel
theorem d_MD_voiceItem_94 : decode prog_14_method_25_code 94 = .ok (.ireturn, 1) := by decide +kernel
theorem d_MD_voiceItem_78 : decode prog_14_method_25_code 78 = .ok (.iconst 0, 1) := by decide +kernel
theorem d_MD_voiceItem_79 : decode prog_14_method_25_code 79 = .ok (.ireturn, 1) := by decide +kernel
theorem d_MD_voiceItem_15 : decode prog_14_method_25_code 15 = .ok (.aload_n 0, 1) := by decide +kernel
theorem d_MD_voiceItem_16 : decode prog_14_method_25_code 16 = .ok (.iconst 3, 1) := by decide +kernel
theorem d_MD_voiceItem_17 : decode prog_14_method_25_code 17 = .ok (.aload_n 0, 1) := by decide +kernel
theorem d_MD_voiceItem_18 : decode prog_14_method_25_code 18 = .ok (.getfield 242, 3) := by decide +kernel
theorem d_MD_voiceItem_21 : decode prog_14_method_25_code 21 = .ok (.invokevirtual 245, 3) := by decide +kernel
theorem d_MD_voiceItem_24 : decode prog_14_method_25_code 24 = .ok (.ireturn, 1) := by decide +kernel
theorem s_MD_voiceItem {G : cx_T} {h : ah_T} (hx : mi h)  (hse : h.2.1 170 3 ≤ h.2.1 170 2) : con G 6 0 0 m_MD_voiceItem [av_R (some 170)] h (fun r h' => ∃ z, r = some (av_I z) ∧ (z = 0 ∨ z = 1) ∧ (∀ v : Int, v = 4 + h.2.1 172 1 → LFr v h h' ∧ h'.2.1 172 0 = h.2.1 172 0 ∧ (z = 1 → (h.2.1 170 3 ≤ h'.2.1 170 3 ∧ h'.2.1 170 3 ≤ h.2.1 170 2 ∧ (h'.2.1 170 4 ≠ 0 → h'.2.1 170 4 ≠ 6 → h.2.1 170 3 < h'.2.1 170 3) ∧ (h'.2.1 170 4 = 0 → h'.2.1 170 3 = h.2.1 170 2)) ∧ h'.2.1 172 1 = h.2.1 172 1 + 1 ∧ GB h' v.toNat ∧ GO h' v.toNat)) ∧ kM (pm [3, 4, 5, 6, 7, 8, 9, 10, 11, 12, 43, 63, 64, 65, 66, 70, 71, 72, 73, 74, 75, 76, 77, 78] [172, 185, 186, 187, 188, 189, 190, 191, 192, 193, 194, 195, 196, 197, 198, 199, 200, 201, 202, 203, 204, 205, 206, 207, 208, 209, 210, 211, 212, 213, 214, 215, 216, 217, 218, 219, 220]) h h') := by
  refine con_of (L := [some (av_R (some 170)), none]) (by decide +kernel) (Nat.le_of_ble_eq_true rfl) rfl ?_
  have k0 : kM (pm [3, 4, 5, 6, 7, 8, 9, 10, 11, 12, 43, 63, 64, 65, 66, 70, 71, 72, 73, 74, 75, 76, 77, 78] [172, 185, 186, 187, 188, 189, 190, 191, 192, 193, 194, 195, 196, 197, 198, 199, 200, 201, 202, 203, 204, 205, 206, 207, 208, 209, 210, 211, 212, 213, 214, 215, 216, 217, 218, 219, 220]) h h := kM_0 hx
  obtain ⟨sd1, esd1⟩ : ∃ x, x = h.2.1 170 3 := ⟨_, rfl⟩
  have rsd1 : 0 ≤ sd1 ∧ sd1 ≤ 2000 := (by rw [esd1]; exact mi_g k0.1 (by decide) mr_170_3)
  obtain ⟨sd2, esd2⟩ : ∃ x, x = h.2.1 170 2 := ⟨_, rfl⟩
  have rsd2 : 0 ≤ sd2 ∧ sd2 ≤ 2000 := (by rw [esd2]; exact mi_g k0.1 (by decide) mr_170_2)
  obtain ⟨sd3, esd3⟩ : ∃ x, x = h.2.1 170 43 := ⟨_, rfl⟩
  have rsd3 : 0 ≤ sd3 ∧ sd3 ≤ 2001 := (by rw [esd3]; exact mi_g k0.1 (by decide) mr_170_43)
  obtain ⟨sd4, esd4⟩ : ∃ x, x = h.2.1 170 63 := ⟨_, rfl⟩
  have rsd4 : 0 ≤ sd4 ∧ sd4 ≤ 7 := (by rw [esd4]; exact mi_g k0.1 (by decide) mr_170_63)
  obtain ⟨sd5, esd5⟩ : ∃ x, x = h.2.1 170 4 := ⟨_, rfl⟩
  have rsd5 : 0 ≤ sd5 ∧ sd5 ≤ 6 := (by rw [esd5]; exact mi_g k0.1 (by decide) mr_170_4)
  refine A_aload_n 0 d_MD_voiceItem_0 rfl rfl ?_
  refine A_getIn (lo := 0) (hi := 2000) T_ok d_MD_voiceItem_1 f_MD_242 (mi_s k0.1 sf_170) (mi_g k0.1 (by decide) mr_170_5) (fun x6 ex6 _ _ => ?_)
  refine A_istore_n 1 (L' := [some (av_R (some 170)), some (av_I x6)]) d_MD_voiceItem_4 rfl (Nat.le_of_ble_eq_true rfl) rfl ?_
  refine A_aload_n 0 d_MD_voiceItem_5 rfl rfl ?_
  refine A_getAv (z := some 172) T_ok d_MD_voiceItem_6 f_MD_17 (mi_s k0.1 sf_170) (mi_r k0.1 rfm_14) ?_
  refine A_pc (pc' := 9) rfl ?_
  refine A_iconst d_MD_voiceItem_9 rfl ?_
  refine A_ialoadn (lo := 0) (hi := 4) d_MD_voiceItem_10 (mi_s k0.1 sf_172) (by decide) (by decide) (mi_g k0.1 (by decide) (mr_172 _)) (fun x8 ex8 _ _ => ?_)
  replace ex8 : x8 = h.2.1 172 1 := ex8
  refine A_iconst d_MD_voiceItem_11 rfl ?_
  refine A_icmp_ne (tgt := 25) d_MD_voiceItem_12 (by decide) (fun c9 => ?_) (fun c9 => ?_)
  · refine A_aload_n 0 d_MD_voiceItem_25 rfl rfl ?_
    have zf11 := esd1.symm
    have zf12 := esd2.symm
    have zf13 := esd3.symm
    have zf14 := esd4.symm
    have zf15 := esd5.symm
    refine A_callV0 m_MD_next T_ok d_MD_voiceItem_26 l_MD_309 k_MD_next (mi_s k0.1 sf_170) rfl (by decide +kernel) (by decide) (Nat.le_of_ble_eq_true rfl) (s_MD_next k0.1 (by have qq0 := esd1.symm; have qq1 := esd2.symm; omega)) (fun r h10 hq => ?_)
    obtain ⟨x17, rfl, ⟨_, _⟩, xx17, k16⟩ := hq
    have xa17 := xx17.1
    have xb17 := xx17.2.1
    have k18 := kM_t k0 k16 (pm_s (by decide) (by decide))
    obtain ⟨sd19, esd19⟩ : ∃ x, x = h10.2.1 170 3 := ⟨_, rfl⟩
    have rsd19 : 0 ≤ sd19 ∧ sd19 ≤ 2000 := (by rw [esd19]; exact mi_g k18.1 (by decide) mr_170_3)
    obtain ⟨sd20, esd20⟩ : ∃ x, x = h10.2.1 170 4 := ⟨_, rfl⟩
    have rsd20 : 0 ≤ sd20 ∧ sd20 ≤ 6 := (by rw [esd20]; exact mi_g k18.1 (by decide) mr_170_4)
    refine A_popI d_MD_voiceItem_29 ?_
    refine A_aload_n 0 d_MD_voiceItem_30 rfl rfl ?_
    refine A_iconst d_MD_voiceItem_31 rfl ?_
    refine A_putIk (KR := kM (pm [3, 4, 5, 6, 7, 8, 9, 10, 11, 12, 43, 63, 64, 65, 66, 70, 71, 72, 73, 74, 75, 76, 77, 78] [172, 185, 186, 187, 188, 189, 190, 191, 192, 193, 194, 195, 196, 197, 198, 199, 200, 201, 202, 203, 204, 205, 206, 207, 208, 209, 210, 211, 212, 213, 214, 215, 216, 217, 218, 219, 220]) h) T_ok d_MD_voiceItem_32 f_MD_354 (mi_s k18.1 sf_170) fin_f (kM_i k18 (by decide) (by decide) mr_170_43 (by omega) (by omega)) (fun h21 k22 eh21 => ?_)
    refine A_aload_n 0 d_MD_voiceItem_35 rfl rfl ?_
    refine A_pc (pc' := 36) rfl ?_
    refine A_iconst d_MD_voiceItem_36 rfl ?_
    refine A_putIk (KR := kM (pm [3, 4, 5, 6, 7, 8, 9, 10, 11, 12, 43, 63, 64, 65, 66, 70, 71, 72, 73, 74, 75, 76, 77, 78] [172, 185, 186, 187, 188, 189, 190, 191, 192, 193, 194, 195, 196, 197, 198, 199, 200, 201, 202, 203, 204, 205, 206, 207, 208, 209, 210, 211, 212, 213, 214, 215, 216, 217, 218, 219, 220]) h) T_ok d_MD_voiceItem_37 f_MD_357 (mi_s k22.1 sf_170) fin_f (kM_i k22 (by decide) (by decide) mr_170_63 (by omega) (by omega)) (fun h23 k24 eh23 => ?_)
    refine A_aload_n 0 d_MD_voiceItem_40 rfl rfl ?_
    refine A_iconst d_MD_voiceItem_41 rfl ?_
    refine A_putIk (KR := kM (pm [3, 4, 5, 6, 7, 8, 9, 10, 11, 12, 43, 63, 64, 65, 66, 70, 71, 72, 73, 74, 75, 76, 77, 78] [172, 185, 186, 187, 188, 189, 190, 191, 192, 193, 194, 195, 196, 197, 198, 199, 200, 201, 202, 203, 204, 205, 206, 207, 208, 209, 210, 211, 212, 213, 214, 215, 216, 217, 218, 219, 220]) h) T_ok d_MD_voiceItem_42 f_MD_360 (mi_s k24.1 sf_170) fin_f (kM_i k24 (by decide) (by decide) mr_170_64 (by omega) (by omega)) (fun h25 k26 eh25 => ?_)
    have lp45 : ∀ (n : Nat) (h27 : ah_T) , (h.2.1 170 3 ≤ h27.2.1 170 3 ∧ h27.2.1 170 3 ≤ h.2.1 170 2 ∧ (h27.2.1 170 4 ≠ 0 → h27.2.1 170 4 ≠ 6 → h.2.1 170 3 < h27.2.1 170 3) ∧ (h27.2.1 170 4 = 0 → h27.2.1 170 3 = h.2.1 170 2)) ∧ (h27.2.1 170 43 ≤ h27.2.1 170 3 ∧ (h27.2.1 170 4 ≠ 0 → h27.2.1 170 4 ≠ 6 → h27.2.1 170 43 + 1 ≤ h27.2.1 170 3)) ∧ VHx h27 ∧ SA h h27 ∧ h27.2.1 172 0 = h.2.1 172 0 ∧ h27.2.1 172 1 = h.2.1 172 1 → kM (pm [3, 4, 5, 6, 7, 8, 9, 10, 11, 12, 43, 63, 64, 65, 66, 70, 71, 72, 73, 74, 75, 76, 77, 78] [172, 185, 186, 187, 188, 189, 190, 191, 192, 193, 194, 195, 196, 197, 198, 199, 200, 201, 202, 203, 204, 205, 206, 207, 208, 209, 210, 211, 212, 213, 214, 215, 216, 217, 218, 219, 220]) h h27 → (mu h27).toNat < n → aw G (rm_R 6 0 0) m_MD_voiceItem 0 0 45 [some (av_R (some 170)), some (av_I x6)] [] h27 (fun r h' => ∃ z, r = some (av_I z) ∧ (z = 0 ∨ z = 1) ∧ (∀ v : Int, v = 4 + h.2.1 172 1 → LFr v h h' ∧ h'.2.1 172 0 = h.2.1 172 0 ∧ (z = 1 → (h.2.1 170 3 ≤ h'.2.1 170 3 ∧ h'.2.1 170 3 ≤ h.2.1 170 2 ∧ (h'.2.1 170 4 ≠ 0 → h'.2.1 170 4 ≠ 6 → h.2.1 170 3 < h'.2.1 170 3) ∧ (h'.2.1 170 4 = 0 → h'.2.1 170 3 = h.2.1 170 2)) ∧ h'.2.1 172 1 = h.2.1 172 1 + 1 ∧ GB h' v.toNat ∧ GO h' v.toNat)) ∧ kM (pm [3, 4, 5, 6, 7, 8, 9, 10, 11, 12, 43, 63, 64, 65, 66, 70, 71, 72, 73, 74, 75, 76, 77, 78] [172, 185, 186, 187, 188, 189, 190, 191, 192, 193, 194, 195, 196, 197, 198, 199, 200, 201, 202, 203, 204, 205, 206, 207, 208, 209, 210, 211, 212, 213, 214, 215, 216, 217, 218, 219, 220]) h h') := by
      intro n
      induction n with
      | zero => intro h27 _ _ hm; omega
      | succ n ih45 =>
        intro h27  hinv k28 hm
        have hvA := hinv.1.1
        have hvB := hinv.1.2.1
        have hvC := hinv.2.1.1
        have hvD := hinv.2.2.2.2
        obtain ⟨sd29, esd29⟩ : ∃ x, x = h27.2.1 170 3 := ⟨_, rfl⟩
        have rsd29 : 0 ≤ sd29 ∧ sd29 ≤ 2000 := (by rw [esd29]; exact mi_g k28.1 (by decide) mr_170_3)
        obtain ⟨sd30, esd30⟩ : ∃ x, x = h27.2.1 170 43 := ⟨_, rfl⟩
        have rsd30 : 0 ≤ sd30 ∧ sd30 ≤ 2001 := (by rw [esd30]; exact mi_g k28.1 (by decide) mr_170_43)
        obtain ⟨sd31, esd31⟩ : ∃ x, x = h27.2.1 170 63 := ⟨_, rfl⟩
        have rsd31 : 0 ≤ sd31 ∧ sd31 ≤ 7 := (by rw [esd31]; exact mi_g k28.1 (by decide) mr_170_63)
        obtain ⟨sd32, esd32⟩ : ∃ x, x = h27.2.1 170 4 := ⟨_, rfl⟩
        have rsd32 : 0 ≤ sd32 ∧ sd32 ≤ 6 := (by rw [esd32]; exact mi_g k28.1 (by decide) mr_170_4)
        refine A_aload_n 0 d_MD_voiceItem_45 rfl rfl ?_
        refine A_getIv (z := sd31) T_ok d_MD_voiceItem_46 f_MD_357 (mi_s k28.1 sf_170) esd31.symm ?_
        refine A_if_gt (tgt := 61) d_MD_voiceItem_49 (by decide) (fun c34 => ?_) (fun c34 => ?_)
        · refine A_aload_n 0 d_MD_voiceItem_61 rfl rfl ?_
          have zf36 := esd29.symm
          have zf37 := ((k28.2.2.1 _ _ rfl).trans esd2.symm)
          have zf38 := esd30.symm
          have zf39 := esd31.symm
          have zf40 := esd32.symm
          refine A_callV0 m_MD_voicePart T_ok d_MD_voiceItem_62 l_MD_363 k_MD_voicePart (mi_s k28.1 sf_170) rfl (by decide +kernel) (by decide) (Nat.le_of_ble_eq_true rfl) (s_MD_voicePart k28.1 (by have qq0 := esd29.symm; have qq1 := ((k28.2.2.1 _ _ rfl).trans esd2.symm); first | (clear hinv; omega) | omega) (by have qq0 := esd29.symm; have qq1 := ((k28.2.2.1 _ _ rfl).trans esd2.symm); have qq2 := esd32.symm; have qq3 := esd30.symm; exact ⟨by first | (clear hinv; omega) | omega, by first | (clear hinv; omega) | omega⟩) hinv.2.2.1) (fun r h35 hq => ?_)
          obtain ⟨x42, rfl, bx42, xx42, k41⟩ := hq
          have k43 := kM_t k28 k41 (pm_s (by decide) (by decide))
          obtain ⟨sd44, esd44⟩ : ∃ x, x = h35.2.1 170 3 := ⟨_, rfl⟩
          have rsd44 : 0 ≤ sd44 ∧ sd44 ≤ 2000 := (by rw [esd44]; exact mi_g k43.1 (by decide) mr_170_3)
          obtain ⟨sd45, esd45⟩ : ∃ x, x = h35.2.1 170 43 := ⟨_, rfl⟩
          have rsd45 : 0 ≤ sd45 ∧ sd45 ≤ 2001 := (by rw [esd45]; exact mi_g k43.1 (by decide) mr_170_43)
          obtain ⟨sd46, esd46⟩ : ∃ x, x = h35.2.1 170 63 := ⟨_, rfl⟩
          have rsd46 : 0 ≤ sd46 ∧ sd46 ≤ 7 := (by rw [esd46]; exact mi_g k43.1 (by decide) mr_170_63)
          obtain ⟨sd47, esd47⟩ : ∃ x, x = h35.2.1 170 4 := ⟨_, rfl⟩
          have rsd47 : 0 ≤ sd47 ∧ sd47 ≤ 6 := (by rw [esd47]; exact mi_g k43.1 (by decide) mr_170_4)
          refine A_if_ne (tgt := 45) d_MD_voiceItem_65 (by decide) (fun c48 => ?_) (fun c48 => ?_)
          · exact ih45 h35 ⟨(by have qq0 := esd44.symm; have qq1 := ((k41.2.2.1 _ _ rfl).trans ((k28.2.2.1 _ _ rfl).trans esd2.symm)); have qq2 := esd47.symm; exact ⟨by first | (clear hinv; omega) | omega, by first | (clear hinv; omega) | omega, by first | (clear hinv; omega) | omega, by first | (clear hinv; omega) | omega⟩), (by have qq0 := esd44.symm; have qq1 := ((k41.2.2.1 _ _ rfl).trans ((k28.2.2.1 _ _ rfl).trans esd2.symm)); have qq2 := esd47.symm; have qq3 := esd45.symm; exact ⟨by first | (clear hinv; omega) | omega, by first | (clear hinv; omega) | omega⟩), (xx42 (by first | (clear hinv; omega) | omega)).2.2.2, ⟨(by intro a ha; simp only [List.mem_cons, List.not_mem_nil, or_false] at ha; rcases ha with rfl | rfl | rfl | rfl | rfl | rfl ; exact (funext (fun k => ((k41.2.2.2 187 k rfl).trans (congrFun (hinv.2.2.2.1.1 187 (by decide)) k)))) ; exact (funext (fun k => ((k41.2.2.2 188 k rfl).trans (congrFun (hinv.2.2.2.1.1 188 (by decide)) k)))) ; exact (funext (fun k => ((k41.2.2.2 189 k rfl).trans (congrFun (hinv.2.2.2.1.1 189 (by decide)) k)))) ; exact (funext (fun k => ((k41.2.2.2 190 k rfl).trans (congrFun (hinv.2.2.2.1.1 190 (by decide)) k)))) ; exact (funext (fun k => ((k41.2.2.2 199 k rfl).trans (congrFun (hinv.2.2.2.1.1 199 (by decide)) k)))) ; exact (funext (fun k => ((k41.2.2.2 200 k rfl).trans (congrFun (hinv.2.2.2.1.1 200 (by decide)) k))))), (by intro a ha; simp only [List.mem_cons, List.not_mem_nil, or_false] at ha; rcases ha with rfl | rfl | rfl ; exact (funext (fun k => ((k41.2.2.1 185 k rfl).trans (congrFun (hinv.2.2.2.1.2 185 (by decide)) k)))) ; exact (funext (fun k => ((k41.2.2.1 186 k rfl).trans (congrFun (hinv.2.2.2.1.2 186 (by decide)) k)))) ; exact (funext (fun k => ((k41.2.2.1 196 k rfl).trans (congrFun (hinv.2.2.2.1.2 196 (by decide)) k)))))⟩, ((k41.2.2.1 172 0 rfl).trans hinv.2.2.2.2.1), ((k41.2.2.1 172 1 rfl).trans hinv.2.2.2.2.2)⟩ k43 (by have qq0 := esd44.symm; have qq1 := esd47.symm; have qh0 := ((k28.2.2.1 _ _ rfl).trans esd2.symm); have qh1 := esd29.symm; have qe0 := ((k41.2.2.1 _ _ rfl).trans ((k28.2.2.1 _ _ rfl).trans esd2.symm)); first | exact mu_dec (h0 := h27) (h1 := h35) hm (by first | (clear hinv; omega) | omega) (by first | (clear hinv; omega) | omega) (by first | (clear hinv; omega) | omega) (by first | (clear hinv; omega) | omega) (by first | (clear hinv; omega) | omega) (fun _ _ => by first | (clear hinv; omega) | omega) | (have mm0 := mu_f h27; have mm1 := mu_f h35; first | (clear hinv; omega) | omega))
          · refine A_iconst d_MD_voiceItem_68 rfl ?_
            exact A_zret d_MD_voiceItem_69 (by decide) rfl (by first | (clear hinv; omega) | omega) ⟨_, rfl, by first | (clear hinv; omega) | omega, (fun v hv => ⟨LF_a ⟨(by intro a ha; simp only [List.mem_cons, List.not_mem_nil, or_false] at ha; rcases ha with rfl | rfl | rfl | rfl | rfl | rfl ; exact (funext (fun k => ((k41.2.2.2 187 k rfl).trans (congrFun (hinv.2.2.2.1.1 187 (by decide)) k)))) ; exact (funext (fun k => ((k41.2.2.2 188 k rfl).trans (congrFun (hinv.2.2.2.1.1 188 (by decide)) k)))) ; exact (funext (fun k => ((k41.2.2.2 189 k rfl).trans (congrFun (hinv.2.2.2.1.1 189 (by decide)) k)))) ; exact (funext (fun k => ((k41.2.2.2 190 k rfl).trans (congrFun (hinv.2.2.2.1.1 190 (by decide)) k)))) ; exact (funext (fun k => ((k41.2.2.2 199 k rfl).trans (congrFun (hinv.2.2.2.1.1 199 (by decide)) k)))) ; exact (funext (fun k => ((k41.2.2.2 200 k rfl).trans (congrFun (hinv.2.2.2.1.1 200 (by decide)) k))))), (by intro a ha; simp only [List.mem_cons, List.not_mem_nil, or_false] at ha; rcases ha with rfl | rfl | rfl ; exact (funext (fun k => ((k41.2.2.1 185 k rfl).trans (congrFun (hinv.2.2.2.1.2 185 (by decide)) k)))) ; exact (funext (fun k => ((k41.2.2.1 186 k rfl).trans (congrFun (hinv.2.2.2.1.2 186 (by decide)) k)))) ; exact (funext (fun k => ((k41.2.2.1 196 k rfl).trans (congrFun (hinv.2.2.2.1.2 196 (by decide)) k)))))⟩, ((k41.2.2.1 172 0 rfl).trans hinv.2.2.2.2.1), fun q => absurd q (by decide)⟩), k43⟩
        · refine A_aload_n 0 d_MD_voiceItem_52 rfl rfl ?_
          refine A_bipush d_MD_voiceItem_53 rfl ?_
          have zf50 := esd29.symm
          have zf51 := ((k28.2.2.1 _ _ rfl).trans esd2.symm)
          have zf52 := esd30.symm
          have zf53 := esd31.symm
          have zf54 := esd32.symm
          refine A_callV1 m_MD_isSign T_ok d_MD_voiceItem_55 l_MD_306 k_MD_isSign (mi_s k28.1 sf_170) rfl (by decide +kernel) (by decide) (Nat.le_of_ble_eq_true rfl) (s_MD_isSign k28.1 ) (fun r h49 hq => ?_)
          obtain ⟨x56, rfl, bx56, xx56, rfl⟩ := hq
          refine A_if_ne (tgt := 70) d_MD_voiceItem_58 (by decide) (fun c57 => ?_) (fun c57 => ?_)
          · have ya : SA h h27 := ⟨(by intro a ha; simp only [List.mem_cons, List.not_mem_nil, or_false] at ha; rcases ha with rfl | rfl | rfl | rfl | rfl | rfl ; exact (funext (fun k => (congrFun (hinv.2.2.2.1.1 187 (by decide)) k))) ; exact (funext (fun k => (congrFun (hinv.2.2.2.1.1 188 (by decide)) k))) ; exact (funext (fun k => (congrFun (hinv.2.2.2.1.1 189 (by decide)) k))) ; exact (funext (fun k => (congrFun (hinv.2.2.2.1.1 190 (by decide)) k))) ; exact (funext (fun k => (congrFun (hinv.2.2.2.1.1 199 (by decide)) k))) ; exact (funext (fun k => (congrFun (hinv.2.2.2.1.1 200 (by decide)) k)))), (by intro a ha; simp only [List.mem_cons, List.not_mem_nil, or_false] at ha; rcases ha with rfl | rfl | rfl ; exact (funext (fun k => (congrFun (hinv.2.2.2.1.2 185 (by decide)) k))) ; exact (funext (fun k => (congrFun (hinv.2.2.2.1.2 186 (by decide)) k))) ; exact (funext (fun k => (congrFun (hinv.2.2.2.1.2 196 (by decide)) k))))⟩
            have yv1 : h27.2.1 172 1 = h.2.1 172 1 := hinv.2.2.2.2.2
            refine A_aload_n 0 d_MD_voiceItem_70 rfl rfl ?_
            refine A_iload_n 1 d_MD_voiceItem_71 rfl rfl ?_
            have zf59 := esd29.symm
            have zf60 := ((k28.2.2.1 _ _ rfl).trans esd2.symm)
            have zf61 := esd30.symm
            have zf62 := esd31.symm
            have zf63 := esd32.symm
            refine A_callV1 m_MD_walk T_ok d_MD_voiceItem_72 l_MD_366 k_MD_walk (mi_s k28.1 sf_170) rfl (by decide +kernel) (by decide) (Nat.le_of_ble_eq_true rfl) (s_MD_walk k28.1 (by first | (clear hinv; omega) | omega) (by first | (clear hinv; omega) | omega) hinv.2.2.1 (by have qq0 := esd31.symm; first | (clear hinv; omega) | omega) (by have qq0 := esd30.symm; have qq1 := ((k28.2.2.1 _ _ rfl).trans esd2.symm); first | (clear hinv; omega) | omega) (by rw [yv1]; first | (clear hinv; omega) | omega)) (fun r h58 hq => ?_)
            obtain ⟨x65, rfl, bx65, xx65, k64⟩ := hq
            have k66 := kM_t k28 k64 (pm_s (by decide) (by decide))
            obtain ⟨yw1, yw2⟩ := xx65 _ rfl
            rw [yv1] at yw1 yw2
            have yw3 := LF_t (LF_a ya) yw1
            have ym := k66.1
            have yc0 : h58.2.1 172 0 = h.2.1 172 0 := ((k64.2.2.1 172 0 rfl).trans hinv.2.2.2.2.1)
            have yc1 : h58.2.1 172 1 = h.2.1 172 1 := ((k64.2.2.1 172 1 rfl).trans hinv.2.2.2.2.2)
            refine A_if_ne (tgt := 80) d_MD_voiceItem_75 (by decide) (fun c67 => ?_) (fun c67 => ?_)
            · refine A_aload_n 0 d_MD_voiceItem_80 rfl rfl ?_
              refine A_getAv (z := some 172) T_ok d_MD_voiceItem_81 f_MD_17 (mi_s k66.1 sf_170) (mi_r k66.1 rfm_14) ?_
              refine A_iconst d_MD_voiceItem_84 rfl ?_
              refine A_dup2RI d_MD_voiceItem_85 ?_
              refine A_ialoadn (lo := 0) (hi := 4) d_MD_voiceItem_86 (mi_s k66.1 sf_172) (by decide) (by decide) (mi_g k66.1 (by decide) (mr_172 _)) (fun x69 ex69 _ _ => ?_)
              replace ex69 : x69 = h58.2.1 172 1 := ex69
              refine A_pc (pc' := 87) rfl ?_
              refine A_iconst d_MD_voiceItem_87 rfl ?_
              refine A_iaddv (z := (x69 + 1)) d_MD_voiceItem_88 (w32_to (by first | (clear hinv; omega) | omega) (by unfold i32; first | (clear hinv; omega) | omega)) ?_
              refine A_iastorek (KR := kM (pm [3, 4, 5, 6, 7, 8, 9, 10, 11, 12, 43, 63, 64, 65, 66, 70, 71, 72, 73, 74, 75, 76, 77, 78] [172, 185, 186, 187, 188, 189, 190, 191, 192, 193, 194, 195, 196, 197, 198, 199, 200, 201, 202, 203, 204, 205, 206, 207, 208, 209, 210, 211, 212, 213, 214, 215, 216, 217, 218, 219, 220]) h) d_MD_voiceItem_89 (mi_s k66.1 sf_172) (by decide) (by decide) (kM_i k66 (by decide) rfl (mr_172 _) (by first | (clear hinv; omega) | omega) (by first | (clear hinv; omega) | omega)) (fun h70 k71 eh70 => ?_)
              refine A_aload_n 0 d_MD_voiceItem_90 rfl rfl ?_
              have zf73 := ((eh70.1 _ _ (fun q => absurd q (by decide))).trans ((k64.2.2.1 _ _ rfl).trans esd29.symm))
              have zf74 := ((eh70.1 _ _ (fun q => absurd q (by decide))).trans ((k64.2.2.1 _ _ rfl).trans ((k28.2.2.1 _ _ rfl).trans esd2.symm)))
              have zf75 := ((eh70.1 _ _ (fun q => absurd q (by decide))).trans ((k64.2.2.1 _ _ rfl).trans esd30.symm))
              have zf76 := ((eh70.1 _ _ (fun q => absurd q (by decide))).trans ((k64.2.2.1 _ _ rfl).trans esd31.symm))
              have zf77 := ((eh70.1 _ _ (fun q => absurd q (by decide))).trans ((k64.2.2.1 _ _ rfl).trans esd32.symm))
              refine A_callV0 m_MD_next T_ok d_MD_voiceItem_91 l_MD_309 k_MD_next (mi_s k71.1 sf_170) rfl (by decide +kernel) (by decide) (Nat.le_of_ble_eq_true rfl) (s_MD_next k71.1 (by have qq0 := ((eh70.1 _ _ (fun q => absurd q (by decide))).trans ((k64.2.2.1 _ _ rfl).trans esd29.symm)); have qq1 := ((eh70.1 _ _ (fun q => absurd q (by decide))).trans ((k64.2.2.1 _ _ rfl).trans ((k28.2.2.1 _ _ rfl).trans esd2.symm))); first | (clear hinv; omega) | omega)) (fun r h72 hq => ?_)
              obtain ⟨x79, rfl, ⟨_, _⟩, xx79, k78⟩ := hq
              have xa79 := xx79.1
              have xb79 := xx79.2.1
              have k80 := kM_t k71 k78 (pm_s (by decide) (by decide))
              obtain ⟨sd81, esd81⟩ : ∃ x, x = h72.2.1 170 3 := ⟨_, rfl⟩
              have rsd81 : 0 ≤ sd81 ∧ sd81 ≤ 2000 := (by rw [esd81]; exact mi_g k80.1 (by decide) mr_170_3)
              obtain ⟨sd82, esd82⟩ : ∃ x, x = h72.2.1 170 4 := ⟨_, rfl⟩
              have rsd82 : 0 ≤ sd82 ∧ sd82 ≤ 6 := (by rw [esd82]; exact mi_g k80.1 (by decide) mr_170_4)
              exact A_zret d_MD_voiceItem_94 (by decide) rfl (by first | (clear xx17 hinv; omega) | (clear xx17; omega) | omega) ⟨_, rfl, by first | (clear xx17 hinv; omega) | (clear xx17; omega) | omega, (fun v hv => by obtain rfl : v = 4 + h.2.1 172 1 := hv; have yz := yw2 (by first | (clear xx17 hinv; omega) | (clear xx17; omega) | omega); have yg := GG_f (v := 4 + h.2.1 172 1 + 1) ym ⟨yz.1, yz.2⟩ (LF_a (v := 4 + h.2.1 172 1 + 1) ⟨(by intro a ha; simp only [List.mem_cons, List.not_mem_nil, or_false] at ha; rcases ha with rfl | rfl | rfl | rfl | rfl | rfl ; exact (funext (fun k => ((k78.2.2.2 187 k rfl).trans (congrFun (congrFun eh70.2.2 187) k)))) ; exact (funext (fun k => ((k78.2.2.2 188 k rfl).trans (congrFun (congrFun eh70.2.2 188) k)))) ; exact (funext (fun k => ((k78.2.2.2 189 k rfl).trans (congrFun (congrFun eh70.2.2 189) k)))) ; exact (funext (fun k => ((k78.2.2.2 190 k rfl).trans (congrFun (congrFun eh70.2.2 190) k)))) ; exact (funext (fun k => ((k78.2.2.2 199 k rfl).trans (congrFun (congrFun eh70.2.2 199) k)))) ; exact (funext (fun k => ((k78.2.2.2 200 k rfl).trans (congrFun (congrFun eh70.2.2 200) k))))), (by intro a ha; simp only [List.mem_cons, List.not_mem_nil, or_false] at ha; rcases ha with rfl | rfl | rfl ; exact (funext (fun k => ((k78.2.2.1 185 k rfl).trans (eh70.1 185 k (fun q => absurd q (by decide)))))) ; exact (funext (fun k => ((k78.2.2.1 186 k rfl).trans (eh70.1 186 k (fun q => absurd q (by decide)))))) ; exact (funext (fun k => ((k78.2.2.1 196 k rfl).trans (eh70.1 196 k (fun q => absurd q (by decide)))))))⟩) (by first | (clear xx17 hinv; omega) | (clear xx17; omega) | omega); exact ⟨LF_t yw3 (LF_a ⟨(by intro a ha; simp only [List.mem_cons, List.not_mem_nil, or_false] at ha; rcases ha with rfl | rfl | rfl | rfl | rfl | rfl ; exact (funext (fun k => ((k78.2.2.2 187 k rfl).trans (congrFun (congrFun eh70.2.2 187) k)))) ; exact (funext (fun k => ((k78.2.2.2 188 k rfl).trans (congrFun (congrFun eh70.2.2 188) k)))) ; exact (funext (fun k => ((k78.2.2.2 189 k rfl).trans (congrFun (congrFun eh70.2.2 189) k)))) ; exact (funext (fun k => ((k78.2.2.2 190 k rfl).trans (congrFun (congrFun eh70.2.2 190) k)))) ; exact (funext (fun k => ((k78.2.2.2 199 k rfl).trans (congrFun (congrFun eh70.2.2 199) k)))) ; exact (funext (fun k => ((k78.2.2.2 200 k rfl).trans (congrFun (congrFun eh70.2.2 200) k))))), (by intro a ha; simp only [List.mem_cons, List.not_mem_nil, or_false] at ha; rcases ha with rfl | rfl | rfl ; exact (funext (fun k => ((k78.2.2.1 185 k rfl).trans (eh70.1 185 k (fun q => absurd q (by decide)))))) ; exact (funext (fun k => ((k78.2.2.1 186 k rfl).trans (eh70.1 186 k (fun q => absurd q (by decide)))))) ; exact (funext (fun k => ((k78.2.2.1 196 k rfl).trans (eh70.1 196 k (fun q => absurd q (by decide)))))))⟩), (((k78.2.2.1 172 0 rfl).trans (eh70.1 172 0 (fun _ => (by decide))))).trans yc0, fun _ => ⟨by have qq0 := esd81.symm; have qq1 := ((k78.2.2.1 _ _ rfl).trans ((eh70.1 _ _ (fun q => absurd q (by decide))).trans ((k64.2.2.1 _ _ rfl).trans ((k28.2.2.1 _ _ rfl).trans esd2.symm)))); have qq2 := esd82.symm; exact ⟨by first | (clear xx17 hinv; omega) | (clear xx17; omega) | omega, by first | (clear xx17 hinv; omega) | (clear xx17; omega) | omega, by first | (clear xx17 hinv; omega) | (clear xx17; omega) | omega, by first | (clear xx17 hinv; omega) | (clear xx17; omega) | omega⟩, by have q1 := (((k78.2.2.1 _ _ rfl).trans eh70.2.1) : h72.2.1 172 1 = (x69 + 1)); omega, yg.1, yg.2⟩⟩), k80⟩
            · refine A_iconst d_MD_voiceItem_78 rfl ?_
              exact A_zret d_MD_voiceItem_79 (by decide) rfl (by first | (clear hinv; omega) | omega) ⟨_, rfl, by first | (clear hinv; omega) | omega, (fun v hv => by obtain rfl : v = 4 + h.2.1 172 1 := hv; exact ⟨yw3, yc0, fun q => absurd q (by decide)⟩), k66⟩
          · refine A_aload_n 0 d_MD_voiceItem_61 rfl rfl ?_
            have zf84 := esd29.symm
            have zf85 := ((k28.2.2.1 _ _ rfl).trans esd2.symm)
            have zf86 := esd30.symm
            have zf87 := esd31.symm
            have zf88 := esd32.symm
            refine A_callV0 m_MD_voicePart T_ok d_MD_voiceItem_62 l_MD_363 k_MD_voicePart (mi_s k28.1 sf_170) rfl (by decide +kernel) (by decide) (Nat.le_of_ble_eq_true rfl) (s_MD_voicePart k28.1 (by have qq0 := esd29.symm; have qq1 := ((k28.2.2.1 _ _ rfl).trans esd2.symm); first | (clear hinv; omega) | omega) (by have qq0 := esd29.symm; have qq1 := ((k28.2.2.1 _ _ rfl).trans esd2.symm); have qq2 := esd32.symm; have qq3 := esd30.symm; exact ⟨by first | (clear hinv; omega) | omega, by first | (clear hinv; omega) | omega⟩) hinv.2.2.1) (fun r h83 hq => ?_)
            obtain ⟨x90, rfl, bx90, xx90, k89⟩ := hq
            have k91 := kM_t k28 k89 (pm_s (by decide) (by decide))
            obtain ⟨sd92, esd92⟩ : ∃ x, x = h83.2.1 170 3 := ⟨_, rfl⟩
            have rsd92 : 0 ≤ sd92 ∧ sd92 ≤ 2000 := (by rw [esd92]; exact mi_g k91.1 (by decide) mr_170_3)
            obtain ⟨sd93, esd93⟩ : ∃ x, x = h83.2.1 170 43 := ⟨_, rfl⟩
            have rsd93 : 0 ≤ sd93 ∧ sd93 ≤ 2001 := (by rw [esd93]; exact mi_g k91.1 (by decide) mr_170_43)
            obtain ⟨sd94, esd94⟩ : ∃ x, x = h83.2.1 170 63 := ⟨_, rfl⟩
            have rsd94 : 0 ≤ sd94 ∧ sd94 ≤ 7 := (by rw [esd94]; exact mi_g k91.1 (by decide) mr_170_63)
            obtain ⟨sd95, esd95⟩ : ∃ x, x = h83.2.1 170 4 := ⟨_, rfl⟩
            have rsd95 : 0 ≤ sd95 ∧ sd95 ≤ 6 := (by rw [esd95]; exact mi_g k91.1 (by decide) mr_170_4)
            refine A_if_ne (tgt := 45) d_MD_voiceItem_65 (by decide) (fun c96 => ?_) (fun c96 => ?_)
            · exact ih45 h83 ⟨(by have qq0 := esd92.symm; have qq1 := ((k89.2.2.1 _ _ rfl).trans ((k28.2.2.1 _ _ rfl).trans esd2.symm)); have qq2 := esd95.symm; exact ⟨by first | (clear hinv; omega) | omega, by first | (clear hinv; omega) | omega, by first | (clear hinv; omega) | omega, by first | (clear hinv; omega) | omega⟩), (by have qq0 := esd92.symm; have qq1 := ((k89.2.2.1 _ _ rfl).trans ((k28.2.2.1 _ _ rfl).trans esd2.symm)); have qq2 := esd95.symm; have qq3 := esd93.symm; exact ⟨by first | (clear hinv; omega) | omega, by first | (clear hinv; omega) | omega⟩), (xx90 (by first | (clear hinv; omega) | omega)).2.2.2, ⟨(by intro a ha; simp only [List.mem_cons, List.not_mem_nil, or_false] at ha; rcases ha with rfl | rfl | rfl | rfl | rfl | rfl ; exact (funext (fun k => ((k89.2.2.2 187 k rfl).trans (congrFun (hinv.2.2.2.1.1 187 (by decide)) k)))) ; exact (funext (fun k => ((k89.2.2.2 188 k rfl).trans (congrFun (hinv.2.2.2.1.1 188 (by decide)) k)))) ; exact (funext (fun k => ((k89.2.2.2 189 k rfl).trans (congrFun (hinv.2.2.2.1.1 189 (by decide)) k)))) ; exact (funext (fun k => ((k89.2.2.2 190 k rfl).trans (congrFun (hinv.2.2.2.1.1 190 (by decide)) k)))) ; exact (funext (fun k => ((k89.2.2.2 199 k rfl).trans (congrFun (hinv.2.2.2.1.1 199 (by decide)) k)))) ; exact (funext (fun k => ((k89.2.2.2 200 k rfl).trans (congrFun (hinv.2.2.2.1.1 200 (by decide)) k))))), (by intro a ha; simp only [List.mem_cons, List.not_mem_nil, or_false] at ha; rcases ha with rfl | rfl | rfl ; exact (funext (fun k => ((k89.2.2.1 185 k rfl).trans (congrFun (hinv.2.2.2.1.2 185 (by decide)) k)))) ; exact (funext (fun k => ((k89.2.2.1 186 k rfl).trans (congrFun (hinv.2.2.2.1.2 186 (by decide)) k)))) ; exact (funext (fun k => ((k89.2.2.1 196 k rfl).trans (congrFun (hinv.2.2.2.1.2 196 (by decide)) k)))))⟩, ((k89.2.2.1 172 0 rfl).trans hinv.2.2.2.2.1), ((k89.2.2.1 172 1 rfl).trans hinv.2.2.2.2.2)⟩ k91 (by have qq0 := esd92.symm; have qq1 := esd95.symm; have qh0 := ((k28.2.2.1 _ _ rfl).trans esd2.symm); have qh1 := esd29.symm; have qe0 := ((k89.2.2.1 _ _ rfl).trans ((k28.2.2.1 _ _ rfl).trans esd2.symm)); first | exact mu_dec (h0 := h27) (h1 := h83) hm (by first | (clear hinv; omega) | omega) (by first | (clear hinv; omega) | omega) (by first | (clear hinv; omega) | omega) (by first | (clear hinv; omega) | omega) (by first | (clear hinv; omega) | omega) (fun _ _ => by first | (clear hinv; omega) | omega) | (have mm0 := mu_f h27; have mm1 := mu_f h83; first | (clear hinv; omega) | omega))
            · refine A_iconst d_MD_voiceItem_68 rfl ?_
              exact A_zret d_MD_voiceItem_69 (by decide) rfl (by first | (clear hinv; omega) | omega) ⟨_, rfl, by first | (clear hinv; omega) | omega, (fun v hv => ⟨LF_a ⟨(by intro a ha; simp only [List.mem_cons, List.not_mem_nil, or_false] at ha; rcases ha with rfl | rfl | rfl | rfl | rfl | rfl ; exact (funext (fun k => ((k89.2.2.2 187 k rfl).trans (congrFun (hinv.2.2.2.1.1 187 (by decide)) k)))) ; exact (funext (fun k => ((k89.2.2.2 188 k rfl).trans (congrFun (hinv.2.2.2.1.1 188 (by decide)) k)))) ; exact (funext (fun k => ((k89.2.2.2 189 k rfl).trans (congrFun (hinv.2.2.2.1.1 189 (by decide)) k)))) ; exact (funext (fun k => ((k89.2.2.2 190 k rfl).trans (congrFun (hinv.2.2.2.1.1 190 (by decide)) k)))) ; exact (funext (fun k => ((k89.2.2.2 199 k rfl).trans (congrFun (hinv.2.2.2.1.1 199 (by decide)) k)))) ; exact (funext (fun k => ((k89.2.2.2 200 k rfl).trans (congrFun (hinv.2.2.2.1.1 200 (by decide)) k))))), (by intro a ha; simp only [List.mem_cons, List.not_mem_nil, or_false] at ha; rcases ha with rfl | rfl | rfl ; exact (funext (fun k => ((k89.2.2.1 185 k rfl).trans (congrFun (hinv.2.2.2.1.2 185 (by decide)) k)))) ; exact (funext (fun k => ((k89.2.2.1 186 k rfl).trans (congrFun (hinv.2.2.2.1.2 186 (by decide)) k)))) ; exact (funext (fun k => ((k89.2.2.1 196 k rfl).trans (congrFun (hinv.2.2.2.1.2 196 (by decide)) k)))))⟩, ((k89.2.2.1 172 0 rfl).trans hinv.2.2.2.2.1), fun q => absurd q (by decide)⟩), k91⟩
    exact lp45 _ h25 ⟨(by have qq0 := ((eh25.1 _ _ (fun _ => by decide)).trans ((eh23.1 _ _ (fun _ => by decide)).trans ((eh21.1 _ _ (fun _ => by decide)).trans esd19.symm))); have qq1 := ((eh25.1 _ _ (fun _ => by decide)).trans ((eh23.1 _ _ (fun _ => by decide)).trans ((eh21.1 _ _ (fun _ => by decide)).trans ((k16.2.2.1 _ _ rfl).trans esd2.symm)))); have qq2 := ((eh25.1 _ _ (fun _ => by decide)).trans ((eh23.1 _ _ (fun _ => by decide)).trans ((eh21.1 _ _ (fun _ => by decide)).trans esd20.symm))); exact ⟨by omega, by omega, by omega, by omega⟩), (by have qq0 := ((eh25.1 _ _ (fun _ => by decide)).trans ((eh23.1 _ _ (fun _ => by decide)).trans ((eh21.1 _ _ (fun _ => by decide)).trans esd19.symm))); have qq1 := ((eh25.1 _ _ (fun _ => by decide)).trans ((eh23.1 _ _ (fun _ => by decide)).trans ((eh21.1 _ _ (fun _ => by decide)).trans ((k16.2.2.1 _ _ rfl).trans esd2.symm)))); have qq2 := ((eh25.1 _ _ (fun _ => by decide)).trans ((eh23.1 _ _ (fun _ => by decide)).trans ((eh21.1 _ _ (fun _ => by decide)).trans esd20.symm))); have qq3 := ((eh25.1 _ _ (fun _ => by decide)).trans ((eh23.1 _ _ (fun _ => by decide)).trans eh21.2.1)); exact ⟨by omega, by omega⟩), (VH_0 ((eh25.1 _ _ (fun _ => by decide)).trans ((eh23.1 _ _ (fun _ => by decide)).trans eh21.2.1)) ((eh25.1 _ _ (fun _ => by decide)).trans eh23.2.1)), ⟨(by intro a ha; simp only [List.mem_cons, List.not_mem_nil, or_false] at ha; rcases ha with rfl | rfl | rfl | rfl | rfl | rfl ; exact (funext (fun k => ((congrFun (congrFun eh25.2.2 187) k).trans ((congrFun (congrFun eh23.2.2 187) k).trans ((congrFun (congrFun eh21.2.2 187) k).trans (k16.2.2.2 187 k rfl)))))) ; exact (funext (fun k => ((congrFun (congrFun eh25.2.2 188) k).trans ((congrFun (congrFun eh23.2.2 188) k).trans ((congrFun (congrFun eh21.2.2 188) k).trans (k16.2.2.2 188 k rfl)))))) ; exact (funext (fun k => ((congrFun (congrFun eh25.2.2 189) k).trans ((congrFun (congrFun eh23.2.2 189) k).trans ((congrFun (congrFun eh21.2.2 189) k).trans (k16.2.2.2 189 k rfl)))))) ; exact (funext (fun k => ((congrFun (congrFun eh25.2.2 190) k).trans ((congrFun (congrFun eh23.2.2 190) k).trans ((congrFun (congrFun eh21.2.2 190) k).trans (k16.2.2.2 190 k rfl)))))) ; exact (funext (fun k => ((congrFun (congrFun eh25.2.2 199) k).trans ((congrFun (congrFun eh23.2.2 199) k).trans ((congrFun (congrFun eh21.2.2 199) k).trans (k16.2.2.2 199 k rfl)))))) ; exact (funext (fun k => ((congrFun (congrFun eh25.2.2 200) k).trans ((congrFun (congrFun eh23.2.2 200) k).trans ((congrFun (congrFun eh21.2.2 200) k).trans (k16.2.2.2 200 k rfl))))))), (by intro a ha; simp only [List.mem_cons, List.not_mem_nil, or_false] at ha; rcases ha with rfl | rfl | rfl ; exact (funext (fun k => ((eh25.1 185 k (fun q => absurd q (by decide))).trans ((eh23.1 185 k (fun q => absurd q (by decide))).trans ((eh21.1 185 k (fun q => absurd q (by decide))).trans (k16.2.2.1 185 k rfl)))))) ; exact (funext (fun k => ((eh25.1 186 k (fun q => absurd q (by decide))).trans ((eh23.1 186 k (fun q => absurd q (by decide))).trans ((eh21.1 186 k (fun q => absurd q (by decide))).trans (k16.2.2.1 186 k rfl)))))) ; exact (funext (fun k => ((eh25.1 196 k (fun q => absurd q (by decide))).trans ((eh23.1 196 k (fun q => absurd q (by decide))).trans ((eh21.1 196 k (fun q => absurd q (by decide))).trans (k16.2.2.1 196 k rfl)))))))⟩, ((eh25.1 172 0 (fun q => absurd q (by decide))).trans ((eh23.1 172 0 (fun q => absurd q (by decide))).trans ((eh21.1 172 0 (fun q => absurd q (by decide))).trans (k16.2.2.1 172 0 rfl)))), ((eh25.1 172 1 (fun q => absurd q (by decide))).trans ((eh23.1 172 1 (fun q => absurd q (by decide))).trans ((eh21.1 172 1 (fun q => absurd q (by decide))).trans (k16.2.2.1 172 1 rfl))))⟩ k26 (Nat.lt_succ_self _)
  · refine A_aload_n 0 d_MD_voiceItem_15 rfl rfl ?_
    refine A_iconst d_MD_voiceItem_16 rfl ?_
    refine A_aload_n 0 d_MD_voiceItem_17 rfl rfl ?_
    refine A_getIv (z := x6) T_ok d_MD_voiceItem_18 f_MD_242 (mi_s k0.1 sf_170) ex6.symm ?_
    have zf99 := esd1.symm
    have zf100 := esd2.symm
    have zf101 := esd3.symm
    have zf102 := esd4.symm
    have zf103 := esd5.symm
    refine A_callV2 m_MD_wrong T_ok d_MD_voiceItem_21 l_MD_245 k_MD_wrong (mi_s k0.1 sf_170) rfl (by decide +kernel) (by decide) (Nat.le_of_ble_eq_true rfl) (s_MD_wrong k0.1 (by omega) (by omega) (by omega) (by omega)) (fun r h98 hq => ?_)
    obtain ⟨x105, rfl, ⟨_, _⟩, k104⟩ := hq
    have k106 := kM_t k0 k104 (pm_s (by decide) (by decide))
    obtain rfl : x105 = 0 := by omega
    exact A_zret d_MD_voiceItem_24 (by decide) rfl (by omega) ⟨_, rfl, by omega, (fun v hv => ⟨LF_a ⟨(by intro a ha; simp only [List.mem_cons, List.not_mem_nil, or_false] at ha; rcases ha with rfl | rfl | rfl | rfl | rfl | rfl ; exact (funext (fun k => (k104.2.2.2 187 k rfl))) ; exact (funext (fun k => (k104.2.2.2 188 k rfl))) ; exact (funext (fun k => (k104.2.2.2 189 k rfl))) ; exact (funext (fun k => (k104.2.2.2 190 k rfl))) ; exact (funext (fun k => (k104.2.2.2 199 k rfl))) ; exact (funext (fun k => (k104.2.2.2 200 k rfl)))), (by intro a ha; simp only [List.mem_cons, List.not_mem_nil, or_false] at ha; rcases ha with rfl | rfl | rfl ; exact (funext (fun k => (k104.2.2.1 185 k rfl))) ; exact (funext (fun k => (k104.2.2.1 186 k rfl))) ; exact (funext (fun k => (k104.2.2.1 196 k rfl))))⟩, (k104.2.2.1 172 0 rfl), fun q => absurd q (by decide)⟩), k106⟩
