/-! ===== the reference's methods, 348 ===== -/
def m_MD_judge : mr_T := (⟨"PlainMusicModel", "judge", "()I"⟩, prog_14_method_59_code, 4, some .int)
theorem d_MD_judge_0 : decode prog_14_method_59_code 0 = .ok (.aload_n 0, 1) := by decide +kernel
theorem d_MD_judge_1 : decode prog_14_method_59_code 1 = .ok (.iconst 0, 1) := by decide +kernel
theorem d_MD_judge_2 : decode prog_14_method_59_code 2 = .ok (.putfield 471, 3) := by decide +kernel
theorem d_MD_judge_5 : decode prog_14_method_59_code 5 = .ok (.iconst 0, 1) := by decide +kernel
theorem d_MD_judge_6 : decode prog_14_method_59_code 6 = .ok (.istore_n 1, 1) := by decide +kernel
theorem d_MD_judge_7 : decode prog_14_method_59_code 7 = .ok (.iload_n 1, 1) := by decide +kernel
theorem d_MD_judge_8 : decode prog_14_method_59_code 8 = .ok (.aload_n 0, 1) := by decide +kernel
theorem d_MD_judge_9 : decode prog_14_method_59_code 9 = .ok (.getfield 17, 3) := by decide +kernel
theorem d_MD_judge_12 : decode prog_14_method_59_code 12 = .ok (.iconst 0, 1) := by decide +kernel
theorem d_MD_judge_13 : decode prog_14_method_59_code 13 = .ok (.iaload, 1) := by decide +kernel
theorem d_MD_judge_14 : decode prog_14_method_59_code 14 = .ok (.if_icmp .ge 88, 3) := by decide +kernel
theorem d_MD_judge_102 : decode prog_14_method_59_code 102 = .ok (.aload_n 0, 1) := by decide +kernel
theorem d_MD_judge_103 : decode prog_14_method_59_code 103 = .ok (.getfield 471, 3) := by decide +kernel
theorem d_MD_judge_106 : decode prog_14_method_59_code 106 = .ok (.ireturn, 1) := by decide +kernel
theorem d_MD_judge_17 : decode prog_14_method_59_code 17 = .ok (.iconst 0, 1) := by decide +kernel
theorem d_MD_judge_18 : decode prog_14_method_59_code 18 = .ok (.istore_n 2, 1) := by decide +kernel
theorem d_MD_judge_19 : decode prog_14_method_59_code 19 = .ok (.iload_n 2, 1) := by decide +kernel
theorem d_MD_judge_20 : decode prog_14_method_59_code 20 = .ok (.aload_n 0, 1) := by decide +kernel
theorem d_MD_judge_21 : decode prog_14_method_59_code 21 = .ok (.getfield 57, 3) := by decide +kernel
theorem d_MD_judge_24 : decode prog_14_method_59_code 24 = .ok (.iload_n 1, 1) := by decide +kernel
theorem d_MD_judge_25 : decode prog_14_method_59_code 25 = .ok (.iaload, 1) := by decide +kernel
theorem d_MD_judge_26 : decode prog_14_method_59_code 26 = .ok (.if_icmp .gt 70, 3) := by decide +kernel
theorem d_MD_judge_96 : decode prog_14_method_59_code 96 = .ok (.iinc 1 1, 3) := by decide +kernel
theorem d_MD_judge_99 : decode prog_14_method_59_code 99 = .ok (.goto (-92), 3) := by decide +kernel
theorem d_MD_judge_29 : decode prog_14_method_59_code 29 = .ok (.iconst 0, 1) := by decide +kernel
theorem d_MD_judge_30 : decode prog_14_method_59_code 30 = .ok (.istore_n 3, 1) := by decide +kernel
theorem d_MD_judge_31 : decode prog_14_method_59_code 31 = .ok (.iload_n 3, 1) := by decide +kernel
theorem d_MD_judge_32 : decode prog_14_method_59_code 32 = .ok (.aload_n 0, 1) := by decide +kernel
theorem d_MD_judge_33 : decode prog_14_method_59_code 33 = .ok (.getfield 60, 3) := by decide +kernel
theorem d_MD_judge_36 : decode prog_14_method_59_code 36 = .ok (.iload_n 1, 1) := by decide +kernel
theorem d_MD_judge_37 : decode prog_14_method_59_code 37 = .ok (.iaload, 1) := by decide +kernel
theorem d_MD_judge_38 : decode prog_14_method_59_code 38 = .ok (.if_icmp .ge 36, 3) := by decide +kernel
theorem d_MD_judge_74 : decode prog_14_method_59_code 74 = .ok (.iload_n 2, 1) := by decide +kernel
theorem d_MD_judge_75 : decode prog_14_method_59_code 75 = .ok (.aload_n 0, 1) := by decide +kernel
theorem d_MD_judge_76 : decode prog_14_method_59_code 76 = .ok (.getfield 57, 3) := by decide +kernel
theorem d_MD_judge_79 : decode prog_14_method_59_code 79 = .ok (.iload_n 1, 1) := by decide +kernel
theorem d_MD_judge_80 : decode prog_14_method_59_code 80 = .ok (.iaload, 1) := by decide +kernel
theorem d_MD_judge_81 : decode prog_14_method_59_code 81 = .ok (.if_icmp .ge 9, 3) := by decide +kernel
theorem d_MD_judge_90 : decode prog_14_method_59_code 90 = .ok (.iinc 2 1, 3) := by decide +kernel
theorem d_MD_judge_93 : decode prog_14_method_59_code 93 = .ok (.goto (-74), 3) := by decide +kernel
theorem d_MD_judge_84 : decode prog_14_method_59_code 84 = .ok (.aload_n 0, 1) := by decide +kernel
theorem d_MD_judge_85 : decode prog_14_method_59_code 85 = .ok (.iload_n 1, 1) := by decide +kernel
theorem d_MD_judge_86 : decode prog_14_method_59_code 86 = .ok (.iload_n 2, 1) := by decide +kernel
theorem d_MD_judge_87 : decode prog_14_method_59_code 87 = .ok (.invokevirtual 514, 3) := by decide +kernel
theorem k_MD_judgeEvent : mt_OK m_MD_judgeEvent 2 1 := ⟨gwi_2053, gwi_146, ⟨by decide +kernel, by decide +kernel, by decide +kernel⟩, fun h => absurd h (by decide), fun _ => ⟨gwi_2052, gwi_107⟩, fun h => absurd h (by decide)⟩
theorem l_MD_514 : ml_OK "PlainMusicModel" 514 ⟨"PlainMusicModel", "judgeEvent", "(II)V"⟩ := Or.inl gwi_2050
theorem d_MD_judge_41 : decode prog_14_method_59_code 41 = .ok (.aload_n 0, 1) := by decide +kernel
theorem d_MD_judge_42 : decode prog_14_method_59_code 42 = .ok (.iload_n 1, 1) := by decide +kernel
theorem d_MD_judge_43 : decode prog_14_method_59_code 43 = .ok (.iload_n 3, 1) := by decide +kernel
theorem d_MD_judge_44 : decode prog_14_method_59_code 44 = .ok (.invokevirtual 504, 3) := by decide +kernel
theorem k_MD_firstOf : mt_OK m_MD_firstOf 2 1 := ⟨gwi_2037, gwi_146, ⟨by decide +kernel, by decide +kernel, by decide +kernel⟩, fun h => absurd h (by decide), fun _ => ⟨gwi_2036, gwi_103⟩, fun h => absurd h (by decide)⟩
theorem l_MD_504 : ml_OK "PlainMusicModel" 504 ⟨"PlainMusicModel", "firstOf", "(II)I"⟩ := Or.inl gwi_2034
theorem d_MD_judge_47 : decode prog_14_method_59_code 47 = .ok (.iload_n 2, 1) := by decide +kernel
theorem d_MD_judge_48 : decode prog_14_method_59_code 48 = .ok (.if_icmp .ne 20, 3) := by decide +kernel
theorem d_MD_judge_68 : decode prog_14_method_59_code 68 = .ok (.iinc 3 1, 3) := by decide +kernel
theorem d_MD_judge_71 : decode prog_14_method_59_code 71 = .ok (.goto (-40), 3) := by decide +kernel
theorem d_MD_judge_51 : decode prog_14_method_59_code 51 = .ok (.aload_n 0, 1) := by decide +kernel
theorem d_MD_judge_52 : decode prog_14_method_59_code 52 = .ok (.iload_n 1, 1) := by decide +kernel
theorem d_MD_judge_53 : decode prog_14_method_59_code 53 = .ok (.iload_n 3, 1) := by decide +kernel
theorem d_MD_judge_54 : decode prog_14_method_59_code 54 = .ok (.invokevirtual 507, 3) := by decide +kernel
theorem k_MD_isWhole : mt_OK m_MD_isWhole 2 1 := ⟨gwi_2041, gwi_146, ⟨by decide +kernel, by decide +kernel, by decide +kernel⟩, fun h => absurd h (by decide), fun _ => ⟨gwi_2040, gwi_104⟩, fun h => absurd h (by decide)⟩
theorem l_MD_507 : ml_OK "PlainMusicModel" 507 ⟨"PlainMusicModel", "isWhole", "(II)Z"⟩ := Or.inl gwi_2038
theorem d_MD_judge_57 : decode prog_14_method_59_code 57 = .ok (.ifCond .ne 11, 3) := by decide +kernel
theorem d_MD_judge_60 : decode prog_14_method_59_code 60 = .ok (.aload_n 0, 1) := by decide +kernel
theorem d_MD_judge_61 : decode prog_14_method_59_code 61 = .ok (.iconst 1, 1) := by decide +kernel
theorem d_MD_judge_62 : decode prog_14_method_59_code 62 = .ok (.iload_n 1, 1) := by decide +kernel
theorem d_MD_judge_63 : decode prog_14_method_59_code 63 = .ok (.iload_n 2, 1) := by decide +kernel
theorem d_MD_judge_64 : decode prog_14_method_59_code 64 = .ok (.iload_n 3, 1) := by decide +kernel
theorem d_MD_judge_65 : decode prog_14_method_59_code 65 = .ok (.invokevirtual 510, 3) := by decide +kernel
theorem s_MD_judge {G : cx_T} {h : ah_T} (hx : mi h)  (hKS : KS h) : con G 6 0 0 m_MD_judge [av_R (some 170)] h (fun r h' => ∃ z, r = some (av_I z) ∧ ((-2147483648) ≤ z ∧ z ≤ 2147483647) ∧ (h'.2.1 170 80 ≤ 8000) ∧ kM (pm [65, 66, 80] [221, 222, 223, 224]) h h') := by
  refine con_of (L := [some (av_R (some 170)), none, none, none]) (by decide +kernel) (Nat.le_of_ble_eq_true rfl) rfl ?_
  have k0 : kM (pm [65, 66, 80] [221, 222, 223, 224]) h h := kM_0 hx
  obtain ⟨sd1, esd1⟩ : ∃ x, x = h.2.1 170 80 := ⟨_, rfl⟩
  have rsd1 : 0 ≤ sd1 ∧ sd1 ≤ 2000000000 := (by rw [esd1]; exact mi_g k0.1 (by decide) mr_170_80)
  refine A_aload_n 0 d_MD_judge_0 rfl rfl ?_
  refine A_iconst d_MD_judge_1 rfl ?_
  refine A_putIk (KR := kM (pm [65, 66, 80] [221, 222, 223, 224]) h) T_ok d_MD_judge_2 f_MD_471 (mi_s k0.1 sf_170) fin_f (kM_i k0 (by decide) (by decide) mr_170_80 (by omega) (by omega)) (fun h2 k3 eh2 => ?_)
  refine A_iconst d_MD_judge_5 rfl ?_
  refine A_istore_n 1 (L' := [some (av_R (some 170)), some (av_I 0), none, none]) d_MD_judge_6 rfl (Nat.le_of_ble_eq_true rfl) rfl ?_
  have lp7 : ∀ (n : Nat) (i4 : Int) (h5 : ah_T) , 0 ≤ i4 → i4 ≤ 4 → (JV i4 (h5.2.1 170 80) ∧ h5.2.1 170 80 ≤ 8000) → kM (pm [65, 66, 80] [221, 222, 223, 224]) h h5 → (5 - i4).toNat < n → aw G (rm_R 6 0 0) m_MD_judge 0 0 7 [some (av_R (some 170)), some (av_I i4), none, none] [] h5 (fun r h' => ∃ z, r = some (av_I z) ∧ ((-2147483648) ≤ z ∧ z ≤ 2147483647) ∧ (h'.2.1 170 80 ≤ 8000) ∧ kM (pm [65, 66, 80] [221, 222, 223, 224]) h h') := by
    intro n
    induction n with
    | zero => intro i4 h5 _ _ _ _ hm; omega
    | succ n ih7 =>
      intro i4 h5 hl0 hl1 hinv k6 hm
      obtain ⟨sd7, esd7⟩ : ∃ x, x = h5.2.1 170 80 := ⟨_, rfl⟩
      have rsd7 : 0 ≤ sd7 ∧ sd7 ≤ 2000000000 := (by rw [esd7]; exact mi_g k6.1 (by decide) mr_170_80)
      refine A_iload_n 1 d_MD_judge_7 rfl rfl ?_
      refine A_aload_n 0 d_MD_judge_8 rfl rfl ?_
      refine A_getAv (z := some 172) T_ok d_MD_judge_9 f_MD_17 (mi_s k6.1 sf_170) (mi_r k6.1 rfm_14) ?_
      refine A_iconst d_MD_judge_12 rfl ?_
      refine A_ialoadn (lo := 0) (hi := 4) d_MD_judge_13 (mi_s k6.1 sf_172) (by decide) (by decide) (mi_g k6.1 (by decide) (mr_172 _)) (fun x9 ex9 _ _ => ?_)
      replace ex9 : x9 = h5.2.1 172 0 := ex9
      have fx9 := ex9.trans (k6.2.2.1 172 _ rfl)
      refine A_pc (pc' := 14) rfl ?_
      refine A_icmp_ge (tgt := 102) d_MD_judge_14 (by decide) (fun c10 => ?_) (fun c10 => ?_)
      · refine A_aload_n 0 d_MD_judge_102 rfl rfl ?_
        refine A_getIv (z := sd7) T_ok d_MD_judge_103 f_MD_471 (mi_s k6.1 sf_170) esd7.symm ?_
        exact A_iret d_MD_judge_106 (by decide) rfl ⟨_, rfl, ⟨by omega, by omega⟩, (by have q1 := hinv.2; have qq0 := esd7.symm; omega), k6⟩
      · refine A_iconst d_MD_judge_17 rfl ?_
        refine A_istore_n 2 (L' := [some (av_R (some 170)), some (av_I i4), some (av_I 0), none]) d_MD_judge_18 rfl (Nat.le_of_ble_eq_true rfl) rfl ?_
        have lp19 : ∀ (n : Nat) (i12 : Int) (h13 : ah_T) , 0 ≤ i12 → i12 ≤ 301 → (JI h i4 i12 (h13.2.1 170 80) ∧ h13.2.1 170 80 ≤ 8000) → kM (pm [65, 66, 80] [221, 222, 223, 224]) h h13 → (302 - i12).toNat < n → aw G (rm_R 6 0 0) m_MD_judge 0 0 19 [some (av_R (some 170)), some (av_I i4), some (av_I i12), none] [] h13 (fun r h' => ∃ z, r = some (av_I z) ∧ ((-2147483648) ≤ z ∧ z ≤ 2147483647) ∧ (h'.2.1 170 80 ≤ 8000) ∧ kM (pm [65, 66, 80] [221, 222, 223, 224]) h h') := by
          intro n
          induction n with
          | zero => intro i12 h13 _ _ _ _ hm; omega
          | succ n ih19 =>
            intro i12 h13 hl0 hl1 hinv k14 hm
            obtain ⟨sd15, esd15⟩ : ∃ x, x = h13.2.1 170 80 := ⟨_, rfl⟩
            have rsd15 : 0 ≤ sd15 ∧ sd15 ≤ 2000000000 := (by rw [esd15]; exact mi_g k14.1 (by decide) mr_170_80)
            refine A_iload_n 2 d_MD_judge_19 rfl rfl ?_
            refine A_aload_n 0 d_MD_judge_20 rfl rfl ?_
            refine A_getAv (z := some 185) T_ok d_MD_judge_21 f_MD_57 (mi_s k14.1 sf_170) (mi_r k14.1 rfm_27) ?_
            refine A_iload_n 1 d_MD_judge_24 rfl rfl ?_
            refine A_ialoadn (lo := 0) (hi := 300) d_MD_judge_25 (mi_s k14.1 sf_185) (by omega) (by omega) (mi_g k14.1 (by decide) (mr_185 _)) (fun x17 ex17 _ _ => ?_)
            have fx17 := ex17.trans (k14.2.2.1 185 _ rfl)
            refine A_pc (pc' := 26) rfl ?_
            refine A_icmp_gt (tgt := 96) d_MD_judge_26 (by decide) (fun c18 => ?_) (fun c18 => ?_)
            · have yV : JV (i4 + 1) sd15 := JV_s (i := i12) (by have q1 := hinv.1; rw [esd15.symm] at q1; exact q1) (by omega) (mi_186 hx _).2
              have yw := JV_z yV
              refine A_iincv (z := (i4 + 1)) (L' := [some (av_R (some 170)), some (av_I (i4 + 1)), some (av_I i12), none]) d_MD_judge_96 rfl (w32_to (by omega) (by unfold i32; omega)) rfl ?_
              refine A_goto (tgt := 7) d_MD_judge_99 (by decide) ?_
              refine A_free (L' := [some (av_R (some 170)), some (av_I (i4 + 1)), none, none]) (And.intro rfl (And.intro rfl trivial)) ?_
              exact ih7 (i4 + 1) h13 (by omega) (by omega) ⟨by rw [esd15.symm]; exact yV, by have qq0 := esd15.symm; omega⟩ k14 (by omega)
            · refine A_iconst d_MD_judge_29 rfl ?_
              refine A_istore_n 3 (L' := [some (av_R (some 170)), some (av_I i4), some (av_I i12), some (av_I 0)]) d_MD_judge_30 rfl (Nat.le_of_ble_eq_true rfl) rfl ?_
              have lp31 : ∀ (n : Nat) (i19 : Int) (h20 : ah_T) , 0 ≤ i19 → i19 ≤ 101 → (JB h i4 i12 i19 (h20.2.1 170 80) ∧ h20.2.1 170 80 ≤ 8000) → kM (pm [65, 66, 80] [221, 222, 223, 224]) h h20 → (102 - i19).toNat < n → aw G (rm_R 6 0 0) m_MD_judge 0 0 31 [some (av_R (some 170)), some (av_I i4), some (av_I i12), some (av_I i19)] [] h20 (fun r h' => ∃ z, r = some (av_I z) ∧ ((-2147483648) ≤ z ∧ z ≤ 2147483647) ∧ (h'.2.1 170 80 ≤ 8000) ∧ kM (pm [65, 66, 80] [221, 222, 223, 224]) h h') := by
                intro n
                induction n with
                | zero => intro i19 h20 _ _ _ _ hm; omega
                | succ n ih31 =>
                  intro i19 h20 hl0 hl1 hinv k21 hm
                  obtain ⟨sd22, esd22⟩ : ∃ x, x = h20.2.1 170 80 := ⟨_, rfl⟩
                  have rsd22 : 0 ≤ sd22 ∧ sd22 ≤ 2000000000 := (by rw [esd22]; exact mi_g k21.1 (by decide) mr_170_80)
                  refine A_iload_n 3 d_MD_judge_31 rfl rfl ?_
                  refine A_aload_n 0 d_MD_judge_32 rfl rfl ?_
                  refine A_getAv (z := some 186) T_ok d_MD_judge_33 f_MD_60 (mi_s k21.1 sf_170) (mi_r k21.1 rfm_28) ?_
                  refine A_iload_n 1 d_MD_judge_36 rfl rfl ?_
                  refine A_ialoadn (lo := 0) (hi := 101) d_MD_judge_37 (mi_s k21.1 sf_186) (by omega) (by omega) (mi_g k21.1 (by decide) (mr_186 _)) (fun x24 ex24 _ _ => ?_)
                  have fx24 := ex24.trans (k21.2.2.1 186 _ rfl)
                  refine A_pc (pc' := 38) rfl ?_
                  refine A_icmp_ge (tgt := 74) d_MD_judge_38 (by decide) (fun c25 => ?_) (fun c25 => ?_)
                  · have yB : JB h i4 i12 i19 sd22 := (by have q1 := hinv.1; rw [esd22.symm] at q1; exact q1)
                    have yx : sd22 ≤ 8000 := (by have q1 := hinv.2; have q2 := esd22.symm; omega)
                    refine A_iload_n 2 d_MD_judge_74 rfl rfl ?_
                    refine A_aload_n 0 d_MD_judge_75 rfl rfl ?_
                    refine A_getAv (z := some 185) T_ok d_MD_judge_76 f_MD_57 (mi_s k21.1 sf_170) (mi_r k21.1 rfm_27) ?_
                    refine A_iload_n 1 d_MD_judge_79 rfl rfl ?_
                    refine A_ialoadn (lo := 0) (hi := 300) d_MD_judge_80 (mi_s k21.1 sf_185) (by omega) (by omega) (mi_g k21.1 (by decide) (mr_185 _)) (fun x27 ex27 _ _ => ?_)
                    have fx27 := ex27.trans (k21.2.2.1 185 _ rfl)
                    refine A_pc (pc' := 81) rfl ?_
                    refine A_icmp_ge (tgt := 90) d_MD_judge_81 (by decide) (fun c28 => ?_) (fun c28 => ?_)
                    · have yI : JI h i4 (i12 + 1) sd22 := JI_s yB (by omega)
                      have yJ : sd22 ≤ 8000 := JV_z (JV_s yI (by omega) (mi_186 hx _).2)
                      refine A_iincv (z := (i12 + 1)) (L' := [some (av_R (some 170)), some (av_I i4), some (av_I (i12 + 1)), some (av_I i19)]) d_MD_judge_90 rfl (w32_to (by omega) (by unfold i32; omega)) rfl ?_
                      refine A_goto (tgt := 19) d_MD_judge_93 (by decide) ?_
                      refine A_free (L' := [some (av_R (some 170)), some (av_I i4), some (av_I (i12 + 1)), none]) (And.intro rfl (And.intro rfl (And.intro rfl trivial))) ?_
                      exact ih19 (i12 + 1) h20 (by omega) (by omega) ⟨by rw [esd22.symm]; exact yI, by have qq0 := esd22.symm; have q1 := yJ; omega⟩ k21 (by omega)
                    · refine A_aload_n 0 d_MD_judge_84 rfl rfl ?_
                      refine A_iload_n 1 d_MD_judge_85 rfl rfl ?_
                      refine A_iload_n 2 d_MD_judge_86 rfl rfl ?_
                      have zf30 := esd22.symm
                      refine A_callV2 m_MD_judgeEvent T_ok d_MD_judge_87 l_MD_514 k_MD_judgeEvent (mi_s k21.1 sf_170) rfl (by decide +kernel) (by decide) (Nat.le_of_ble_eq_true rfl) (s_MD_judgeEvent k21.1 (by omega) (by omega) (by omega) (by omega) (KS_s hKS k21 (by decide) (fun k => ⟨rfl, rfl⟩) (fun k => ⟨rfl, rfl, rfl, rfl, rfl, rfl⟩)) (by have q1 := k21.2.2.1 172 0 rfl; omega) (by have q1 := k21.2.2.1 185 (i4).toNat rfl; omega) (by have qq0 := esd22.symm; omega)) (fun r h29 hq => ?_)
                      obtain ⟨rfl, xk31, k31⟩ := hq
                      have k32 := kM_t k21 k31 (pm_s (by decide) (by decide))
                      obtain ⟨sd33, esd33⟩ : ∃ x, x = h29.2.1 170 80 := ⟨_, rfl⟩
                      have rsd33 : 0 ≤ sd33 ∧ sd33 ≤ 2000000000 := (by rw [esd33]; exact mi_g k32.1 (by decide) mr_170_80)
                      have yI : JI h i4 (i12 + 1) sd33 := JI_s yB (by omega)
                      have yJ : sd33 ≤ 8000 := JV_z (JV_s yI (by omega) (mi_186 hx _).2)
                      refine A_iincv (z := (i12 + 1)) (L' := [some (av_R (some 170)), some (av_I i4), some (av_I (i12 + 1)), some (av_I i19)]) d_MD_judge_90 rfl (w32_to (by omega) (by unfold i32; omega)) rfl ?_
                      refine A_goto (tgt := 19) d_MD_judge_93 (by decide) ?_
                      refine A_free (L' := [some (av_R (some 170)), some (av_I i4), some (av_I (i12 + 1)), none]) (And.intro rfl (And.intro rfl (And.intro rfl trivial))) ?_
                      exact ih19 (i12 + 1) h29 (by omega) (by omega) ⟨by rw [esd33.symm]; exact yI, by have qq0 := esd33.symm; have q1 := yJ; omega⟩ k32 (by omega)
                  · refine A_aload_n 0 d_MD_judge_41 rfl rfl ?_
                    refine A_iload_n 1 d_MD_judge_42 rfl rfl ?_
                    refine A_iload_n 3 d_MD_judge_43 rfl rfl ?_
                    have zf35 := esd22.symm
                    refine A_callV2 m_MD_firstOf T_ok d_MD_judge_44 l_MD_504 k_MD_firstOf (mi_s k21.1 sf_170) rfl (by decide +kernel) (by decide) (Nat.le_of_ble_eq_true rfl) (s_MD_firstOf k21.1 (by omega) (by omega)) (fun r h34 hq => ?_)
                    obtain ⟨x37, rfl, ⟨_, _⟩, xx37, rfl⟩ := hq
                    have yf0 : FO h i4 i19 x37 := FO_e k21 (fun _ => rfl) (fun _ => rfl) xx37
                    refine A_iload_n 2 d_MD_judge_47 rfl rfl ?_
                    refine A_icmp_ne (tgt := 68) d_MD_judge_48 (by decide) (fun c38 => ?_) (fun c38 => ?_)
                    · refine A_iincv (z := (i19 + 1)) (L' := [some (av_R (some 170)), some (av_I i4), some (av_I i12), some (av_I (i19 + 1))]) d_MD_judge_68 rfl (w32_to (by omega) (by unfold i32; omega)) rfl ?_
                      refine A_goto (tgt := 31) d_MD_judge_71 (by decide) ?_
                      exact ih31 (i19 + 1) h20 (by omega) (by omega) ⟨(by rw [esd22.symm, ← esd22.symm]; exact JB_n hinv.1), (by have qq0 := esd22.symm; have q2 := esd22.symm; have q1 := hinv.2; omega)⟩ k21 (by omega)
                    · refine A_aload_n 0 d_MD_judge_51 rfl rfl ?_
                      refine A_iload_n 1 d_MD_judge_52 rfl rfl ?_
                      refine A_iload_n 3 d_MD_judge_53 rfl rfl ?_
                      have zf40 := esd22.symm
                      refine A_callV2 m_MD_isWhole T_ok d_MD_judge_54 l_MD_507 k_MD_isWhole (mi_s k21.1 sf_170) rfl (by decide +kernel) (by decide) (Nat.le_of_ble_eq_true rfl) (s_MD_isWhole k21.1 (by omega) (by omega) (by omega) (by omega) (KS_s hKS k21 (by decide) (fun k => ⟨rfl, rfl⟩) (fun k => ⟨rfl, rfl, rfl, rfl, rfl, rfl⟩)) (by have q1 := k21.2.2.1 172 0 rfl; omega) (by have q1 := k21.2.2.1 186 (i4).toNat rfl; omega)) (fun r h39 hq => ?_)
                      obtain ⟨x42, rfl, bx42, k41⟩ := hq
                      have k43 := kM_t k21 k41 (pm_s (by decide) (by decide))
                      refine A_if_ne (tgt := 68) d_MD_judge_57 (by decide) (fun c44 => ?_) (fun c44 => ?_)
                      · refine A_iincv (z := (i19 + 1)) (L' := [some (av_R (some 170)), some (av_I i4), some (av_I i12), some (av_I (i19 + 1))]) d_MD_judge_68 rfl (w32_to (by omega) (by unfold i32; omega)) rfl ?_
                        refine A_goto (tgt := 31) d_MD_judge_71 (by decide) ?_
                        exact ih31 (i19 + 1) h39 (by omega) (by omega) ⟨(by rw [((k41.2.2.1 _ _ rfl).trans esd22.symm), ← esd22.symm]; exact JB_n hinv.1), (by have qq0 := ((k41.2.2.1 _ _ rfl).trans esd22.symm); have q2 := esd22.symm; have q1 := hinv.2; omega)⟩ k43 (by omega)
                      · have yf : FO h i4 i19 i12 := (by rw [show i12 = x37 by omega]; exact yf0)
                        have yg : sd22 + 1 ≤ 8000 := JV_z (JV_s (JI_s (b := i19 + 1) (i := i12) (f := sd22 + 1) (f' := sd22 + 1) (by have q1 := JB_t hinv.1 yf (by omega) (by omega); rw [esd22.symm] at q1; exact q1) (by omega)) (by omega) (mi_186 hx _).2)
                        refine A_aload_n 0 d_MD_judge_60 rfl rfl ?_
                        refine A_iconst d_MD_judge_61 rfl ?_
                        refine A_iload_n 1 d_MD_judge_62 rfl rfl ?_
                        refine A_iload_n 2 d_MD_judge_63 rfl rfl ?_
                        refine A_iload_n 3 d_MD_judge_64 rfl rfl ?_
                        refine A_pc (pc' := 65) rfl ?_
                        have zf46 := ((k41.2.2.1 _ _ rfl).trans esd22.symm)
                        refine A_callV4 m_MD_tell T_ok d_MD_judge_65 l_MD_510 k_MD_tell (mi_s k43.1 sf_170) rfl (by decide +kernel) (by decide) (Nat.le_of_ble_eq_true rfl) (s_MD_tell k43.1 (by have qq0 := ((k41.2.2.1 _ _ rfl).trans esd22.symm); omega)) (fun r h45 hq => ?_)
                        obtain ⟨rfl, xk47, k47⟩ := hq
                        have k48 := kM_t k43 k47 (pm_s (by decide) (by decide))
                        obtain ⟨sd49, esd49⟩ : ∃ x, x = h45.2.1 170 80 := ⟨_, rfl⟩
                        have rsd49 : 0 ≤ sd49 ∧ sd49 ≤ 2000000000 := (by rw [esd49]; exact mi_g k48.1 (by decide) mr_170_80)
                        have yp : h45.2.1 170 80 = h20.2.1 170 80 + 1 := (by have q1 := esd49.symm; have q2 := esd22.symm; omega)
                        refine A_iincv (z := (i19 + 1)) (L' := [some (av_R (some 170)), some (av_I i4), some (av_I i12), some (av_I (i19 + 1))]) d_MD_judge_68 rfl (w32_to (by omega) (by unfold i32; omega)) rfl ?_
                        refine A_goto (tgt := 31) d_MD_judge_71 (by decide) ?_
                        exact ih31 (i19 + 1) h45 (by omega) (by omega) ⟨(by have q1 := JB_t hinv.1 yf (by omega) (by omega); rw [← yp] at q1; exact q1), (by have qq0 := esd49.symm; have q1 := yg; omega)⟩ k48 (by omega)
              exact lp31 _ 0 h13 (by omega) (by omega) ⟨JB_0 hinv.1, hinv.2⟩ k14 (Nat.lt_succ_self _)
        exact lp19 _ 0 h5 (by omega) (by omega) ⟨JI_0 (mi_186 hx _).1 (by omega) hinv.1, hinv.2⟩ k6 (Nat.lt_succ_self _)
  exact lp7 _ 0 h2 (by omega) (by omega) ⟨by rw [eh2.2.1]; exact Or.inl ⟨rfl, by decide⟩, by have qq0 := eh2.2.1; omega⟩ k3 (Nat.lt_succ_self _)
