/-! ===== the reference's methods, 344 ===== -/
def m_MD_width : mr_T := (⟨"PlainMusicModel", "width", "(I)I"⟩, prog_14_method_72_code, 7, some .int)
theorem d_MD_width_0 : decode prog_14_method_72_code 0 = .ok (.iload_n 1, 1) := by decide +kernel
theorem d_MD_width_1 : decode prog_14_method_72_code 1 = .ok (.ifCond .lt 11, 3) := by decide +kernel
theorem d_MD_width_12 : decode prog_14_method_72_code 12 = .ok (.iconst (-1), 1) := by decide +kernel
theorem d_MD_width_13 : decode prog_14_method_72_code 13 = .ok (.ireturn, 1) := by decide +kernel
theorem d_MD_width_4 : decode prog_14_method_72_code 4 = .ok (.iload_n 1, 1) := by decide +kernel
theorem d_MD_width_5 : decode prog_14_method_72_code 5 = .ok (.aload_n 0, 1) := by decide +kernel
theorem d_MD_width_6 : decode prog_14_method_72_code 6 = .ok (.invokevirtual 492, 3) := by decide +kernel
theorem d_MD_width_9 : decode prog_14_method_72_code 9 = .ok (.if_icmp .lt 5, 3) := by decide +kernel
theorem d_MD_width_14 : decode prog_14_method_72_code 14 = .ok (.iconst 0, 1) := by decide +kernel
theorem d_MD_width_15 : decode prog_14_method_72_code 15 = .ok (.istore_n 2, 1) := by decide +kernel
theorem d_MD_width_16 : decode prog_14_method_72_code 16 = .ok (.iconst 0, 1) := by decide +kernel
theorem d_MD_width_17 : decode prog_14_method_72_code 17 = .ok (.istore_n 3, 1) := by decide +kernel
theorem d_MD_width_18 : decode prog_14_method_72_code 18 = .ok (.iconst 0, 1) := by decide +kernel
theorem d_MD_width_19 : decode prog_14_method_72_code 19 = .ok (.istore 4, 2) := by decide +kernel
theorem d_MD_width_21 : decode prog_14_method_72_code 21 = .ok (.iload 4, 2) := by decide +kernel
theorem d_MD_width_23 : decode prog_14_method_72_code 23 = .ok (.aload_n 0, 1) := by decide +kernel
theorem d_MD_width_24 : decode prog_14_method_72_code 24 = .ok (.getfield 17, 3) := by decide +kernel
theorem d_MD_width_27 : decode prog_14_method_72_code 27 = .ok (.iconst 0, 1) := by decide +kernel
theorem d_MD_width_28 : decode prog_14_method_72_code 28 = .ok (.iaload, 1) := by decide +kernel
theorem d_MD_width_29 : decode prog_14_method_72_code 29 = .ok (.if_icmp .ge 85, 3) := by decide +kernel
theorem d_MD_width_114 : decode prog_14_method_72_code 114 = .ok (.bipush 10, 2) := by decide +kernel
theorem d_MD_width_116 : decode prog_14_method_72_code 116 = .ok (.bipush 8, 2) := by decide +kernel
theorem d_MD_width_118 : decode prog_14_method_72_code 118 = .ok (.iload_n 2, 1) := by decide +kernel
theorem d_MD_width_119 : decode prog_14_method_72_code 119 = .ok (.imul, 1) := by decide +kernel
theorem d_MD_width_120 : decode prog_14_method_72_code 120 = .ok (.iadd, 1) := by decide +kernel
theorem d_MD_width_121 : decode prog_14_method_72_code 121 = .ok (.iconst 3, 1) := by decide +kernel
theorem d_MD_width_122 : decode prog_14_method_72_code 122 = .ok (.iload_n 3, 1) := by decide +kernel
theorem d_MD_width_123 : decode prog_14_method_72_code 123 = .ok (.imul, 1) := by decide +kernel
theorem d_MD_width_124 : decode prog_14_method_72_code 124 = .ok (.iadd, 1) := by decide +kernel
theorem d_MD_width_125 : decode prog_14_method_72_code 125 = .ok (.ireturn, 1) := by decide +kernel
theorem d_MD_width_32 : decode prog_14_method_72_code 32 = .ok (.iconst 0, 1) := by decide +kernel
theorem d_MD_width_33 : decode prog_14_method_72_code 33 = .ok (.istore 5, 2) := by decide +kernel
theorem d_MD_width_35 : decode prog_14_method_72_code 35 = .ok (.iload 5, 2) := by decide +kernel
theorem d_MD_width_37 : decode prog_14_method_72_code 37 = .ok (.aload_n 0, 1) := by decide +kernel
theorem d_MD_width_38 : decode prog_14_method_72_code 38 = .ok (.getfield 57, 3) := by decide +kernel
theorem d_MD_width_41 : decode prog_14_method_72_code 41 = .ok (.iload 4, 2) := by decide +kernel
theorem d_MD_width_43 : decode prog_14_method_72_code 43 = .ok (.iaload, 1) := by decide +kernel
theorem d_MD_width_44 : decode prog_14_method_72_code 44 = .ok (.if_icmp .ge 64, 3) := by decide +kernel
theorem d_MD_width_108 : decode prog_14_method_72_code 108 = .ok (.iinc 4 1, 3) := by decide +kernel
theorem d_MD_width_111 : decode prog_14_method_72_code 111 = .ok (.goto (-90), 3) := by decide +kernel
theorem d_MD_width_47 : decode prog_14_method_72_code 47 = .ok (.sipush 300, 3) := by decide +kernel
theorem d_MD_width_50 : decode prog_14_method_72_code 50 = .ok (.iload 4, 2) := by decide +kernel
theorem d_MD_width_52 : decode prog_14_method_72_code 52 = .ok (.imul, 1) := by decide +kernel
theorem d_MD_width_53 : decode prog_14_method_72_code 53 = .ok (.iload 5, 2) := by decide +kernel
theorem d_MD_width_55 : decode prog_14_method_72_code 55 = .ok (.iadd, 1) := by decide +kernel
theorem d_MD_width_56 : decode prog_14_method_72_code 56 = .ok (.istore 6, 2) := by decide +kernel
theorem d_MD_width_58 : decode prog_14_method_72_code 58 = .ok (.aload_n 0, 1) := by decide +kernel
theorem d_MD_width_59 : decode prog_14_method_72_code 59 = .ok (.getfield 91, 3) := by decide +kernel
theorem d_MD_width_62 : decode prog_14_method_72_code 62 = .ok (.iload 6, 2) := by decide +kernel
theorem d_MD_width_64 : decode prog_14_method_72_code 64 = .ok (.iaload, 1) := by decide +kernel
theorem d_MD_width_65 : decode prog_14_method_72_code 65 = .ok (.iload_n 1, 1) := by decide +kernel
theorem d_MD_width_66 : decode prog_14_method_72_code 66 = .ok (.if_icmp .eq 6, 3) := by decide +kernel
theorem d_MD_width_72 : decode prog_14_method_72_code 72 = .ok (.iload_n 3, 1) := by decide +kernel
theorem d_MD_width_73 : decode prog_14_method_72_code 73 = .ok (.aload_n 0, 1) := by decide +kernel
theorem d_MD_width_74 : decode prog_14_method_72_code 74 = .ok (.getfield 84, 3) := by decide +kernel
theorem d_MD_width_77 : decode prog_14_method_72_code 77 = .ok (.iload 6, 2) := by decide +kernel
theorem d_MD_width_79 : decode prog_14_method_72_code 79 = .ok (.iaload, 1) := by decide +kernel
theorem d_MD_width_80 : decode prog_14_method_72_code 80 = .ok (.iadd, 1) := by decide +kernel
theorem d_MD_width_81 : decode prog_14_method_72_code 81 = .ok (.istore_n 3, 1) := by decide +kernel
theorem d_MD_width_82 : decode prog_14_method_72_code 82 = .ok (.iload_n 2, 1) := by decide +kernel
theorem d_MD_width_83 : decode prog_14_method_72_code 83 = .ok (.aload_n 0, 1) := by decide +kernel
theorem d_MD_width_84 : decode prog_14_method_72_code 84 = .ok (.iload 4, 2) := by decide +kernel
theorem d_MD_width_86 : decode prog_14_method_72_code 86 = .ok (.iload 6, 2) := by decide +kernel
theorem d_MD_width_88 : decode prog_14_method_72_code 88 = .ok (.iload_n 1, 1) := by decide +kernel
theorem d_MD_width_89 : decode prog_14_method_72_code 89 = .ok (.invokevirtual 548, 3) := by decide +kernel
theorem k_MD_isFirstTime : mt_OK m_MD_isFirstTime 3 1 := ⟨gwi_2113, gwi_146, ⟨by decide +kernel, by decide +kernel, by decide +kernel⟩, fun h => absurd h (by decide), fun _ => ⟨gwi_2112, gwi_118⟩, fun h => absurd h (by decide)⟩
theorem l_MD_548 : ml_OK "PlainMusicModel" 548 ⟨"PlainMusicModel", "isFirstTime", "(III)Z"⟩ := Or.inl gwi_2110
theorem d_MD_width_92 : decode prog_14_method_72_code 92 = .ok (.ifCond .eq 7, 3) := by decide +kernel
theorem d_MD_width_99 : decode prog_14_method_72_code 99 = .ok (.iconst 0, 1) := by decide +kernel
theorem d_MD_width_100 : decode prog_14_method_72_code 100 = .ok (.iadd, 1) := by decide +kernel
theorem d_MD_width_101 : decode prog_14_method_72_code 101 = .ok (.istore_n 2, 1) := by decide +kernel
theorem d_MD_width_102 : decode prog_14_method_72_code 102 = .ok (.iinc 5 1, 3) := by decide +kernel
theorem d_MD_width_105 : decode prog_14_method_72_code 105 = .ok (.goto (-70), 3) := by decide +kernel
theorem d_MD_width_95 : decode prog_14_method_72_code 95 = .ok (.iconst 1, 1) := by decide +kernel
theorem d_MD_width_96 : decode prog_14_method_72_code 96 = .ok (.goto 4, 3) := by decide +kernel
theorem d_MD_width_69 : decode prog_14_method_72_code 69 = .ok (.goto 33, 3) := by decide +kernel
theorem s_MD_width {G : cx_T} {h : ah_T} (hx : mi h) {a1 : Int} (hKS : KS h) (hKO : KO h) : con G 4 0 0 m_MD_width [av_R (some 170), av_I a1] h (fun r h' => ∃ z, r = some (av_I z) ∧ ((-2147483648) ≤ z ∧ z ≤ 2147483647) ∧ kM (pm [65, 66] []) h h') := by
  refine con_of (L := [some (av_R (some 170)), some (av_I a1), none, none, none, none, none]) (by decide +kernel) (Nat.le_of_ble_eq_true rfl) rfl ?_
  have k0 : kM (pm [65, 66] []) h h := kM_0 hx
  refine A_locI 1 rfl (fun ra => ?_)
  obtain ⟨_, _⟩ := ra
  refine A_iload_n 1 d_MD_width_0 rfl rfl ?_
  refine A_if_lt (tgt := 12) d_MD_width_1 (by decide) (fun c1 => ?_) (fun c1 => ?_)
  · refine A_iconst d_MD_width_12 rfl ?_
    exact A_iret d_MD_width_13 (by decide) rfl ⟨_, rfl, ⟨by omega, by omega⟩, k0⟩
  · refine A_iload_n 1 d_MD_width_4 rfl rfl ?_
    refine A_aload_n 0 d_MD_width_5 rfl rfl ?_
    refine A_callV0 m_MD_pageBars T_ok d_MD_width_6 l_MD_492 k_MD_pageBars (mi_s k0.1 sf_170) rfl (by decide +kernel) (by decide) (Nat.le_of_ble_eq_true rfl) (s_MD_pageBars k0.1 ) (fun r h2 hq => ?_)
    obtain ⟨x4, rfl, ⟨_, _⟩, rfl⟩ := hq
    refine A_icmp_lt (tgt := 14) d_MD_width_9 (by decide) (fun c5 => ?_) (fun c5 => ?_)
    · refine A_iconst d_MD_width_14 rfl ?_
      refine A_istore_n 2 (L' := [some (av_R (some 170)), some (av_I a1), some (av_I 0), none, none, none, none]) d_MD_width_15 rfl (Nat.le_of_ble_eq_true rfl) rfl ?_
      refine A_iconst d_MD_width_16 rfl ?_
      refine A_istore_n 3 (L' := [some (av_R (some 170)), some (av_I a1), some (av_I 0), some (av_I 0), none, none, none]) d_MD_width_17 rfl (Nat.le_of_ble_eq_true rfl) rfl ?_
      refine A_iconst d_MD_width_18 rfl ?_
      refine A_pc (pc' := 19) rfl ?_
      refine A_istore (L' := [some (av_R (some 170)), some (av_I a1), some (av_I 0), some (av_I 0), some (av_I 0), none, none]) d_MD_width_19 (Nat.le_of_ble_eq_true rfl) rfl ?_
      have lp21 : ∀ (n : Nat) (i6 i7 i8 : Int) (h9 : ah_T) , (-2147483648) ≤ i6 → i6 ≤ 2147483647 → (-2147483648) ≤ i7 → i7 ≤ 2147483647 → 0 ≤ i8 → i8 ≤ 4 → kM (pm [65, 66] []) h h9 → (5 - i8).toNat < n → aw G (rm_R 4 0 0) m_MD_width 0 0 21 [some (av_R (some 170)), some (av_I a1), some (av_I i7), some (av_I i6), some (av_I i8), none, none] [] h9 (fun r h' => ∃ z, r = some (av_I z) ∧ ((-2147483648) ≤ z ∧ z ≤ 2147483647) ∧ kM (pm [65, 66] []) h h') := by
        intro n
        induction n with
        | zero => intro i6 i7 i8 h9 _ _ _ _ _ _ _ hm; omega
        | succ n ih21 =>
          intro i6 i7 i8 h9 hl0 hl1 hl2 hl3 hl4 hl5 k10 hm
          refine A_iload d_MD_width_21 rfl ?_
          refine A_aload_n 0 d_MD_width_23 rfl rfl ?_
          refine A_getAv (z := some 172) T_ok d_MD_width_24 f_MD_17 (mi_s k10.1 sf_170) (mi_r k10.1 rfm_14) ?_
          refine A_iconst d_MD_width_27 rfl ?_
          refine A_ialoadn (lo := 0) (hi := 4) d_MD_width_28 (mi_s k10.1 sf_172) (by decide) (by decide) (mi_g k10.1 (by decide) (mr_172 _)) (fun x12 ex12 _ _ => ?_)
          replace ex12 : x12 = h9.2.1 172 0 := ex12
          have fx12 := ex12.trans (k10.2.2.1 172 _ rfl)
          refine A_pc (pc' := 29) rfl ?_
          refine A_icmp_ge (tgt := 114) d_MD_width_29 (by decide) (fun c13 => ?_) (fun c13 => ?_)
          · refine A_bipush d_MD_width_114 rfl ?_
            refine A_bipush d_MD_width_116 rfl ?_
            refine A_iload_n 2 d_MD_width_118 rfl rfl ?_
            refine A_imulw d_MD_width_119 (fun x14 _ _ _ => ?_)
            refine A_iaddw d_MD_width_120 (fun x15 _ _ _ => ?_)
            refine A_pc (pc' := 121) rfl ?_
            refine A_iconst d_MD_width_121 rfl ?_
            refine A_iload_n 3 d_MD_width_122 rfl rfl ?_
            refine A_imulw d_MD_width_123 (fun x16 _ _ _ => ?_)
            refine A_iaddw d_MD_width_124 (fun x17 _ _ _ => ?_)
            exact A_iret d_MD_width_125 (by decide) rfl ⟨_, rfl, ⟨by omega, by omega⟩, k10⟩
          · refine A_iconst d_MD_width_32 rfl ?_
            refine A_istore (L' := [some (av_R (some 170)), some (av_I a1), some (av_I i7), some (av_I i6), some (av_I i8), some (av_I 0), none]) d_MD_width_33 (Nat.le_of_ble_eq_true rfl) rfl ?_
            have lp35 : ∀ (n : Nat) (i18 i19 i20 : Int) (h21 : ah_T) , (-2147483648) ≤ i18 → i18 ≤ 2147483647 → (-2147483648) ≤ i19 → i19 ≤ 2147483647 → 0 ≤ i20 → i20 ≤ 300 → kM (pm [65, 66] []) h h21 → (301 - i20).toNat < n → aw G (rm_R 4 0 0) m_MD_width 0 0 35 [some (av_R (some 170)), some (av_I a1), some (av_I i19), some (av_I i18), some (av_I i8), some (av_I i20), none] [] h21 (fun r h' => ∃ z, r = some (av_I z) ∧ ((-2147483648) ≤ z ∧ z ≤ 2147483647) ∧ kM (pm [65, 66] []) h h') := by
              intro n
              induction n with
              | zero => intro i18 i19 i20 h21 _ _ _ _ _ _ _ hm; omega
              | succ n ih35 =>
                intro i18 i19 i20 h21 hl0 hl1 hl2 hl3 hl4 hl5 k22 hm
                refine A_iload d_MD_width_35 rfl ?_
                refine A_aload_n 0 d_MD_width_37 rfl rfl ?_
                refine A_getAv (z := some 185) T_ok d_MD_width_38 f_MD_57 (mi_s k22.1 sf_170) (mi_r k22.1 rfm_27) ?_
                refine A_iload d_MD_width_41 rfl ?_
                refine A_ialoadn (lo := 0) (hi := 300) d_MD_width_43 (mi_s k22.1 sf_185) (by omega) (by omega) (mi_g k22.1 (by decide) (mr_185 _)) (fun x24 ex24 _ _ => ?_)
                have fx24 := ex24.trans (k22.2.2.1 185 _ rfl)
                refine A_pc (pc' := 44) rfl ?_
                refine A_icmp_ge (tgt := 108) d_MD_width_44 (by decide) (fun c25 => ?_) (fun c25 => ?_)
                · refine A_iincv (z := (i8 + 1)) (L' := [some (av_R (some 170)), some (av_I a1), some (av_I i19), some (av_I i18), some (av_I (i8 + 1)), some (av_I i20), none]) d_MD_width_108 rfl (w32_to (by omega) (by unfold i32; omega)) rfl ?_
                  refine A_goto (tgt := 21) d_MD_width_111 (by decide) ?_
                  refine A_free (L' := [some (av_R (some 170)), some (av_I a1), some (av_I i19), some (av_I i18), some (av_I (i8 + 1)), none, none]) (And.intro rfl (And.intro rfl (And.intro rfl (And.intro rfl (And.intro rfl trivial))))) ?_
                  exact ih21 i18 i19 (i8 + 1) h21 (by omega) (by omega) (by omega) (by omega) (by omega) (by omega) k22 (by omega)
                · refine A_sipush d_MD_width_47 rfl ?_
                  refine A_iload d_MD_width_50 rfl ?_
                  refine A_imulv (z := (300 * i8)) d_MD_width_52 (w32_to (by omega) (by unfold i32; omega)) ?_
                  refine A_iload d_MD_width_53 rfl ?_
                  refine A_iaddv (z := (300 * i8 + i20)) d_MD_width_55 (w32_to (by omega) (by unfold i32; omega)) ?_
                  refine A_pc (pc' := 56) rfl ?_
                  refine A_istore (L' := [some (av_R (some 170)), some (av_I a1), some (av_I i19), some (av_I i18), some (av_I i8), some (av_I i20), some (av_I (300 * i8 + i20))]) d_MD_width_56 (Nat.le_of_ble_eq_true rfl) rfl ?_
                  refine A_aload_n 0 d_MD_width_58 rfl rfl ?_
                  refine A_getAv (z := some 196) T_ok d_MD_width_59 f_MD_91 (mi_s k22.1 sf_170) (mi_r k22.1 rfm_38) ?_
                  refine A_iload d_MD_width_62 rfl ?_
                  refine A_ialoadn (lo := 0) (hi := 101) d_MD_width_64 (mi_s k22.1 sf_196) (by omega) (by omega) (mi_g k22.1 (by decide) (mr_196 _)) (fun x27 ex27 _ _ => ?_)
                  have fx27 := ex27.trans (k22.2.2.1 196 _ rfl)
                  have yx27 := hKO (i8).toNat (by omega) ((300 * i8 + i20)).toNat (by omega) (by omega)
                  refine A_iload_n 1 d_MD_width_65 rfl rfl ?_
                  refine A_pc (pc' := 66) rfl ?_
                  refine A_icmp_eq (tgt := 72) d_MD_width_66 (by decide) (fun c28 => ?_) (fun c28 => ?_)
                  · refine A_iload_n 3 d_MD_width_72 rfl rfl ?_
                    refine A_aload_n 0 d_MD_width_73 rfl rfl ?_
                    refine A_getAv (z := some 194) T_ok d_MD_width_74 f_MD_84 (mi_s k22.1 sf_170) (mi_r k22.1 rfm_36) ?_
                    refine A_iload d_MD_width_77 rfl ?_
                    refine A_ialoadf d_MD_width_79 (mi_s k22.1 sf_194) (by omega) (by omega) (fun x30 ex30 _ _ => ?_)
                    refine A_pc (pc' := 80) rfl ?_
                    refine A_iaddw d_MD_width_80 (fun x31 _ _ _ => ?_)
                    refine A_istore_n 3 (L' := [some (av_R (some 170)), some (av_I a1), some (av_I i19), some (av_I x31), some (av_I i8), some (av_I i20), some (av_I (300 * i8 + i20))]) d_MD_width_81 rfl (Nat.le_of_ble_eq_true rfl) rfl ?_
                    refine A_iload_n 2 d_MD_width_82 rfl rfl ?_
                    refine A_aload_n 0 d_MD_width_83 rfl rfl ?_
                    refine A_iload d_MD_width_84 rfl ?_
                    refine A_iload d_MD_width_86 rfl ?_
                    refine A_pc (pc' := 88) rfl ?_
                    refine A_iload_n 1 d_MD_width_88 rfl rfl ?_
                    refine A_callV3 m_MD_isFirstTime T_ok d_MD_width_89 l_MD_548 k_MD_isFirstTime (mi_s k22.1 sf_170) rfl (by decide +kernel) (by decide) (Nat.le_of_ble_eq_true rfl) (s_MD_isFirstTime k22.1 (by omega) (by omega) (by omega) (by omega) (by omega) (by omega) (KS_s hKS k22 (by decide) (fun k => ⟨rfl, rfl⟩) (fun k => ⟨rfl, rfl, rfl, rfl, rfl, rfl⟩)) (KO_s hKO k22 (by decide) (fun k => ⟨rfl, rfl, rfl⟩)) (by have q1 := k22.2.2.1 172 0 rfl; omega) (by have q1 := k22.2.2.1 186 (i8).toNat rfl; omega) (EV_s ((hKS (i8).toNat (by omega)).1 _ (by omega) (by omega)) (by intro a ha; simp only [List.mem_cons, List.not_mem_nil, or_false] at ha; rcases ha with rfl | rfl | rfl | rfl <;> exact k22.2.2.2 _ _ rfl))) (fun r h32 hq => ?_)
                    obtain ⟨x34, rfl, bx34, k33⟩ := hq
                    have k35 := kM_t k22 k33 (pm_s (by decide) (by decide))
                    refine A_if_eq (tgt := 99) d_MD_width_92 (by decide) (fun c36 => ?_) (fun c36 => ?_)
                    · refine A_iconst d_MD_width_99 rfl ?_
                      refine A_iaddv (z := i19) d_MD_width_100 (w32_to (by omega) (by unfold i32; omega)) ?_
                      refine A_istore_n 2 (L' := [some (av_R (some 170)), some (av_I a1), some (av_I i19), some (av_I x31), some (av_I i8), some (av_I i20), some (av_I (300 * i8 + i20))]) d_MD_width_101 rfl (Nat.le_of_ble_eq_true rfl) rfl ?_
                      refine A_iincv (z := (i20 + 1)) (L' := [some (av_R (some 170)), some (av_I a1), some (av_I i19), some (av_I x31), some (av_I i8), some (av_I (i20 + 1)), some (av_I (300 * i8 + i20))]) d_MD_width_102 rfl (w32_to (by omega) (by unfold i32; omega)) rfl ?_
                      refine A_goto (tgt := 35) d_MD_width_105 (by decide) ?_
                      refine A_free (L' := [some (av_R (some 170)), some (av_I a1), some (av_I i19), some (av_I x31), some (av_I i8), some (av_I (i20 + 1)), none]) (And.intro rfl (And.intro rfl (And.intro rfl (And.intro rfl (And.intro rfl (And.intro rfl trivial)))))) ?_
                      exact ih35 x31 i19 (i20 + 1) h32 (by omega) (by omega) (by omega) (by omega) (by omega) (by omega) k35 (by omega)
                    · refine A_iconst d_MD_width_95 rfl ?_
                      refine A_goto (tgt := 100) d_MD_width_96 (by decide) ?_
                      refine A_iaddw d_MD_width_100 (fun x37 _ _ _ => ?_)
                      refine A_istore_n 2 (L' := [some (av_R (some 170)), some (av_I a1), some (av_I x37), some (av_I x31), some (av_I i8), some (av_I i20), some (av_I (300 * i8 + i20))]) d_MD_width_101 rfl (Nat.le_of_ble_eq_true rfl) rfl ?_
                      refine A_iincv (z := (i20 + 1)) (L' := [some (av_R (some 170)), some (av_I a1), some (av_I x37), some (av_I x31), some (av_I i8), some (av_I (i20 + 1)), some (av_I (300 * i8 + i20))]) d_MD_width_102 rfl (w32_to (by omega) (by unfold i32; omega)) rfl ?_
                      refine A_goto (tgt := 35) d_MD_width_105 (by decide) ?_
                      refine A_free (L' := [some (av_R (some 170)), some (av_I a1), some (av_I x37), some (av_I x31), some (av_I i8), some (av_I (i20 + 1)), none]) (And.intro rfl (And.intro rfl (And.intro rfl (And.intro rfl (And.intro rfl (And.intro rfl trivial)))))) ?_
                      exact ih35 x31 x37 (i20 + 1) h32 (by omega) (by omega) (by omega) (by omega) (by omega) (by omega) k35 (by omega)
                  · refine A_goto (tgt := 102) d_MD_width_69 (by decide) ?_
                    refine A_iincv (z := (i20 + 1)) (L' := [some (av_R (some 170)), some (av_I a1), some (av_I i19), some (av_I i18), some (av_I i8), some (av_I (i20 + 1)), some (av_I (300 * i8 + i20))]) d_MD_width_102 rfl (w32_to (by omega) (by unfold i32; omega)) rfl ?_
                    refine A_goto (tgt := 35) d_MD_width_105 (by decide) ?_
                    refine A_free (L' := [some (av_R (some 170)), some (av_I a1), some (av_I i19), some (av_I i18), some (av_I i8), some (av_I (i20 + 1)), none]) (And.intro rfl (And.intro rfl (And.intro rfl (And.intro rfl (And.intro rfl (And.intro rfl trivial)))))) ?_
                    exact ih35 i18 i19 (i20 + 1) h21 (by omega) (by omega) (by omega) (by omega) (by omega) (by omega) k22 (by omega)
            exact lp35 _ i6 i7 0 h9 (by omega) (by omega) (by omega) (by omega) (by omega) (by omega) k10 (Nat.lt_succ_self _)
      exact lp21 _ 0 0 0 h (by omega) (by omega) (by omega) (by omega) (by omega) (by omega) k0 (Nat.lt_succ_self _)
    · refine A_iconst d_MD_width_12 rfl ?_
      exact A_iret d_MD_width_13 (by decide) rfl ⟨_, rfl, ⟨by omega, by omega⟩, k0⟩
