/-! ===== the reference's methods, 345 ===== -/
def m_MD_fault : mr_T := (⟨"PlainMusicModel", "fault", "(II)I"⟩, prog_14_method_66_code, 3, some .int)
theorem d_MD_fault_0 : decode prog_14_method_66_code 0 = .ok (.iload_n 1, 1) := by decide +kernel
theorem d_MD_fault_1 : decode prog_14_method_66_code 1 = .ok (.ifCond .lt 20, 3) := by decide +kernel
theorem d_MD_fault_21 : decode prog_14_method_66_code 21 = .ok (.iconst (-1), 1) := by decide +kernel
theorem d_MD_fault_22 : decode prog_14_method_66_code 22 = .ok (.ireturn, 1) := by decide +kernel
theorem d_MD_fault_4 : decode prog_14_method_66_code 4 = .ok (.iload_n 1, 1) := by decide +kernel
theorem d_MD_fault_5 : decode prog_14_method_66_code 5 = .ok (.aload_n 0, 1) := by decide +kernel
theorem d_MD_fault_6 : decode prog_14_method_66_code 6 = .ok (.getfield 471, 3) := by decide +kernel
theorem d_MD_fault_9 : decode prog_14_method_66_code 9 = .ok (.if_icmp .ge 12, 3) := by decide +kernel
theorem d_MD_fault_12 : decode prog_14_method_66_code 12 = .ok (.iload_n 2, 1) := by decide +kernel
theorem d_MD_fault_13 : decode prog_14_method_66_code 13 = .ok (.ifCond .lt 8, 3) := by decide +kernel
theorem d_MD_fault_16 : decode prog_14_method_66_code 16 = .ok (.iload_n 2, 1) := by decide +kernel
theorem d_MD_fault_17 : decode prog_14_method_66_code 17 = .ok (.iconst 3, 1) := by decide +kernel
theorem d_MD_fault_18 : decode prog_14_method_66_code 18 = .ok (.if_icmp .le 5, 3) := by decide +kernel
theorem d_MD_fault_23 : decode prog_14_method_66_code 23 = .ok (.iload_n 2, 1) := by decide +kernel
theorem d_MD_fault_24 : decode prog_14_method_66_code 24 = .ok (.ifCond .ne 12, 3) := by decide +kernel
theorem d_MD_fault_36 : decode prog_14_method_66_code 36 = .ok (.iload_n 2, 1) := by decide +kernel
theorem d_MD_fault_37 : decode prog_14_method_66_code 37 = .ok (.iconst 1, 1) := by decide +kernel
theorem d_MD_fault_38 : decode prog_14_method_66_code 38 = .ok (.if_icmp .ne 12, 3) := by decide +kernel
theorem d_MD_fault_50 : decode prog_14_method_66_code 50 = .ok (.iload_n 2, 1) := by decide +kernel
theorem d_MD_fault_51 : decode prog_14_method_66_code 51 = .ok (.iconst 2, 1) := by decide +kernel
theorem d_MD_fault_52 : decode prog_14_method_66_code 52 = .ok (.if_icmp .ne 12, 3) := by decide +kernel
theorem d_MD_fault_64 : decode prog_14_method_66_code 64 = .ok (.aload_n 0, 1) := by decide +kernel
theorem d_MD_fault_65 : decode prog_14_method_66_code 65 = .ok (.getfield 175, 3) := by decide +kernel
theorem d_MD_fault_68 : decode prog_14_method_66_code 68 = .ok (.iload_n 1, 1) := by decide +kernel
theorem d_MD_fault_69 : decode prog_14_method_66_code 69 = .ok (.iaload, 1) := by decide +kernel
theorem d_MD_fault_70 : decode prog_14_method_66_code 70 = .ok (.ireturn, 1) := by decide +kernel
theorem d_MD_fault_55 : decode prog_14_method_66_code 55 = .ok (.aload_n 0, 1) := by decide +kernel
theorem d_MD_fault_56 : decode prog_14_method_66_code 56 = .ok (.getfield 172, 3) := by decide +kernel
theorem d_MD_fault_59 : decode prog_14_method_66_code 59 = .ok (.iload_n 1, 1) := by decide +kernel
theorem d_MD_fault_60 : decode prog_14_method_66_code 60 = .ok (.iaload, 1) := by decide +kernel
theorem d_MD_fault_61 : decode prog_14_method_66_code 61 = .ok (.goto 9, 3) := by decide +kernel
theorem d_MD_fault_41 : decode prog_14_method_66_code 41 = .ok (.aload_n 0, 1) := by decide +kernel
theorem d_MD_fault_42 : decode prog_14_method_66_code 42 = .ok (.getfield 169, 3) := by decide +kernel
theorem d_MD_fault_45 : decode prog_14_method_66_code 45 = .ok (.iload_n 1, 1) := by decide +kernel
theorem d_MD_fault_46 : decode prog_14_method_66_code 46 = .ok (.iaload, 1) := by decide +kernel
theorem d_MD_fault_47 : decode prog_14_method_66_code 47 = .ok (.goto 23, 3) := by decide +kernel
theorem d_MD_fault_27 : decode prog_14_method_66_code 27 = .ok (.aload_n 0, 1) := by decide +kernel
theorem d_MD_fault_28 : decode prog_14_method_66_code 28 = .ok (.getfield 166, 3) := by decide +kernel
theorem d_MD_fault_31 : decode prog_14_method_66_code 31 = .ok (.iload_n 1, 1) := by decide +kernel
theorem d_MD_fault_32 : decode prog_14_method_66_code 32 = .ok (.iaload, 1) := by decide +kernel
theorem d_MD_fault_33 : decode prog_14_method_66_code 33 = .ok (.goto 37, 3) := by decide +kernel
theorem s_MD_fault {G : cx_T} {h : ah_T} (hx : mi h) {a1 : Int} {a2 : Int} (hfl : h.2.1 170 80 ≤ 8000) : con G 0 0 0 m_MD_fault [av_R (some 170), av_I a1, av_I a2] h (fun r h' => ∃ z, r = some (av_I z) ∧ ((-2147483648) ≤ z ∧ z ≤ 2147483647) ∧ h = h') := by
  refine con_of (L := [some (av_R (some 170)), some (av_I a1), some (av_I a2)]) (by decide +kernel) (Nat.le_of_ble_eq_true rfl) rfl ?_
  refine A_locI 1 rfl (fun ra => ?_)
  obtain ⟨_, _⟩ := ra
  refine A_locI 2 rfl (fun ra => ?_)
  obtain ⟨_, _⟩ := ra
  refine A_iload_n 1 d_MD_fault_0 rfl rfl ?_
  refine A_if_lt (tgt := 21) d_MD_fault_1 (by decide) (fun c1 => ?_) (fun c1 => ?_)
  · refine A_iconst d_MD_fault_21 rfl ?_
    exact A_iret d_MD_fault_22 (by decide) rfl ⟨_, rfl, ⟨by omega, by omega⟩, rfl⟩
  · refine A_iload_n 1 d_MD_fault_4 rfl rfl ?_
    refine A_aload_n 0 d_MD_fault_5 rfl rfl ?_
    refine A_getIn (lo := 0) (hi := 2000000000) T_ok d_MD_fault_6 f_MD_471 (mi_s hx sf_170) (mi_g hx (by decide) mr_170_80) (fun x2 ex2 _ _ => ?_)
    refine A_icmp_ge (tgt := 21) d_MD_fault_9 (by decide) (fun c3 => ?_) (fun c3 => ?_)
    · refine A_iconst d_MD_fault_21 rfl ?_
      exact A_iret d_MD_fault_22 (by decide) rfl ⟨_, rfl, ⟨by omega, by omega⟩, rfl⟩
    · refine A_iload_n 2 d_MD_fault_12 rfl rfl ?_
      refine A_if_lt (tgt := 21) d_MD_fault_13 (by decide) (fun c4 => ?_) (fun c4 => ?_)
      · refine A_iconst d_MD_fault_21 rfl ?_
        exact A_iret d_MD_fault_22 (by decide) rfl ⟨_, rfl, ⟨by omega, by omega⟩, rfl⟩
      · refine A_iload_n 2 d_MD_fault_16 rfl rfl ?_
        refine A_iconst d_MD_fault_17 rfl ?_
        refine A_icmp_le (tgt := 23) d_MD_fault_18 (by decide) (fun c5 => ?_) (fun c5 => ?_)
        · refine A_iload_n 2 d_MD_fault_23 rfl rfl ?_
          refine A_if_ne (tgt := 36) d_MD_fault_24 (by decide) (fun c6 => ?_) (fun c6 => ?_)
          · refine A_iload_n 2 d_MD_fault_36 rfl rfl ?_
            refine A_iconst d_MD_fault_37 rfl ?_
            refine A_icmp_ne (tgt := 50) d_MD_fault_38 (by decide) (fun c7 => ?_) (fun c7 => ?_)
            · refine A_iload_n 2 d_MD_fault_50 rfl rfl ?_
              refine A_iconst d_MD_fault_51 rfl ?_
              refine A_icmp_ne (tgt := 64) d_MD_fault_52 (by decide) (fun c8 => ?_) (fun c8 => ?_)
              · refine A_aload_n 0 d_MD_fault_64 rfl rfl ?_
                refine A_getAv (z := some 224) T_ok d_MD_fault_65 f_MD_175 (mi_s hx sf_170) (mi_r hx rfm_84) ?_
                refine A_iload_n 1 d_MD_fault_68 rfl rfl ?_
                refine A_ialoadf d_MD_fault_69 (mi_s hx sf_224) (by omega) (by omega) (fun x10 ex10 _ _ => ?_)
                exact A_iret d_MD_fault_70 (by decide) rfl ⟨_, rfl, ⟨by omega, by omega⟩, rfl⟩
              · refine A_aload_n 0 d_MD_fault_55 rfl rfl ?_
                refine A_getAv (z := some 223) T_ok d_MD_fault_56 f_MD_172 (mi_s hx sf_170) (mi_r hx rfm_83) ?_
                refine A_iload_n 1 d_MD_fault_59 rfl rfl ?_
                refine A_ialoadf d_MD_fault_60 (mi_s hx sf_223) (by omega) (by omega) (fun x12 ex12 _ _ => ?_)
                refine A_goto (tgt := 70) d_MD_fault_61 (by decide) ?_
                exact A_iret d_MD_fault_70 (by decide) rfl ⟨_, rfl, ⟨by omega, by omega⟩, rfl⟩
            · refine A_aload_n 0 d_MD_fault_41 rfl rfl ?_
              refine A_getAv (z := some 222) T_ok d_MD_fault_42 f_MD_169 (mi_s hx sf_170) (mi_r hx rfm_82) ?_
              refine A_iload_n 1 d_MD_fault_45 rfl rfl ?_
              refine A_ialoadf d_MD_fault_46 (mi_s hx sf_222) (by omega) (by omega) (fun x14 ex14 _ _ => ?_)
              refine A_goto (tgt := 70) d_MD_fault_47 (by decide) ?_
              exact A_iret d_MD_fault_70 (by decide) rfl ⟨_, rfl, ⟨by omega, by omega⟩, rfl⟩
          · refine A_aload_n 0 d_MD_fault_27 rfl rfl ?_
            refine A_getAv (z := some 221) T_ok d_MD_fault_28 f_MD_166 (mi_s hx sf_170) (mi_r hx rfm_81) ?_
            refine A_iload_n 1 d_MD_fault_31 rfl rfl ?_
            refine A_ialoadf d_MD_fault_32 (mi_s hx sf_221) (by omega) (by omega) (fun x16 ex16 _ _ => ?_)
            refine A_goto (tgt := 70) d_MD_fault_33 (by decide) ?_
            exact A_iret d_MD_fault_70 (by decide) rfl ⟨_, rfl, ⟨by omega, by omega⟩, rfl⟩
        · refine A_iconst d_MD_fault_21 rfl ?_
          exact A_iret d_MD_fault_22 (by decide) rfl ⟨_, rfl, ⟨by omega, by omega⟩, rfl⟩
